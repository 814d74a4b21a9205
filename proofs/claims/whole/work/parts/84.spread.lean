-- ===== the reference's search =====
def rin (n : Int) (q : qt) (M : Nat → Int → Int) : Prop := (∀ (j : Nat) x, q[j]? = some x → M 84 j = num x.1 ∧ (j = 0 → M 82 (num x.1) = -1) ∧ (0 < j → M 83 (num x.1) = x.2.2 ∧ ∀ y, q[x.2.1]? = some y → M 82 (num x.1) = num y.1)) ∧ ∀ s, svl n s → (∀ x, x ∈ q → x.1 ≠ s) → M 82 (num s) = -2
def wat (w : std) (q : qt) : Int := match q.findIdx? (fun x => x.1 == w) with
  | some j => (j : Int)
  | none => -1
def frs (M M' : Nat → Int → Int) : Prop := ∀ j, j ≠ 79 → j ≠ 80 → j ≠ 81 → j ≠ 82 → j ≠ 83 → j ≠ 84 → M' j = M j
section SPR
variable {n P : Int} {v : Nat → Nat → Int} {N : Nat → Int → Int} {u : Nat → Int} {A : Int → Int} {s0 s s' w : std} {q : qt}
theorem frs_t {M M' M'' : Nat → Int → Int} (a : frs M M') (b : frs M' M'') : frs M M'' := fun j h1 h2 h3 h4 h5 h6 => by rw [b j h1 h2 h3 h4 h5 h6, a j h1 h2 h3 h4 h5 h6]
theorem frs_m {M M' : Nat → Int → Int} (a : frm M M') : frs M M' := fun j h1 h2 h3 h4 h5 h6 => a j h2 h3
theorem rin_c {M M' : Nat → Int → Int} (a : M' 82 = M 82) (b : M' 83 = M 83) (c : M' 84 = M 84) (h : rin n q M) : rin n q M' := by
  unfold rin at h ⊢
  rw [a, b, c]
  exact h
theorem wat_b (w : std) (q : qt) : -1 ≤ wat w q ∧ wat w q < q.length := by
  unfold wat
  cases e : q.findIdx? (fun x => x.1 == w) with
  | none => simp only; omega
  | some j =>
    have := (List.findIdx?_eq_some_iff_getElem.1 e).1
    simp only; omega
theorem wat_put (w : std) (q : qt) (x : std × Nat × Nat) : wat w (q ++ [x]) = if wat w q = -1 then (if x.1 = w then (q.length : Int) else -1) else wat w q := by
  unfold wat
  rw [List.findIdx?_append]
  cases e : q.findIdx? (fun x => x.1 == w) with
  | none =>
    rw [if_pos rfl, Option.none_or, List.findIdx?_singleton]
    by_cases d : x.1 = w
    · rw [if_pos d, if_pos (beq_iff_eq.2 d)]; simp
    · rw [if_neg d, if_neg (fun t => d (beq_iff_eq.1 t))]; simp
  | some j =>
    rw [Option.some_or]
    simp only
    rw [if_neg (by omega)]
theorem rin_put {M : Nat → Int → Int} (hn : 0 ≤ n ∧ n ≤ 5) (ho : qok n s0 q) {i mv : Nat} {a : Nat × Nat} (hi : q[i]? = some (s, a)) (hs : svl n s') (hx : s' ∉ q.map (fun x => x.1)) (h : rin n q M) : rin n (q ++ [(s', i, mv)]) (um (um (um M 82 (us (M 82) (num s') (num s))) 83 (us (M 83) (num s') mv)) 84 (us (M 84) q.length (num s'))) := by
  obtain ⟨h1, h2⟩ := h
  have il : i < q.length := by
    rcases Nat.lt_or_ge i q.length with t | t
    · exact t
    · rw [List.getElem?_eq_none t] at hi; exact absurd hi (by simp)
  have ne : ∀ x, x ∈ q → num x.1 ≠ num s' := fun x hx' e => hx (List.mem_map.2 ⟨x, hx', num_inj hn (ho.2.1 x hx') hs e⟩)
  refine ⟨fun j x hj => ?_, fun z hz hzx => ?_⟩
  · rw [um_eq, um_ne (by decide), um_ne (by decide), um_eq, um_ne (by decide), um_eq]
    by_cases e : j < q.length
    · rw [List.getElem?_append_left e] at hj
      have mx := ne x (List.mem_of_getElem? hj)
      rw [us_ne (by omega), us_ne mx, us_ne mx]
      obtain ⟨b1, b2, b3⟩ := h1 j x hj
      refine ⟨b1, b2, fun j0 => ⟨(b3 j0).1, fun y hy => ?_⟩⟩
      have pl := (ho.2.2.2 j x hj j0).1
      rw [List.getElem?_append_left (by omega)] at hy
      exact (b3 j0).2 y hy
    · by_cases f : j = q.length
      · subst f
        rw [List.getElem?_append_right (Nat.le_refl _), Nat.sub_self] at hj
        simp only [List.getElem?_cons_zero, Option.some.injEq] at hj
        subst hj
        simp only [us_eq]
        refine ⟨trivial, fun t => by omega, fun _ => ⟨trivial, fun y hy => ?_⟩⟩
        rw [List.getElem?_append_left il, hi] at hy
        injection hy with hy
        subst hy
        rfl
      · rw [List.getElem?_eq_none (by rw [List.length_append, List.length_singleton]; omega)] at hj
        exact absurd hj (by simp)
  · rw [um_ne (by decide), um_ne (by decide), um_eq]
    have z1 : s' ≠ z := hzx (s', i, mv) (List.mem_append.2 (.inr (List.mem_singleton.2 rfl)))
    rw [us_ne (fun e => z1 (num_inj hn hs hz e.symm))]
    exact h2 z hz (fun x hx' => hzx x (List.mem_append.2 (.inl hx')))
set_option maxHeartbeats 4000000 in
theorem sp86 (hn : 0 ≤ n ∧ n ≤ 5) (hC : jC (N 15) (N 16) (N 17) (N 18) (N 19) A) (hF : jF (v 10 15) A) (hz : ∀ a b, 0 ≤ a → a < n → 0 ≤ b → b < n → tb P (5 * a + b) = !zForb A a b) (hA0 : A 0 = n) (hA6 : 0 ≤ A 60 ∧ A 60 < 120) (hw : w = ws (A 60) n) {i : Nat} {a : Nat × Nat} : ∀ (k m : Nat) (q : qt) (M : Nat → Int → Int), m + k = 9 → qok n s0 q → q[i]? = some (s, a) → rin n q M → M 70 = A → ∃ M', rin n ((List.range' m k).foldl (bq1 P i) q) M' ∧ frs M M' ∧ ∀ (F : hp) (X : Nat → Int → Int → Int → hp → Prop) (Q : Int → hp → Prop), X 69 n ((List.range' m k).foldl (bq1 P i) q).length ((i : Int) + 1) (rh F (uu u 32 (wat w ((List.range' m k).foldl (bq1 P i) q))) M') → mX12_spread_L86 X Q (k + 1) 69 n q.length i m (rh F (uu u 32 (wat w q)) M) := by
  intro k
  induction k with
  | zero =>
    intro m q M hm ho hi hc hA
    obtain rfl : m = 9 := by omega
    refine ⟨M, hc, fun _ _ _ _ _ _ _ => rfl, fun F X Q z => ?_⟩
    rw [mX12_spread_L86]
    exact ⟨fun d => absurd d (by decide), fun _ => z⟩
  | succ k ih =>
    intro m q M hm ho hi hc hA
    have il : i < q.length := by
      rcases Nat.lt_or_ge i q.length with t | t
      · exact t
      · rw [List.getElem?_eq_none t] at hi; exact absurd hi (by simp)
    have ll := qok_len hn ho
    have mi : (s, a) ∈ q := List.mem_of_getElem? hi
    have hs : svl n s := ho.2.1 _ mi
    have rd : M 84 i = num s := (hc.1 i _ hi).1
    have mc : ((m : Nat) : Int) + 1 = ((m + 1 : Nat) : Int) := by omega
    have wb := wat_b w q
    have t3 : (m : Int).tdiv 3 = (m : Int) / 3 := td (by omega)
    have t4 : (m : Int).tmod 3 = (m : Int) % 3 := tm (by omega)
    obtain ⟨M1, b1, b2, b3⟩ := so_w (u := uu u 32 (wat w q)) (M := M) hn hs
    have A1 : M1 70 = A := by rw [b2 70 (by decide) (by decide)]; exact hA
    obtain ⟨b, M2, c1, c2⟩ := shunt_r (P := P) (v := v) (N := N) (u := uu u 32 (wat w q)) (M := M1) hs hn b1 (by rw [A1]; exact hC) (by rw [A1]; exact hF) (by rw [A1]; exact hz) (f := (m : Int) / 3) (t := (m : Int) % 3) (by omega) (by omega)
    rw [List.range'_succ, List.foldl_cons]
    rcases c1 with ⟨rfl, g, rfl⟩ | ⟨rfl, g, hr, fr⟩
    · rw [bq1_n hi (stp_n hs hn.2 (by omega) g)]
      obtain ⟨M', a1, a2, a3⟩ := ih (m + 1) q M2 (by omega) ho hi (rin_c (b2 82 (by decide) (by decide)) (b2 83 (by decide) (by decide)) (b2 84 (by decide) (by decide)) hc) A1
      refine ⟨M', a1, frs_t (frs_m b2) a2, fun F X Q z => ?_⟩
      rw [mX12_spread_L86]
      simp (disch := first | omega | decide) only [w32_id, ↓rh_rcv, ↓rh_g31, ↓rh_r84, ↓rh_w84, ↓be_y, ↓be_n, ↓bf_y, ↓bf_n, ↓bl_y, ↓bl_n, ↓bm_y, ↓bm_n, ↓bg_y, ↓bg_n, ↓bs_y, ↓bs_n, ↓bo_y, ↓bo_n, ↓bp_y, ↓bp_n, ↓forall_eq, ↓within_y, ↓within_n, ↓isIn_y, ↓isIn_n, and_true, true_and, and_self, us_at, us_ne, w32_id, um_eq, um_ne, um_um, uu_eq, uu_ne, uu_uu, vv_eq, vv_ne, vv_vv, ne_eq, not_false_eq_true, not_true_eq_false, reduceCtorEq, Int.reduceAdd, Int.reduceSub, Int.reduceMul, Int.reduceNeg, Nat.reduceEqDiff, or_true, true_or, true_implies, false_implies, Int.reduceLT, Int.reduceLE, Int.reduceEq, rd, t3, t4]
      refine b3 F _ ?_
      simp (disch := first | omega | decide) only [w32_id, ↓rh_rcv, ↓rh_g0, ↓be_y, ↓be_n, ↓bf_y, ↓bf_n, ↓bl_y, ↓bl_n, ↓bm_y, ↓bm_n, ↓bg_y, ↓bg_n, ↓bs_y, ↓bs_n, ↓bo_y, ↓bo_n, ↓bp_y, ↓bp_n, ↓forall_eq, ↓within_y, ↓within_n, ↓isIn_y, ↓isIn_n, and_true, true_and, and_self, us_at, us_ne, w32_id, um_eq, um_ne, um_um, uu_eq, uu_ne, uu_uu, vv_eq, vv_ne, vv_vv, ne_eq, not_false_eq_true, not_true_eq_false, reduceCtorEq, Int.reduceAdd, Int.reduceSub, Int.reduceMul, Int.reduceNeg, Nat.reduceEqDiff, or_true, true_or, true_implies, false_implies, Int.reduceLT, Int.reduceLE, Int.reduceEq, t3, t4]
      refine c2 F _ ?_
      simp (disch := first | omega | decide) only [mX12_spread_J196, ↓rh_rcv, ↓rh_g0, ↓be_y, ↓be_n, ↓bf_y, ↓bf_n, ↓bl_y, ↓bl_n, ↓bm_y, ↓bm_n, ↓bg_y, ↓bg_n, ↓bs_y, ↓bs_n, ↓bo_y, ↓bo_n, ↓bp_y, ↓bp_n, ↓forall_eq, ↓within_y, ↓within_n, ↓isIn_y, ↓isIn_n, and_true, true_and, and_self, us_at, us_ne, w32_id, um_eq, um_ne, um_um, uu_eq, uu_ne, uu_uu, vv_eq, vv_ne, vv_vv, ne_eq, not_false_eq_true, not_true_eq_false, reduceCtorEq, Int.reduceAdd, Int.reduceSub, Int.reduceMul, Int.reduceNeg, Nat.reduceEqDiff, or_true, true_or, true_implies, false_implies, Int.reduceLT, Int.reduceLE, Int.reduceEq, mc]
      exact a3 F X Q z
    · have f2 : ∀ j, j ≠ 80 → j ≠ 81 → M2 j = M j := fun j j1 j2 => by rw [fr j j1 j2, b2 j j1 j2]
      have A2 : M2 70 = A := by rw [f2 70 (by decide) (by decide)]; exact hA
      have hs' := (mo_all hs hn.2 (f := (m : Int) / 3) (t := (m : Int) % 3) (by omega) (by omega) g.1 g.2.1).1
      have hc2 : rin n q M2 := rin_c (f2 82 (by decide) (by decide)) (f2 83 (by decide) (by decide)) (f2 84 (by decide) (by decide)) hc
      have nb := num_b hn hs'
      have nb0 := num_b hn hs
      have rd2 : M2 84 i = num s := (hc2.1 i _ hi).1
      rw [bq1_y hi (stp_y hs hn.2 (mv := (m : Int)) (by omega) g)]
      generalize moved s ((m : Int) / 3) ((m : Int) % 3) = s' at hr hs' nb
      by_cases d : s' ∈ q.map (fun x => x.1)
      · have eq : qadd q i m s' = q := by unfold qadd; rw [if_pos d]
        rw [eq]
        obtain ⟨M', a1, a2, a3⟩ := ih (m + 1) q M2 (by omega) ho hi hc2 A2
        have nk : M2 82 (num s') ≠ -2 ∧ -2147483648 ≤ M2 82 (num s') ∧ M2 82 (num s') ≤ 2147483647 := by
          obtain ⟨x, hx, e⟩ := List.mem_map.1 d
          obtain ⟨j, hj, ej⟩ := List.mem_iff_getElem.1 hx
          have gj : q[j]? = some x := by rw [List.getElem?_eq_getElem hj, ej]
          obtain ⟨-, p1, p2⟩ := hc2.1 j x gj
          subst e
          by_cases j0 : j = 0
          · rw [p1 j0]; omega
          · have pl := (ho.2.2.2 j x gj (by omega)).1
            have := (p2 (by omega)).2 _ (List.getElem?_eq_getElem (show x.2.1 < q.length by omega))
            have yb := num_b hn (ho.2.1 _ (List.getElem_mem (show x.2.1 < q.length by omega)))
            rw [this]; omega
        have nk0 : ¬ w32 (M2 82 (num s')) = -2 := by rw [w32_id nk.2.1 nk.2.2]; exact nk.1
        refine ⟨M', a1, frs_t (fun j h1 h2 h3 h4 h5 h6 => f2 j h2 h3) a2, fun F X Q z => ?_⟩
        rw [mX12_spread_L86]
        simp (disch := first | omega | decide) only [w32_id, ↓rh_rcv, ↓rh_g31, ↓rh_r84, ↓rh_w84, ↓be_y, ↓be_n, ↓bf_y, ↓bf_n, ↓bl_y, ↓bl_n, ↓bm_y, ↓bm_n, ↓bg_y, ↓bg_n, ↓bs_y, ↓bs_n, ↓bo_y, ↓bo_n, ↓bp_y, ↓bp_n, ↓forall_eq, ↓within_y, ↓within_n, ↓isIn_y, ↓isIn_n, and_true, true_and, and_self, us_at, us_ne, w32_id, um_eq, um_ne, um_um, uu_eq, uu_ne, uu_uu, vv_eq, vv_ne, vv_vv, ne_eq, not_false_eq_true, not_true_eq_false, reduceCtorEq, Int.reduceAdd, Int.reduceSub, Int.reduceMul, Int.reduceNeg, Nat.reduceEqDiff, or_true, true_or, true_implies, false_implies, Int.reduceLT, Int.reduceLE, Int.reduceEq, rd, t3, t4]
        refine b3 F _ ?_
        simp (disch := first | omega | decide) only [w32_id, ↓rh_rcv, ↓rh_g0, ↓be_y, ↓be_n, ↓bf_y, ↓bf_n, ↓bl_y, ↓bl_n, ↓bm_y, ↓bm_n, ↓bg_y, ↓bg_n, ↓bs_y, ↓bs_n, ↓bo_y, ↓bo_n, ↓bp_y, ↓bp_n, ↓forall_eq, ↓within_y, ↓within_n, ↓isIn_y, ↓isIn_n, and_true, true_and, and_self, us_at, us_ne, w32_id, um_eq, um_ne, um_um, uu_eq, uu_ne, uu_uu, vv_eq, vv_ne, vv_vv, ne_eq, not_false_eq_true, not_true_eq_false, reduceCtorEq, Int.reduceAdd, Int.reduceSub, Int.reduceMul, Int.reduceNeg, Nat.reduceEqDiff, or_true, true_or, true_implies, false_implies, Int.reduceLT, Int.reduceLE, Int.reduceEq, t3, t4]
        refine c2 F _ ?_
        simp (disch := first | omega | decide) only [w32_id, ↓rh_rcv, ↓rh_g0, ↓be_y, ↓be_n, ↓bf_y, ↓bf_n, ↓bl_y, ↓bl_n, ↓bm_y, ↓bm_n, ↓bg_y, ↓bg_n, ↓bs_y, ↓bs_n, ↓bo_y, ↓bo_n, ↓bp_y, ↓bp_n, ↓forall_eq, ↓within_y, ↓within_n, ↓isIn_y, ↓isIn_n, and_true, true_and, and_self, us_at, us_ne, w32_id, um_eq, um_ne, um_um, uu_eq, uu_ne, uu_uu, vv_eq, vv_ne, vv_vv, ne_eq, not_false_eq_true, not_true_eq_false, reduceCtorEq, Int.reduceAdd, Int.reduceSub, Int.reduceMul, Int.reduceNeg, Nat.reduceEqDiff, or_true, true_or, true_implies, false_implies, Int.reduceLT, Int.reduceLE, Int.reduceEq]
        refine so_r hs' hn hr ?_
        simp (disch := first | omega | decide) only [mX12_spread_J196, ↓rh_rcv, ↓rh_g29, ↓rh_r82, ↓rh_w82, ↓be_y, ↓be_n, ↓bf_y, ↓bf_n, ↓bl_y, ↓bl_n, ↓bm_y, ↓bm_n, ↓bg_y, ↓bg_n, ↓bs_y, ↓bs_n, ↓bo_y, ↓bo_n, ↓bp_y, ↓bp_n, ↓forall_eq, ↓within_y, ↓within_n, ↓isIn_y, ↓isIn_n, and_true, true_and, and_self, us_at, us_ne, w32_id, um_eq, um_ne, um_um, uu_eq, uu_ne, uu_uu, vv_eq, vv_ne, vv_vv, ne_eq, not_false_eq_true, not_true_eq_false, reduceCtorEq, Int.reduceAdd, Int.reduceSub, Int.reduceMul, Int.reduceNeg, Nat.reduceEqDiff, or_true, true_or, true_implies, false_implies, Int.reduceLT, Int.reduceLE, Int.reduceEq, nk0, mc]
        exact a3 F X Q z
      · have eq : qadd q i m s' = q ++ [(s', i, m)] := by unfold qadd; rw [if_neg d]
        have l1 := qok_len hn (qok_put ho il (mv := m) (by omega) hs' d)
        rw [List.length_append, List.length_singleton] at l1
        have nk : M2 82 (num s') = -2 := hc2.2 s' hs' (fun x hx e => d (List.mem_map.2 ⟨x, hx, e⟩))
        have ri := rin_put (mv := m) hn ho hi hs' d hc2
        rw [eq]
        generalize eM : um (um (um M2 82 (us (M2 82) (num s') (num s))) 83 (us (M2 83) (num s') m)) 84 (us (M2 84) q.length (num s')) = M3 at ri
        have f3 : ∀ j, j ≠ 82 → j ≠ 83 → j ≠ 84 → M3 j = M2 j := fun j j1 j2 j3 => by rw [← eM, um_ne j3, um_ne j2, um_ne j1]
        have A3 : M3 70 = A := by rw [f3 70 (by decide) (by decide) (by decide)]; exact A2
        have hr3 : rrep s' (M3 80) (M3 81) := by rw [f3 80 (by decide) (by decide) (by decide), f3 81 (by decide) (by decide) (by decide)]; exact hr
        obtain ⟨R', w1⟩ := wanted_r (u := uu u 32 (wat w q)) (M := M3) hs' hn hr3 (by rw [A3]; exact hA0) (by rw [A3]; exact hA6)
        rw [A3, ← hw] at w1
        have wp := wat_put w q (s', i, m)
        have lc : ((q ++ [(s', i, m)]).length : Int) = (q.length : Int) + 1 := by rw [List.length_append, List.length_singleton]; omega
        have ok' := qok_put ho il (mv := m) (by omega) hs' d
        have hi' : (q ++ [(s', i, m)])[i]? = some (s, a) := by rw [List.getElem?_append_left il]; exact hi
        by_cases e : wat w q = -1
        · rw [if_pos e] at wp
          obtain ⟨M', a1, a2, a3⟩ := ih (m + 1) (q ++ [(s', i, m)]) (um M3 79 R') (by omega) ok' hi' (rin_c (by rw [um_ne (by decide)]) (by rw [um_ne (by decide)]) (by rw [um_ne (by decide)]) ri) (by rw [um_ne (by decide)]; exact A3)
          refine ⟨M', a1, frs_t (fun j h1 h2 h3 h4 h5 h6 => by rw [um_ne h1, f3 j h4 h5 h6, f2 j h2 h3]) a2, fun F X Q z => ?_⟩
          have a4 := a3 F X Q z
          rw [lc] at a4
          rw [mX12_spread_L86]
          simp (disch := first | omega | decide) only [w32_id, ↓rh_rcv, ↓rh_g31, ↓rh_r84, ↓rh_w84, ↓be_y, ↓be_n, ↓bf_y, ↓bf_n, ↓bl_y, ↓bl_n, ↓bm_y, ↓bm_n, ↓bg_y, ↓bg_n, ↓bs_y, ↓bs_n, ↓bo_y, ↓bo_n, ↓bp_y, ↓bp_n, ↓forall_eq, ↓within_y, ↓within_n, ↓isIn_y, ↓isIn_n, and_true, true_and, and_self, us_at, us_ne, w32_id, um_eq, um_ne, um_um, uu_eq, uu_ne, uu_uu, vv_eq, vv_ne, vv_vv, ne_eq, not_false_eq_true, not_true_eq_false, reduceCtorEq, Int.reduceAdd, Int.reduceSub, Int.reduceMul, Int.reduceNeg, Nat.reduceEqDiff, or_true, true_or, true_implies, false_implies, Int.reduceLT, Int.reduceLE, Int.reduceEq, rd, t3, t4]
          refine b3 F _ ?_
          simp (disch := first | omega | decide) only [w32_id, ↓rh_rcv, ↓rh_g0, ↓be_y, ↓be_n, ↓bf_y, ↓bf_n, ↓bl_y, ↓bl_n, ↓bm_y, ↓bm_n, ↓bg_y, ↓bg_n, ↓bs_y, ↓bs_n, ↓bo_y, ↓bo_n, ↓bp_y, ↓bp_n, ↓forall_eq, ↓within_y, ↓within_n, ↓isIn_y, ↓isIn_n, and_true, true_and, and_self, us_at, us_ne, w32_id, um_eq, um_ne, um_um, uu_eq, uu_ne, uu_uu, vv_eq, vv_ne, vv_vv, ne_eq, not_false_eq_true, not_true_eq_false, reduceCtorEq, Int.reduceAdd, Int.reduceSub, Int.reduceMul, Int.reduceNeg, Nat.reduceEqDiff, or_true, true_or, true_implies, false_implies, Int.reduceLT, Int.reduceLE, Int.reduceEq, t3, t4]
          refine c2 F _ ?_
          simp (disch := first | omega | decide) only [w32_id, ↓rh_rcv, ↓rh_g0, ↓be_y, ↓be_n, ↓bf_y, ↓bf_n, ↓bl_y, ↓bl_n, ↓bm_y, ↓bm_n, ↓bg_y, ↓bg_n, ↓bs_y, ↓bs_n, ↓bo_y, ↓bo_n, ↓bp_y, ↓bp_n, ↓forall_eq, ↓within_y, ↓within_n, ↓isIn_y, ↓isIn_n, and_true, true_and, and_self, us_at, us_ne, w32_id, um_eq, um_ne, um_um, uu_eq, uu_ne, uu_uu, vv_eq, vv_ne, vv_vv, ne_eq, not_false_eq_true, not_true_eq_false, reduceCtorEq, Int.reduceAdd, Int.reduceSub, Int.reduceMul, Int.reduceNeg, Nat.reduceEqDiff, or_true, true_or, true_implies, false_implies, Int.reduceLT, Int.reduceLE, Int.reduceEq]
          refine so_r hs' hn hr ?_
          simp (disch := first | omega | decide) only [w32_id, ↓rh_rcv, ↓rh_g29, ↓rh_g30, ↓rh_g31, ↓rh_g32, ↓rh_p32, ↓rh_r82, ↓rh_w82, ↓rh_r83, ↓rh_w83, ↓rh_r84, ↓rh_w84, ↓be_y, ↓be_n, ↓bf_y, ↓bf_n, ↓bl_y, ↓bl_n, ↓bm_y, ↓bm_n, ↓bg_y, ↓bg_n, ↓bs_y, ↓bs_n, ↓bo_y, ↓bo_n, ↓bp_y, ↓bp_n, ↓forall_eq, ↓within_y, ↓within_n, ↓isIn_y, ↓isIn_n, and_true, true_and, and_self, us_at, us_ne, w32_id, um_eq, um_ne, um_um, uu_eq, uu_ne, uu_uu, vv_eq, vv_ne, vv_vv, ne_eq, not_false_eq_true, not_true_eq_false, reduceCtorEq, Int.reduceAdd, Int.reduceSub, Int.reduceMul, Int.reduceNeg, Nat.reduceEqDiff, or_true, true_or, true_implies, false_implies, Int.reduceLT, Int.reduceLE, Int.reduceEq, nk, rd2, e]
          rw [e] at w1
          rw [eM]
          refine w1 F _ ?_
          by_cases f : s' = w
          · rw [if_pos f] at wp
            rw [wp] at a4
            rw [if_pos f]
            simp (disch := first | omega | decide) only [mX12_spread_J193, mX12_spread_J196, ↓rh_rcv, ↓rh_g32, ↓rh_p32, ↓be_y, ↓be_n, ↓bf_y, ↓bf_n, ↓bl_y, ↓bl_n, ↓bm_y, ↓bm_n, ↓bg_y, ↓bg_n, ↓bs_y, ↓bs_n, ↓bo_y, ↓bo_n, ↓bp_y, ↓bp_n, ↓forall_eq, ↓within_y, ↓within_n, ↓isIn_y, ↓isIn_n, and_true, true_and, and_self, us_at, us_ne, w32_id, um_eq, um_ne, um_um, uu_eq, uu_ne, uu_uu, vv_eq, vv_ne, vv_vv, ne_eq, not_false_eq_true, not_true_eq_false, reduceCtorEq, Int.reduceAdd, Int.reduceSub, Int.reduceMul, Int.reduceNeg, Nat.reduceEqDiff, or_true, true_or, true_implies, false_implies, Int.reduceLT, Int.reduceLE, Int.reduceEq, mc]
            exact a4
          · rw [if_neg f] at wp
            rw [wp] at a4
            rw [if_neg f]
            simp (disch := first | omega | decide) only [mX12_spread_J193, mX12_spread_J196, ↓rh_rcv, ↓rh_g32, ↓rh_p32, ↓be_y, ↓be_n, ↓bf_y, ↓bf_n, ↓bl_y, ↓bl_n, ↓bm_y, ↓bm_n, ↓bg_y, ↓bg_n, ↓bs_y, ↓bs_n, ↓bo_y, ↓bo_n, ↓bp_y, ↓bp_n, ↓forall_eq, ↓within_y, ↓within_n, ↓isIn_y, ↓isIn_n, and_true, true_and, and_self, us_at, us_ne, w32_id, um_eq, um_ne, um_um, uu_eq, uu_ne, uu_uu, vv_eq, vv_ne, vv_vv, ne_eq, not_false_eq_true, not_true_eq_false, reduceCtorEq, Int.reduceAdd, Int.reduceSub, Int.reduceMul, Int.reduceNeg, Nat.reduceEqDiff, or_true, true_or, true_implies, false_implies, Int.reduceLT, Int.reduceLE, Int.reduceEq, mc]
            exact a4
        · rw [if_neg e] at wp
          obtain ⟨M', a1, a2, a3⟩ := ih (m + 1) (q ++ [(s', i, m)]) M3 (by omega) ok' hi' ri A3
          refine ⟨M', a1, frs_t (fun j h1 h2 h3 h4 h5 h6 => by rw [f3 j h4 h5 h6, f2 j h2 h3]) a2, fun F X Q z => ?_⟩
          have a4 := a3 F X Q z
          rw [lc, wp] at a4
          rw [mX12_spread_L86]
          simp (disch := first | omega | decide) only [w32_id, ↓rh_rcv, ↓rh_g31, ↓rh_r84, ↓rh_w84, ↓be_y, ↓be_n, ↓bf_y, ↓bf_n, ↓bl_y, ↓bl_n, ↓bm_y, ↓bm_n, ↓bg_y, ↓bg_n, ↓bs_y, ↓bs_n, ↓bo_y, ↓bo_n, ↓bp_y, ↓bp_n, ↓forall_eq, ↓within_y, ↓within_n, ↓isIn_y, ↓isIn_n, and_true, true_and, and_self, us_at, us_ne, w32_id, um_eq, um_ne, um_um, uu_eq, uu_ne, uu_uu, vv_eq, vv_ne, vv_vv, ne_eq, not_false_eq_true, not_true_eq_false, reduceCtorEq, Int.reduceAdd, Int.reduceSub, Int.reduceMul, Int.reduceNeg, Nat.reduceEqDiff, or_true, true_or, true_implies, false_implies, Int.reduceLT, Int.reduceLE, Int.reduceEq, rd, t3, t4]
          refine b3 F _ ?_
          simp (disch := first | omega | decide) only [w32_id, ↓rh_rcv, ↓rh_g0, ↓be_y, ↓be_n, ↓bf_y, ↓bf_n, ↓bl_y, ↓bl_n, ↓bm_y, ↓bm_n, ↓bg_y, ↓bg_n, ↓bs_y, ↓bs_n, ↓bo_y, ↓bo_n, ↓bp_y, ↓bp_n, ↓forall_eq, ↓within_y, ↓within_n, ↓isIn_y, ↓isIn_n, and_true, true_and, and_self, us_at, us_ne, w32_id, um_eq, um_ne, um_um, uu_eq, uu_ne, uu_uu, vv_eq, vv_ne, vv_vv, ne_eq, not_false_eq_true, not_true_eq_false, reduceCtorEq, Int.reduceAdd, Int.reduceSub, Int.reduceMul, Int.reduceNeg, Nat.reduceEqDiff, or_true, true_or, true_implies, false_implies, Int.reduceLT, Int.reduceLE, Int.reduceEq, t3, t4]
          refine c2 F _ ?_
          simp (disch := first | omega | decide) only [w32_id, ↓rh_rcv, ↓rh_g0, ↓be_y, ↓be_n, ↓bf_y, ↓bf_n, ↓bl_y, ↓bl_n, ↓bm_y, ↓bm_n, ↓bg_y, ↓bg_n, ↓bs_y, ↓bs_n, ↓bo_y, ↓bo_n, ↓bp_y, ↓bp_n, ↓forall_eq, ↓within_y, ↓within_n, ↓isIn_y, ↓isIn_n, and_true, true_and, and_self, us_at, us_ne, w32_id, um_eq, um_ne, um_um, uu_eq, uu_ne, uu_uu, vv_eq, vv_ne, vv_vv, ne_eq, not_false_eq_true, not_true_eq_false, reduceCtorEq, Int.reduceAdd, Int.reduceSub, Int.reduceMul, Int.reduceNeg, Nat.reduceEqDiff, or_true, true_or, true_implies, false_implies, Int.reduceLT, Int.reduceLE, Int.reduceEq]
          refine so_r hs' hn hr ?_
          simp (disch := first | omega | decide) only [mX12_spread_J193, mX12_spread_J196, ↓rh_rcv, ↓rh_g29, ↓rh_g30, ↓rh_g31, ↓rh_g32, ↓rh_p32, ↓rh_r82, ↓rh_w82, ↓rh_r83, ↓rh_w83, ↓rh_r84, ↓rh_w84, ↓be_y, ↓be_n, ↓bf_y, ↓bf_n, ↓bl_y, ↓bl_n, ↓bm_y, ↓bm_n, ↓bg_y, ↓bg_n, ↓bs_y, ↓bs_n, ↓bo_y, ↓bo_n, ↓bp_y, ↓bp_n, ↓forall_eq, ↓within_y, ↓within_n, ↓isIn_y, ↓isIn_n, and_true, true_and, and_self, us_at, us_ne, w32_id, um_eq, um_ne, um_um, uu_eq, uu_ne, uu_uu, vv_eq, vv_ne, vv_vv, ne_eq, not_false_eq_true, not_true_eq_false, reduceCtorEq, Int.reduceAdd, Int.reduceSub, Int.reduceMul, Int.reduceNeg, Nat.reduceEqDiff, or_true, true_or, true_implies, false_implies, Int.reduceLT, Int.reduceLE, Int.reduceEq, nk, rd2, e, mc]
          rw [eM]
          exact a4
theorem sp78 (hn : 0 ≤ n ∧ n ≤ 5) (hC : jC (N 15) (N 16) (N 17) (N 18) (N 19) A) (hF : jF (v 10 15) A) (hz : ∀ a b, 0 ≤ a → a < n → 0 ≤ b → b < n → tb P (5 * a + b) = !zForb A a b) (hA0 : A 0 = n) (hA6 : 0 ≤ A 60 ∧ A 60 < 120) (hw : w = ws (A 60) n) : ∀ (k i : Nat) (q : qt) (M : Nat → Int → Int), k + i = 2521 → qok n s0 q → rin n q M → M 70 = A → ∃ M', rin n (bfs P k i q) M' ∧ frs M M' ∧ ∀ (F : hp) (Q : Int → hp → Prop), Q (bfs P k i q).length (rh F (uu u 32 (wat w (bfs P k i q))) M') → mX12_spread_L78 Q (k + 1) 69 n q.length i (rh F (uu u 32 (wat w q)) M) := by
  intro k
  induction k with
  | zero =>
    intro i q M hk ho hc hA
    have ll := qok_len hn ho
    refine ⟨M, hc, fun _ _ _ _ _ _ _ => rfl, fun F Q z => ?_⟩
    rw [mX12_spread_L78]
    simp (disch := first | omega | decide) only [w32_id, ↓rh_rcv, ↓rh_g0, ↓be_y, ↓be_n, ↓bf_y, ↓bf_n, ↓bl_y, ↓bl_n, ↓bm_y, ↓bm_n, ↓bg_y, ↓bg_n, ↓bs_y, ↓bs_n, ↓bo_y, ↓bo_n, ↓bp_y, ↓bp_n, ↓forall_eq, ↓within_y, ↓within_n, ↓isIn_y, ↓isIn_n, and_true, true_and, and_self, us_at, us_ne, w32_id, um_eq, um_ne, um_um, uu_eq, uu_ne, uu_uu, vv_eq, vv_ne, vv_vv, ne_eq, not_false_eq_true, not_true_eq_false, reduceCtorEq, Int.reduceAdd, Int.reduceSub, Int.reduceMul, Int.reduceNeg, Nat.reduceEqDiff, or_true, true_or, true_implies, false_implies, Int.reduceLT, Int.reduceLE, Int.reduceEq]
    exact z
  | succ k ih =>
    intro i q M hk ho hc hA
    have ll := qok_len hn ho
    rw [bfs]
    by_cases d : i < q.length
    · rw [if_pos d]
      have e : q[i]? = some (q[i].1, q[i].2) := List.getElem?_eq_getElem d
      obtain ⟨M1, b1, b2, b3⟩ := sp86 (u := u) (P := P) hn hC hF hz hA0 hA6 hw 9 0 q M rfl ho e hc hA
      obtain ⟨o1, l, el⟩ := fold_ok (P := P) (i := i) hn.2 9 0 q rfl ho d
      obtain ⟨M', a1, a2, a3⟩ := ih (i + 1) (bq P i q) M1 (by omega) o1 b1 (by rw [b2 70 (by decide) (by decide) (by decide) (by decide) (by decide) (by decide)]; exact hA)
      refine ⟨M', a1, frs_t b2 a2, fun F Q z => ?_⟩
      rw [mX12_spread_L78]
      simp (disch := first | omega | decide) only [w32_id, ↓rh_rcv, ↓rh_g0, ↓be_y, ↓be_n, ↓bf_y, ↓bf_n, ↓bl_y, ↓bl_n, ↓bm_y, ↓bm_n, ↓bg_y, ↓bg_n, ↓bs_y, ↓bs_n, ↓bo_y, ↓bo_n, ↓bp_y, ↓bp_n, ↓forall_eq, ↓within_y, ↓within_n, ↓isIn_y, ↓isIn_n, and_true, true_and, and_self, us_at, us_ne, w32_id, um_eq, um_ne, um_um, uu_eq, uu_ne, uu_uu, vv_eq, vv_ne, vv_vv, ne_eq, not_false_eq_true, not_true_eq_false, reduceCtorEq, Int.reduceAdd, Int.reduceSub, Int.reduceMul, Int.reduceNeg, Nat.reduceEqDiff, or_true, true_or, true_implies, false_implies, Int.reduceLT, Int.reduceLE, Int.reduceEq]
      exact ⟨_, b3 F _ Q (a3 F Q z)⟩
    · rw [if_neg d]
      refine ⟨M, hc, fun _ _ _ _ _ _ _ => rfl, fun F Q z => ?_⟩
      rw [mX12_spread_L78]
      simp (disch := first | omega | decide) only [w32_id, ↓rh_rcv, ↓rh_g0, ↓be_y, ↓be_n, ↓bf_y, ↓bf_n, ↓bl_y, ↓bl_n, ↓bm_y, ↓bm_n, ↓bg_y, ↓bg_n, ↓bs_y, ↓bs_n, ↓bo_y, ↓bo_n, ↓bp_y, ↓bp_n, ↓forall_eq, ↓within_y, ↓within_n, ↓isIn_y, ↓isIn_n, and_true, true_and, and_self, us_at, us_ne, w32_id, um_eq, um_ne, um_um, uu_eq, uu_ne, uu_uu, vv_eq, vv_ne, vv_vv, ne_eq, not_false_eq_true, not_true_eq_false, reduceCtorEq, Int.reduceAdd, Int.reduceSub, Int.reduceMul, Int.reduceNeg, Nat.reduceEqDiff, or_true, true_or, true_implies, false_implies, Int.reduceLT, Int.reduceLE, Int.reduceEq]
      exact z
end SPR
