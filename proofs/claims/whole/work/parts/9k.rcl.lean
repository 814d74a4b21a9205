-- ===== a clause read by the reference =====
def rcd : gs → Int
  | .inl _ => 0
  | .inr (k, _) => k
def rcl (cl : List (Int × Int × Int)) (X : Int → Int) (t : Int) : Prop := X t = (cl.length : Int) ∧ ∀ (i : Nat) c, cl[i]? = some c → X (t + 1 + 3 * i) = c.1 ∧ (c.1 ≠ 5 → X (t + 1 + 3 * i + 1) = c.2.1 ∧ (c.1 ≠ 7 → X (t + 1 + 3 * i + 2) = c.2.2))
def rco (cl : List (Int × Int × Int)) (n : Int) : Prop := (0 ≤ n ∧ n ≤ 3) ∧ ∀ w, w = 0 ∨ w = 1 → (tb n w = true ↔ ∃ c, c ∈ cl ∧ c.1 = w)
def chx (tk plc bh : Nat → Int) (L : Int) (W : Int → Int) : Prop := ∀ (j : Nat) (u : Nat → Int) (M : Nat → Int → Int), u 4 = L → M 73 = W → rtk tk plc bh j u → ∀ (F : hp) (Q : Int → hp → Prop), Q (if tk j = 12 then 1 else 0) (rh F u M) → mX12_isChanges 69 (rh F u M) Q
def frR (u u' : Nat → Int) : Prop := ∀ k, k < 7 ∨ k = 12 ∨ k = 15 ∨ 19 < k → u' k = u k
def frT (t : Int) (M M' : Nat → Int → Int) : Prop := (∀ j, j ≠ 72 → j ≠ 74 → M' j = M j) ∧ ∀ i, i < t ∨ t + 681 ≤ i → M' 72 i = M 72 i
def RT (tk plc bh : Nat → Int) (cn : Nat) (L : Int) (W : Int → Int) (j : Nat) (o : List (Int × Int)) (cl : List (Int × Int × Int)) (u : Nat → Int) (M : Nat → Int → Int) : Prop := rtk tk plc bh j u ∧ ots o u M ∧ rcl cl (M 72) (u 12) ∧ rco cl (u 19) ∧ u 4 = L ∧ M 73 = W ∧ (j ≤ cn ∧ o.length ≤ j ∧ cl.length ≤ 24)
section RC
variable {tk plc bh : Nat → Int} {cn : Nat} {L : Int} {W : Int → Int} {u : Nat → Int} {M : Nat → Int → Int} {F : hp} {o : List (Int × Int)} {j : Nat} {cl cl' : List (Int × Int × Int)}
theorem frR_t {u u' u'' : Nat → Int} (a : frR u u') (b : frR u' u'') : frR u u'' := fun k h => by rw [b k h, a k h]
theorem frR_u {u u' : Nat → Int} (a : fru u u') : frR u u' := fun k h => a k (by omega)
theorem frR_p {u u' : Nat → Int} (a : frp u u') : frR u u' := fun k h => a k (by omega) (by omega) (by omega) (by omega) (by omega) (by omega) (by omega) (by omega) (by omega)
theorem frR_w {i : Nat} {x : Int} (h : 7 ≤ i ∧ i ≤ 19 ∧ i ≠ 12 ∧ i ≠ 15) : frR u (uu u i x) := fun k hk => uu_ne (by omega)
theorem frT_t {t : Int} {M M' M'' : Nat → Int → Int} (a : frT t M M') (b : frT t M' M'') : frT t M M'' := ⟨fun j h1 h2 => by rw [b.1 j h1 h2, a.1 j h1 h2], fun i h => by rw [b.2 i h, a.2 i h]⟩
theorem frT_X {t : Int} {M M' : Nat → Int → Int} (a : frX t M M') : frT t M M' := ⟨a.1, fun i h => a.2 i (by omega)⟩
theorem frT_w {t i x : Int} (h : t ≤ i ∧ i < t + 681) : frT t M (um M 72 (us (M 72) i x)) := ⟨fun j h1 _ => um_ne h1, fun k hk => by rw [um_eq, us_ne (by omega)]⟩
theorem frT_r {t : Int} (M : Nat → Int → Int) : frT t M M := ⟨fun _ _ _ => rfl, fun _ _ => rfl⟩
theorem ots_k {u' : Nat → Int} {M' : Nat → Int → Int} (e1 : u' 13 = u 13) (e2 : u' 12 = u 12) (e3 : ∀ i, u 12 + 73 ≤ i → M' 72 i = M 72 i) (h : ots o u M) : ots o u' M' := by
  obtain ⟨a, b, c⟩ := h
  refine ⟨by rw [e1]; exact a, by rw [e2]; exact b, fun i p hi => ?_⟩
  rw [e2, e3 _ (by omega), e3 _ (by omega)]
  exact c i p hi
theorem gnum_bad {lo hi k : Int} {e : Nat} : gnum tk lo hi (.inr (k, e)) = .inr (k, e) := by
  unfold gnum
  rw [if_pos (show gcur tk (.inr (k, e)) < 100 by show (45 : Int) < 100; decide)]
  rfl
theorem gexp_bad {c k : Int} {e : Nat} (hc : c ≠ 45) : gexp tk c (.inr (k, e)) = .inr (k, e) := by
  unfold gexp
  rw [if_neg (show ¬ gcur tk (.inr (k, e)) = c from fun t => hc t.symm)]
  rfl
theorem fig_y (nx : ntx tk plc bh cn L W) (h : rtk tk plc bh j u) (hj : j < cn) (h4 : u 4 = L) (hM : M 73 = W) {lo hi x : Int} (hb : 0 ≤ lo ∧ hi ≤ 9999) (hx : 0 ≤ x ∧ x < 2724) (c : 100 + lo ≤ tk j ∧ tk j ≤ 100 + hi) : ∃ u', rtk tk plc bh (j + 1) u' ∧ fru u u' ∧ ∀ (F : hp) (Q : Int → hp → Prop), Q 0 (rh F u' (um M 72 (us (M 72) x (tk j - 100)))) → mX12_figure 69 x lo hi (rh F u M) Q := by
  have t1 := (tkr_1 h.2.2).2 (by omega)
  have tn := tkr_n h.2.2 (by omega)
  have n1 : u 10 = tk j - 100 := by omega
  obtain ⟨u', a1, a2, a3⟩ := nx j u (um M 72 (us (M 72) x (tk j - 100))) hj h4 (by rw [um_ne (by decide)]; exact hM) h
  refine ⟨u', a1, a2, fun F Q q => ?_⟩
  simp (disch := first | omega | decide) only [mX12_figure, ↓rh_rcv, ↓rh_g2, ↓rh_g9, ↓rh_p9, ↓rh_g10, ↓rh_p10, ↓rh_r72, ↓rh_w72, ↓be_y, ↓be_n, ↓bf_y, ↓bf_n, ↓bl_y, ↓bl_n, ↓bm_y, ↓bm_n, ↓bg_y, ↓bg_n, ↓bs_y, ↓bs_n, ↓bo_y, ↓bo_n, ↓bp_y, ↓bp_n, ↓forall_eq, ↓within_y, ↓within_n, ↓isIn_y, ↓isIn_n, and_true, true_and, and_self, us_at, us_ne, w32_id, um_eq, um_ne, um_um, uu_eq, uu_ne, uu_uu, vv_eq, vv_ne, vv_vv, ne_eq, not_false_eq_true, not_true_eq_false, reduceCtorEq, Int.reduceAdd, Int.reduceSub, Int.reduceMul, Int.reduceNeg, Nat.reduceEqDiff, or_true, true_or, true_implies, false_implies, Int.reduceLT, Int.reduceLE, Int.reduceEq, t1, n1]
  exact a3 F _ q
theorem fig_n (h : rtk tk plc bh j u) {lo hi x : Int} (c : tk j < 100) {Q : Int → hp → Prop} (q : Q 1 (rh F u M)) : mX12_figure 69 x lo hi (rh F u M) Q := by
  have tt := tkr_t h.2.2
  have n1 : ¬ u 9 = 1 := fun t => by have := (tkr_1 h.2.2).1 t; omega
  simp (disch := first | omega | decide) only [mX12_figure, ↓rh_rcv, ↓rh_g9, ↓rh_p9, ↓be_y, ↓be_n, ↓bf_y, ↓bf_n, ↓bl_y, ↓bl_n, ↓bm_y, ↓bm_n, ↓bg_y, ↓bg_n, ↓bs_y, ↓bs_n, ↓bo_y, ↓bo_n, ↓bp_y, ↓bp_n, ↓forall_eq, ↓within_y, ↓within_n, ↓isIn_y, ↓isIn_n, and_true, true_and, and_self, us_at, us_ne, w32_id, um_eq, um_ne, um_um, uu_eq, uu_ne, uu_uu, vv_eq, vv_ne, vv_vv, ne_eq, not_false_eq_true, not_true_eq_false, reduceCtorEq, Int.reduceAdd, Int.reduceSub, Int.reduceMul, Int.reduceNeg, Nat.reduceEqDiff, or_true, true_or, true_implies, false_implies, Int.reduceLT, Int.reduceLE, Int.reduceEq]
  exact q
theorem fig_b (h : rtk tk plc bh j u) {lo hi x : Int} (hb : 0 ≤ lo ∧ lo ≤ hi ∧ hi ≤ 9999) (c : 100 ≤ tk j) (c2 : ¬ (100 + lo ≤ tk j ∧ tk j ≤ 100 + hi)) {Q : Int → hp → Prop} (q : Q 2 (rh F u M)) : mX12_figure 69 x lo hi (rh F u M) Q := by
  have t1 := (tkr_1 h.2.2).2 (by omega)
  have tn := tkr_n h.2.2 (by omega)
  have n1 : (u 10 < lo ∨ hi < u 10) ∧ -1000 ≤ u 10 ∧ u 10 ≤ 1000000 := by omega
  simp (disch := first | omega | decide) only [mX12_figure, ↓rh_rcv, ↓rh_g9, ↓rh_p9, ↓rh_g10, ↓rh_p10, ↓be_y, ↓be_n, ↓bf_y, ↓bf_n, ↓bl_y, ↓bl_n, ↓bm_y, ↓bm_n, ↓bg_y, ↓bg_n, ↓bs_y, ↓bs_n, ↓bo_y, ↓bo_n, ↓bp_y, ↓bp_n, ↓forall_eq, ↓within_y, ↓within_n, ↓isIn_y, ↓isIn_n, and_true, true_and, and_self, us_at, us_ne, w32_id, um_eq, um_ne, um_um, uu_eq, uu_ne, uu_uu, vv_eq, vv_ne, vv_vv, ne_eq, not_false_eq_true, not_true_eq_false, reduceCtorEq, Int.reduceAdd, Int.reduceSub, Int.reduceMul, Int.reduceNeg, Nat.reduceEqDiff, or_true, true_or, true_implies, false_implies, Int.reduceLT, Int.reduceLE, Int.reduceEq, t1]
  exact q
-- one number
theorem num_r (nx : ntx tk plc bh cn L W) (t44 : tk cn = 44) (h : rtk tk plc bh j u) (hj : j ≤ cn) (h4 : u 4 = L) (hM : M 73 = W) {lo hi x : Int} (hb : 0 ≤ lo ∧ lo ≤ hi ∧ hi ≤ 9999) (hx : 0 ≤ x ∧ x < 2724) (o : List (Int × Int)) : ∃ u' M', fru u u' ∧ (∀ k, k ≠ 72 → M' k = M k) ∧ (∀ i, i ≠ x → M' 72 i = M 72 i) ∧ (∀ i b, gnum tk lo hi (.inl (j, o)) = .inl (i, b) → rtk tk plc bh i u' ∧ M' 72 x = tk j - 100 ∧ i = j + 1 ∧ j < cn) ∧ (∀ k e, gnum tk lo hi (.inl (j, o)) = .inr (k, e) → u' 8 = plc e ∧ 1 ≤ k ∧ k ≤ 6) ∧ ∀ (F : hp) (Q : Int → hp → Prop), Q (rcd (gnum tk lo hi (.inl (j, o)))) (rh F u' M') → mX12_figure 69 x lo hi (rh F u M) Q := by
  unfold gnum
  by_cases c1 : tk j < 100
  · rw [if_pos (show gcur tk (.inl (j, o)) < 100 from c1)]
    refine ⟨u, M, fun _ _ => rfl, fun _ _ => rfl, fun _ _ => rfl, fun i b e => (gfal_n e).elim, fun k e h' => ?_, fun F Q q => fig_n h c1 q⟩
    simp only [gfal, Sum.inr.injEq, Prod.mk.injEq] at h'
    rw [← h'.2]; exact ⟨h.2.1, by omega⟩
  · rw [if_neg (show ¬ gcur tk (.inl (j, o)) < 100 from c1)]
    by_cases c2 : 100 + lo ≤ tk j ∧ tk j ≤ 100 + hi
    · rw [if_pos (show 100 + lo ≤ gcur tk (.inl (j, o)) ∧ gcur tk (.inl (j, o)) ≤ 100 + hi from c2)]
      have hj' : j < cn := by
        have : j ≠ cn := fun e => by rw [e, t44] at c1; omega
        omega
      obtain ⟨u', a1, a2, a3⟩ := fig_y (M := M) nx h hj' h4 hM ⟨hb.1, hb.2.2⟩ hx c2
      refine ⟨u', um M 72 (us (M 72) x (tk j - 100)), a2, fun k hk => um_ne hk, fun i hi => by rw [um_eq, us_ne hi], fun i b e => ?_, fun k e h' => absurd h' (by simp [gadv]), fun F Q q => a3 F Q q⟩
      simp only [gadv, Sum.inl.injEq, Prod.mk.injEq] at e
      rw [← e.1]
      exact ⟨a1, by rw [um_eq, us_eq], rfl, hj'⟩
    · rw [if_neg (show ¬ (100 + lo ≤ gcur tk (.inl (j, o)) ∧ gcur tk (.inl (j, o)) ≤ 100 + hi) from c2)]
      refine ⟨u, M, fun _ _ => rfl, fun _ _ => rfl, fun _ _ => rfl, fun i b e => (gfal_n e).elim, fun k e h' => ?_, fun F Q q => fig_b h hb (by omega) c2 q⟩
      simp only [gfal, Sum.inr.injEq, Prod.mk.injEq] at h'
      rw [← h'.2]; exact ⟨h.2.1, by omega⟩
theorem pair_r (nx : ntx tk plc bh cn L W) (t44 : tk cn = 44) (h : rtk tk plc bh j u) (hj : j ≤ cn) (h4 : u 4 = L) (hM : M 73 = W) {lo hi V lo2 hi2 x : Int} (hb : 0 ≤ lo ∧ lo ≤ hi ∧ hi ≤ 9999) (hV : 0 ≤ V ∧ V ≤ 28) (hb2 : 0 ≤ lo2 ∧ lo2 ≤ hi2 ∧ hi2 ≤ 9999) (hx : 0 ≤ x ∧ x + 2 < 2724) (o : List (Int × Int)) : ∃ u' M', fru u u' ∧ (∀ k, k ≠ 72 → M' k = M k) ∧ (∀ i, i ≠ x + 1 → i ≠ x + 2 → M' 72 i = M 72 i) ∧ (∀ i b, gnum tk lo2 hi2 (gexp tk V (gnum tk lo hi (.inl (j, o)))) = .inl (i, b) → rtk tk plc bh i u' ∧ M' 72 (x + 1) = tk j - 100 ∧ M' 72 (x + 2) = tk (j + 2) - 100 ∧ i = j + 3 ∧ i ≤ cn) ∧ (∀ k e, gnum tk lo2 hi2 (gexp tk V (gnum tk lo hi (.inl (j, o)))) = .inr (k, e) → u' 8 = plc e ∧ 1 ≤ k ∧ k ≤ 6) ∧ ∀ (F : hp) (Q : Int → hp → Prop), Q (rcd (gnum tk lo2 hi2 (gexp tk V (gnum tk lo hi (.inl (j, o)))))) (rh F u' M') → mX12_pair 69 x lo hi (wrd V) lo2 hi2 (rh F u M) Q := by
  obtain ⟨u1, M1, a1, a2, a3, a4, a5, a6⟩ := num_r (x := x + 1) nx t44 h hj h4 hM hb (by omega) o
  generalize gnum tk lo hi (.inl (j, o)) = s1 at *
  rcases s1 with ⟨i1, b1⟩ | ⟨k1, e1⟩
  · obtain ⟨r1, r2, r3, r4⟩ := a4 i1 b1 rfl
    have f4 : u1 4 = L := by rw [a1 4 (by decide)]; exact h4
    have g73 : M1 73 = W := by rw [a2 73 (by decide)]; exact hM
    by_cases c : tk i1 = V
    · rw [gexp_y c]
      have hi1 : i1 < cn := by
        have : i1 ≠ cn := fun e => by rw [e, t44] at c; omega
        omega
      obtain ⟨u2, b1', b2, b3⟩ := nx i1 u1 M1 hi1 f4 g73 r1
      obtain ⟨u3, M3, d1, d2, d3, d4, d5, d6⟩ := num_r (x := x + 2) nx t44 b1' (by omega) (by rw [b2 4 (by decide)]; exact f4) g73 hb2 (by omega) b1
      generalize es : gnum tk lo2 hi2 (.inl (i1 + 1, b1)) = s2 at *
      refine ⟨u3, M3, fun k hk => by rw [d1 k hk, b2 k hk, a1 k hk], fun k hk => by rw [d2 k hk, a2 k hk], fun i h1 h2 => by rw [d3 i h2, a3 i h1], fun i b e => ?_, d5, fun F Q q => ?_⟩
      · obtain ⟨k1, k2, k3, k4⟩ := d4 i b e
        refine ⟨k1, by rw [d3 _ (by omega)]; exact r2, ?_, by omega, by omega⟩
        rw [k2, show i1 + 1 = j + 2 by omega]
      · have y1 := fun Q => isw_y (F := F) (M := M1) (Q := Q) r1.2.2 hV c
        simp (disch := first | omega | decide) only [mX12_pair, ↓rh_rcv, ↓rh_g0, ↓be_y, ↓be_n, ↓bf_y, ↓bf_n, ↓bl_y, ↓bl_n, ↓bm_y, ↓bm_n, ↓bg_y, ↓bg_n, ↓bs_y, ↓bs_n, ↓bo_y, ↓bo_n, ↓bp_y, ↓bp_n, ↓forall_eq, ↓within_y, ↓within_n, ↓isIn_y, ↓isIn_n, and_true, true_and, and_self, us_at, us_ne, w32_id, um_eq, um_ne, um_um, uu_eq, uu_ne, uu_uu, vv_eq, vv_ne, vv_vv, ne_eq, not_false_eq_true, not_true_eq_false, reduceCtorEq, Int.reduceAdd, Int.reduceSub, Int.reduceMul, Int.reduceNeg, Nat.reduceEqDiff, or_true, true_or, true_implies, false_implies, Int.reduceLT, Int.reduceLE, Int.reduceEq]
        refine a6 F _ ?_
        unfold rcd
        simp (disch := first | omega | decide) only [w32_id, ↓rh_rcv, ↓rh_g0, ↓be_y, ↓be_n, ↓bf_y, ↓bf_n, ↓bl_y, ↓bl_n, ↓bm_y, ↓bm_n, ↓bg_y, ↓bg_n, ↓bs_y, ↓bs_n, ↓bo_y, ↓bo_n, ↓bp_y, ↓bp_n, ↓forall_eq, ↓within_y, ↓within_n, ↓isIn_y, ↓isIn_n, and_true, true_and, and_self, us_at, us_ne, w32_id, um_eq, um_ne, um_um, uu_eq, uu_ne, uu_uu, vv_eq, vv_ne, vv_vv, ne_eq, not_false_eq_true, not_true_eq_false, reduceCtorEq, Int.reduceAdd, Int.reduceSub, Int.reduceMul, Int.reduceNeg, Nat.reduceEqDiff, or_true, true_or, true_implies, false_implies, Int.reduceLT, Int.reduceLE, Int.reduceEq, y1]
        refine b3 F _ ?_
        simp (disch := first | omega | decide) only [w32_id, ↓rh_rcv, ↓rh_g0, ↓be_y, ↓be_n, ↓bf_y, ↓bf_n, ↓bl_y, ↓bl_n, ↓bm_y, ↓bm_n, ↓bg_y, ↓bg_n, ↓bs_y, ↓bs_n, ↓bo_y, ↓bo_n, ↓bp_y, ↓bp_n, ↓forall_eq, ↓within_y, ↓within_n, ↓isIn_y, ↓isIn_n, and_true, true_and, and_self, us_at, us_ne, w32_id, um_eq, um_ne, um_um, uu_eq, uu_ne, uu_uu, vv_eq, vv_ne, vv_vv, ne_eq, not_false_eq_true, not_true_eq_false, reduceCtorEq, Int.reduceAdd, Int.reduceSub, Int.reduceMul, Int.reduceNeg, Nat.reduceEqDiff, or_true, true_or, true_implies, false_implies, Int.reduceLT, Int.reduceLE, Int.reduceEq]
        exact d6 F _ q
    · rw [gexp_n c]
      rw [gnum_bad]
      refine ⟨u1, M1, a1, a2, fun i h1 _ => a3 i h1, fun i b e => absurd e (by simp), fun k e h' => ?_, fun F Q q => ?_⟩
      · simp only [Sum.inr.injEq, Prod.mk.injEq] at h'
        rw [← h'.2]; exact ⟨r1.2.1, by omega⟩
      · have y1 := fun Q => isw_n (F := F) (M := M1) (Q := Q) r1.2.2 hV c
        simp (disch := first | omega | decide) only [mX12_pair, ↓rh_rcv, ↓rh_g0, ↓be_y, ↓be_n, ↓bf_y, ↓bf_n, ↓bl_y, ↓bl_n, ↓bm_y, ↓bm_n, ↓bg_y, ↓bg_n, ↓bs_y, ↓bs_n, ↓bo_y, ↓bo_n, ↓bp_y, ↓bp_n, ↓forall_eq, ↓within_y, ↓within_n, ↓isIn_y, ↓isIn_n, and_true, true_and, and_self, us_at, us_ne, w32_id, um_eq, um_ne, um_um, uu_eq, uu_ne, uu_uu, vv_eq, vv_ne, vv_vv, ne_eq, not_false_eq_true, not_true_eq_false, reduceCtorEq, Int.reduceAdd, Int.reduceSub, Int.reduceMul, Int.reduceNeg, Nat.reduceEqDiff, or_true, true_or, true_implies, false_implies, Int.reduceLT, Int.reduceLE, Int.reduceEq]
        refine a6 F _ ?_
        unfold rcd at q ⊢
        simp (disch := first | omega | decide) only [w32_id, ↓rh_rcv, ↓rh_g0, ↓be_y, ↓be_n, ↓bf_y, ↓bf_n, ↓bl_y, ↓bl_n, ↓bm_y, ↓bm_n, ↓bg_y, ↓bg_n, ↓bs_y, ↓bs_n, ↓bo_y, ↓bo_n, ↓bp_y, ↓bp_n, ↓forall_eq, ↓within_y, ↓within_n, ↓isIn_y, ↓isIn_n, and_true, true_and, and_self, us_at, us_ne, w32_id, um_eq, um_ne, um_um, uu_eq, uu_ne, uu_uu, vv_eq, vv_ne, vv_vv, ne_eq, not_false_eq_true, not_true_eq_false, reduceCtorEq, Int.reduceAdd, Int.reduceSub, Int.reduceMul, Int.reduceNeg, Nat.reduceEqDiff, or_true, true_or, true_implies, false_implies, Int.reduceLT, Int.reduceLE, Int.reduceEq, y1]
        exact q
  · have kb := a5 k1 e1 rfl
    rw [gexp_bad (by omega), gnum_bad]
    refine ⟨u1, M1, a1, a2, fun i h1 _ => a3 i h1, fun i b e => absurd e (by simp), fun k e h' => ?_, fun F Q q => ?_⟩
    · simp only [Sum.inr.injEq, Prod.mk.injEq] at h'
      rw [← h'.1, ← h'.2]; exact kb
    · simp (disch := first | omega | decide) only [mX12_pair, ↓rh_rcv, ↓rh_g0, ↓be_y, ↓be_n, ↓bf_y, ↓bf_n, ↓bl_y, ↓bl_n, ↓bm_y, ↓bm_n, ↓bg_y, ↓bg_n, ↓bs_y, ↓bs_n, ↓bo_y, ↓bo_n, ↓bp_y, ↓bp_n, ↓forall_eq, ↓within_y, ↓within_n, ↓isIn_y, ↓isIn_n, and_true, true_and, and_self, us_at, us_ne, w32_id, um_eq, um_ne, um_um, uu_eq, uu_ne, uu_uu, vv_eq, vv_ne, vv_vv, ne_eq, not_false_eq_true, not_true_eq_false, reduceCtorEq, Int.reduceAdd, Int.reduceSub, Int.reduceMul, Int.reduceNeg, Nat.reduceEqDiff, or_true, true_or, true_implies, false_implies, Int.reduceLT, Int.reduceLE, Int.reduceEq]
      refine a6 F _ ?_
      unfold rcd at q ⊢
      simp (disch := first | omega | decide) only [w32_id, ↓rh_rcv, ↓rh_g0, ↓be_y, ↓be_n, ↓bf_y, ↓bf_n, ↓bl_y, ↓bl_n, ↓bm_y, ↓bm_n, ↓bg_y, ↓bg_n, ↓bs_y, ↓bs_n, ↓bo_y, ↓bo_n, ↓bp_y, ↓bp_n, ↓forall_eq, ↓within_y, ↓within_n, ↓isIn_y, ↓isIn_n, and_true, true_and, and_self, us_at, us_ne, w32_id, um_eq, um_ne, um_um, uu_eq, uu_ne, uu_uu, vv_eq, vv_ne, vv_vv, ne_eq, not_false_eq_true, not_true_eq_false, reduceCtorEq, Int.reduceAdd, Int.reduceSub, Int.reduceMul, Int.reduceNeg, Nat.reduceEqDiff, or_true, true_or, true_implies, false_implies, Int.reduceLT, Int.reduceLE, Int.reduceEq]
      exact q
end RC
