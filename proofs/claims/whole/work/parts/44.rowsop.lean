section RO
variable {n x1 x2 : Int} {F : hp} {v : Nat → Nat → Int} {N : Nat → Int → Int} {T : Nat → Int → Option Nat} {u : Nat → Int} {M : Nat → Int → Int}
theorem prl_m {o c : Int} (ho : 0 ≤ o ∧ o < 120) : c ∈ (List.range 5).map (fun i => prc o i) ↔ 0 ≤ c ∧ c ≤ 4 := by
  have p := prl_perm o.toNat (by omega)
  rw [Int.toNat_of_nonneg ho.1] at p
  rw [p.mem_iff, ran_mem]
  omega
theorem frl_on (hY : jY (N 12) (M 70)) {o m t : Int} (ho : 0 ≤ o ∧ o < 120) (ht : 0 ≤ t ∧ t < 3) (hm : ∀ c, 0 ≤ c → c ≤ 4 → tb m c = decide (c ∈ onl (M 70) t)) : (frl o (iShl 1 (M 70 0) - 1) 5).filter (fun c => decide (c ∈ onl (M 70) t)) = frl o m 5 := by
  unfold frl
  rw [List.filter_filter]
  apply List.filter_congr
  intro c hc
  rw [prl_m ho] at hc
  rw [hm c hc.1 hc.2, (told_s (jY_c hY).2).2 c hc.1 hc.2]
  by_cases d : c ∈ onl (M 70) t
  · have := onl_in hY ht d
    rw [decide_eq_true d, decide_eq_true (show c < M 70 0 by omega)]
    rfl
  · rw [decide_eq_false d]
    rfl
theorem frl_n (hY : jY (N 12) (M 70)) {o m t : Int} (ho : 0 ≤ o ∧ o < 120) (ht : 0 ≤ t ∧ t < 3) (hm : ∀ c, 0 ≤ c → c ≤ 4 → tb m c = decide (c ∈ onl (M 70) t)) : ((frl o m 5).length : Int) = M 70 (12 + t) := by
  have w := (trk hY ht).1
  have p := prl_perm o.toNat (by omega)
  rw [Int.toNat_of_nonneg ho.1] at p
  have hc := jY_c hY
  have q : (frl o m 5).Perm (onl (M 70) t) := by
    rw [List.perm_ext_iff_of_nodup]
    · intro c
      unfold frl
      rw [List.mem_filter, prl_m ho]
      constructor
      · rintro ⟨h1, h2⟩
        rw [hm c h1.1 h1.2] at h2
        exact of_decide_eq_true h2
      · intro h
        have := onl_in hY ht h
        exact ⟨by omega, by rw [hm c (by omega) (by omega)]; exact decide_eq_true h⟩
    · unfold frl
      exact ((p.nodup_iff).mpr (ran_nodup _)).filter _
    · exact onl_d hY ht
  rw [q.length_eq]
  unfold onl
  exact tl_len _ _ w.2.1
theorem um_85 (M : Nat → Int → Int) (W S W' : Int → Int) : um (um (um M 85 W) 79 S) 85 W' = um (um M 85 W') 79 S := by
  funext j
  by_cases h1 : j = 79
  · subst h1; rfl
  · by_cases h2 : j = 85
    · subst h2; rfl
    · rw [um_ne h2, um_ne h1, um_ne h2, um_ne h1, um_ne h2]
theorem row1 (hY : jY (N 12) (M 70)) (hC : jC (N 15) (N 16) (N 17) (N 18) (N 19) (M 70)) (hF : jF (v 10 15) (M 70)) {o m t c : Int} (ho : 0 ≤ o ∧ o < 120) (ht : 0 ≤ t ∧ t < 3) (hm : ∀ c, 0 ≤ c → c ≤ 4 → tb m c = decide (c ∈ onl (M 70) t)) (hc : 0 ≤ c ∧ c ≤ 120) (S W : Int → Int) : ∃ S' W', (gor (M 70) m o = true → c = 0 → tl W' 0 (M 70 (12 + t)) = frl o m 5) ∧ (gor (M 70) m o = false ∨ c ≠ 0 → W' = W) ∧ ∀ (F : hp) (X : Nat → Int → Int → Int → Int → hp → Prop) (Q : Int → hp → Prop), X 69 t (M 70 (12 + t)) (c + (if gor (M 70) m o then 1 else 0)) (o + 1) (rh F u (um (um M 85 W') 79 S')) → mX12_layRow 69 o (rh F u (um (um M 85 W) 79 S)) (fun F1 => ∃ k3, mX12_layRows_L37 X Q k3 69 t (M 70 (12 + t)) c o 0 1 0 F1) := by
  have hcc := jY_c hY
  have w := (trk hY ht).1
  have fn := frl_n hY ho ht hm
  obtain ⟨R1, a1, a2⟩ := lay_r (u := u) (M := um M 85 W) (o := o) ho hcc.2 S
  have ol := ord_n ho hcc.2
  obtain ⟨S', b1, b2⟩ := cmp_l (u := u) (N := N) (M := um M 85 W) hY (t := t) (m := M 70 (12 + t)) (a3 := c) (a4 := o) ht (frl o (iShl 1 (M 70 0) - 1) 5) R1 0 [] a1 (by show 0 + _ = M 70 0; omega) rfl (Int.le_refl _) (fun c hc' => by have := frl_t ho hcc.2 c hc'; exact ⟨this.1.1, this.2⟩)
  have fo : (frl o (iShl 1 (M 70 0) - 1) 5).filter (fun c => decide (c ∈ onl (um M 85 W 70) t)) = frl o m 5 := frl_on hY ho ht hm
  rw [List.nil_append, fo] at b1
  have mem : ∀ c ∈ frl o m 5, 0 ≤ c ∧ c ≤ 4 := fun c hc' => (frl_mem ho hc').1
  have key : ∀ (F : hp) (X : Nat → Int → Int → Int → Int → hp → Prop) (Q : Int → hp → Prop), mX12_layRows_L92 X Q 1 69 t (M 70 (12 + t)) c o (if gor (M 70) m o then 1 else 0) (if M 70 (12 + t) = 0 then 1 else M 70 (12 + t)) (rh F u (um (um M 85 W) 79 S')) → ∃ f, mX12_layRows_L92 X Q f 69 t (M 70 (12 + t)) c o 1 1 (rh F u (um (um M 85 W) 79 S')) := by
    intro F X Q q
    cases hL : frl o m 5 with
    | nil =>
      rw [hL] at fn
      have fn : ((0 : Nat) : Int) = M 70 (12 + t) := fn
      have g : gor (M 70) m o = true := by unfold gor; rw [hL]; rfl
      rw [g, if_pos rfl, if_pos (by omega)] at q
      exact ⟨1, q⟩
    | cons a L =>
      rw [hL] at fn b1 mem
      have fn' : ((L.length + 1 : Nat) : Int) = M 70 (12 + t) := fn
      have n0 : ¬ M 70 (12 + t) = 0 := by omega
      rw [if_neg n0] at q
      refine ⟨L.length + 1, chk_l (v := v) (N := N) (M := um M 85 W) hC hF L a 1 1 b1 (by omega) mem (by omega) (.inr rfl) ?_⟩
      have g : gor (M 70) m o = okl (zForb (M 70)) (a :: L) := by unfold gor; rw [hL]
      rw [g] at q
      show mX12_layRows_L92 X Q 1 69 t (M 70 (12 + t)) c o (if (1 : Int) = 1 ∧ okl (zForb (M 70)) (a :: L) = true then 1 else 0) (M 70 (12 + t)) (rh F u (um (um M 85 W) 79 S'))
      simp only [true_and]
      exact q
  cases hg : gor (M 70) m o with
  | false =>
    refine ⟨S', W, fun h => (by cases h), fun _ => rfl, fun F X Q q => a2 _ _ ⟨_, b2 _ _ _ (key F X Q ?_)⟩⟩
    rw [hg]
    simp only [Bool.false_eq_true, if_false, Int.add_zero] at q ⊢
    rw [mX12_layRows_L92]
    by_cases d : M 70 (12 + t) = 0
    · rw [if_pos d]
      simp (disch := first | omega | decide) only [mX12_layRows_J181, ↓rh_rcv, ↓rh_g0, ↓be_y, ↓be_n, ↓bf_y, ↓bf_n, ↓bl_y, ↓bl_n, ↓bm_y, ↓bm_n, ↓bg_y, ↓bg_n, ↓bs_y, ↓bs_n, ↓bo_y, ↓bo_n, ↓bp_y, ↓bp_n, ↓forall_eq, ↓within_y, ↓within_n, ↓isIn_y, ↓isIn_n, and_true, true_and, and_self, us_at, us_ne, w32_id, um_eq, um_ne, um_um, uu_eq, uu_ne, uu_uu, vv_eq, vv_ne, vv_vv, ne_eq, not_false_eq_true, not_true_eq_false, reduceCtorEq, Int.reduceAdd, Int.reduceSub, Int.reduceMul, Int.reduceNeg, Nat.reduceEqDiff, or_true, true_or, true_implies, false_implies, Int.reduceLT, Int.reduceLE, Int.reduceEq]
      exact q
    · rw [if_neg d]
      simp (disch := first | omega | decide) only [mX12_layRows_J181, ↓rh_rcv, ↓rh_g0, ↓be_y, ↓be_n, ↓bf_y, ↓bf_n, ↓bl_y, ↓bl_n, ↓bm_y, ↓bm_n, ↓bg_y, ↓bg_n, ↓bs_y, ↓bs_n, ↓bo_y, ↓bo_n, ↓bp_y, ↓bp_n, ↓forall_eq, ↓within_y, ↓within_n, ↓isIn_y, ↓isIn_n, and_true, true_and, and_self, us_at, us_ne, w32_id, um_eq, um_ne, um_um, uu_eq, uu_ne, uu_uu, vv_eq, vv_ne, vv_vv, ne_eq, not_false_eq_true, not_true_eq_false, reduceCtorEq, Int.reduceAdd, Int.reduceSub, Int.reduceMul, Int.reduceNeg, Nat.reduceEqDiff, or_true, true_or, true_implies, false_implies, Int.reduceLT, Int.reduceLE, Int.reduceEq]
      exact q
  | true =>
    by_cases d0 : c = 0
    · refine ⟨S', cpy S' W 0 0 (M 70 (12 + t)), fun _ _ => ?_, fun h => (by rcases h with h | h; cases h; exact absurd d0 h), fun F X Q q => a2 _ _ ⟨_, b2 _ _ _ (key F X Q ?_)⟩⟩
      · rw [tl_congr (g := S') (fun i i0 i1 => by rw [Int.zero_add]; exact cp_l i0 i1)]
        rw [fn] at b1
        exact b1
      · rw [hg]
        simp only [if_true] at q ⊢
        have ll := low_l (u := u) (M := um M 85 W) (S := S') (W := W) (t := t) (m := M 70 (12 + t)) (a3 := c) (a4 := o) (F := F) (X := X) (Q := Q) (by omega) (by rw [um_85]; exact q) (M 70 (12 + t)).toNat 0 (by omega) (by omega)
        rw [cpy_0, um_85] at ll
        rw [mX12_layRows_L92]
        by_cases d : M 70 (12 + t) = 0
        · rw [if_pos d]
          simp (disch := first | omega | decide) only [w32_id, ↓rh_rcv, ↓rh_g0, ↓be_y, ↓be_n, ↓bf_y, ↓bf_n, ↓bl_y, ↓bl_n, ↓bm_y, ↓bm_n, ↓bg_y, ↓bg_n, ↓bs_y, ↓bs_n, ↓bo_y, ↓bo_n, ↓bp_y, ↓bp_n, ↓forall_eq, ↓within_y, ↓within_n, ↓isIn_y, ↓isIn_n, and_true, true_and, and_self, us_at, us_ne, w32_id, um_eq, um_ne, um_um, uu_eq, uu_ne, uu_uu, vv_eq, vv_ne, vv_vv, ne_eq, not_false_eq_true, not_true_eq_false, reduceCtorEq, Int.reduceAdd, Int.reduceSub, Int.reduceMul, Int.reduceNeg, Nat.reduceEqDiff, or_true, true_or, true_implies, false_implies, Int.reduceLT, Int.reduceLE, Int.reduceEq]
          exact ⟨_, ll⟩
        · rw [if_neg d]
          simp (disch := first | omega | decide) only [w32_id, ↓rh_rcv, ↓rh_g0, ↓be_y, ↓be_n, ↓bf_y, ↓bf_n, ↓bl_y, ↓bl_n, ↓bm_y, ↓bm_n, ↓bg_y, ↓bg_n, ↓bs_y, ↓bs_n, ↓bo_y, ↓bo_n, ↓bp_y, ↓bp_n, ↓forall_eq, ↓within_y, ↓within_n, ↓isIn_y, ↓isIn_n, and_true, true_and, and_self, us_at, us_ne, w32_id, um_eq, um_ne, um_um, uu_eq, uu_ne, uu_uu, vv_eq, vv_ne, vv_vv, ne_eq, not_false_eq_true, not_true_eq_false, reduceCtorEq, Int.reduceAdd, Int.reduceSub, Int.reduceMul, Int.reduceNeg, Nat.reduceEqDiff, or_true, true_or, true_implies, false_implies, Int.reduceLT, Int.reduceLE, Int.reduceEq]
          exact ⟨_, ll⟩
    · refine ⟨S', W, fun _ h => absurd h d0, fun _ => rfl, fun F X Q q => a2 _ _ ⟨_, b2 _ _ _ (key F X Q ?_)⟩⟩
      rw [hg]
      simp only [if_true] at q ⊢
      rw [mX12_layRows_L92]
      by_cases d : M 70 (12 + t) = 0
      · rw [if_pos d]
        simp (disch := first | omega | decide) only [mX12_layRows_J178, mX12_layRows_J181, ↓rh_rcv, ↓rh_g0, ↓be_y, ↓be_n, ↓bf_y, ↓bf_n, ↓bl_y, ↓bl_n, ↓bm_y, ↓bm_n, ↓bg_y, ↓bg_n, ↓bs_y, ↓bs_n, ↓bo_y, ↓bo_n, ↓bp_y, ↓bp_n, ↓forall_eq, ↓within_y, ↓within_n, ↓isIn_y, ↓isIn_n, and_true, true_and, and_self, us_at, us_ne, w32_id, um_eq, um_ne, um_um, uu_eq, uu_ne, uu_uu, vv_eq, vv_ne, vv_vv, ne_eq, not_false_eq_true, not_true_eq_false, reduceCtorEq, Int.reduceAdd, Int.reduceSub, Int.reduceMul, Int.reduceNeg, Nat.reduceEqDiff, or_true, true_or, true_implies, false_implies, Int.reduceLT, Int.reduceLE, Int.reduceEq]
        exact q
      · rw [if_neg d]
        simp (disch := first | omega | decide) only [mX12_layRows_J178, mX12_layRows_J181, ↓rh_rcv, ↓rh_g0, ↓be_y, ↓be_n, ↓bf_y, ↓bf_n, ↓bl_y, ↓bl_n, ↓bm_y, ↓bm_n, ↓bg_y, ↓bg_n, ↓bs_y, ↓bs_n, ↓bo_y, ↓bo_n, ↓bp_y, ↓bp_n, ↓forall_eq, ↓within_y, ↓within_n, ↓isIn_y, ↓isIn_n, and_true, true_and, and_self, us_at, us_ne, w32_id, um_eq, um_ne, um_um, uu_eq, uu_ne, uu_uu, vv_eq, vv_ne, vv_vv, ne_eq, not_false_eq_true, not_true_eq_false, reduceCtorEq, Int.reduceAdd, Int.reduceSub, Int.reduceMul, Int.reduceNeg, Nat.reduceEqDiff, or_true, true_or, true_implies, false_implies, Int.reduceLT, Int.reduceLE, Int.reduceEq]
        exact q
def fcI (n : Int) : Int := if n = 5 then 120 else rowsI (4 - n)
theorem fcI_b (n : Int) : 1 ≤ fcI n ∧ fcI n ≤ 120 := by
  unfold fcI
  have := rowsI_b (p := 4 - n)
  split <;> omega
theorem rows_r (hY : jY (N 12) (M 70)) (hC : jC (N 15) (N 16) (N 17) (N 18) (N 19) (M 70)) (hF : jF (v 10 15) (M 70)) {m t : Int} (ht : 0 ≤ t ∧ t < 3) (hm : ∀ c, 0 ≤ c → c ≤ 4 → tb m c = decide (c ∈ onl (M 70) t)) : ∀ (k : Nat) (o c : Int) (S W : Int → Int), o + k = 120 → 0 ≤ o → 0 ≤ c ∧ c ≤ o → ∃ S' W', (c ≠ 0 → W' = W) ∧ (c = 0 → ∀ p, o ≤ p → p < 120 → gor (M 70) m p = true → (∀ j, o ≤ j → j < p → gor (M 70) m j = false) → tl W' 0 (M 70 (12 + t)) = frl p m 5) ∧ ∀ (F : hp) (Q : Int → hp → Prop), Q (((c + cnr (M 70) m k o) * fcI (M 70 (12 + t))) / 120) (rh F u (um (um M 85 W') 79 S')) → mX12_layRows_L15 Q (k + 1) 69 t (M 70 (12 + t)) c o (rh F u (um (um M 85 W) 79 S)) := by
  have w := (trk hY ht).1
  intro k
  induction k with
  | zero =>
    intro o c S W ho h0 hc
    refine ⟨S, W, fun _ => rfl, fun _ p p0 p1 => by omega, fun F Q q => ?_⟩
    rw [mX12_layRows_L15]
    have fb := fcI_b (M 70 (12 + t))
    have m1 : 0 ≤ c * fcI (M 70 (12 + t)) := Int.mul_nonneg (by omega) (by omega)
    have m2 : c * fcI (M 70 (12 + t)) ≤ 120 * 120 := Int.mul_le_mul (by omega) (by omega) (by omega) (by omega)
    rw [w32_id (x := o) (by omega) (by omega)]
    refine ⟨fun d => by omega, fun _ => fact_s (by omega) ?_⟩
    show Q ((w32 (c * fcI (M 70 (12 + t)))).tdiv 120) _
    rw [w32_id (by omega) (by omega), td m1]
    rw [cnr, Int.add_zero] at q
    exact q
  | succ k ih =>
    intro o c S W ho h0 hc
    obtain ⟨S1, W1, a1, a2, a3⟩ := row1 (u := u) hY hC hF (o := o) (m := m) (t := t) (c := c) (by omega) ht hm (by omega) S W
    obtain ⟨S', W', b1, b2, b3⟩ := ih (o + 1) (c + (if gor (M 70) m o then 1 else 0)) S1 W1 (by omega) (by omega) (by split <;> omega)
    refine ⟨S', W', fun hn => ?_, fun hz p p0 p1 p2 p3 => ?_, fun F Q q => ?_⟩
    · rw [b1 (by split <;> omega), a2 (.inr hn)]
    · by_cases d : p = o
      · subst d
        rw [b1 (by rw [p2]; simp only [if_true]; omega)]
        exact a1 p2 hz
      · have go := p3 o (by omega) (by omega)
        exact b2 (by rw [go]; simp only [Bool.false_eq_true, if_false]; omega) p (by omega) p1 p2 (fun j j0 j1 => p3 j (by omega) j1)
    · rw [mX12_layRows_L15]
      simp (disch := first | omega | decide) only [w32_id, ↓rh_rcv, ↓rh_g0, ↓be_y, ↓be_n, ↓bf_y, ↓bf_n, ↓bl_y, ↓bl_n, ↓bm_y, ↓bm_n, ↓bg_y, ↓bg_n, ↓bs_y, ↓bs_n, ↓bo_y, ↓bo_n, ↓bp_y, ↓bp_n, ↓forall_eq, ↓within_y, ↓within_n, ↓isIn_y, ↓isIn_n, and_true, true_and, and_self, us_at, us_ne, w32_id, um_eq, um_ne, um_um, uu_eq, uu_ne, uu_uu, vv_eq, vv_ne, vv_vv, ne_eq, not_false_eq_true, not_true_eq_false, reduceCtorEq, Int.reduceAdd, Int.reduceSub, Int.reduceMul, Int.reduceNeg, Nat.reduceEqDiff, or_true, true_or, true_implies, false_implies, Int.reduceLT, Int.reduceLE, Int.reduceEq]
      refine a3 _ _ _ ?_
      rw [cnr, ← Int.add_assoc] at q
      exact b3 F Q q
theorem rows_c (hY : jY (N 12) (M 70)) {m t P : Int} (ht : 0 ≤ t ∧ t < 3) (hm : 0 ≤ m ∧ m ≤ 31) (hmA : ∀ c, 0 ≤ c → c ≤ 4 → tb m c = true → c < M 70 0) (hP : 0 ≤ P ∧ P ≤ 33554431) (hpr : ∀ a b, 0 ≤ a → a < M 70 0 → 0 ≤ b → b < M 70 0 → tb P (5 * a + b) = !zForb (M 70) a b) : ∀ (k : Nat) (o c : Int) (R : Int → Int), o + k = 120 → 0 ≤ o → 0 ≤ c ∧ c ≤ o → ∃ R', ∀ (F : hp) (Q : Int → hp → Prop), Q (((c + cnr (M 70) m k o) * fcI (M 70 (12 + t))) / 120) (kh F v (um N 63 R') T) → mX11_rows_L37 Q (k + 1) 8 t P m c o (kh F v (um N 63 R) T) := by
  have w := (trk hY ht).1
  have w1 := w.1
  have hcc := jY_c hY
  intro k
  induction k with
  | zero =>
    intro o c R ho h0 hc
    refine ⟨R, fun F Q q => ?_⟩
    have fb := fcI_b (M 70 (12 + t))
    have m1 : 0 ≤ c * fcI (M 70 (12 + t)) := Int.mul_nonneg (by omega) (by omega)
    have m2 : c * fcI (M 70 (12 + t)) ≤ 120 * 120 := Int.mul_le_mul (by omega) (by omega) (by omega) (by omega)
    rw [cnr, Int.add_zero] at q
    rw [mX11_rows_L37]
    simp (disch := first | omega | decide) only [mX10_countOn, ↓kh_c8, ↓kh_g8_0, ↓kh_g8_1, ↓kh_g8_2, ↓kh_g8_3, ↓kh_g8_4, ↓kh_g8_5, ↓kh_g8_6, ↓kh_g8_7, ↓kh_c10, ↓kh_g10_0, ↓kh_g10_1, ↓kh_g10_2, ↓kh_g10_3, ↓kh_g10_4, ↓kh_g10_5, ↓kh_g10_6, ↓kh_g10_7, ↓kh_g10_8, ↓kh_g10_9, ↓kh_g10_10, ↓kh_g10_11, ↓kh_g10_12, ↓kh_p10_12, ↓kh_g10_13, ↓kh_p10_13, ↓kh_g10_14, ↓kh_p10_14, ↓kh_g10_15, ↓kh_p10_15, ↓kh_c11, ↓kh_g11_0, ↓kh_r12, ↓kh_w12, ↓kh_n12, ↓kh_cp12_33, ↓kh_cp12_68, ↓kh_cp12_12, ↓kh_cp12_14, ↓be_y, ↓be_n, ↓bf_y, ↓bf_n, ↓bl_y, ↓bl_n, ↓bm_y, ↓bm_n, ↓bg_y, ↓bg_n, ↓bs_y, ↓bs_n, ↓bo_y, ↓bo_n, ↓bp_y, ↓bp_n, ↓forall_eq, ↓within_y, ↓within_n, ↓isIn_y, ↓isIn_n, and_true, true_and, and_self, us_at, us_ne, w32_id, um_eq, um_ne, um_um, uu_eq, uu_ne, uu_uu, vv_eq, vv_ne, vv_vv, ne_eq, not_false_eq_true, not_true_eq_false, reduceCtorEq, Int.reduceAdd, Int.reduceSub, Int.reduceMul, Int.reduceNeg, Nat.reduceEqDiff, or_true, true_or, true_implies, false_implies, Int.reduceLT, Int.reduceLE, Int.reduceEq, w1]
    refine crows_s (by omega) ?_
    show Q ((w64 (c * (w32 (fcI (M 70 (12 + t)))))).tdiv 120) _
    rw [w32_id (by omega) (by omega), w64_id (by omega) (by omega), td m1]
    exact q
  | succ k ih =>
    intro o c R ho h0 hc
    obtain ⟨R1, a1, a2⟩ := may_c (v := v) (N := N) (T := T) (A := M 70) (o := o) (m := m) (P := P) (by omega) hm hmA hP hcc.2.2 hpr R
    obtain ⟨R', b1⟩ := ih (o + 1) (c + (if gor (M 70) m o then 1 else 0)) R1 (by omega) (by omega) (by split <;> omega)
    refine ⟨R', fun F Q q => ?_⟩
    rw [cnr, ← Int.add_assoc] at q
    have g := b1 F Q q
    rw [mX11_rows_L37]
    simp (disch := first | omega | decide) only [w32_id, ↓kh_c8, ↓kh_g8_0, ↓kh_g8_1, ↓kh_g8_2, ↓kh_g8_3, ↓kh_g8_4, ↓kh_g8_5, ↓kh_g8_6, ↓kh_g8_7, ↓kh_c62, ↓kh_g62_0, ↓be_y, ↓be_n, ↓bf_y, ↓bf_n, ↓bl_y, ↓bl_n, ↓bm_y, ↓bm_n, ↓bg_y, ↓bg_n, ↓bs_y, ↓bs_n, ↓bo_y, ↓bo_n, ↓bp_y, ↓bp_n, ↓forall_eq, ↓within_y, ↓within_n, ↓isIn_y, ↓isIn_n, and_true, true_and, and_self, us_at, us_ne, w32_id, um_eq, um_ne, um_um, uu_eq, uu_ne, uu_uu, vv_eq, vv_ne, vv_vv, ne_eq, not_false_eq_true, not_true_eq_false, reduceCtorEq, Int.reduceAdd, Int.reduceSub, Int.reduceMul, Int.reduceNeg, Nat.reduceEqDiff, or_true, true_or, true_implies, false_implies, Int.reduceLT, Int.reduceLE, Int.reduceEq]
    refine a2 _ _ ?_
    cases hg : gor (M 70) m o with
    | true =>
      have hg' : okl (zForb (M 70)) (frl o m 5) = true := hg
      rw [hg] at g
      simp only [if_true] at g
      simp only [hg', if_true]
      simp (disch := first | omega | decide) only [mX11_rows_J64, ↓kh_c8, ↓kh_g8_0, ↓kh_g8_1, ↓kh_g8_2, ↓kh_g8_3, ↓kh_g8_4, ↓kh_g8_5, ↓kh_g8_6, ↓kh_g8_7, ↓be_y, ↓be_n, ↓bf_y, ↓bf_n, ↓bl_y, ↓bl_n, ↓bm_y, ↓bm_n, ↓bg_y, ↓bg_n, ↓bs_y, ↓bs_n, ↓bo_y, ↓bo_n, ↓bp_y, ↓bp_n, ↓forall_eq, ↓within_y, ↓within_n, ↓isIn_y, ↓isIn_n, and_true, true_and, and_self, us_at, us_ne, w32_id, um_eq, um_ne, um_um, uu_eq, uu_ne, uu_uu, vv_eq, vv_ne, vv_vv, ne_eq, not_false_eq_true, not_true_eq_false, reduceCtorEq, Int.reduceAdd, Int.reduceSub, Int.reduceMul, Int.reduceNeg, Nat.reduceEqDiff, or_true, true_or, true_implies, false_implies, Int.reduceLT, Int.reduceLE, Int.reduceEq]
      exact g
    | false =>
      have hg' : okl (zForb (M 70)) (frl o m 5) = false := hg
      rw [hg] at g
      simp only [Bool.false_eq_true, if_false, Int.add_zero] at g
      simp only [hg', Bool.false_eq_true, if_false]
      simp (disch := first | omega | decide) only [mX11_rows_J64, ↓kh_c8, ↓kh_g8_0, ↓kh_g8_1, ↓kh_g8_2, ↓kh_g8_3, ↓kh_g8_4, ↓kh_g8_5, ↓kh_g8_6, ↓kh_g8_7, ↓be_y, ↓be_n, ↓bf_y, ↓bf_n, ↓bl_y, ↓bl_n, ↓bm_y, ↓bm_n, ↓bg_y, ↓bg_n, ↓bs_y, ↓bs_n, ↓bo_y, ↓bo_n, ↓bp_y, ↓bp_n, ↓forall_eq, ↓within_y, ↓within_n, ↓isIn_y, ↓isIn_n, and_true, true_and, and_self, us_at, us_ne, w32_id, um_eq, um_ne, um_um, uu_eq, uu_ne, uu_uu, vv_eq, vv_ne, vv_vv, ne_eq, not_false_eq_true, not_true_eq_false, reduceCtorEq, Int.reduceAdd, Int.reduceSub, Int.reduceMul, Int.reduceNeg, Nat.reduceEqDiff, or_true, true_or, true_implies, false_implies, Int.reduceLT, Int.reduceLE, Int.reduceEq]
      exact g
theorem low_c (hY : jY (N 12) (M 70)) {m t P : Int} (ht : 0 ≤ t ∧ t < 3) (hm : 0 ≤ m ∧ m ≤ 31) (hmA : ∀ c, 0 ≤ c → c ≤ 4 → tb m c = true → c < M 70 0) (hP : 0 ≤ P ∧ P ≤ 33554431) (hpr : ∀ a b, 0 ≤ a → a < M 70 0 → 0 ≤ b → b < M 70 0 → tb P (5 * a + b) = !zForb (M 70) a b) (hl : ∀ o, 0 ≤ o → o < 120 → ((frl o m 5).length : Int) = M 70 (12 + t)) (hx : 0 ≤ x2 ∧ x2 < M 70 (12 + t)) : ∀ (k : Nat) (o : Int) (R : Int → Int), o + k = 120 → 0 ≤ o → (∃ p r, (o ≤ p ∧ p < 120) ∧ gor (M 70) m p = true ∧ (∀ j, o ≤ j → j < p → gor (M 70) m j = false) ∧ (frl p m 5)[x2.toNat]? = some r ∧ ∃ R', ∀ (F : hp) (Q : Int → hp → Prop), Q r (kh F v (um N 63 R') T) → mX11_lowest_L55 Q (k + 1) 8 x2 P m o (kh F v (um N 63 R) T)) ∨ ((∀ j, o ≤ j → j < 120 → gor (M 70) m j = false) ∧ ∃ R', ∀ (F : hp) (Q : Int → hp → Prop), Q (-2) (kh F v (um N 63 R') T) → mX11_lowest_L55 Q (k + 1) 8 x2 P m o (kh F v (um N 63 R) T)) := by
  have w := (trk hY ht).1
  have hcc := jY_c hY
  intro k
  induction k with
  | zero =>
    intro o R ho h0
    refine .inr ⟨fun j j0 j1 => by omega, R, fun F Q q => ?_⟩
    rw [mX11_lowest_L55]
    simp (disch := first | omega | decide) only [w32_id, ↓kh_c8, ↓kh_g8_0, ↓kh_g8_1, ↓kh_g8_2, ↓kh_g8_3, ↓kh_g8_4, ↓kh_g8_5, ↓kh_g8_6, ↓kh_g8_7, ↓be_y, ↓be_n, ↓bf_y, ↓bf_n, ↓bl_y, ↓bl_n, ↓bm_y, ↓bm_n, ↓bg_y, ↓bg_n, ↓bs_y, ↓bs_n, ↓bo_y, ↓bo_n, ↓bp_y, ↓bp_n, ↓forall_eq, ↓within_y, ↓within_n, ↓isIn_y, ↓isIn_n, and_true, true_and, and_self, us_at, us_ne, w32_id, um_eq, um_ne, um_um, uu_eq, uu_ne, uu_uu, vv_eq, vv_ne, vv_vv, ne_eq, not_false_eq_true, not_true_eq_false, reduceCtorEq, Int.reduceAdd, Int.reduceSub, Int.reduceMul, Int.reduceNeg, Nat.reduceEqDiff, or_true, true_or, true_implies, false_implies, Int.reduceLT, Int.reduceLE, Int.reduceEq]
    exact q
  | succ k ih =>
    intro o R ho h0
    obtain ⟨R1, a1, a2⟩ := may_c (v := v) (N := N) (T := T) (A := M 70) (o := o) (m := m) (P := P) (by omega) hm hmA hP hcc.2.2 hpr R
    cases hg : gor (M 70) m o with
    | true =>
      rw [hl o (by omega) (by omega)] at a1
      have g := tl_get a1 hx.1 hx.2
      rw [Int.zero_add] at g
      refine .inl ⟨o, R1 x2, by omega, hg, fun j j0 j1 => by omega, g, R1, fun F Q q => ?_⟩
      rw [mX11_lowest_L55]
      simp (disch := first | omega | decide) only [w32_id, ↓kh_c8, ↓kh_g8_0, ↓kh_g8_1, ↓kh_g8_2, ↓kh_g8_3, ↓kh_g8_4, ↓kh_g8_5, ↓kh_g8_6, ↓kh_g8_7, ↓kh_c62, ↓kh_g62_0, ↓be_y, ↓be_n, ↓bf_y, ↓bf_n, ↓bl_y, ↓bl_n, ↓bm_y, ↓bm_n, ↓bg_y, ↓bg_n, ↓bs_y, ↓bs_n, ↓bo_y, ↓bo_n, ↓bp_y, ↓bp_n, ↓forall_eq, ↓within_y, ↓within_n, ↓isIn_y, ↓isIn_n, and_true, true_and, and_self, us_at, us_ne, w32_id, um_eq, um_ne, um_um, uu_eq, uu_ne, uu_uu, vv_eq, vv_ne, vv_vv, ne_eq, not_false_eq_true, not_true_eq_false, reduceCtorEq, Int.reduceAdd, Int.reduceSub, Int.reduceMul, Int.reduceNeg, Nat.reduceEqDiff, or_true, true_or, true_implies, false_implies, Int.reduceLT, Int.reduceLE, Int.reduceEq]
      refine a2 _ _ ?_
      have hg' : okl (zForb (M 70)) (frl o m 5) = true := hg
      simp only [hg', if_true]
      simp (disch := first | omega | decide) only [w32_id, ↓kh_c8, ↓kh_g8_0, ↓kh_g8_1, ↓kh_g8_2, ↓kh_g8_3, ↓kh_g8_4, ↓kh_g8_5, ↓kh_g8_6, ↓kh_g8_7, ↓kh_c62, ↓kh_g62_0, ↓kh_r63, ↓kh_w63, ↓kh_n63, ↓be_y, ↓be_n, ↓bf_y, ↓bf_n, ↓bl_y, ↓bl_n, ↓bm_y, ↓bm_n, ↓bg_y, ↓bg_n, ↓bs_y, ↓bs_n, ↓bo_y, ↓bo_n, ↓bp_y, ↓bp_n, ↓forall_eq, ↓within_y, ↓within_n, ↓isIn_y, ↓isIn_n, and_true, true_and, and_self, us_at, us_ne, w32_id, um_eq, um_ne, um_um, uu_eq, uu_ne, uu_uu, vv_eq, vv_ne, vv_vv, ne_eq, not_false_eq_true, not_true_eq_false, reduceCtorEq, Int.reduceAdd, Int.reduceSub, Int.reduceMul, Int.reduceNeg, Nat.reduceEqDiff, or_true, true_or, true_implies, false_implies, Int.reduceLT, Int.reduceLE, Int.reduceEq]
      exact q
    | false =>
      have st : ∀ (R' : Int → Int) (r : Int), (∀ (F : hp) (Q : Int → hp → Prop), Q r (kh F v (um N 63 R') T) → mX11_lowest_L55 Q (k + 1) 8 x2 P m (o + 1) (kh F v (um N 63 R1) T)) → ∀ (F : hp) (Q : Int → hp → Prop), Q r (kh F v (um N 63 R') T) → mX11_lowest_L55 Q (k + 1 + 1) 8 x2 P m o (kh F v (um N 63 R) T) := by
        intro R' r hh F Q q
        rw [mX11_lowest_L55]
        simp (disch := first | omega | decide) only [w32_id, ↓kh_c8, ↓kh_g8_0, ↓kh_g8_1, ↓kh_g8_2, ↓kh_g8_3, ↓kh_g8_4, ↓kh_g8_5, ↓kh_g8_6, ↓kh_g8_7, ↓kh_c62, ↓kh_g62_0, ↓be_y, ↓be_n, ↓bf_y, ↓bf_n, ↓bl_y, ↓bl_n, ↓bm_y, ↓bm_n, ↓bg_y, ↓bg_n, ↓bs_y, ↓bs_n, ↓bo_y, ↓bo_n, ↓bp_y, ↓bp_n, ↓forall_eq, ↓within_y, ↓within_n, ↓isIn_y, ↓isIn_n, and_true, true_and, and_self, us_at, us_ne, w32_id, um_eq, um_ne, um_um, uu_eq, uu_ne, uu_uu, vv_eq, vv_ne, vv_vv, ne_eq, not_false_eq_true, not_true_eq_false, reduceCtorEq, Int.reduceAdd, Int.reduceSub, Int.reduceMul, Int.reduceNeg, Nat.reduceEqDiff, or_true, true_or, true_implies, false_implies, Int.reduceLT, Int.reduceLE, Int.reduceEq]
        refine a2 _ _ ?_
        have hg' : okl (zForb (M 70)) (frl o m 5) = false := hg
        simp only [hg', Bool.false_eq_true, if_false]
        simp (disch := first | omega | decide) only [w32_id, ↓kh_c8, ↓kh_g8_0, ↓kh_g8_1, ↓kh_g8_2, ↓kh_g8_3, ↓kh_g8_4, ↓kh_g8_5, ↓kh_g8_6, ↓kh_g8_7, ↓be_y, ↓be_n, ↓bf_y, ↓bf_n, ↓bl_y, ↓bl_n, ↓bm_y, ↓bm_n, ↓bg_y, ↓bg_n, ↓bs_y, ↓bs_n, ↓bo_y, ↓bo_n, ↓bp_y, ↓bp_n, ↓forall_eq, ↓within_y, ↓within_n, ↓isIn_y, ↓isIn_n, and_true, true_and, and_self, us_at, us_ne, w32_id, um_eq, um_ne, um_um, uu_eq, uu_ne, uu_uu, vv_eq, vv_ne, vv_vv, ne_eq, not_false_eq_true, not_true_eq_false, reduceCtorEq, Int.reduceAdd, Int.reduceSub, Int.reduceMul, Int.reduceNeg, Nat.reduceEqDiff, or_true, true_or, true_implies, false_implies, Int.reduceLT, Int.reduceLE, Int.reduceEq]
        exact hh F Q q
      rcases ih (o + 1) R1 (by omega) (by omega) with ⟨p, r, p0, p1, p2, p3, R', p4⟩ | ⟨p0, R', p1⟩
      · refine .inl ⟨p, r, by omega, p1, fun j j0 j1 => ?_, p3, R', st R' r p4⟩
        by_cases d : j = o
        · subst d; exact hg
        · exact p2 j (by omega) j1
      · refine .inr ⟨fun j j0 j1 => ?_, R', st R' (-2) p1⟩
        by_cases d : j = o
        · subst d; exact hg
        · exact p0 j (by omega) j1
theorem cnr_0 {A : Int → Int} {m : Int} : ∀ (k : Nat) (o : Int), o + k = 120 → (∀ j, o ≤ j → j < 120 → gor A m j = false) → cnr A m k o = 0 := by
  intro k
  induction k with
  | zero => intro o _ _; rfl
  | succ k ih =>
    intro o ho h
    rw [cnr, h o (by omega) (by omega), ih (o + 1) (by omega) (fun j j0 j1 => h j (by omega) j1)]
    rfl
theorem um_7985 (M : Nat → Int → Int) : um (um M 85 (M 85)) 79 (M 79) = M := by rw [um_self, um_self]
set_option maxHeartbeats 4000000 in
theorem op_rows (h1 : -2147483648 ≤ x1 ∧ x1 ≤ 2147483647) : OP n (mX11_rows 8 x1) (mX12_rows 69 x1) := by
  refine op_to (fun G v N T u M h => ?_)
  obtain ⟨⟨hY, hK, hC, hF, hB, hT, hS, hD, hX, hG⟩, hI, hM, hL, hW, hH, hN⟩ := id h
  have hc := jY_c hY
  by_cases c : 0 ≤ x1 ∧ x1 ≤ 2
  · obtain ⟨P, p1, p2, p3⟩ := prs_c (v := v) (N := N) (T := T) hY hC hF
    obtain ⟨m, m1, m2, m3⟩ := con_c (v := v) (N := N) (T := T) hY (t := x1) (by omega)
    have hmA : ∀ c, 0 ≤ c → c ≤ 4 → tb m c = true → c < M 70 0 := fun c c0 c1 ht => (onl_in hY (t := x1) (by omega) (of_decide_eq_true (by rw [← m2 c c0 c1]; exact ht))).2
    have w := (trk hY (t := x1) (by omega)).1
    have w1 := w.1
    obtain ⟨R', a1⟩ := rows_c (v := v) (N := N) (T := T) (P := P) hY (t := x1) (by omega) m1 hmA p1 p2 120 0 0 (N 63) (by omega) (by omega) (by omega)
    obtain ⟨S', W', -, -, b1⟩ := rows_r (u := u) hY hC hF (m := m) (t := x1) (by omega) m2 120 0 0 (M 79) (M 85) (by omega) (by omega) (by omega)
    rw [um_self] at a1
    rw [um_7985] at b1
    have fb := fcI_b (M 70 (12 + x1))
    have cb := cnr_b (M 70) m 120 0
    have z1 : 0 ≤ (0 + cnr (M 70) m 120 0) * fcI (M 70 (12 + x1)) := Int.mul_nonneg (by omega) (by omega)
    have z2 : (0 + cnr (M 70) m 120 0) * fcI (M 70 (12 + x1)) ≤ 120 * 120 := Int.mul_le_mul (by omega) (by omega) (by omega) (by omega)
    refine ⟨((0 + cnr (M 70) m 120 0) * fcI (M 70 (12 + x1))) / 120, v, um N 63 R', u, um (um M 85 W') 79 S', Rel_up h, fun F Q q => ?_, fun F Q q => ?_⟩
    · simp (disch := first | omega | decide) only [mX11_rows, mX11_isTrack, ↓kh_c8, ↓kh_g8_0, ↓kh_g8_1, ↓kh_g8_2, ↓kh_g8_3, ↓kh_g8_4, ↓kh_g8_5, ↓kh_g8_6, ↓kh_g8_7, ↓kh_c10, ↓kh_g10_0, ↓kh_g10_1, ↓kh_g10_2, ↓kh_g10_3, ↓kh_g10_4, ↓kh_g10_5, ↓kh_g10_6, ↓kh_g10_7, ↓kh_g10_8, ↓kh_g10_9, ↓kh_g10_10, ↓kh_g10_11, ↓kh_g10_12, ↓kh_p10_12, ↓kh_g10_13, ↓kh_p10_13, ↓kh_g10_14, ↓kh_p10_14, ↓kh_g10_15, ↓kh_p10_15, ↓be_y, ↓be_n, ↓bf_y, ↓bf_n, ↓bl_y, ↓bl_n, ↓bm_y, ↓bm_n, ↓bg_y, ↓bg_n, ↓bs_y, ↓bs_n, ↓bo_y, ↓bo_n, ↓bp_y, ↓bp_n, ↓forall_eq, ↓within_y, ↓within_n, ↓isIn_y, ↓isIn_n, and_true, true_and, and_self, us_at, us_ne, w32_id, um_eq, um_ne, um_um, uu_eq, uu_ne, uu_uu, vv_eq, vv_ne, vv_vv, ne_eq, not_false_eq_true, not_true_eq_false, reduceCtorEq, Int.reduceAdd, Int.reduceSub, Int.reduceMul, Int.reduceNeg, Nat.reduceEqDiff, or_true, true_or, true_implies, false_implies, Int.reduceLT, Int.reduceLE, Int.reduceEq]
      refine p3 _ _ ?_
      simp (disch := first | omega | decide) only [w32_id, ↓kh_c8, ↓kh_g8_0, ↓kh_g8_1, ↓kh_g8_2, ↓kh_g8_3, ↓kh_g8_4, ↓kh_g8_5, ↓kh_g8_6, ↓kh_g8_7, ↓kh_c10, ↓kh_g10_0, ↓kh_g10_1, ↓kh_g10_2, ↓kh_g10_3, ↓kh_g10_4, ↓kh_g10_5, ↓kh_g10_6, ↓kh_g10_7, ↓kh_g10_8, ↓kh_g10_9, ↓kh_g10_10, ↓kh_g10_11, ↓kh_g10_12, ↓kh_p10_12, ↓kh_g10_13, ↓kh_p10_13, ↓kh_g10_14, ↓kh_p10_14, ↓kh_g10_15, ↓kh_p10_15, ↓kh_c11, ↓kh_g11_0, ↓be_y, ↓be_n, ↓bf_y, ↓bf_n, ↓bl_y, ↓bl_n, ↓bm_y, ↓bm_n, ↓bg_y, ↓bg_n, ↓bs_y, ↓bs_n, ↓bo_y, ↓bo_n, ↓bp_y, ↓bp_n, ↓forall_eq, ↓within_y, ↓within_n, ↓isIn_y, ↓isIn_n, and_true, true_and, and_self, us_at, us_ne, w32_id, um_eq, um_ne, um_um, uu_eq, uu_ne, uu_uu, vv_eq, vv_ne, vv_vv, ne_eq, not_false_eq_true, not_true_eq_false, reduceCtorEq, Int.reduceAdd, Int.reduceSub, Int.reduceMul, Int.reduceNeg, Nat.reduceEqDiff, or_true, true_or, true_implies, false_implies, Int.reduceLT, Int.reduceLE, Int.reduceEq]
      refine m3 _ _ ?_
      exact ⟨_, a1 F Q q⟩
    · simp (disch := first | omega | decide) only [mX12_rows, mX12_isTrack, mX12_layRows, ↓rh_rcv, ↓rh_g0, ↓rh_r70, ↓rh_w70, ↓be_y, ↓be_n, ↓bf_y, ↓bf_n, ↓bl_y, ↓bl_n, ↓bm_y, ↓bm_n, ↓bg_y, ↓bg_n, ↓bs_y, ↓bs_n, ↓bo_y, ↓bo_n, ↓bp_y, ↓bp_n, ↓forall_eq, ↓within_y, ↓within_n, ↓isIn_y, ↓isIn_n, and_true, true_and, and_self, us_at, us_ne, w32_id, um_eq, um_ne, um_um, uu_eq, uu_ne, uu_uu, vv_eq, vv_ne, vv_vv, ne_eq, not_false_eq_true, not_true_eq_false, reduceCtorEq, Int.reduceAdd, Int.reduceSub, Int.reduceMul, Int.reduceNeg, Nat.reduceEqDiff, or_true, true_or, true_implies, false_implies, Int.reduceLT, Int.reduceLE, Int.reduceEq]
      refine ⟨_, b1 F _ ?_⟩
      rw [w32_id (by omega) (by omega)]
      exact q
  · refine ⟨-1, v, N, u, M, Rel_up h, fun F Q q => ?_, fun F Q q => ?_⟩
    · by_cases d0 : 0 ≤ x1 ∧ x1 ≤ 2 <;> first | (exfalso; omega) | (simp (disch := omega) only [mX11_rows, mX11_isTrack, kh_c8, kh_g8_0, kh_g8_1, kh_g8_2, kh_g8_3, kh_g8_4, kh_g8_5, kh_g8_6, kh_g8_7, ↓i_pos, ↓i_neg, and_true, true_and, and_self, w32_id, us_at, us_ne, um_eq, um_ne, um_um, uu_eq, uu_ne, uu_uu, vv_eq, vv_ne, vv_vv, forall_eq, within_y, within_n, isIn_y, isIn_n, ne_eq, not_false_eq_true, not_true_eq_false, reduceCtorEq, Int.reduceAdd, Int.reduceSub, Int.reduceMul, Int.reduceNeg, Nat.reduceEqDiff, or_true, true_or, true_implies, false_implies, Int.reduceLT, Int.reduceLE, Int.reduceEq, iMax_l, iMax_r, iMin_l, iMin_r]; first | done | exact q)
    · by_cases d0 : 0 ≤ x1 ∧ x1 ≤ 2 <;> first | (exfalso; omega) | (simp (disch := omega) only [mX12_rows, mX12_isTrack, rh_rcv, rh_g0, ↓i_pos, ↓i_neg, and_true, true_and, and_self, w32_id, us_at, us_ne, um_eq, um_ne, um_um, uu_eq, uu_ne, uu_uu, vv_eq, vv_ne, vv_vv, forall_eq, within_y, within_n, isIn_y, isIn_n, ne_eq, not_false_eq_true, not_true_eq_false, reduceCtorEq, Int.reduceAdd, Int.reduceSub, Int.reduceMul, Int.reduceNeg, Nat.reduceEqDiff, or_true, true_or, true_implies, false_implies, Int.reduceLT, Int.reduceLE, Int.reduceEq, iMax_l, iMax_r, iMin_l, iMin_r]; first | done | exact q)
set_option maxHeartbeats 4000000 in
theorem op_lowest (h1 : -2147483648 ≤ x1 ∧ x1 ≤ 2147483647) (h2 : -2147483648 ≤ x2 ∧ x2 ≤ 2147483647) : OP n (mX11_lowest 8 x1 x2) (mX12_lowest 69 x1 x2) := by
  refine op_to (fun G v N T u M h => ?_)
  obtain ⟨⟨hY, hK, hC, hF, hB, hT, hS, hD, hX, hG⟩, hI, hM, hL, hW, hH, hN⟩ := id h
  have hc := jY_c hY
  by_cases c : 0 ≤ x1 ∧ x1 ≤ 2
  · have w := (trk hY (t := x1) (by omega)).1
    have w1 := w.1
    by_cases d : 0 ≤ x2 ∧ x2 < M 70 (12 + x1)
    · obtain ⟨P, p1, p2, p3⟩ := prs_c (v := v) (N := N) (T := T) hY hC hF
      obtain ⟨m, m1, m2, m3⟩ := con_c (v := v) (N := N) (T := T) hY (t := x1) (by omega)
      have hmA : ∀ c, 0 ≤ c → c ≤ 4 → tb m c = true → c < M 70 0 := fun c c0 c1 ht => (onl_in hY (t := x1) (by omega) (of_decide_eq_true (by rw [← m2 c c0 c1]; exact ht))).2
      obtain ⟨S', W', -, b0, b1⟩ := rows_r (u := u) hY hC hF (m := m) (t := x1) (by omega) m2 120 0 0 (M 79) (M 85) (by omega) (by omega) (by omega)
      rw [um_7985] at b1
      have fb := fcI_b (M 70 (12 + x1))
      have cb := cnr_b (M 70) m 120 0
      have z1 : 0 ≤ (0 + cnr (M 70) m 120 0) * fcI (M 70 (12 + x1)) := Int.mul_nonneg (by omega) (by omega)
      have z2 : (0 + cnr (M 70) m 120 0) * fcI (M 70 (12 + x1)) ≤ 120 * 120 := Int.mul_le_mul (by omega) (by omega) (by omega) (by omega)
      rcases low_c (v := v) (N := N) (T := T) (P := P) hY (t := x1) (by omega) m1 hmA p1 p2 (fun o o0 o1 => frl_n hY ⟨o0, o1⟩ (by omega) m2) d 120 0 (N 63) (by omega) (by omega) with ⟨p, r, q0, q1, q2, q3, R', q4⟩ | ⟨q0, R', q1⟩
      · rw [um_self] at q4
        have tw := b0 rfl p q0.1 q0.2 q1 q2
        have gw := tl_get tw d.1 d.2
        rw [q3, Int.zero_add] at gw
        have er : r = W' x2 := Option.some.inj gw
        have tb1 := cnr_tab m1 q0 q1
        rw [frl_n hY q0 (by omega) m2] at tb1
        have z3 : 1 ≤ ((0 + cnr (M 70) m 120 0) * fcI (M 70 (12 + x1))) / 120 := by
          have e : fcI (M 70 (12 + x1)) * cnr (M 70) m 120 0 = (0 + cnr (M 70) m 120 0) * fcI (M 70 (12 + x1)) := by rw [Int.zero_add, Int.mul_comm]
          have tb2 : 120 ≤ fcI (M 70 (12 + x1)) * cnr (M 70) m 120 0 := tb1
          omega
        refine ⟨r, v, um N 63 R', u, um (um M 85 W') 79 S', Rel_up h, fun F Q q => ?_, fun F Q q => ?_⟩
        · simp (disch := first | omega | decide) only [mX11_lowest, mX11_isTrack, mX10_countOn, ↓kh_c8, ↓kh_g8_0, ↓kh_g8_1, ↓kh_g8_2, ↓kh_g8_3, ↓kh_g8_4, ↓kh_g8_5, ↓kh_g8_6, ↓kh_g8_7, ↓kh_c10, ↓kh_g10_0, ↓kh_g10_1, ↓kh_g10_2, ↓kh_g10_3, ↓kh_g10_4, ↓kh_g10_5, ↓kh_g10_6, ↓kh_g10_7, ↓kh_g10_8, ↓kh_g10_9, ↓kh_g10_10, ↓kh_g10_11, ↓kh_g10_12, ↓kh_p10_12, ↓kh_g10_13, ↓kh_p10_13, ↓kh_g10_14, ↓kh_p10_14, ↓kh_g10_15, ↓kh_p10_15, ↓kh_c11, ↓kh_g11_0, ↓kh_r12, ↓kh_w12, ↓kh_n12, ↓kh_cp12_33, ↓kh_cp12_68, ↓kh_cp12_12, ↓kh_cp12_14, ↓be_y, ↓be_n, ↓bf_y, ↓bf_n, ↓bl_y, ↓bl_n, ↓bm_y, ↓bm_n, ↓bg_y, ↓bg_n, ↓bs_y, ↓bs_n, ↓bo_y, ↓bo_n, ↓bp_y, ↓bp_n, ↓forall_eq, ↓within_y, ↓within_n, ↓isIn_y, ↓isIn_n, and_true, true_and, and_self, us_at, us_ne, w32_id, um_eq, um_ne, um_um, uu_eq, uu_ne, uu_uu, vv_eq, vv_ne, vv_vv, ne_eq, not_false_eq_true, not_true_eq_false, reduceCtorEq, Int.reduceAdd, Int.reduceSub, Int.reduceMul, Int.reduceNeg, Nat.reduceEqDiff, or_true, true_or, true_implies, false_implies, Int.reduceLT, Int.reduceLE, Int.reduceEq, w1]
          refine p3 _ _ ?_
          simp (disch := first | omega | decide) only [w32_id, ↓kh_c8, ↓kh_g8_0, ↓kh_g8_1, ↓kh_g8_2, ↓kh_g8_3, ↓kh_g8_4, ↓kh_g8_5, ↓kh_g8_6, ↓kh_g8_7, ↓kh_c10, ↓kh_g10_0, ↓kh_g10_1, ↓kh_g10_2, ↓kh_g10_3, ↓kh_g10_4, ↓kh_g10_5, ↓kh_g10_6, ↓kh_g10_7, ↓kh_g10_8, ↓kh_g10_9, ↓kh_g10_10, ↓kh_g10_11, ↓kh_g10_12, ↓kh_p10_12, ↓kh_g10_13, ↓kh_p10_13, ↓kh_g10_14, ↓kh_p10_14, ↓kh_g10_15, ↓kh_p10_15, ↓kh_c11, ↓kh_g11_0, ↓be_y, ↓be_n, ↓bf_y, ↓bf_n, ↓bl_y, ↓bl_n, ↓bm_y, ↓bm_n, ↓bg_y, ↓bg_n, ↓bs_y, ↓bs_n, ↓bo_y, ↓bo_n, ↓bp_y, ↓bp_n, ↓forall_eq, ↓within_y, ↓within_n, ↓isIn_y, ↓isIn_n, and_true, true_and, and_self, us_at, us_ne, w32_id, um_eq, um_ne, um_um, uu_eq, uu_ne, uu_uu, vv_eq, vv_ne, vv_vv, ne_eq, not_false_eq_true, not_true_eq_false, reduceCtorEq, Int.reduceAdd, Int.reduceSub, Int.reduceMul, Int.reduceNeg, Nat.reduceEqDiff, or_true, true_or, true_implies, false_implies, Int.reduceLT, Int.reduceLE, Int.reduceEq]
          refine m3 _ _ ?_
          exact ⟨_, q4 F Q q⟩
        · simp (disch := first | omega | decide) only [mX12_lowest, mX12_isTrack, mX12_layRows, ↓rh_rcv, ↓rh_g0, ↓rh_r70, ↓rh_w70, ↓be_y, ↓be_n, ↓bf_y, ↓bf_n, ↓bl_y, ↓bl_n, ↓bm_y, ↓bm_n, ↓bg_y, ↓bg_n, ↓bs_y, ↓bs_n, ↓bo_y, ↓bo_n, ↓bp_y, ↓bp_n, ↓forall_eq, ↓within_y, ↓within_n, ↓isIn_y, ↓isIn_n, and_true, true_and, and_self, us_at, us_ne, w32_id, um_eq, um_ne, um_um, uu_eq, uu_ne, uu_uu, vv_eq, vv_ne, vv_vv, ne_eq, not_false_eq_true, not_true_eq_false, reduceCtorEq, Int.reduceAdd, Int.reduceSub, Int.reduceMul, Int.reduceNeg, Nat.reduceEqDiff, or_true, true_or, true_implies, false_implies, Int.reduceLT, Int.reduceLE, Int.reduceEq]
          refine ⟨_, b1 F _ ?_⟩
          simp (disch := first | omega | decide) only [w32_id, ↓rh_rcv, ↓rh_g0, ↓rh_g33, ↓rh_r85, ↓rh_w85, ↓be_y, ↓be_n, ↓bf_y, ↓bf_n, ↓bl_y, ↓bl_n, ↓bm_y, ↓bm_n, ↓bg_y, ↓bg_n, ↓bs_y, ↓bs_n, ↓bo_y, ↓bo_n, ↓bp_y, ↓bp_n, ↓forall_eq, ↓within_y, ↓within_n, ↓isIn_y, ↓isIn_n, and_true, true_and, and_self, us_at, us_ne, w32_id, um_eq, um_ne, um_um, uu_eq, uu_ne, uu_uu, vv_eq, vv_ne, vv_vv, ne_eq, not_false_eq_true, not_true_eq_false, reduceCtorEq, Int.reduceAdd, Int.reduceSub, Int.reduceMul, Int.reduceNeg, Nat.reduceEqDiff, or_true, true_or, true_implies, false_implies, Int.reduceLT, Int.reduceLE, Int.reduceEq]
          rw [← er]
          exact q
      · rw [um_self] at q1
        have c0 := cnr_0 (A := M 70) (m := m) 120 0 (by omega) q0
        have z3 : ((0 + cnr (M 70) m 120 0) * fcI (M 70 (12 + x1))) / 120 = 0 := by rw [c0]; simp
        rw [z3] at b1
        refine ⟨-2, v, um N 63 R', u, um (um M 85 W') 79 S', Rel_up h, fun F Q q => ?_, fun F Q q => ?_⟩
        · simp (disch := first | omega | decide) only [mX11_lowest, mX11_isTrack, mX10_countOn, ↓kh_c8, ↓kh_g8_0, ↓kh_g8_1, ↓kh_g8_2, ↓kh_g8_3, ↓kh_g8_4, ↓kh_g8_5, ↓kh_g8_6, ↓kh_g8_7, ↓kh_c10, ↓kh_g10_0, ↓kh_g10_1, ↓kh_g10_2, ↓kh_g10_3, ↓kh_g10_4, ↓kh_g10_5, ↓kh_g10_6, ↓kh_g10_7, ↓kh_g10_8, ↓kh_g10_9, ↓kh_g10_10, ↓kh_g10_11, ↓kh_g10_12, ↓kh_p10_12, ↓kh_g10_13, ↓kh_p10_13, ↓kh_g10_14, ↓kh_p10_14, ↓kh_g10_15, ↓kh_p10_15, ↓kh_c11, ↓kh_g11_0, ↓kh_r12, ↓kh_w12, ↓kh_n12, ↓kh_cp12_33, ↓kh_cp12_68, ↓kh_cp12_12, ↓kh_cp12_14, ↓be_y, ↓be_n, ↓bf_y, ↓bf_n, ↓bl_y, ↓bl_n, ↓bm_y, ↓bm_n, ↓bg_y, ↓bg_n, ↓bs_y, ↓bs_n, ↓bo_y, ↓bo_n, ↓bp_y, ↓bp_n, ↓forall_eq, ↓within_y, ↓within_n, ↓isIn_y, ↓isIn_n, and_true, true_and, and_self, us_at, us_ne, w32_id, um_eq, um_ne, um_um, uu_eq, uu_ne, uu_uu, vv_eq, vv_ne, vv_vv, ne_eq, not_false_eq_true, not_true_eq_false, reduceCtorEq, Int.reduceAdd, Int.reduceSub, Int.reduceMul, Int.reduceNeg, Nat.reduceEqDiff, or_true, true_or, true_implies, false_implies, Int.reduceLT, Int.reduceLE, Int.reduceEq, w1]
          refine p3 _ _ ?_
          simp (disch := first | omega | decide) only [w32_id, ↓kh_c8, ↓kh_g8_0, ↓kh_g8_1, ↓kh_g8_2, ↓kh_g8_3, ↓kh_g8_4, ↓kh_g8_5, ↓kh_g8_6, ↓kh_g8_7, ↓kh_c10, ↓kh_g10_0, ↓kh_g10_1, ↓kh_g10_2, ↓kh_g10_3, ↓kh_g10_4, ↓kh_g10_5, ↓kh_g10_6, ↓kh_g10_7, ↓kh_g10_8, ↓kh_g10_9, ↓kh_g10_10, ↓kh_g10_11, ↓kh_g10_12, ↓kh_p10_12, ↓kh_g10_13, ↓kh_p10_13, ↓kh_g10_14, ↓kh_p10_14, ↓kh_g10_15, ↓kh_p10_15, ↓kh_c11, ↓kh_g11_0, ↓be_y, ↓be_n, ↓bf_y, ↓bf_n, ↓bl_y, ↓bl_n, ↓bm_y, ↓bm_n, ↓bg_y, ↓bg_n, ↓bs_y, ↓bs_n, ↓bo_y, ↓bo_n, ↓bp_y, ↓bp_n, ↓forall_eq, ↓within_y, ↓within_n, ↓isIn_y, ↓isIn_n, and_true, true_and, and_self, us_at, us_ne, w32_id, um_eq, um_ne, um_um, uu_eq, uu_ne, uu_uu, vv_eq, vv_ne, vv_vv, ne_eq, not_false_eq_true, not_true_eq_false, reduceCtorEq, Int.reduceAdd, Int.reduceSub, Int.reduceMul, Int.reduceNeg, Nat.reduceEqDiff, or_true, true_or, true_implies, false_implies, Int.reduceLT, Int.reduceLE, Int.reduceEq]
          refine m3 _ _ ?_
          exact ⟨_, q1 F Q q⟩
        · simp (disch := first | omega | decide) only [mX12_lowest, mX12_isTrack, mX12_layRows, ↓rh_rcv, ↓rh_g0, ↓rh_r70, ↓rh_w70, ↓be_y, ↓be_n, ↓bf_y, ↓bf_n, ↓bl_y, ↓bl_n, ↓bm_y, ↓bm_n, ↓bg_y, ↓bg_n, ↓bs_y, ↓bs_n, ↓bo_y, ↓bo_n, ↓bp_y, ↓bp_n, ↓forall_eq, ↓within_y, ↓within_n, ↓isIn_y, ↓isIn_n, and_true, true_and, and_self, us_at, us_ne, w32_id, um_eq, um_ne, um_um, uu_eq, uu_ne, uu_uu, vv_eq, vv_ne, vv_vv, ne_eq, not_false_eq_true, not_true_eq_false, reduceCtorEq, Int.reduceAdd, Int.reduceSub, Int.reduceMul, Int.reduceNeg, Nat.reduceEqDiff, or_true, true_or, true_implies, false_implies, Int.reduceLT, Int.reduceLE, Int.reduceEq]
          refine ⟨_, b1 F _ ?_⟩
          simp (disch := first | omega | decide) only [w32_id, ↓rh_rcv, ↓rh_g0, ↓rh_g33, ↓rh_r85, ↓rh_w85, ↓be_y, ↓be_n, ↓bf_y, ↓bf_n, ↓bl_y, ↓bl_n, ↓bm_y, ↓bm_n, ↓bg_y, ↓bg_n, ↓bs_y, ↓bs_n, ↓bo_y, ↓bo_n, ↓bp_y, ↓bp_n, ↓forall_eq, ↓within_y, ↓within_n, ↓isIn_y, ↓isIn_n, and_true, true_and, and_self, us_at, us_ne, w32_id, um_eq, um_ne, um_um, uu_eq, uu_ne, uu_uu, vv_eq, vv_ne, vv_vv, ne_eq, not_false_eq_true, not_true_eq_false, reduceCtorEq, Int.reduceAdd, Int.reduceSub, Int.reduceMul, Int.reduceNeg, Nat.reduceEqDiff, or_true, true_or, true_implies, false_implies, Int.reduceLT, Int.reduceLE, Int.reduceEq]
          exact q
    · refine ⟨-2, v, N, u, M, Rel_up h, fun F Q q => ?_, fun F Q q => ?_⟩
      · simp (disch := first | omega | decide) only [mX11_lowest, mX11_isTrack, mX10_countOn, ↓kh_c8, ↓kh_g8_0, ↓kh_g8_1, ↓kh_g8_2, ↓kh_g8_3, ↓kh_g8_4, ↓kh_g8_5, ↓kh_g8_6, ↓kh_g8_7, ↓kh_c10, ↓kh_g10_0, ↓kh_g10_1, ↓kh_g10_2, ↓kh_g10_3, ↓kh_g10_4, ↓kh_g10_5, ↓kh_g10_6, ↓kh_g10_7, ↓kh_g10_8, ↓kh_g10_9, ↓kh_g10_10, ↓kh_g10_11, ↓kh_g10_12, ↓kh_p10_12, ↓kh_g10_13, ↓kh_p10_13, ↓kh_g10_14, ↓kh_p10_14, ↓kh_g10_15, ↓kh_p10_15, ↓kh_c11, ↓kh_g11_0, ↓kh_r12, ↓kh_w12, ↓kh_n12, ↓kh_cp12_33, ↓kh_cp12_68, ↓kh_cp12_12, ↓kh_cp12_14, ↓be_y, ↓be_n, ↓bf_y, ↓bf_n, ↓bl_y, ↓bl_n, ↓bm_y, ↓bm_n, ↓bg_y, ↓bg_n, ↓bs_y, ↓bs_n, ↓bo_y, ↓bo_n, ↓bp_y, ↓bp_n, ↓forall_eq, ↓within_y, ↓within_n, ↓isIn_y, ↓isIn_n, and_true, true_and, and_self, us_at, us_ne, w32_id, um_eq, um_ne, um_um, uu_eq, uu_ne, uu_uu, vv_eq, vv_ne, vv_vv, ne_eq, not_false_eq_true, not_true_eq_false, reduceCtorEq, Int.reduceAdd, Int.reduceSub, Int.reduceMul, Int.reduceNeg, Nat.reduceEqDiff, or_true, true_or, true_implies, false_implies, Int.reduceLT, Int.reduceLE, Int.reduceEq, w1]
        exact q
      · simp (disch := first | omega | decide) only [mX12_lowest, mX12_isTrack, ↓rh_rcv, ↓rh_g0, ↓rh_r70, ↓rh_w70, ↓be_y, ↓be_n, ↓bf_y, ↓bf_n, ↓bl_y, ↓bl_n, ↓bm_y, ↓bm_n, ↓bg_y, ↓bg_n, ↓bs_y, ↓bs_n, ↓bo_y, ↓bo_n, ↓bp_y, ↓bp_n, ↓forall_eq, ↓within_y, ↓within_n, ↓isIn_y, ↓isIn_n, and_true, true_and, and_self, us_at, us_ne, w32_id, um_eq, um_ne, um_um, uu_eq, uu_ne, uu_uu, vv_eq, vv_ne, vv_vv, ne_eq, not_false_eq_true, not_true_eq_false, reduceCtorEq, Int.reduceAdd, Int.reduceSub, Int.reduceMul, Int.reduceNeg, Nat.reduceEqDiff, or_true, true_or, true_implies, false_implies, Int.reduceLT, Int.reduceLE, Int.reduceEq]
        exact q
  · refine ⟨-2, v, N, u, M, Rel_up h, fun F Q q => ?_, fun F Q q => ?_⟩
    · by_cases d0 : 0 ≤ x1 ∧ x1 ≤ 2 <;> first | (exfalso; omega) | (simp (disch := omega) only [mX11_lowest, mX11_isTrack, kh_c8, kh_g8_0, kh_g8_1, kh_g8_2, kh_g8_3, kh_g8_4, kh_g8_5, kh_g8_6, kh_g8_7, ↓i_pos, ↓i_neg, and_true, true_and, and_self, w32_id, us_at, us_ne, um_eq, um_ne, um_um, uu_eq, uu_ne, uu_uu, vv_eq, vv_ne, vv_vv, forall_eq, within_y, within_n, isIn_y, isIn_n, ne_eq, not_false_eq_true, not_true_eq_false, reduceCtorEq, Int.reduceAdd, Int.reduceSub, Int.reduceMul, Int.reduceNeg, Nat.reduceEqDiff, or_true, true_or, true_implies, false_implies, Int.reduceLT, Int.reduceLE, Int.reduceEq, iMax_l, iMax_r, iMin_l, iMin_r]; first | done | exact q)
    · by_cases d0 : 0 ≤ x1 ∧ x1 ≤ 2 <;> first | (exfalso; omega) | (simp (disch := omega) only [mX12_lowest, mX12_isTrack, rh_rcv, rh_g0, ↓i_pos, ↓i_neg, and_true, true_and, and_self, w32_id, us_at, us_ne, um_eq, um_ne, um_um, uu_eq, uu_ne, uu_uu, vv_eq, vv_ne, vv_vv, forall_eq, within_y, within_n, isIn_y, isIn_n, ne_eq, not_false_eq_true, not_true_eq_false, reduceCtorEq, Int.reduceAdd, Int.reduceSub, Int.reduceMul, Int.reduceNeg, Nat.reduceEqDiff, or_true, true_or, true_implies, false_implies, Int.reduceLT, Int.reduceLE, Int.reduceEq, iMax_l, iMax_r, iMin_l, iMin_r]; first | done | exact q)
end RO
