-- ===== the stand that is wanted =====
def ws (o n : Int) : std := ([], [], (frl o (iShl 1 n - 1) 5).reverse)
def wcf : List Int → Int → Int → Int
  | [], a, _ => a
  | x :: r, a, b => wcf r (iOr a (iShl b (3 * x))) x
set_option maxRecDepth 100000 in
theorem ws_t : ∀ o : Nat, o < 120 → ∀ n : Nat, n < 6 → (frl o (iShl 1 (n : Int) - 1) 5).isPerm (ran (n : Int)) = true ∧ wcf (frl o (iShl 1 (n : Int) - 1) 5) 0 7 = enc (ws o n) := by decide +kernel
theorem ws_v {o n : Int} (ho : 0 ≤ o ∧ o < 120) (hn : 0 ≤ n ∧ n ≤ 5) : svl n (ws o n) ∧ wcf (frl o (iShl 1 n - 1) 5) 0 7 = enc (ws o n) := by
  have t := ws_t o.toNat (by omega) n.toNat (by omega)
  rw [Int.toNat_of_nonneg ho.1, Int.toNat_of_nonneg hn.1] at t
  refine ⟨?_, t.2⟩
  show (sts (ws o n)).Perm (ran n)
  exact (List.reverse_perm _).trans (List.isPerm_iff.1 t.1)
section WN
variable {n : Int} {v : Nat → Nat → Int} {N : Nat → Int → Int} {T : Nat → Int → Option Nat} {u : Nat → Int} {M : Nat → Int → Int} {s : std}
theorem um_id (M : Nat → Int → Int) (h : Nat) : um M h (M h) = M := by
  funext j
  by_cases d : j = h
  · subst d; rw [um_eq]
  · rw [um_ne d]
theorem iw28 {F : hp} {Q : Int → hp → Prop} (hc : M 81 0 + M 81 1 + M 81 2 = n) (hn : n ≤ 5) : ∀ (L K : List Int) (i : Int), L.length = K.length → 0 ≤ i → i + L.length = n → tl (M 80) i L.length = L → tl (M 79) i K.length = K → (∀ c, c ∈ L → 0 ≤ c ∧ c ≤ 4) → (∀ c, c ∈ K → 0 ≤ c ∧ c ≤ 4) → Q (if L = K then 1 else 0) (rh F u M) → mX12_isWanted_L28 Q (L.length + 1) 69 i (rh F u M)
  | [], [], i, hl, h0, h1, h2, h3, h4, h5, q => by
    rw [List.length_nil] at h1
    rw [if_pos rfl] at q
    rw [List.length_nil, mX12_isWanted_L28]
    simp (disch := first | omega | decide) only [mX12_cars, ↓rh_rcv, ↓rh_g28, ↓rh_r81, ↓rh_w81, ↓be_y, ↓be_n, ↓bf_y, ↓bf_n, ↓bl_y, ↓bl_n, ↓bm_y, ↓bm_n, ↓bg_y, ↓bg_n, ↓bs_y, ↓bs_n, ↓bo_y, ↓bo_n, ↓bp_y, ↓bp_n, ↓forall_eq, ↓within_y, ↓within_n, ↓isIn_y, ↓isIn_n, and_true, true_and, and_self, us_at, us_ne, w32_id, um_eq, um_ne, um_um, uu_eq, uu_ne, uu_uu, vv_eq, vv_ne, vv_vv, ne_eq, not_false_eq_true, not_true_eq_false, reduceCtorEq, Int.reduceAdd, Int.reduceSub, Int.reduceMul, Int.reduceNeg, Nat.reduceEqDiff, or_true, true_or, true_implies, false_implies, Int.reduceLT, Int.reduceLE, Int.reduceEq, hc]
    exact q
  | [], y :: K, i, hl, h0, h1, h2, h3, h4, h5, q => absurd hl (by simp)
  | x :: L, [], i, hl, h0, h1, h2, h3, h4, h5, q => absurd hl (by simp)
  | x :: L, y :: K, i, hl, h0, h1, h2, h3, h4, h5, q => by
    simp only [List.length_cons] at hl h1 h2 h3 ⊢
    rw [show ((L.length + 1 : Nat) : Int) = (L.length : Int) + 1 by omega, tl_cons (by omega)] at h2
    rw [show ((K.length + 1 : Nat) : Int) = (K.length : Int) + 1 by omega, tl_cons (by omega)] at h3
    obtain ⟨a1, a2⟩ := List.cons.inj h2
    obtain ⟨b1, b2⟩ := List.cons.inj h3
    have xb := h4 x List.mem_cons_self
    have yb := h5 y List.mem_cons_self
    rw [mX12_isWanted_L28]
    by_cases d : x = y
    · have g := iw28 (F := F) (Q := Q) hc hn L K (i + 1) (by omega) (by omega) (by omega) a2 b2 (fun c hc' => h4 c (List.mem_cons_of_mem _ hc')) (fun c hc' => h5 c (List.mem_cons_of_mem _ hc')) (by
        subst d
        by_cases e : L = K
        · rw [if_pos (by rw [e])] at q; rw [if_pos e]; exact q
        · rw [if_neg (fun t => e (List.cons.inj t).2)] at q; rw [if_neg e]; exact q)
      simp (disch := first | omega | decide) only [mX12_cars, ↓rh_rcv, ↓rh_g26, ↓rh_g27, ↓rh_g28, ↓rh_r79, ↓rh_w79, ↓rh_r80, ↓rh_w80, ↓rh_r81, ↓rh_w81, ↓be_y, ↓be_n, ↓bf_y, ↓bf_n, ↓bl_y, ↓bl_n, ↓bm_y, ↓bm_n, ↓bg_y, ↓bg_n, ↓bs_y, ↓bs_n, ↓bo_y, ↓bo_n, ↓bp_y, ↓bp_n, ↓forall_eq, ↓within_y, ↓within_n, ↓isIn_y, ↓isIn_n, and_true, true_and, and_self, us_at, us_ne, w32_id, um_eq, um_ne, um_um, uu_eq, uu_ne, uu_uu, vv_eq, vv_ne, vv_vv, ne_eq, not_false_eq_true, not_true_eq_false, reduceCtorEq, Int.reduceAdd, Int.reduceSub, Int.reduceMul, Int.reduceNeg, Nat.reduceEqDiff, or_true, true_or, true_implies, false_implies, Int.reduceLT, Int.reduceLE, Int.reduceEq, hc, a1, b1]
      exact g
    · rw [if_neg (fun t => d (List.cons.inj t).1)] at q
      simp (disch := first | omega | decide) only [mX12_cars, ↓rh_rcv, ↓rh_g26, ↓rh_g27, ↓rh_g28, ↓rh_r79, ↓rh_w79, ↓rh_r80, ↓rh_w80, ↓rh_r81, ↓rh_w81, ↓be_y, ↓be_n, ↓bf_y, ↓bf_n, ↓bl_y, ↓bl_n, ↓bm_y, ↓bm_n, ↓bg_y, ↓bg_n, ↓bs_y, ↓bs_n, ↓bo_y, ↓bo_n, ↓bp_y, ↓bp_n, ↓forall_eq, ↓within_y, ↓within_n, ↓isIn_y, ↓isIn_n, and_true, true_and, and_self, us_at, us_ne, w32_id, um_eq, um_ne, um_um, uu_eq, uu_ne, uu_uu, vv_eq, vv_ne, vv_vv, ne_eq, not_false_eq_true, not_true_eq_false, reduceCtorEq, Int.reduceAdd, Int.reduceSub, Int.reduceMul, Int.reduceNeg, Nat.reduceEqDiff, or_true, true_or, true_implies, false_implies, Int.reduceLT, Int.reduceLE, Int.reduceEq, hc, a1, b1]
      exact q
theorem wanted_r (h : svl n s) (hn : 0 ≤ n ∧ n ≤ 5) (hr : rrep s (M 80) (M 81)) (hA : M 70 0 = n) (ho : 0 ≤ M 70 60 ∧ M 70 60 < 120) : ∃ R', ∀ (F : hp) (Q : Int → hp → Prop), Q (if s = ws (M 70 60) n then 1 else 0) (rh F u (um M 79 R')) → mX12_isWanted 69 (rh F u M) Q := by
  have l3 := svl_l3 hn.1 h
  have on := ord_n ho hn
  obtain ⟨⟨c0, c1, c2⟩, b⟩ := id hr
  have en3 : M 81 0 + M 81 1 + M 81 2 = n := by omega
  have wl : ((ws (M 70 60) n).2.2.length : Int) = n := by
    show (((frl (M 70 60) (iShl 1 n - 1) 5).reverse.length : Nat) : Int) = n
    rw [List.length_reverse]; exact on
  by_cases d : (s.2.2.length : Int) = n
  · obtain ⟨R', a1, a2⟩ := lay_r (u := u) (M := M) ho (by omega) (M 79)
    rw [hA] at a1
    refine ⟨R', fun F Q q => ?_⟩
    have e1 : s.1 = [] := List.eq_nil_of_length_eq_zero (by omega)
    have e2 : s.2.1 = [] := List.eq_nil_of_length_eq_zero (by omega)
    have eb : brow s = s.2.2.reverse := by
      unfold brow
      rw [e1, e2]
      rfl
    have ee : s = ws (M 70 60) n ↔ brow s = frl (M 70 60) (iShl 1 n - 1) 5 := by
      rw [eb]
      constructor
      · intro t
        rw [t]
        show (frl (M 70 60) (iShl 1 n - 1) 5).reverse.reverse = _
        rw [List.reverse_reverse]
      · intro t
        refine Prod.ext e1 (Prod.ext e2 ?_)
        show s.2.2 = (frl (M 70 60) (iShl 1 n - 1) 5).reverse
        rw [← t, List.reverse_reverse]
    have bl := brow_len hn.1 h
    have g := iw28 (n := n) (M := um M 79 R') (u := u) (F := F) (Q := Q) (by rw [um_ne (by decide)]; exact en3) hn.2 (brow s) (frl (M 70 60) (iShl 1 n - 1) 5) 0 (by omega) (by omega) (by omega) (by rw [um_ne (by decide)]; exact b) (by rw [um_eq]; exact a1) (fun c hc => by
      unfold brow at hc
      simp only [List.mem_append, List.mem_reverse] at hc
      have m : c ∈ sts s := by unfold sts; simp only [List.mem_append]; exact hc
      have := (svl_m h).1 m
      omega) (fun c hc => (frl_mem ho hc).1) (by
      by_cases e : s = ws (M 70 60) n
      · rw [if_pos e] at q; rw [if_pos (ee.1 e)]; exact q
      · rw [if_neg e] at q; rw [if_neg (fun t => e (ee.2 t))]; exact q)
    have e7 : M 81 2 = n := by omega
    unfold mX12_isWanted
    simp (disch := first | omega | decide) only [mX12_cars, ↓rh_rcv, ↓rh_g0, ↓rh_g26, ↓rh_g27, ↓rh_g28, ↓rh_r70, ↓rh_w70, ↓rh_r79, ↓rh_w79, ↓rh_r80, ↓rh_w80, ↓rh_r81, ↓rh_w81, ↓be_y, ↓be_n, ↓bf_y, ↓bf_n, ↓bl_y, ↓bl_n, ↓bm_y, ↓bm_n, ↓bg_y, ↓bg_n, ↓bs_y, ↓bs_n, ↓bo_y, ↓bo_n, ↓bp_y, ↓bp_n, ↓forall_eq, ↓within_y, ↓within_n, ↓isIn_y, ↓isIn_n, and_true, true_and, and_self, us_at, us_ne, w32_id, um_eq, um_ne, um_um, uu_eq, uu_ne, uu_uu, vv_eq, vv_ne, vv_vv, ne_eq, not_false_eq_true, not_true_eq_false, reduceCtorEq, Int.reduceAdd, Int.reduceSub, Int.reduceMul, Int.reduceNeg, Nat.reduceEqDiff, or_true, true_or, true_implies, false_implies, Int.reduceLT, Int.reduceLE, Int.reduceEq, en3, e7]
    have a3 := a2 F (fun F8 => (∃ k10, mX12_isWanted_L28 Q k10 69 0 F8)) ⟨_, g⟩
    rw [um_id] at a3
    exact a3
  · refine ⟨M 79, fun F Q q => ?_⟩
    rw [if_neg (fun t => d (by rw [t]; exact wl)), um_id] at q
    have e7 : ¬ M 81 2 = n := by omega
    have e8 : M 81 2 ≤ 5 ∧ 0 ≤ M 81 2 := by omega
    unfold mX12_isWanted
    simp (disch := first | omega | decide) only [mX12_cars, ↓rh_rcv, ↓rh_g0, ↓rh_g26, ↓rh_g27, ↓rh_g28, ↓rh_r70, ↓rh_w70, ↓rh_r79, ↓rh_w79, ↓rh_r80, ↓rh_w80, ↓rh_r81, ↓rh_w81, ↓be_y, ↓be_n, ↓bf_y, ↓bf_n, ↓bl_y, ↓bl_n, ↓bm_y, ↓bm_n, ↓bg_y, ↓bg_n, ↓bs_y, ↓bs_n, ↓bo_y, ↓bo_n, ↓bp_y, ↓bp_n, ↓forall_eq, ↓within_y, ↓within_n, ↓isIn_y, ↓isIn_n, and_true, true_and, and_self, us_at, us_ne, w32_id, um_eq, um_ne, um_um, uu_eq, uu_ne, uu_uu, vv_eq, vv_ne, vv_vv, ne_eq, not_false_eq_true, not_true_eq_false, reduceCtorEq, Int.reduceAdd, Int.reduceSub, Int.reduceMul, Int.reduceNeg, Nat.reduceEqDiff, or_true, true_or, true_implies, false_implies, Int.reduceLT, Int.reduceLE, Int.reduceEq, en3]
    exact q
-- the class's
theorem wc33 {F : hp} {Q : Int → hp → Prop} (hn : n ≤ 5) : ∀ (L : List Int) (a b i : Int), 0 ≤ i → i + L.length = n → tl (N 63) i L.length = L → (∀ c, c ∈ L → 0 ≤ c ∧ c ≤ 4) → Q (wcf L a b) (kh F v N T) → mX11_wantedCode_L33 Q (L.length + 1) 8 n a b i (kh F v N T)
  | [], a, b, i, h0, h1, h2, h4, q => by
    rw [List.length_nil] at h1
    rw [wcf] at q
    rw [List.length_nil, mX11_wantedCode_L33]
    simp (disch := first | omega | decide) only [w32_id, ↓kh_c8, ↓kh_g8_0, ↓kh_g8_1, ↓kh_g8_2, ↓kh_g8_3, ↓kh_g8_4, ↓kh_g8_5, ↓kh_g8_6, ↓kh_g8_7, ↓kh_c62, ↓kh_g62_0, ↓kh_r63, ↓kh_w63, ↓kh_n63, ↓be_y, ↓be_n, ↓bf_y, ↓bf_n, ↓bl_y, ↓bl_n, ↓bm_y, ↓bm_n, ↓bg_y, ↓bg_n, ↓bs_y, ↓bs_n, ↓bo_y, ↓bo_n, ↓bp_y, ↓bp_n, ↓forall_eq, ↓within_y, ↓within_n, ↓isIn_y, ↓isIn_n, and_true, true_and, and_self, us_at, us_ne, w32_id, um_eq, um_ne, um_um, uu_eq, uu_ne, uu_uu, vv_eq, vv_ne, vv_vv, ne_eq, not_false_eq_true, not_true_eq_false, reduceCtorEq, Int.reduceAdd, Int.reduceSub, Int.reduceMul, Int.reduceNeg, Nat.reduceEqDiff, or_true, true_or, true_implies, false_implies, Int.reduceLT, Int.reduceLE, Int.reduceEq]
    exact q
  | x :: L, a, b, i, h0, h1, h2, h4, q => by
    simp only [List.length_cons] at h1 h2 ⊢
    rw [show ((L.length + 1 : Nat) : Int) = (L.length : Int) + 1 by omega, tl_cons (by omega)] at h2
    obtain ⟨a1, a2⟩ := List.cons.inj h2
    have xb := h4 x List.mem_cons_self
    rw [wcf] at q
    have g := wc33 (F := F) (Q := Q) hn L (iOr a (iShl b (3 * x))) x (i + 1) (by omega) (by omega) a2 (fun c hc' => h4 c (List.mem_cons_of_mem _ hc')) q
    rw [mX11_wantedCode_L33]
    simp (disch := first | omega | decide) only [w32_id, ↓kh_c8, ↓kh_g8_0, ↓kh_g8_1, ↓kh_g8_2, ↓kh_g8_3, ↓kh_g8_4, ↓kh_g8_5, ↓kh_g8_6, ↓kh_g8_7, ↓kh_c62, ↓kh_g62_0, ↓kh_r63, ↓kh_w63, ↓kh_n63, ↓be_y, ↓be_n, ↓bf_y, ↓bf_n, ↓bl_y, ↓bl_n, ↓bm_y, ↓bm_n, ↓bg_y, ↓bg_n, ↓bs_y, ↓bs_n, ↓bo_y, ↓bo_n, ↓bp_y, ↓bp_n, ↓forall_eq, ↓within_y, ↓within_n, ↓isIn_y, ↓isIn_n, and_true, true_and, and_self, us_at, us_ne, w32_id, um_eq, um_ne, um_um, uu_eq, uu_ne, uu_uu, vv_eq, vv_ne, vv_vv, ne_eq, not_false_eq_true, not_true_eq_false, reduceCtorEq, Int.reduceAdd, Int.reduceSub, Int.reduceMul, Int.reduceNeg, Nat.reduceEqDiff, or_true, true_or, true_implies, false_implies, Int.reduceLT, Int.reduceLE, Int.reduceEq, a1]
    exact g
theorem wcode_c (hn : 0 ≤ n ∧ n ≤ 5) (ho : 0 ≤ v 10 14 ∧ v 10 14 < 120) (hA : N 12 4 = n) : ∃ R', ∀ (F : hp) (Q : Int → hp → Prop), Q (enc (ws (v 10 14) n)) (kh F v (um N 63 R') T) → mX11_wantedCode 8 (kh F v N T) Q := by
  have tk := (told_s hn).1
  obtain ⟨R', a1, a2⟩ := fill_c (v := v) (N := N) (T := T) (o := v 10 14) (m := iShl 1 n - 1) ho tk (N 63)
  have on := ord_n ho hn
  have w := (ws_v ho hn).2
  refine ⟨R', fun F Q q => ?_⟩
  rw [← w] at q
  have g := wc33 (n := n) (N := um N 63 R') (v := v) (T := T) (F := F) (Q := Q) hn.2 (frl (v 10 14) (iShl 1 n - 1) 5) 0 7 0 (by omega) (by omega) (by rw [um_eq]; exact a1) (fun c hc => (frl_mem ho hc).1) q
  have a3 := a2 F (fun x10 F9 => (∃ k12, mX11_wantedCode_L33 Q k12 8 x10 0 7 0 F9)) (by rw [on]; exact ⟨_, g⟩)
  rw [um_id] at a3
  simp (disch := first | omega | decide) only [mX11_wantedCode, mX10_toldCars, mX10_countCars, ↓kh_c8, ↓kh_g8_0, ↓kh_g8_1, ↓kh_g8_2, ↓kh_g8_3, ↓kh_g8_4, ↓kh_g8_5, ↓kh_g8_6, ↓kh_g8_7, ↓kh_c10, ↓kh_g10_0, ↓kh_g10_1, ↓kh_g10_2, ↓kh_g10_3, ↓kh_g10_4, ↓kh_g10_5, ↓kh_g10_6, ↓kh_g10_7, ↓kh_g10_8, ↓kh_g10_9, ↓kh_g10_10, ↓kh_g10_11, ↓kh_g10_12, ↓kh_p10_12, ↓kh_g10_13, ↓kh_p10_13, ↓kh_g10_14, ↓kh_p10_14, ↓kh_g10_15, ↓kh_p10_15, ↓kh_c11, ↓kh_g11_0, ↓kh_r12, ↓kh_w12, ↓kh_n12, ↓kh_c62, ↓kh_g62_0, ↓kh_r63, ↓kh_w63, ↓kh_n63, ↓kh_cp12_33, ↓kh_cp12_68, ↓kh_cp12_12, ↓kh_cp12_14, ↓be_y, ↓be_n, ↓bf_y, ↓bf_n, ↓bl_y, ↓bl_n, ↓bm_y, ↓bm_n, ↓bg_y, ↓bg_n, ↓bs_y, ↓bs_n, ↓bo_y, ↓bo_n, ↓bp_y, ↓bp_n, ↓forall_eq, ↓within_y, ↓within_n, ↓isIn_y, ↓isIn_n, and_true, true_and, and_self, us_at, us_ne, w32_id, um_eq, um_ne, um_um, uu_eq, uu_ne, uu_uu, vv_eq, vv_ne, vv_vv, ne_eq, not_false_eq_true, not_true_eq_false, reduceCtorEq, Int.reduceAdd, Int.reduceSub, Int.reduceMul, Int.reduceNeg, Nat.reduceEqDiff, or_true, true_or, true_implies, false_implies, Int.reduceLT, Int.reduceLE, Int.reduceEq, hA]
  exact a3
end WN
