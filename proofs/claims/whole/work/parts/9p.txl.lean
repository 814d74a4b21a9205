section TL
variable {tk plc bh : Nat → Int} {cn : Nat} {L : Int} {W : Int → Int} {T : Nat → Int → Option Nat}
def FIN (tk plc bh : Nat → Int) (cn : Nat) (L : Int) (W : Int → Int) (s : gs) (cl : List (Int × Int × Int)) (v : Nat → Nat → Int) (N : Nat → Int → Int) (u : Nat → Int) (M : Nat → Int → Int) : Prop := (∀ j o, s = .inl (j, o) → CT tk plc cn j o cl v N ∧ RT tk plc bh cn L W j o cl u M ∧ tcl o cl) ∧ (∀ k e, s = .inr (k, e) → v 49 7 = k ∧ v 49 8 = plc e ∧ u 8 = plc e ∧ (1 ≤ k ∧ k ≤ 6) ∧ e ≤ cn)
theorem tx_l (nx : ntx tk plc bh cn L W) (ch : chx tk plc bh L W) (ht : tkok tk cn) : ∀ (k : Nat) (j : Nat) (o : List (Int × Int)) (cl : List (Int × Int × Int)) (v : Nat → Nat → Int) (N : Nat → Int → Int) (u : Nat → Int) (M : Nat → Int → Int), cn - j ≤ k → CT tk plc cn j o cl v N → RT tk plc bh cn L W j o cl u M → tcl o cl → ∃ s' cl' v' N' u' M', FIN tk plc bh cn L W s' cl' v' N' u' M' ∧ frw v v' ∧ fry N N' ∧ frR u u' ∧ frT (u 12) M M' ∧ (∀ (F : hp) (Q : Option Nat → hp → Prop), mX2_readTape_J86 Q 49 (kh F v' N' T) → mX2_readTape_L54 Q (k + 1) 49 cl.length (kh F v N T)) ∧ (∀ (F : hp) (Q : Int → hp → Prop), Q (rcd s') (rh F u' M') → mX12_readText_L43 Q (k + 1) 69 (rh F u M)) := by
  intro k
  induction k with
  | zero =>
    intro j o cl v N u M hk hC hR hv
    obtain ⟨⟨m0, hc⟩, c2, c3, -⟩ := id hC
    have jl := crd_l hc
    have e : j = cn := by omega
    have t44 : tk j = 44 := by rw [e]; exact ht.1
    have tv : v 49 10 = 44 := by rw [crd_t hc]; exact t44
    have t9 : u 9 = 0 := (tkr_0 hR.1.2.2).2 t44
    refine ⟨.inl (j, o), cl, v, N, u, M, ⟨fun j' o' e => by
      simp only [Sum.inl.injEq, Prod.mk.injEq] at e
      rw [← e.1, ← e.2]; exact ⟨hC, hR, hv⟩, fun k e h => absurd h (by simp)⟩, ⟨fun _ _ => rfl, rfl⟩, fun _ _ _ _ => rfl, fun _ _ => rfl, frT_r M, fun F Q z => ?_, fun F Q z => ?_⟩
    · rw [mX2_readTape_L54]
      simp (disch := first | omega | decide) only [w32_id, ↓kh_c49, ↓kh_g49_0, ↓kh_g49_1, ↓kh_g49_2, ↓kh_g49_3, ↓kh_g49_4, ↓kh_g49_5, ↓kh_g49_6, ↓kh_p49_6, ↓kh_g49_7, ↓kh_p49_7, ↓kh_g49_8, ↓kh_p49_8, ↓kh_g49_9, ↓kh_p49_9, ↓kh_g49_10, ↓kh_p49_10, ↓kh_g49_11, ↓kh_p49_11, ↓kh_g49_12, ↓kh_p49_12, ↓kh_g49_13, ↓kh_p49_13, ↓kh_g49_14, ↓kh_p49_14, ↓be_y, ↓be_n, ↓bf_y, ↓bf_n, ↓bl_y, ↓bl_n, ↓bm_y, ↓bm_n, ↓bg_y, ↓bg_n, ↓bs_y, ↓bs_n, ↓bo_y, ↓bo_n, ↓bp_y, ↓bp_n, ↓forall_eq, ↓within_y, ↓within_n, ↓isIn_y, ↓isIn_n, and_true, true_and, and_self, us_at, us_ne, w32_id, um_eq, um_ne, um_um, uu_eq, uu_ne, uu_uu, vv_eq, vv_ne, vv_vv, ne_eq, not_false_eq_true, not_true_eq_false, reduceCtorEq, Int.reduceAdd, Int.reduceSub, Int.reduceMul, Int.reduceNeg, Nat.reduceEqDiff, or_true, true_or, true_implies, false_implies, Int.reduceLT, Int.reduceLE, Int.reduceEq, tv]
      exact z
    · rw [mX12_readText_L43]
      simp (disch := first | omega | decide) only [w32_id, ↓rh_rcv, ↓rh_g9, ↓rh_p9, ↓be_y, ↓be_n, ↓bf_y, ↓bf_n, ↓bl_y, ↓bl_n, ↓bm_y, ↓bm_n, ↓bg_y, ↓bg_n, ↓bs_y, ↓bs_n, ↓bo_y, ↓bo_n, ↓bp_y, ↓bp_n, ↓forall_eq, ↓within_y, ↓within_n, ↓isIn_y, ↓isIn_n, and_true, true_and, and_self, us_at, us_ne, w32_id, um_eq, um_ne, um_um, uu_eq, uu_ne, uu_uu, vv_eq, vv_ne, vv_vv, ne_eq, not_false_eq_true, not_true_eq_false, reduceCtorEq, Int.reduceAdd, Int.reduceSub, Int.reduceMul, Int.reduceNeg, Nat.reduceEqDiff, or_true, true_or, true_implies, false_implies, Int.reduceLT, Int.reduceLE, Int.reduceEq, t9]
      exact z
  | succ k ih =>
    intro j o cl v N u M hk hC hR hv
    obtain ⟨⟨m0, hc⟩, c2, c3, -⟩ := id hC
    have jl := crd_l hc
    have tv0 : v 49 10 = tk j := crd_t hc
    have tb := ht.2.2 j jl.2
    have f0 : v 49 7 = 0 := hc.2.2.2.1
    have tt := tkr_t hR.1.2.2
    by_cases t44 : tk j = 44
    · have tv : v 49 10 = 44 := by omega
      have t9 : u 9 = 0 := (tkr_0 hR.1.2.2).2 t44
      refine ⟨.inl (j, o), cl, v, N, u, M, ⟨fun j' o' e => by
        simp only [Sum.inl.injEq, Prod.mk.injEq] at e
        rw [← e.1, ← e.2]; exact ⟨hC, hR, hv⟩, fun k e h => absurd h (by simp)⟩, ⟨fun _ _ => rfl, rfl⟩, fun _ _ _ _ => rfl, fun _ _ => rfl, frT_r M, fun F Q z => ?_, fun F Q z => ?_⟩
      · rw [mX2_readTape_L54]
        simp (disch := first | omega | decide) only [w32_id, ↓kh_c49, ↓kh_g49_0, ↓kh_g49_1, ↓kh_g49_2, ↓kh_g49_3, ↓kh_g49_4, ↓kh_g49_5, ↓kh_g49_6, ↓kh_p49_6, ↓kh_g49_7, ↓kh_p49_7, ↓kh_g49_8, ↓kh_p49_8, ↓kh_g49_9, ↓kh_p49_9, ↓kh_g49_10, ↓kh_p49_10, ↓kh_g49_11, ↓kh_p49_11, ↓kh_g49_12, ↓kh_p49_12, ↓kh_g49_13, ↓kh_p49_13, ↓kh_g49_14, ↓kh_p49_14, ↓be_y, ↓be_n, ↓bf_y, ↓bf_n, ↓bl_y, ↓bl_n, ↓bm_y, ↓bm_n, ↓bg_y, ↓bg_n, ↓bs_y, ↓bs_n, ↓bo_y, ↓bo_n, ↓bp_y, ↓bp_n, ↓forall_eq, ↓within_y, ↓within_n, ↓isIn_y, ↓isIn_n, and_true, true_and, and_self, us_at, us_ne, w32_id, um_eq, um_ne, um_um, uu_eq, uu_ne, uu_uu, vv_eq, vv_ne, vv_vv, ne_eq, not_false_eq_true, not_true_eq_false, reduceCtorEq, Int.reduceAdd, Int.reduceSub, Int.reduceMul, Int.reduceNeg, Nat.reduceEqDiff, or_true, true_or, true_implies, false_implies, Int.reduceLT, Int.reduceLE, Int.reduceEq, tv]
        exact z
      · rw [mX12_readText_L43]
        simp (disch := first | omega | decide) only [w32_id, ↓rh_rcv, ↓rh_g9, ↓rh_p9, ↓be_y, ↓be_n, ↓bf_y, ↓bf_n, ↓bl_y, ↓bl_n, ↓bm_y, ↓bm_n, ↓bg_y, ↓bg_n, ↓bs_y, ↓bs_n, ↓bo_y, ↓bo_n, ↓bp_y, ↓bp_n, ↓forall_eq, ↓within_y, ↓within_n, ↓isIn_y, ↓isIn_n, and_true, true_and, and_self, us_at, us_ne, w32_id, um_eq, um_ne, um_um, uu_eq, uu_ne, uu_uu, vv_eq, vv_ne, vv_vv, ne_eq, not_false_eq_true, not_true_eq_false, reduceCtorEq, Int.reduceAdd, Int.reduceSub, Int.reduceMul, Int.reduceNeg, Nat.reduceEqDiff, or_true, true_or, true_implies, false_implies, Int.reduceLT, Int.reduceLE, Int.reduceEq, t9]
        exact z
    · have n9 : ¬ u 9 = 0 := fun t => t44 ((tkr_0 hR.1.2.2).1 t)
      obtain ⟨s1, cl1, hz⟩ := gcz_t (o := o) (cl := cl) ht.1 jl.2 t44 c3
      obtain ⟨v1, N1, a1, a2, a3, a4⟩ := cz_c (T := T) ht hC hz
      obtain ⟨u1, M1, b1, b2, b3, b4, b5⟩ := rz_r nx ch ht hR hz
      have stepC : ∀ (F : hp) (Q : Option Nat → hp → Prop), mX2_readTape_L54 Q (k + 1) 49 ((cl.length : Int) + 1) (kh F v1 N1 T) → mX2_readTape_L54 Q (k + 1 + 1) 49 cl.length (kh F v N T) := fun F Q z => by
        rw [mX2_readTape_L54]
        simp (disch := first | omega | decide) only [w32_id, ↓kh_c49, ↓kh_g49_0, ↓kh_g49_1, ↓kh_g49_2, ↓kh_g49_3, ↓kh_g49_4, ↓kh_g49_5, ↓kh_g49_6, ↓kh_p49_6, ↓kh_g49_7, ↓kh_p49_7, ↓kh_g49_8, ↓kh_p49_8, ↓kh_g49_9, ↓kh_p49_9, ↓kh_g49_10, ↓kh_p49_10, ↓kh_g49_11, ↓kh_p49_11, ↓kh_g49_12, ↓kh_p49_12, ↓kh_g49_13, ↓kh_p49_13, ↓kh_g49_14, ↓kh_p49_14, ↓be_y, ↓be_n, ↓bf_y, ↓bf_n, ↓bl_y, ↓bl_n, ↓bm_y, ↓bm_n, ↓bg_y, ↓bg_n, ↓bs_y, ↓bs_n, ↓bo_y, ↓bo_n, ↓bp_y, ↓bp_n, ↓forall_eq, ↓within_y, ↓within_n, ↓isIn_y, ↓isIn_n, and_true, true_and, and_self, us_at, us_ne, w32_id, um_eq, um_ne, um_um, uu_eq, uu_ne, uu_uu, vv_eq, vv_ne, vv_vv, ne_eq, not_false_eq_true, not_true_eq_false, reduceCtorEq, Int.reduceAdd, Int.reduceSub, Int.reduceMul, Int.reduceNeg, Nat.reduceEqDiff, or_true, true_or, true_implies, false_implies, Int.reduceLT, Int.reduceLE, Int.reduceEq, tv0, f0]
        exact a4 F _ z
      rcases s1 with ⟨j1, o1⟩ | ⟨k1, e1⟩
      · have hC1 := a1.2.2 j1 o1 rfl
        have hR1 := b1 j1 o1 rfl
        obtain ⟨hv1, jj⟩ := gcz_v hz hv
        have l1 : cl1.length = cl.length + 1 := by
          rcases hz with ⟨-, -, e⟩ | ⟨-, -, e⟩ | ⟨q1, q2, ⟨-, e⟩ | ⟨q3, hz⟩⟩
          · exact absurd e (by simp)
          · exact absurd e (by simp)
          · exact absurd e (by simp)
          · rcases hz with ⟨r1, s1, r2, e, r3⟩ | ⟨r1, e, rfl⟩ | ⟨r1, e, rfl⟩ | ⟨r1, e, rfl⟩
            · obtain ⟨i, e1, e2⟩ := g_expO e.symm
              rw [r3 _ _ e1, List.length_append, List.length_singleton]
            · rw [List.length_append, List.length_singleton]
            · rw [List.length_append, List.length_singleton]
            · rw [List.length_append, List.length_singleton]
        obtain ⟨s', cl', v', N', u', M', g1, g2, g3, g4, g5, g6, g7⟩ := ih j1 o1 cl1 v1 N1 u1 M1 (by omega) hC1 hR1 hv1
        rw [b3 12 (by omega)] at g5
        refine ⟨s', cl', v', N', u', M', g1, frw_t a2 g2, fry_t a3 g3, frR_t b3 g4, frT_t b4 g5, fun F Q z => stepC F Q ?_, fun F Q z => ?_⟩
        · have := g6 F Q z
          rw [l1, show ((cl.length + 1 : Nat) : Int) = (cl.length : Int) + 1 by omega] at this
          exact this
        · rw [mX12_readText_L43]
          simp (disch := first | omega | decide) only [w32_id, ↓rh_rcv, ↓rh_g9, ↓rh_p9, ↓be_y, ↓be_n, ↓bf_y, ↓bf_n, ↓bl_y, ↓bl_n, ↓bm_y, ↓bm_n, ↓bg_y, ↓bg_n, ↓bs_y, ↓bs_n, ↓bo_y, ↓bo_n, ↓bp_y, ↓bp_n, ↓forall_eq, ↓within_y, ↓within_n, ↓isIn_y, ↓isIn_n, and_true, true_and, and_self, us_at, us_ne, w32_id, um_eq, um_ne, um_um, uu_eq, uu_ne, uu_uu, vv_eq, vv_ne, vv_vv, ne_eq, not_false_eq_true, not_true_eq_false, reduceCtorEq, Int.reduceAdd, Int.reduceSub, Int.reduceMul, Int.reduceNeg, Nat.reduceEqDiff, or_true, true_or, true_implies, false_implies, Int.reduceLT, Int.reduceLE, Int.reduceEq]
          refine b5 F _ ?_
          unfold rcd
          simp (disch := first | omega | decide) only [w32_id, ↓rh_rcv, ↓rh_g9, ↓rh_p9, ↓be_y, ↓be_n, ↓bf_y, ↓bf_n, ↓bl_y, ↓bl_n, ↓bm_y, ↓bm_n, ↓bg_y, ↓bg_n, ↓bs_y, ↓bs_n, ↓bo_y, ↓bo_n, ↓bp_y, ↓bp_n, ↓forall_eq, ↓within_y, ↓within_n, ↓isIn_y, ↓isIn_n, and_true, true_and, and_self, us_at, us_ne, w32_id, um_eq, um_ne, um_um, uu_eq, uu_ne, uu_uu, vv_eq, vv_ne, vv_vv, ne_eq, not_false_eq_true, not_true_eq_false, reduceCtorEq, Int.reduceAdd, Int.reduceSub, Int.reduceMul, Int.reduceNeg, Nat.reduceEqDiff, or_true, true_or, true_implies, false_implies, Int.reduceLT, Int.reduceLE, Int.reduceEq]
          exact g7 F Q z
      · obtain ⟨⟨m1, hc1⟩, -, -⟩ := a1
        have kb := b2 k1 e1 rfl
        obtain ⟨d1, d2, d3, d4, d5, d6⟩ := hc1.2.2.2
        refine ⟨.inr (k1, e1), cl1, v1, N1, u1, M1, ⟨fun j' o' e => absurd e (by simp), fun k' e' h' => by
          simp only [Sum.inr.injEq, Prod.mk.injEq] at h'
          rw [← h'.1, ← h'.2]; exact ⟨d1, d3, kb.1, d2, d6⟩⟩, a2, a3, b3, b4, fun F Q z => stepC F Q ?_, fun F Q z => ?_⟩
        · rw [mX2_readTape_L54]
          by_cases e24 : cl.length = 24
          · simp (disch := first | omega | decide) only [w32_id, ↓kh_c49, ↓kh_g49_0, ↓kh_g49_1, ↓kh_g49_2, ↓kh_g49_3, ↓kh_g49_4, ↓kh_g49_5, ↓kh_g49_6, ↓kh_p49_6, ↓kh_g49_7, ↓kh_p49_7, ↓kh_g49_8, ↓kh_p49_8, ↓kh_g49_9, ↓kh_p49_9, ↓kh_g49_10, ↓kh_p49_10, ↓kh_g49_11, ↓kh_p49_11, ↓kh_g49_12, ↓kh_p49_12, ↓kh_g49_13, ↓kh_p49_13, ↓kh_g49_14, ↓kh_p49_14, ↓be_y, ↓be_n, ↓bf_y, ↓bf_n, ↓bl_y, ↓bl_n, ↓bm_y, ↓bm_n, ↓bg_y, ↓bg_n, ↓bs_y, ↓bs_n, ↓bo_y, ↓bo_n, ↓bp_y, ↓bp_n, ↓forall_eq, ↓within_y, ↓within_n, ↓isIn_y, ↓isIn_n, and_true, true_and, and_self, us_at, us_ne, w32_id, um_eq, um_ne, um_um, uu_eq, uu_ne, uu_uu, vv_eq, vv_ne, vv_vv, ne_eq, not_false_eq_true, not_true_eq_false, reduceCtorEq, Int.reduceAdd, Int.reduceSub, Int.reduceMul, Int.reduceNeg, Nat.reduceEqDiff, or_true, true_or, true_implies, false_implies, Int.reduceLT, Int.reduceLE, Int.reduceEq]
            exact z
          · simp (disch := first | omega | decide) only [w32_id, ↓kh_c49, ↓kh_g49_0, ↓kh_g49_1, ↓kh_g49_2, ↓kh_g49_3, ↓kh_g49_4, ↓kh_g49_5, ↓kh_g49_6, ↓kh_p49_6, ↓kh_g49_7, ↓kh_p49_7, ↓kh_g49_8, ↓kh_p49_8, ↓kh_g49_9, ↓kh_p49_9, ↓kh_g49_10, ↓kh_p49_10, ↓kh_g49_11, ↓kh_p49_11, ↓kh_g49_12, ↓kh_p49_12, ↓kh_g49_13, ↓kh_p49_13, ↓kh_g49_14, ↓kh_p49_14, ↓be_y, ↓be_n, ↓bf_y, ↓bf_n, ↓bl_y, ↓bl_n, ↓bm_y, ↓bm_n, ↓bg_y, ↓bg_n, ↓bs_y, ↓bs_n, ↓bo_y, ↓bo_n, ↓bp_y, ↓bp_n, ↓forall_eq, ↓within_y, ↓within_n, ↓isIn_y, ↓isIn_n, and_true, true_and, and_self, us_at, us_ne, w32_id, um_eq, um_ne, um_um, uu_eq, uu_ne, uu_uu, vv_eq, vv_ne, vv_vv, ne_eq, not_false_eq_true, not_true_eq_false, reduceCtorEq, Int.reduceAdd, Int.reduceSub, Int.reduceMul, Int.reduceNeg, Nat.reduceEqDiff, or_true, true_or, true_implies, false_implies, Int.reduceLT, Int.reduceLE, Int.reduceEq, d4, d1]
            exact z
        · rw [mX12_readText_L43]
          simp (disch := first | omega | decide) only [w32_id, ↓rh_rcv, ↓rh_g9, ↓rh_p9, ↓be_y, ↓be_n, ↓bf_y, ↓bf_n, ↓bl_y, ↓bl_n, ↓bm_y, ↓bm_n, ↓bg_y, ↓bg_n, ↓bs_y, ↓bs_n, ↓bo_y, ↓bo_n, ↓bp_y, ↓bp_n, ↓forall_eq, ↓within_y, ↓within_n, ↓isIn_y, ↓isIn_n, and_true, true_and, and_self, us_at, us_ne, w32_id, um_eq, um_ne, um_um, uu_eq, uu_ne, uu_uu, vv_eq, vv_ne, vv_vv, ne_eq, not_false_eq_true, not_true_eq_false, reduceCtorEq, Int.reduceAdd, Int.reduceSub, Int.reduceMul, Int.reduceNeg, Nat.reduceEqDiff, or_true, true_or, true_implies, false_implies, Int.reduceLT, Int.reduceLE, Int.reduceEq]
          refine b5 F _ ?_
          have kk : 1 ≤ k1 ∧ k1 ≤ 6 := d2
          unfold rcd at z ⊢
          simp (disch := first | omega | decide) only [w32_id, ↓rh_rcv, ↓rh_g9, ↓rh_p9, ↓be_y, ↓be_n, ↓bf_y, ↓bf_n, ↓bl_y, ↓bl_n, ↓bm_y, ↓bm_n, ↓bg_y, ↓bg_n, ↓bs_y, ↓bs_n, ↓bo_y, ↓bo_n, ↓bp_y, ↓bp_n, ↓forall_eq, ↓within_y, ↓within_n, ↓isIn_y, ↓isIn_n, and_true, true_and, and_self, us_at, us_ne, w32_id, um_eq, um_ne, um_um, uu_eq, uu_ne, uu_uu, vv_eq, vv_ne, vv_vv, ne_eq, not_false_eq_true, not_true_eq_false, reduceCtorEq, Int.reduceAdd, Int.reduceSub, Int.reduceMul, Int.reduceNeg, Nat.reduceEqDiff, or_true, true_or, true_implies, false_implies, Int.reduceLT, Int.reduceLE, Int.reduceEq]
          exact z
-- both beginnings
theorem fill_55 {v : Nat → Nat → Int} {N : Nat → Int → Int} : ∀ (k : Nat) (i : Int) (U : Int → Int), i + k = 4 → 0 ≤ i → (∀ j, 0 ≤ j → j < i → U j = -1) → ∃ U', (∀ j, 0 ≤ j → j < 4 → U' j = -1) ∧ ∀ (F : hp) (Q : hp → Prop), Q (kh F v (um N 55 U') T) → mJ7_fill_53178_L5 Q (k + 1) (some 55) (-1) i 4 (kh F v (um N 55 U) T) := by
  intro k
  induction k with
  | zero =>
    intro i U hi h0 hU
    refine ⟨U, fun j j0 j1 => hU j j0 (by omega), fun F Q q => ?_⟩
    rw [mJ7_fill_53178_L5]
    simp (disch := first | omega | decide) only [w32_id, ↓kh_r55, ↓kh_w55, ↓kh_n55, ↓be_y, ↓be_n, ↓bf_y, ↓bf_n, ↓bl_y, ↓bl_n, ↓bm_y, ↓bm_n, ↓bg_y, ↓bg_n, ↓bs_y, ↓bs_n, ↓bo_y, ↓bo_n, ↓bp_y, ↓bp_n, ↓forall_eq, ↓within_y, ↓within_n, ↓isIn_y, ↓isIn_n, and_true, true_and, and_self, us_at, us_ne, w32_id, um_eq, um_ne, um_um, uu_eq, uu_ne, uu_uu, vv_eq, vv_ne, vv_vv, ne_eq, not_false_eq_true, not_true_eq_false, reduceCtorEq, Int.reduceAdd, Int.reduceSub, Int.reduceMul, Int.reduceNeg, Nat.reduceEqDiff, or_true, true_or, true_implies, false_implies, Int.reduceLT, Int.reduceLE, Int.reduceEq]
    exact q
  | succ k ih =>
    intro i U hi h0 hU
    obtain ⟨U', a1, a2⟩ := ih (i + 1) (us U i (-1)) (by omega) (by omega) (fun j j0 j1 => by
      by_cases d : j = i
      · rw [d, us_eq]
      · rw [us_ne d]; exact hU j j0 (by omega))
    refine ⟨U', a1, fun F Q q => ?_⟩
    rw [mJ7_fill_53178_L5]
    simp (disch := first | omega | decide) only [w32_id, ↓kh_r55, ↓kh_w55, ↓kh_n55, ↓be_y, ↓be_n, ↓bf_y, ↓bf_n, ↓bl_y, ↓bl_n, ↓bm_y, ↓bm_n, ↓bg_y, ↓bg_n, ↓bs_y, ↓bs_n, ↓bo_y, ↓bo_n, ↓bp_y, ↓bp_n, ↓forall_eq, ↓within_y, ↓within_n, ↓isIn_y, ↓isIn_n, and_true, true_and, and_self, us_at, us_ne, w32_id, um_eq, um_ne, um_um, uu_eq, uu_ne, uu_uu, vv_eq, vv_ne, vv_vv, ne_eq, not_false_eq_true, not_true_eq_false, reduceCtorEq, Int.reduceAdd, Int.reduceSub, Int.reduceMul, Int.reduceNeg, Nat.reduceEqDiff, or_true, true_or, true_implies, false_implies, Int.reduceLT, Int.reduceLE, Int.reduceEq]
    exact a2 F Q q
def frv2 (v v' : Nat → Nat → Int) : Prop := ∀ h, h ≠ 49 → v' h = v h
def frn2 (N N' : Nat → Int → Int) : Prop := ∀ j, j < 51 ∨ 55 < j → N' j = N j
set_option maxHeartbeats 4000000 in
theorem tx_b {v : Nat → Nat → Int} {N : Nat → Int → Int} {u : Nat → Int} {M : Nat → Int → Int} (hT : tapok W L) (hp1 : tpr N v W L) (h4 : u 4 = L) (hM : M 73 = W) (h1 : 0 ≤ M 70 1 ∧ M 70 1 < 4) : ∃ (cn : Nat) (s' : gs) (cl' : List (Int × Int × Int)) (v' : Nat → Nat → Int) (N' : Nat → Int → Int) (u' : Nat → Int) (M' : Nat → Int → Int), FIN (ltk W L) (lpl W L) (lbh W L) cn L W s' cl' v' N' u' M' ∧ (cn : Int) ≤ L ∧ lpl W L cn = L ∧ u' 12 = 681 * M 70 1 ∧ frv2 v v' ∧ frn2 N N' ∧ (∀ k, k < 7 ∨ 19 < k → u' k = u k) ∧ (∀ j, j ≠ 72 → j ≠ 74 → M' j = M j) ∧ (∀ i, i < 681 * M 70 1 ∨ 681 * M 70 1 + 681 ≤ i → M' 72 i = M 72 i) ∧ (∀ (F : hp) (Q : Option Nat → hp → Prop), mX2_readTape_J86 Q 49 (kh F v' N' T) → mX2_readTape 49 (kh F v N T) Q) ∧ (∀ (F : hp) (Q : Int → hp → Prop), Q (rcd s') (rh F u' M') → mX12_readText 69 (rh F u M) Q) := by
  have hL := hT.1
  obtain ⟨cn, hc1, hc2, hc3⟩ := lex_cn (W := W) hL.1
  have ht := ltk_ok hL hc1 hc2 hc3
  have nx := ntx_t hT cn
  have ch := chx_t hT
  obtain ⟨A, B, s1, s2⟩ := st_c (T := T) hL hp1 hc1 hc2 hc3
  have tk0 := s1 0 (by omega)
  have tkb := ht.2.2 0 (by omega)
  obtain ⟨U, f1, f2⟩ := fill_55 (T := T) (N := um (um N 51 A) 52 B) (v := vv (vv (vv (vv (vv (vv (vv v 49 7 0) 49 8 (-1)) 49 9 0) 49 10 (ltk W L 0)) 49 11 0) 49 12 0) 49 13 0) 4 0 ((um (um N 51 A) 52 B) 55) (by omega) (by omega) (fun j j0 j1 => by omega)
  have hC : CT (ltk W L) (lpl W L) cn 0 [] [] (vv (vv (vv (vv (vv (vv (vv v 49 7 0) 49 8 (-1)) 49 9 0) 49 10 (ltk W L 0)) 49 11 0) 49 12 0) 49 13 0) (um (um (um N 51 A) 52 B) 55 U) := by
    refine ⟨⟨v 49 14, by simp [vv, uu], by simp [vv, uu], fun i hi => ?_, ⟨by simp [vv, uu], by simp [vv, uu], by simp [vv, uu], by simp [vv, uu], by simp [vv, uu], fun i p hi => absurd hi (by simp), by omega, by simp⟩⟩, by simp [vv, uu], by simp, fun i t hi => absurd hi (by simp), .inl ⟨by rw [um_eq]; exact f1 0 (by omega) (by omega), fun t ht => absurd ht (by simp)⟩, .inl ⟨by rw [um_eq]; exact f1 2 (by omega) (by omega), fun t ht => absurd ht (by simp)⟩⟩
    rw [um_ne (by decide), um_ne (by decide), um_eq, um_ne (by decide), um_eq]
    exact s1 i hi
  obtain ⟨u1, r1, r2, r3⟩ := nt_g (M := um M 72 (us (M 72) (681 * M 70 1) 0)) (j := 0) (u := uu (uu (uu (uu u 12 (681 * M 70 1)) 13 0) 19 0) 7 0) hT (by rw [um_ne (by decide)]; exact hM) (by rw [uu_ne (by decide), uu_ne (by decide), uu_ne (by decide), uu_ne (by decide)]; exact h4) (by rw [uu_eq]; rfl)
  have e12 : u1 12 = 681 * M 70 1 := by rw [r2 12 (by decide), uu_ne (by decide), uu_ne (by decide), uu_ne (by decide), uu_eq]
  have hR : RT (ltk W L) (lpl W L) (lbh W L) cn L W 0 [] [] u1 (um M 72 (us (M 72) (681 * M 70 1) 0)) := by
    refine ⟨r1, ⟨?_, by omega, fun i p hi => absurd hi (by simp)⟩, ⟨?_, fun i c hi => absurd hi (by simp)⟩, ?_, ?_, ?_, ⟨by omega, by simp, by simp⟩⟩
    · rw [r2 13 (by decide), uu_ne (by decide), uu_ne (by decide), uu_eq]; rfl
    · rw [e12, um_eq, us_eq]; rfl
    · have : u1 19 = 0 := by rw [r2 19 (by decide), uu_ne (by decide), uu_eq]
      rw [this]
      refine ⟨by omega, fun w hw => ⟨fun t => ?_, fun ⟨c, hc, _⟩ => absurd hc (by simp)⟩⟩
      exfalso
      rcases hw with rfl | rfl
      · exact absurd t (by decide)
      · exact absurd t (by decide)
    · rw [r2 4 (by decide), uu_ne (by decide), uu_ne (by decide), uu_ne (by decide), uu_ne (by decide)]; exact h4
    · rw [um_ne (by decide)]; exact hM
  obtain ⟨s', cl', v', N', u', M', g1, g2, g3, g4, g5, g6, g7⟩ := tx_l (T := T) nx ch ht cn 0 [] [] _ _ _ _ (by omega) hC hR (fun c hc => absurd hc (by simp))
  rw [e12] at g5
  refine ⟨cn, s', cl', v', N', u', M', g1, hc1, hc2, by rw [g4 12 (by omega)]; exact e12, fun h hh => ?_, fun j hj => ?_, fun k hk => ?_, fun j j1 j2 => ?_, fun i hi => ?_, fun F Q z => ?_, fun F Q z => ?_⟩
  · rw [g2.1 h hh]; simp [vv, hh]
  · rw [g3 j (by omega) (by omega) (by omega), um_ne (by omega), um_ne (by omega), um_ne (by omega)]
  · rw [g4 k (by omega), r2 k (by omega), uu_ne (by omega), uu_ne (by omega), uu_ne (by omega), uu_ne (by omega)]
  · rw [g5.1 j j1 j2, um_ne j1]
  · rw [g5.2 i hi, um_eq, us_ne (by omega)]
  · have z1 := g6 F Q z
    have e0 : (um (um N 51 A) 52 B) 51 0 = ltk W L 0 := by rw [um_ne (by decide), um_eq]; exact tk0.1
    have z2 := f2 F (fun F13 => ∃ k14, mX2_readTape_L54 Q k14 49 0 F13) ⟨_, z1⟩
    rw [um_id] at z2
    simp (disch := first | omega | decide) only [mX2_readTape, ↓kh_c49, ↓kh_g49_0, ↓kh_g49_1, ↓kh_g49_2, ↓kh_g49_3, ↓kh_g49_4, ↓kh_g49_5, ↓kh_g49_6, ↓kh_p49_6, ↓kh_g49_7, ↓kh_p49_7, ↓kh_g49_8, ↓kh_p49_8, ↓kh_g49_9, ↓kh_p49_9, ↓kh_g49_10, ↓kh_p49_10, ↓kh_g49_11, ↓kh_p49_11, ↓kh_g49_12, ↓kh_p49_12, ↓kh_g49_13, ↓kh_p49_13, ↓kh_g49_14, ↓kh_p49_14, ↓be_y, ↓be_n, ↓bf_y, ↓bf_n, ↓bl_y, ↓bl_n, ↓bm_y, ↓bm_n, ↓bg_y, ↓bg_n, ↓bs_y, ↓bs_n, ↓bo_y, ↓bo_n, ↓bp_y, ↓bp_n, ↓forall_eq, ↓within_y, ↓within_n, ↓isIn_y, ↓isIn_n, and_true, true_and, and_self, us_at, us_ne, w32_id, um_eq, um_ne, um_um, uu_eq, uu_ne, uu_uu, vv_eq, vv_ne, vv_vv, ne_eq, not_false_eq_true, not_true_eq_false, reduceCtorEq, Int.reduceAdd, Int.reduceSub, Int.reduceMul, Int.reduceNeg, Nat.reduceEqDiff, or_true, true_or, true_implies, false_implies, Int.reduceLT, Int.reduceLE, Int.reduceEq]
    refine s2 F _ ?_
    simp (disch := first | omega | decide) only [mJ7_fill_53178, ↓kh_c49, ↓kh_g49_0, ↓kh_g49_1, ↓kh_g49_2, ↓kh_g49_3, ↓kh_g49_4, ↓kh_g49_5, ↓kh_g49_6, ↓kh_p49_6, ↓kh_g49_7, ↓kh_p49_7, ↓kh_g49_8, ↓kh_p49_8, ↓kh_g49_9, ↓kh_p49_9, ↓kh_g49_10, ↓kh_p49_10, ↓kh_g49_11, ↓kh_p49_11, ↓kh_g49_12, ↓kh_p49_12, ↓kh_g49_13, ↓kh_p49_13, ↓kh_g49_14, ↓kh_p49_14, ↓kh_r51, ↓kh_w51, ↓kh_n51, ↓kh_r55, ↓kh_w55, ↓kh_n55, ↓be_y, ↓be_n, ↓bf_y, ↓bf_n, ↓bl_y, ↓bl_n, ↓bm_y, ↓bm_n, ↓bg_y, ↓bg_n, ↓bs_y, ↓bs_n, ↓bo_y, ↓bo_n, ↓bp_y, ↓bp_n, ↓forall_eq, ↓within_y, ↓within_n, ↓isIn_y, ↓isIn_n, and_true, true_and, and_self, us_at, us_ne, w32_id, um_eq, um_ne, um_um, uu_eq, uu_ne, uu_uu, vv_eq, vv_ne, vv_vv, ne_eq, not_false_eq_true, not_true_eq_false, reduceCtorEq, Int.reduceAdd, Int.reduceSub, Int.reduceMul, Int.reduceNeg, Nat.reduceEqDiff, or_true, true_or, true_implies, false_implies, Int.reduceLT, Int.reduceLE, Int.reduceEq, e0]
    exact ⟨_, z2⟩
  · simp (disch := first | omega | decide) only [mX12_readText, ↓rh_rcv, ↓rh_g0, ↓rh_g2, ↓rh_g7, ↓rh_p7, ↓rh_g12, ↓rh_p12, ↓rh_g13, ↓rh_p13, ↓rh_g19, ↓rh_p19, ↓rh_r70, ↓rh_w70, ↓rh_r72, ↓rh_w72, ↓be_y, ↓be_n, ↓bf_y, ↓bf_n, ↓bl_y, ↓bl_n, ↓bm_y, ↓bm_n, ↓bg_y, ↓bg_n, ↓bs_y, ↓bs_n, ↓bo_y, ↓bo_n, ↓bp_y, ↓bp_n, ↓forall_eq, ↓within_y, ↓within_n, ↓isIn_y, ↓isIn_n, and_true, true_and, and_self, us_at, us_ne, w32_id, um_eq, um_ne, um_um, uu_eq, uu_ne, uu_uu, vv_eq, vv_ne, vv_vv, ne_eq, not_false_eq_true, not_true_eq_false, reduceCtorEq, Int.reduceAdd, Int.reduceSub, Int.reduceMul, Int.reduceNeg, Nat.reduceEqDiff, or_true, true_or, true_implies, false_implies, Int.reduceLT, Int.reduceLE, Int.reduceEq]
    refine r3 F _ ?_
    exact ⟨_, g7 F Q z⟩
end TL
