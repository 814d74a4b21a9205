def gK (s : gs) : Prop := ∀ k e, s = .inr (k, e) → 1 ≤ k ∧ k ≤ 6
theorem gK_adv {s : gs} (h : gK s) : gK (gadv s) := by
  rcases s with ⟨j, o⟩ | ⟨k, e⟩
  · intro k e h'; exact absurd h' (by simp [gadv])
  · exact h
theorem gK_emt {p : Int × Int} {s : gs} (h : gK s) : gK (gemt p s) := by
  rcases s with ⟨j, o⟩ | ⟨k, e⟩
  · intro k e h'; exact absurd h' (by simp [gemt])
  · exact h
theorem gK_fal {x : Int} (hx : 1 ≤ x ∧ x ≤ 6) {s : gs} (h : gK s) : gK (gfal x s) := by
  rcases s with ⟨j, o⟩ | ⟨k, e⟩
  · intro k e h'
    simp only [gfal, Sum.inr.injEq, Prod.mk.injEq] at h'
    omega
  · exact h
theorem gK_exp {tk : Nat → Int} {c : Int} {s : gs} (h : gK s) : gK (gexp tk c s) := by
  unfold gexp
  by_cases d : gcur tk s = c
  · rw [if_pos d]; exact gK_adv h
  · rw [if_neg d]; exact gK_fal (by omega) h
theorem gg_k {tk : Nat → Int} {mo : Bool} {m d : Nat} {s s' : gs} (h : gg tk mo m d s s') : gK s → gK s' := by
  refine gg_ind (C := fun _ _ s s' => gK s → gK s') h ?r_sum ?r_smE ?r_smO ?r_pro ?r_prE ?r_prO ?r_num ?r_big ?r_nam ?r_noN ?r_non ?r_dee ?r_par ?r_una ?r_iff ?r_cho ?r_eit ?r_eiE ?r_eiO ?r_bot ?r_boE ?r_boO ?r_nott ?r_noD ?r_ask ?r_asF
  case r_sum => exact fun d s s1 s2 _ i1 _ i2 h => i2 (i1 h)
  case r_smE => exact fun d s _ h => h
  case r_smO => exact fun d s s1 s2 _ _ i1 _ i2 h => i2 (gK_emt (i1 (gK_adv h)))
  case r_pro => exact fun d s s1 s2 _ i1 _ i2 h => i2 (i1 h)
  case r_prE => exact fun d s _ h => h
  case r_prO => exact fun d s s1 s2 _ _ i1 _ i2 h => i2 (gK_emt (i1 (gK_adv h)))
  case r_num => exact fun d s _ _ h => gK_emt (gK_adv h)
  case r_big => exact fun d s _ h => gK_fal (by omega) h
  case r_nam => exact fun d s _ _ _ h => gK_emt (gK_adv h)
  case r_noN => exact fun d s _ _ _ h => gK_fal (by omega) h
  case r_non => exact fun d s _ _ _ h => gK_fal (by omega) h
  case r_dee => exact fun d s _ _ h => gK_fal (by omega) h
  case r_par => exact fun d s s1 _ _ _ i1 h => gK_exp (i1 (gK_adv h))
  case r_una => exact fun d s s1 _ _ _ i1 h => gK_emt (i1 (gK_adv h))
  case r_iff => exact fun d s s1 _ _ _ i1 h => i1 (gK_adv h)
  case r_cho => exact fun d s s1 s2 s3 _ i1 _ i2 _ i3 h => gK_emt (gK_exp (i3 (gK_exp (i2 (gK_exp (i1 h))))))
  case r_eit => exact fun d s s1 s2 _ i1 _ i2 h => i2 (i1 h)
  case r_eiE => exact fun d s _ h => h
  case r_eiO => exact fun d s s1 s2 _ _ i1 _ i2 h => i2 (gK_emt (i1 (gK_adv h)))
  case r_bot => exact fun d s s1 s2 _ i1 _ i2 h => i2 (i1 h)
  case r_boE => exact fun d s _ h => h
  case r_boO => exact fun d s s1 s2 _ _ i1 _ i2 h => i2 (gK_emt (i1 (gK_adv h)))
  case r_nott => exact fun d s s1 _ _ _ i1 h => gK_emt (i1 (gK_adv h))
  case r_noD => exact fun d s _ _ h => gK_fal (by omega) h
  case r_ask => exact fun d s s1 s2 _ _ i1 _ _ i2 h => gK_emt (i2 (gK_adv (i1 h)))
  case r_asF => exact fun d s s1 _ _ i1 _ h => gK_fal (by omega) (i1 h)
theorem rcv_69 {F : hp} {K : Nat → Prop} (h : rcv F (some 69) 12 (fun o => o = 69)) (k : K 69) : rcv F (some 69) 12 K := by
  revert h
  unfold rcv
  dsimp only
  split
  · rintro ⟨a, -⟩; exact ⟨a, k⟩
  · exact fun h => h.elim
section RY
variable {tk plc bh : Nat → Int} {cn : Nat} {L : Int} {W : Int → Int} {u : Nat → Int} {M : Nat → Int → Int} {F : hp} {o : List (Int × Int)} {j : Nat} {cl cl' : List (Int × Int × Int)}
theorem fin_r (nx : ntx tk plc bh cn L W) (t44 : tk cn = 44) {s3 : gs} {u3 : Nat → Int} {M3 : Nat → Int → Int} {X : Int → Int} {t sr a b : Int} (ok : ∀ i c, s3 = .inl (i, c) → rtk tk plc bh i u3 ∧ i ≤ cn ∧ c.length ≤ i ∧ ots c u3 M3) (bad : ∀ k e, s3 = .inr (k, e) → u3 8 = plc e ∧ 1 ≤ k ∧ k ≤ 6) (h4 : u3 4 = L) (hM : M3 73 = W) (h12 : u3 12 = t) (hb : 0 ≤ t ∧ t ≤ 2043) (hl : cl.length < 24) (h19 : rco (cl ++ [(sr, a, b)]) (u3 19)) (hr : rcl cl X t) (g0 : M3 72 t = X t) (g1 : ∀ i, t < i → i < t + 1 + 3 * cl.length → M3 72 i = X i) (g2 : M3 72 (t + 1 + 3 * cl.length) = sr) (g3 : ∀ i c, s3 = .inl (i, c) → sr ≠ 5 → M3 72 (t + 1 + 3 * cl.length + 1) = a ∧ (sr ≠ 7 → M3 72 (t + 1 + 3 * cl.length + 2) = b)) : ∃ u' M', (∀ i c, gexp tk 40 s3 = .inl (i, c) → RT tk plc bh cn L W i c (cl ++ [(sr, a, b)]) u' M') ∧ (∀ k e, gexp tk 40 s3 = .inr (k, e) → u' 8 = plc e ∧ 1 ≤ k ∧ k ≤ 6) ∧ frR u3 u' ∧ frT t M3 M' ∧ ∀ (F : hp) (Q : Int → hp → Prop), Q (rcd (gexp tk 40 s3)) (rh F u' M') → ((w32 (rcd s3) = 0 → rEnd Q (rh F u3 M3)) ∧ (¬ w32 (rcd s3) = 0 → Q (rcd s3) (rh F u3 M3))) := by
  rcases s3 with ⟨i, c⟩ | ⟨k, e⟩
  · obtain ⟨r1, r2, r3, r4⟩ := ok i c rfl
    obtain ⟨u', a1, a2, a3, a4⟩ := rc_e nx t44 r1 r2 h4 hM (by omega) c
    rw [h12] at a4
    refine ⟨u', um M3 72 (us (M3 72) t (M3 72 t + 1)), fun i' c' e => ?_, a3, frR_u a1, frT_w (by omega), fun F Q q => ⟨fun _ => a4 F Q q, fun n => absurd (show w32 0 = 0 by decide) n⟩⟩
    obtain ⟨k1, k2, k3, k4⟩ := a2 i' c' e
    subst k4
    have g3' := g3 i _ rfl
    refine ⟨k1, ots_k (a1 13 (by decide)) (a1 12 (by decide)) (fun i hi => by rw [um_eq, us_ne (by omega)]) r4, ?_, by rw [a1 19 (by decide)]; exact h19, by rw [a1 4 (by decide)]; exact h4, by rw [um_ne (by decide)]; exact hM, ⟨k3, by omega, by rw [List.length_append, List.length_singleton]; omega⟩⟩
    rw [a1 12 (by decide), h12, um_eq]
    refine rcl_put hr (fun i h1 h2 => by rw [us_ne (by omega)]; exact g1 i h1 h2) (by rw [us_eq, g0, hr.1]) (by rw [us_ne (by omega)]; exact g2) (fun hs => ?_)
    rw [us_ne (by omega), us_ne (by omega)]
    exact g3' hs
  · have kb := bad k e rfl
    rw [gexp_bad (by decide)]
    refine ⟨u3, M3, fun i c e => absurd e (by simp), fun k' e' h' => ?_, fun _ _ => rfl, frT_r M3, fun F Q q => ⟨fun z => ?_, fun _ => q⟩⟩
    · simp only [Sum.inr.injEq, Prod.mk.injEq] at h'
      rw [← h'.1, ← h'.2]; exact kb
    · have z : w32 k = 0 := z
      rw [w32_id (by omega) (by omega)] at z
      omega
theorem cl_65 (nx : ntx tk plc bh cn L W) (h : rtk tk plc bh j u) (hj : j < cn) (h4 : u 4 = L) (hM : M 73 = W) {sr n : Int} (h12 : 0 ≤ u 12 ∧ u 12 ≤ 2043) (hn : 0 ≤ n ∧ n < 24) : ∃ u2, rtk tk plc bh (j + 1) u2 ∧ fru (uu u 14 sr) u2 ∧ ∀ (F : hp) (Q : Int → hp → Prop), mX12_body 69 sr (u 12 + 1 + 3 * n) (rh F u2 (um M 72 (us (M 72) (u 12 + 1 + 3 * n) sr))) (fun x9 F8 => (w32 x9 = 0 → rEnd Q F8) ∧ (¬ w32 x9 = 0 → Q x9 F8)) → mX12_clause_J65 Q 69 sr n (rh F u M) := by
  obtain ⟨u2, a1, a2, a3⟩ := nx j (uu u 14 sr) M hj (by rw [uu_ne (by decide)]; exact h4) hM (rtk_u (fun k k1 k2 => uu_ne (by omega)) h)
  refine ⟨u2, a1, a2, fun F Q q => ?_⟩
  have e12 : u2 12 = u 12 := by rw [a2 12 (by decide), uu_ne (by decide)]
  simp (disch := first | omega | decide) only [mX12_clause_J65, ↓rh_rcv, ↓rh_g14, ↓rh_p14, ↓be_y, ↓be_n, ↓bf_y, ↓bf_n, ↓bl_y, ↓bl_n, ↓bm_y, ↓bm_n, ↓bg_y, ↓bg_n, ↓bs_y, ↓bs_n, ↓bo_y, ↓bo_n, ↓bp_y, ↓bp_n, ↓forall_eq, ↓within_y, ↓within_n, ↓isIn_y, ↓isIn_n, and_true, true_and, and_self, us_at, us_ne, w32_id, um_eq, um_ne, um_um, uu_eq, uu_ne, uu_uu, vv_eq, vv_ne, vv_vv, ne_eq, not_false_eq_true, not_true_eq_false, reduceCtorEq, Int.reduceAdd, Int.reduceSub, Int.reduceMul, Int.reduceNeg, Nat.reduceEqDiff, or_true, true_or, true_implies, false_implies, Int.reduceLT, Int.reduceLE, Int.reduceEq]
  refine a3 F _ ?_
  simp (disch := first | omega | decide) only [w32_id, ↓rh_rcv, ↓rh_g2, ↓rh_g12, ↓rh_p12, ↓rh_r72, ↓rh_w72, ↓be_y, ↓be_n, ↓bf_y, ↓bf_n, ↓bl_y, ↓bl_n, ↓bm_y, ↓bm_n, ↓bg_y, ↓bg_n, ↓bs_y, ↓bs_n, ↓bo_y, ↓bo_n, ↓bp_y, ↓bp_n, ↓forall_eq, ↓within_y, ↓within_n, ↓isIn_y, ↓isIn_n, and_true, true_and, and_self, us_at, us_ne, w32_id, um_eq, um_ne, um_um, uu_eq, uu_ne, uu_uu, vv_eq, vv_ne, vv_vv, ne_eq, not_false_eq_true, not_true_eq_false, reduceCtorEq, Int.reduceAdd, Int.reduceSub, Int.reduceMul, Int.reduceNeg, Nat.reduceEqDiff, or_true, true_or, true_implies, false_implies, Int.reduceLT, Int.reduceLE, Int.reduceEq, e12]
  unfold rEnd at q
  exact q
theorem cl_29 (ch : chx tk plc bh L W) (h : RT tk plc bh cn L W j o cl u M) (c1 : (11 ≤ tk j ∧ tk j ≤ 17) ∨ tk j = 0) (c2 : ¬ ((tk j = 11 ∨ tk j = 12) ∧ ∃ t, t ∈ cl ∧ t.1 = tk j - 11)) {Q : Int → hp → Prop} (q : mX12_clause_J29 Q 69 (srt (tk j)) (rh F u M)) : mX12_clause 69 (rh F u M) Q := by
  obtain ⟨h1, h2, h3, h4, h5, h6, h7⟩ := h
  have hn := h4.1
  have sb : 0 ≤ srt (tk j) ∧ srt (tk j) ≤ 7 := by unfold srt; split <;> (try split) <;> omega
  simp (disch := first | omega | decide) only [mX12_clause, ↓rh_rcv, ↓rh_g0, ↓be_y, ↓be_n, ↓bf_y, ↓bf_n, ↓bl_y, ↓bl_n, ↓bm_y, ↓bm_n, ↓bg_y, ↓bg_n, ↓bs_y, ↓bs_n, ↓bo_y, ↓bo_n, ↓bp_y, ↓bp_n, ↓forall_eq, ↓within_y, ↓within_n, ↓isIn_y, ↓isIn_n, and_true, true_and, and_self, us_at, us_ne, w32_id, um_eq, um_ne, um_um, uu_eq, uu_ne, uu_uu, vv_eq, vv_ne, vv_vv, ne_eq, not_false_eq_true, not_true_eq_false, reduceCtorEq, Int.reduceAdd, Int.reduceSub, Int.reduceMul, Int.reduceNeg, Nat.reduceEqDiff, or_true, true_or, true_implies, false_implies, Int.reduceLT, Int.reduceLE, Int.reduceEq]
  refine sort_r ch h1 h5 h6 ?_
  by_cases d : tk j = 11 ∨ tk j = 12
  · have sw : srt (tk j) = tk j - 11 := by unfold srt; rw [if_pos (by omega)]
    have nt : tb (u 19) (srt (tk j)) = false := by
      rw [Bool.eq_false_iff]
      intro t
      obtain ⟨c, k1, k2⟩ := (h4.2 (srt (tk j)) (by omega)).1 t
      exact c2 ⟨d, c, k1, by omega⟩
    have hs := fun (F : hp) (Q : Int → hp → Prop) => has_s (F := F) (Q := Q) (x := u 19) (k := srt (tk j)) (by omega) (by omega)
    clear c2
    simp (disch := first | omega | decide) only [hs, ↓rh_rcv, ↓rh_g19, ↓rh_p19, ↓be_y, ↓be_n, ↓bf_y, ↓bf_n, ↓bl_y, ↓bl_n, ↓bm_y, ↓bm_n, ↓bg_y, ↓bg_n, ↓bs_y, ↓bs_n, ↓bo_y, ↓bo_n, ↓bp_y, ↓bp_n, ↓forall_eq, ↓within_y, ↓within_n, ↓isIn_y, ↓isIn_n, and_true, true_and, and_self, us_at, us_ne, w32_id, um_eq, um_ne, um_um, uu_eq, uu_ne, uu_uu, vv_eq, vv_ne, vv_vv, ne_eq, not_false_eq_true, not_true_eq_false, reduceCtorEq, Int.reduceAdd, Int.reduceSub, Int.reduceMul, Int.reduceNeg, Nat.reduceEqDiff, or_true, true_or, true_implies, false_implies, Int.reduceLT, Int.reduceLE, Int.reduceEq, nt]
    exact q
  · have sw : 1 < srt (tk j) := by unfold srt; split <;> (try split) <;> omega
    clear c2
    simp (disch := first | omega | decide) only [w32_id, ↓rh_rcv, ↓rh_g19, ↓rh_p19, ↓be_y, ↓be_n, ↓bf_y, ↓bf_n, ↓bl_y, ↓bl_n, ↓bm_y, ↓bm_n, ↓bg_y, ↓bg_n, ↓bs_y, ↓bs_n, ↓bo_y, ↓bo_n, ↓bp_y, ↓bp_n, ↓forall_eq, ↓within_y, ↓within_n, ↓isIn_y, ↓isIn_n, and_true, true_and, and_self, us_at, us_ne, w32_id, um_eq, um_ne, um_um, uu_eq, uu_ne, uu_uu, vv_eq, vv_ne, vv_vv, ne_eq, not_false_eq_true, not_true_eq_false, reduceCtorEq, Int.reduceAdd, Int.reduceSub, Int.reduceMul, Int.reduceNeg, Nat.reduceEqDiff, or_true, true_or, true_implies, false_implies, Int.reduceLT, Int.reduceLE, Int.reduceEq]
    exact q
set_option maxHeartbeats 8000000 in
theorem rz_r (nx : ntx tk plc bh cn L W) (ch : chx tk plc bh L W) (ht : tkok tk cn) (h : RT tk plc bh cn L W j o cl u M) {s' : gs} (hz : gcz tk j o cl s' cl') : ∃ u' M', (∀ i c, s' = .inl (i, c) → RT tk plc bh cn L W i c cl' u' M') ∧ (∀ k e, s' = .inr (k, e) → u' 8 = plc e ∧ 1 ≤ k ∧ k ≤ 6) ∧ frR u u' ∧ frT (u 12) M M' ∧ ∀ (F : hp) (Q : Int → hp → Prop), Q (rcd s') (rh F u' M') → mX12_clause 69 (rh F u M) Q := by
  obtain ⟨h1, h2, h3, h4, h5, h6, ⟨h7, h8, h9⟩⟩ := id h
  have t44 := ht.1
  have c300 := ht.2.1
  have h12 := h2.2.1
  have tb0 := ht.2.2 j h7
  have stay : ∀ k : Int, 1 ≤ k ∧ k ≤ 6 → (∀ (F : hp) (Q : Int → hp → Prop), Q k (rh F u M) → mX12_clause 69 (rh F u M) Q) → ∃ u' M', (∀ i c, (Sum.inr (k, j) : gs) = .inl (i, c) → RT tk plc bh cn L W i c cl' u' M') ∧ (∀ k' e, (Sum.inr (k, j) : gs) = .inr (k', e) → u' 8 = plc e ∧ 1 ≤ k' ∧ k' ≤ 6) ∧ frR u u' ∧ frT (u 12) M M' ∧ ∀ (F : hp) (Q : Int → hp → Prop), Q (rcd (.inr (k, j))) (rh F u' M') → mX12_clause 69 (rh F u M) Q := fun k hk run => by
    refine ⟨u, M, fun i c e => absurd e (by simp), fun k' e h' => ?_, fun _ _ => rfl, frT_r M, run⟩
    simp only [Sum.inr.injEq, Prod.mk.injEq] at h'
    rw [← h'.1, ← h'.2]; exact ⟨h1.2.1, hk⟩
  rcases hz with ⟨c1, c2, rfl⟩ | ⟨c1, ⟨t1, t2, t3⟩, rfl⟩ | ⟨c1, c2, hz⟩
  · refine stay 1 (by omega) (fun F Q q => ?_)
    have sm : srt (tk j) = -1 := by unfold srt; rw [if_neg c1, if_neg c2]
    simp (disch := first | omega | decide) only [mX12_clause, ↓rh_rcv, ↓rh_g0, ↓be_y, ↓be_n, ↓bf_y, ↓bf_n, ↓bl_y, ↓bl_n, ↓bm_y, ↓bm_n, ↓bg_y, ↓bg_n, ↓bs_y, ↓bs_n, ↓bo_y, ↓bo_n, ↓bp_y, ↓bp_n, ↓forall_eq, ↓within_y, ↓within_n, ↓isIn_y, ↓isIn_n, and_true, true_and, and_self, us_at, us_ne, w32_id, um_eq, um_ne, um_um, uu_eq, uu_ne, uu_uu, vv_eq, vv_ne, vv_vv, ne_eq, not_false_eq_true, not_true_eq_false, reduceCtorEq, Int.reduceAdd, Int.reduceSub, Int.reduceMul, Int.reduceNeg, Nat.reduceEqDiff, or_true, true_or, true_implies, false_implies, Int.reduceLT, Int.reduceLE, Int.reduceEq]
    refine sort_r ch h1 h5 h6 ?_
    rw [sm]
    simp (disch := first | omega | decide) only [w32_id, ↓rh_rcv, ↓rh_g0, ↓be_y, ↓be_n, ↓bf_y, ↓bf_n, ↓bl_y, ↓bl_n, ↓bm_y, ↓bm_n, ↓bg_y, ↓bg_n, ↓bs_y, ↓bs_n, ↓bo_y, ↓bo_n, ↓bp_y, ↓bp_n, ↓forall_eq, ↓within_y, ↓within_n, ↓isIn_y, ↓isIn_n, and_true, true_and, and_self, us_at, us_ne, w32_id, um_eq, um_ne, um_um, uu_eq, uu_ne, uu_uu, vv_eq, vv_ne, vv_vv, ne_eq, not_false_eq_true, not_true_eq_false, reduceCtorEq, Int.reduceAdd, Int.reduceSub, Int.reduceMul, Int.reduceNeg, Nat.reduceEqDiff, or_true, true_or, true_implies, false_implies, Int.reduceLT, Int.reduceLE, Int.reduceEq]
    exact q
  · refine stay 4 (by omega) (fun F Q q => ?_)
    have sw : srt (tk j) = tk j - 11 := by unfold srt; rw [if_pos (by omega)]
    have hn := h4.1
    have nt : tb (u 19) (tk j - 11) = true := (h4.2 (tk j - 11) (by omega)).2 ⟨t1, t2, t3⟩
    have hs := fun (F : hp) (Q : Int → hp → Prop) => has_s (F := F) (Q := Q) (x := u 19) (k := tk j - 11) (by omega) (by omega)
    simp (disch := first | omega | decide) only [mX12_clause, ↓rh_rcv, ↓rh_g0, ↓be_y, ↓be_n, ↓bf_y, ↓bf_n, ↓bl_y, ↓bl_n, ↓bm_y, ↓bm_n, ↓bg_y, ↓bg_n, ↓bs_y, ↓bs_n, ↓bo_y, ↓bo_n, ↓bp_y, ↓bp_n, ↓forall_eq, ↓within_y, ↓within_n, ↓isIn_y, ↓isIn_n, and_true, true_and, and_self, us_at, us_ne, w32_id, um_eq, um_ne, um_um, uu_eq, uu_ne, uu_uu, vv_eq, vv_ne, vv_vv, ne_eq, not_false_eq_true, not_true_eq_false, reduceCtorEq, Int.reduceAdd, Int.reduceSub, Int.reduceMul, Int.reduceNeg, Nat.reduceEqDiff, or_true, true_or, true_implies, false_implies, Int.reduceLT, Int.reduceLE, Int.reduceEq]
    refine sort_r ch h1 h5 h6 ?_
    rw [sw]
    simp (disch := first | omega | decide) only [hs, ↓rh_rcv, ↓rh_g19, ↓rh_p19, ↓be_y, ↓be_n, ↓bf_y, ↓bf_n, ↓bl_y, ↓bl_n, ↓bm_y, ↓bm_n, ↓bg_y, ↓bg_n, ↓bs_y, ↓bs_n, ↓bo_y, ↓bo_n, ↓bp_y, ↓bp_n, ↓forall_eq, ↓within_y, ↓within_n, ↓isIn_y, ↓isIn_n, and_true, true_and, and_self, us_at, us_ne, w32_id, um_eq, um_ne, um_um, uu_eq, uu_ne, uu_uu, vv_eq, vv_ne, vv_vv, ne_eq, not_false_eq_true, not_true_eq_false, reduceCtorEq, Int.reduceAdd, Int.reduceSub, Int.reduceMul, Int.reduceNeg, Nat.reduceEqDiff, or_true, true_or, true_implies, false_implies, Int.reduceLT, Int.reduceLE, Int.reduceEq, nt]
    exact q
  · rcases hz with ⟨c3, rfl⟩ | ⟨c3, hz⟩
    · refine stay 6 (by omega) (fun F Q q => cl_29 ch h c1 c2 ?_)
      have e24 : M 72 (u 12) = 24 := by rw [h3.1]; omega
      simp (disch := first | omega | decide) only [mX12_clause_J29, ↓rh_rcv, ↓rh_g2, ↓rh_g12, ↓rh_p12, ↓rh_r72, ↓rh_w72, ↓be_y, ↓be_n, ↓bf_y, ↓bf_n, ↓bl_y, ↓bl_n, ↓bm_y, ↓bm_n, ↓bg_y, ↓bg_n, ↓bs_y, ↓bs_n, ↓bo_y, ↓bo_n, ↓bp_y, ↓bp_n, ↓forall_eq, ↓within_y, ↓within_n, ↓isIn_y, ↓isIn_n, and_true, true_and, and_self, us_at, us_ne, w32_id, um_eq, um_ne, um_um, uu_eq, uu_ne, uu_uu, vv_eq, vv_ne, vv_vv, ne_eq, not_false_eq_true, not_true_eq_false, reduceCtorEq, Int.reduceAdd, Int.reduceSub, Int.reduceMul, Int.reduceNeg, Nat.reduceEqDiff, or_true, true_or, true_implies, false_implies, Int.reduceLT, Int.reduceLE, Int.reduceEq, e24]
      exact q
    · have hj : j < cn := by
        have : j ≠ cn := fun e => by rw [e, t44] at c1; omega
        omega
      have e0 : M 72 (u 12) = (cl.length : Int) := h3.1
      clear stay
      rcases hz with ⟨k1, s1, k2, rfl, k3⟩ | ⟨k1, rfl, rfl⟩ | ⟨k1, rfl, rfl⟩ | ⟨k1, rfl, rfl⟩
      · -- a law
        obtain ⟨w, hw, hw1⟩ : ∃ w : Int, (w = 0 ∨ w = 1) ∧ tk j = w + 11 := by
          rcases k1 with k | k
          · exact ⟨0, .inl rfl, by omega⟩
          · exact ⟨1, .inr rfl, by omega⟩
        have sw : srt (tk j) = w := by unfold srt; rw [if_pos (by omega)]; omega
        obtain ⟨u2, a1, a2, a3⟩ := cl_65 (M := M) (u := uu u 19 (iOr (u 19) (iShl 1 w))) (sr := w) (n := (cl.length : Int)) nx (rtk_u (fun k k1 k2 => uu_ne (by omega)) h1) hj (by rw [uu_ne (by decide)]; exact h5) h6 (by rw [uu_ne (by decide)]; exact h12) (by omega)
        rw [uu_ne (by decide)] at a3
        have f2 : ∀ k, k < 7 ∨ 11 < k → k ≠ 14 → k ≠ 19 → u2 k = u k := fun k hk h14 h19 => by rw [a2 k hk, uu_ne h14, uu_ne h19]
        have e12 : u2 12 = u 12 := f2 12 (by decide) (by decide) (by decide)
        -- the state where the sum begins
        have hM2 : ∀ x y : Int, (um (um M 72 (us (M 72) x w)) 72 (us (us (M 72) x w) (x + 1) y)) = um M 72 (us (us (M 72) x w) (x + 1) y) := fun x y => um_um _ _ _ _
        have st : rstq tk plc bh cn (decide (tk j = 11)) L W (j + 1) [] o false (uu (uu (uu u2 16 0) 17 0) 18 0) (um M 72 (us (us (M 72) (u 12 + 1 + 3 * cl.length) w) (u 12 + 1 + 3 * cl.length + 1) o.length)) := by
          refine ⟨rtk_u (fun k k1 k2 => by rw [uu_ne (by omega), uu_ne (by omega), uu_ne (by omega)]) a1, ⟨by rw [uu_ne (by decide), uu_ne (by decide), uu_eq]; rfl, by rw [uu_ne (by decide), uu_eq]; rfl, trivial⟩, ?_, by rw [uu_eq]; rfl, ?_, ⟨trivial, by show (0 : Nat) ≤ 8; omega, by simp only [List.length_nil]; omega, by omega⟩, ?_, ?_⟩
          · refine ots_k (u := u) (M := M) (by rw [uu_ne (by decide), uu_ne (by decide), uu_ne (by decide)]; exact f2 13 (by decide) (by decide) (by decide)) (by rw [uu_ne (by decide), uu_ne (by decide), uu_ne (by decide)]; exact e12) (fun i hi => ?_) h2
            rw [um_eq, us_ne (by omega), us_ne (by omega)]
          · rw [uu_ne (by decide), uu_ne (by decide), uu_ne (by decide), a2 14 (by decide), uu_eq]
            rcases hw with rfl | rfl
            · rw [if_pos (by simp [hw1])]
            · rw [if_neg (by simp [hw1])]
          · rw [uu_ne (by decide), uu_ne (by decide), uu_ne (by decide)]; rw [f2 4 (by decide) (by decide) (by decide)]; exact h5
          · rw [um_ne (by decide)]; exact h6
        obtain ⟨f, hm⟩ : ∃ f, mrun tk (decide (tk j = 11)) (j + 1) [] o false (rcd s1) (match s1 with
            | .inl (j1, _) => j1
            | .inr (_, e) => e) f ∧ ∀ j1 o1, s1 = .inl (j1, o1) → f = o1 := by
          rcases s1 with ⟨j1, o1⟩ | ⟨k, e⟩
          · exact ⟨o1, law_ok k2, fun j2 o2 e => by simp only [Sum.inl.injEq, Prod.mk.injEq] at e; exact e.2⟩
          · obtain ⟨f, g⟩ := law_bad k2
            exact ⟨f, g, fun _ _ e => absurd e (by simp)⟩
        obtain ⟨n, u3, M3, b1, b2, b3, b4, ⟨b5, b6, b7⟩, b8⟩ := mC_t nx ht hm.1 _ _ st
        have e12' : (uu (uu (uu u2 16 0) 17 0) 18 0) 12 = u 12 := by rw [uu_ne (by decide), uu_ne (by decide), uu_ne (by decide)]; exact e12
        rw [e12'] at b4
        have f3 : ∀ k, k < 7 ∨ k = 12 ∨ k = 15 ∨ k = 19 ∨ 19 < k → u3 k = u2 k := fun k hk => by rw [b3 k (by omega) (by omega) (by omega) (by omega) (by omega) (by omega) (by omega) (by omega) (by omega), uu_ne (by omega), uu_ne (by omega), uu_ne (by omega)]
        have g12 : u3 12 = u 12 := by rw [f3 12 (by omega)]; exact e12
        have g13 : u3 13 = (f.length : Int) := b2.1
        have g19 : u3 19 = iOr (u 19) (iShl 1 w) := by rw [f3 19 (by omega), a2 19 (by decide), uu_ne (by decide), uu_eq]
        have m3 : ∀ i, i < u 12 + 73 → M3 72 i = us (us (M 72) (u 12 + 1 + 3 * cl.length) w) (u 12 + 1 + 3 * cl.length + 1) o.length i := fun i hi => by rw [b4.2 i (.inl hi), um_eq]
        obtain ⟨u', M', d1, d2, d3, d4, d5⟩ := fin_r (X := M 72) (sr := w) (a := (o.length : Int)) (b := (f.length : Int)) (cl := cl) (s3 := s1) (u3 := u3) (M3 := um M3 72 (us (M3 72) (u 12 + 1 + 3 * cl.length + 2) f.length)) nx t44 (fun i c e => by
          have := hm.2 i c e
          subst e
          subst this
          refine ⟨b1, b5, b6, ots_k rfl rfl (fun i hi => ?_) b2⟩
          rw [g12] at hi
          rw [um_eq, us_ne (by omega)]) (fun k e h' => by
          subst h'
          have b1' : u3 8 = plc e := b1.2.1
          exact ⟨b1', gg_k k2 (fun k e h => absurd h (by simp)) k e rfl⟩) (by rw [f3 4 (by omega), f2 4 (by decide) (by decide) (by decide)]; exact h5) (by rw [um_ne (by decide), b4.1 73 (by decide) (by decide), um_ne (by decide)]; exact h6) g12 h12 c3 (by rw [g19]; exact rco_new h4 hw) h3 (by rw [um_eq, us_ne (by omega), m3 _ (by omega), us_ne (by omega), us_ne (by omega)]) (fun i i1 i2 => by rw [um_eq, us_ne (by omega), m3 _ (by omega), us_ne (by omega), us_ne (by omega)]) (by rw [um_eq, us_ne (by omega), m3 _ (by omega), us_ne (by omega), us_eq]) (fun i c e _ => by
          refine ⟨?_, fun _ => ?_⟩
          · rw [um_eq, us_ne (by omega), m3 _ (by omega), us_eq]
          · rw [um_eq, us_eq])
        refine ⟨u', M', fun i c e => ?_, d2, frR_t (fun k hk => by rw [f3 k (by omega), f2 k (by omega) (by omega) (by omega)]) d3, ?_, fun F Q q => cl_29 ch h c1 c2 ?_⟩
        · obtain ⟨i0, e1, e2⟩ := g_expO e
          have k3' := k3 _ _ e1
          have := hm.2 _ _ e1
          rw [this] at d1
          rw [k3', show tk j - 11 = w by omega]
          exact d1 i c e
        · refine frT_t ?_ (frT_t (frT_X b4) (frT_t (frT_w (x := (f.length : Int)) (i := u 12 + 1 + 3 * cl.length + 2) (by omega)) d4))
          exact ⟨fun k k1 k2 => um_ne k1, fun i hi => by rw [um_eq, us_ne (by omega), us_ne (by omega)]⟩
        · have q1 := d5 F Q q
          have q2 := b8 F (fun x5 F4 => gR F4 (some 69) 12 2 (fun x7 => gI F4 (some 69) 12 13 (fun x8 => sI F4 x7 0 (u 12 + 1 + 3 * cl.length + 2) x8 (fun F9 => (w32 x5 = 0 → rEnd Q F9) ∧ (¬ w32 x5 = 0 → Q x5 F9))))) (by
            simp only [rh_g2, rh_g13, g13]
            rw [rh_w72 (by omega) (by omega)]
            exact q1)
          have e13 : u2 13 = (o.length : Int) := by rw [f2 13 (by decide) (by decide) (by decide)]; exact h2.1
          have bd : mX12_body 69 w (u 12 + 1 + 3 * cl.length) (rh F u2 (um M 72 (us (M 72) (u 12 + 1 + 3 * cl.length) w))) (fun x9 F8 => (w32 x9 = 0 → rEnd Q F8) ∧ (¬ w32 x9 = 0 → Q x9 F8)) := by
            have lw : mX12_lawClause 69 (u 12 + 1 + 3 * cl.length) (rh F u2 (um M 72 (us (M 72) (u 12 + 1 + 3 * cl.length) w))) (fun x9 F8 => (w32 x9 = 0 → rEnd Q F8) ∧ (¬ w32 x9 = 0 → Q x9 F8)) := by
              unfold mX12_lawClause mX12_summed
              simp only [rh_g2, rh_g13, e13]
              rw [rh_w72 (by omega) (by omega), um_um, um_eq]
              simp only [rh_rcv, rh_p16, rh_p17, rh_p18]
              exact ⟨n, q2⟩
            unfold mX12_body
            rcases hw with rfl | rfl
            · refine ⟨fun t => absurd t (by decide), fun t => absurd t (by decide), fun t => absurd t (by decide), fun t => absurd t (by decide), fun t => absurd t (by decide), fun t => absurd t (by decide), fun _ => ?_⟩
              simp only [rh_rcv]
              exact lw
            · refine ⟨fun t => absurd t (by decide), fun t => absurd t (by decide), fun t => absurd t (by decide), fun t => absurd t (by decide), fun t => absurd t (by decide), fun t => absurd t (by decide), fun _ => ?_⟩
              simp only [rh_rcv]
              exact lw
          have q3 := a3 F Q bd
          rw [sw]
          clear c2
          simp (disch := first | omega | decide) only [mX12_clause_J29, ↓rh_rcv, ↓rh_g2, ↓rh_g12, ↓rh_p12, ↓rh_g19, ↓rh_p19, ↓rh_r72, ↓rh_w72, ↓be_y, ↓be_n, ↓bf_y, ↓bf_n, ↓bl_y, ↓bl_n, ↓bm_y, ↓bm_n, ↓bg_y, ↓bg_n, ↓bs_y, ↓bs_n, ↓bo_y, ↓bo_n, ↓bp_y, ↓bp_n, ↓forall_eq, ↓within_y, ↓within_n, ↓isIn_y, ↓isIn_n, and_true, true_and, and_self, us_at, us_ne, w32_id, um_eq, um_ne, um_um, uu_eq, uu_ne, uu_uu, vv_eq, vv_ne, vv_vv, ne_eq, not_false_eq_true, not_true_eq_false, reduceCtorEq, Int.reduceAdd, Int.reduceSub, Int.reduceMul, Int.reduceNeg, Nat.reduceEqDiff, or_true, true_or, true_implies, false_implies, Int.reduceLT, Int.reduceLE, Int.reduceEq, e0]
          exact q3
      · -- two numbers and a word between
        have sw : srt (tk j) = tk j - 11 := by unfold srt; rw [if_pos (by omega)]
        obtain ⟨u2, a1, a2, a3⟩ := cl_65 (M := M) (u := u) (sr := tk j - 11) (n := (cl.length : Int)) nx h1 hj h5 h6 h12 (by omega)
        have f2 : ∀ k, k < 7 ∨ 11 < k → k ≠ 14 → u2 k = u k := fun k hk h14 => by rw [a2 k hk, uu_ne h14]
        have go : ∀ (lo hi V lo2 hi2 : Int), plo (tk j) = lo → phi (tk j) = hi → pwd (tk j) = V → plo2 (tk j) = lo2 → phi2 (tk j) = hi2 → (0 ≤ lo ∧ lo ≤ hi ∧ hi ≤ 9999) → (0 ≤ V ∧ V ≤ 28) → (0 ≤ lo2 ∧ lo2 ≤ hi2 ∧ hi2 ≤ 9999) → (∀ (F : hp) (Q : Int → hp → Prop), mX12_pair 69 (u 12 + 1 + 3 * cl.length) lo hi (wrd V) lo2 hi2 F Q → rcv F (some 69) 12 (fun o5 => o5 = 69) → mX12_body 69 (tk j - 11) (u 12 + 1 + 3 * cl.length) F Q) → ∃ (u' : Nat → Int) (M' : Nat → Int → Int), (∀ i c, gexp tk 40 (gnum tk (plo2 (tk j)) (phi2 (tk j)) (gexp tk (pwd (tk j)) (gnum tk (plo (tk j)) (phi (tk j)) (.inl (j + 1, o))))) = .inl (i, c) → RT tk plc bh cn L W i c (cl ++ [(tk j - 11, tk (j + 1) - 100, tk (j + 3) - 100)]) u' M') ∧ (∀ k e, gexp tk 40 (gnum tk (plo2 (tk j)) (phi2 (tk j)) (gexp tk (pwd (tk j)) (gnum tk (plo (tk j)) (phi (tk j)) (.inl (j + 1, o))))) = .inr (k, e) → u' 8 = plc e ∧ 1 ≤ k ∧ k ≤ 6) ∧ frR u u' ∧ frT (u 12) M M' ∧ ∀ (F : hp) (Q : Int → hp → Prop), Q (rcd (gexp tk 40 (gnum tk (plo2 (tk j)) (phi2 (tk j)) (gexp tk (pwd (tk j)) (gnum tk (plo (tk j)) (phi (tk j)) (.inl (j + 1, o))))))) (rh F u' M') → mX12_clause 69 (rh F u M) Q := by
          intro lo hi V lo2 hi2 g1 g2 g3 g4 g5 hb hV hb2 body
          rw [g1, g2, g3, g4, g5]
          obtain ⟨u3, M3, b1, b2, b3, b4, b5, b6⟩ := pair_r (x := u 12 + 1 + 3 * cl.length) (M := um M 72 (us (M 72) (u 12 + 1 + 3 * cl.length) (tk j - 11))) nx t44 a1 (by omega) (by rw [f2 4 (by decide) (by decide)]; exact h5) (by rw [um_ne (by decide)]; exact h6) hb hV hb2 (by omega) o
          have f3 : ∀ k, k < 7 ∨ 11 < k → k ≠ 14 → u3 k = u k := fun k hk h14 => by rw [b1 k hk, f2 k hk h14]
          have m3 : ∀ i, i ≠ u 12 + 1 + 3 * cl.length → i ≠ u 12 + 1 + 3 * cl.length + 1 → i ≠ u 12 + 1 + 3 * cl.length + 2 → M3 72 i = M 72 i := fun i i0 i1 i2 => by rw [b3 i i1 i2, um_eq, us_ne i0]
          obtain ⟨u', M', d1, d2, d3, d4, d5⟩ := fin_r (X := M 72) (sr := tk j - 11) (a := tk (j + 1) - 100) (b := tk (j + 3) - 100) (cl := cl) (u3 := u3) (M3 := M3) nx t44 (fun i c e => by
            obtain ⟨k1, k2, k3, k4, k5⟩ := b4 i c e
            obtain ⟨i1, e1, e2, -⟩ := gnumO e
            obtain ⟨i2, e3, e4⟩ := g_expO e1
            obtain ⟨i3, e5, e6, -⟩ := gnumO e3
            simp only [Sum.inl.injEq, Prod.mk.injEq] at e5
            rw [← e5.2]
            exact ⟨k1, k5, by omega, ots_k (f3 13 (by decide) (by decide)) (f3 12 (by decide) (by decide)) (fun i hi => m3 i (by omega) (by omega) (by omega)) h2⟩) b5 (by rw [f3 4 (by decide) (by decide)]; exact h5) (by rw [b2 73 (by decide), um_ne (by decide)]; exact h6) (f3 12 (by decide) (by decide)) h12 c3 (by rw [f3 19 (by decide) (by decide)]; exact rco_put h4 (by omega)) h3 (m3 _ (by omega) (by omega) (by omega)) (fun i i1 i2 => m3 i (by omega) (by omega) (by omega)) (by rw [b3 _ (by omega) (by omega), um_eq, us_eq]) (fun i c e _ => by
            obtain ⟨k1, k2, k3, k4, k5⟩ := b4 i c e
            exact ⟨k2, fun _ => k3⟩)
          refine ⟨u', M', d1, d2, frR_t (fun k hk => f3 k (by omega) (by omega)) d3, frT_t ⟨fun k k1 _ => by rw [b2 k k1, um_ne k1], fun i hi => m3 i (by omega) (by omega) (by omega)⟩ d4, fun F Q q => cl_29 ch h c1 c2 ?_⟩
          have q3 := a3 F Q (body _ _ (b6 F _ (d5 F Q q)) (by rw [rh_rcv]))
          rw [sw]
          clear c2
          simp (disch := first | omega | decide) only [mX12_clause_J29, ↓rh_rcv, ↓rh_g2, ↓rh_g12, ↓rh_p12, ↓rh_g19, ↓rh_p19, ↓rh_r72, ↓rh_w72, ↓be_y, ↓be_n, ↓bf_y, ↓bf_n, ↓bl_y, ↓bl_n, ↓bm_y, ↓bm_n, ↓bg_y, ↓bg_n, ↓bs_y, ↓bs_n, ↓bo_y, ↓bo_n, ↓bp_y, ↓bp_n, ↓forall_eq, ↓within_y, ↓within_n, ↓isIn_y, ↓isIn_n, and_true, true_and, and_self, us_at, us_ne, w32_id, um_eq, um_ne, um_um, uu_eq, uu_ne, uu_uu, vv_eq, vv_ne, vv_vv, ne_eq, not_false_eq_true, not_true_eq_false, reduceCtorEq, Int.reduceAdd, Int.reduceSub, Int.reduceMul, Int.reduceNeg, Nat.reduceEqDiff, or_true, true_or, true_implies, false_implies, Int.reduceLT, Int.reduceLE, Int.reduceEq, e0]
          exact q3
        rcases k1 with k | k | k | k
        · refine go 0 3 2 1 9 (by rw [k]; rfl) (by rw [k]; rfl) (by rw [k]; rfl) (by rw [k]; rfl) (by rw [k]; rfl) (by omega) (by omega) (by omega) (fun F Q z r => ?_)
          rw [k]
          unfold mX12_body
          refine ⟨fun _ => w_load.2 (rcv_69 r z), fun t => absurd t (by decide), fun t => absurd t (by decide), fun t => absurd t (by decide), fun t => absurd t (by decide), fun t => absurd t (by decide), fun t => absurd t (by decide)⟩
        · refine go 0 3 18 0 3 (by rw [k]; rfl) (by rw [k]; rfl) (by rw [k]; rfl) (by rw [k]; rfl) (by rw [k]; rfl) (by omega) (by omega) (by omega) (fun F Q z r => ?_)
          rw [k]
          unfold mX12_body
          refine ⟨fun t => absurd t (by decide), fun _ => w_by.2 (rcv_69 r z), fun t => absurd t (by decide), fun t => absurd t (by decide), fun t => absurd t (by decide), fun t => absurd t (by decide), fun t => absurd t (by decide)⟩
        · refine go 0 2 7 0 2 (by rw [k]; rfl) (by rw [k]; rfl) (by rw [k]; rfl) (by rw [k]; rfl) (by rw [k]; rfl) (by omega) (by omega) (by omega) (fun F Q z r => ?_)
          rw [k]
          unfold mX12_body
          refine ⟨fun t => absurd t (by decide), fun t => absurd t (by decide), fun _ => w_to.2 (rcv_69 r z), fun t => absurd t (by decide), fun t => absurd t (by decide), fun t => absurd t (by decide), fun t => absurd t (by decide)⟩
        · refine go 1 9 19 0 1 (by rw [k]; rfl) (by rw [k]; rfl) (by rw [k]; rfl) (by rw [k]; rfl) (by rw [k]; rfl) (by omega) (by omega) (by omega) (fun F Q z r => ?_)
          rw [k]
          unfold mX12_body
          refine ⟨fun t => absurd t (by decide), fun t => absurd t (by decide), fun t => absurd t (by decide), fun t => absurd t (by decide), fun _ => w_of.2 (rcv_69 r z), fun t => absurd t (by decide), fun t => absurd t (by decide)⟩
      · have sw : srt (tk j) = 5 := by rw [k1]; rfl
        obtain ⟨u2, a1, a2, a3⟩ := cl_65 (M := M) (u := u) (sr := 5) (n := (cl.length : Int)) nx h1 hj h5 h6 h12 (by omega)
        have f2 : ∀ k, k < 7 ∨ 11 < k → k ≠ 14 → u2 k = u k := fun k hk h14 => by rw [a2 k hk, uu_ne h14]
        have m3 : ∀ i, i ≠ u 12 + 1 + 3 * cl.length → (um M 72 (us (M 72) (u 12 + 1 + 3 * cl.length) 5)) 72 i = M 72 i := fun i i0 => by rw [um_eq, us_ne i0]
        obtain ⟨u', M', d1, d2, d3, d4, d5⟩ := fin_r (X := M 72) (sr := 5) (a := 0) (b := 0) (cl := cl) (s3 := .inl (j + 1, o)) (u3 := u2) (M3 := um M 72 (us (M 72) (u 12 + 1 + 3 * cl.length) 5)) nx t44 (fun i c e => by
          simp only [Sum.inl.injEq, Prod.mk.injEq] at e
          rw [← e.1, ← e.2]
          exact ⟨a1, by omega, by omega, ots_k (f2 13 (by decide) (by decide)) (f2 12 (by decide) (by decide)) (fun i hi => m3 i (by omega)) h2⟩) (fun k e h' => absurd h' (by simp)) (by rw [f2 4 (by decide) (by decide)]; exact h5) (by rw [um_ne (by decide)]; exact h6) (f2 12 (by decide) (by decide)) h12 c3 (by rw [f2 19 (by decide) (by decide)]; exact rco_put h4 (by omega)) h3 (m3 _ (by omega)) (fun i i1 i2 => m3 i (by omega)) (by rw [um_eq, us_eq]) (fun i c e n => absurd rfl n)
        refine ⟨u', M', d1, d2, frR_t (fun k hk => f2 k (by omega) (by omega)) d3, frT_t (frT_w (by omega)) d4, fun F Q q => cl_29 ch h c1 c2 ?_⟩
        have q3 := a3 F Q (by
          unfold mX12_body
          exact ⟨fun t => absurd t (by decide), fun t => absurd t (by decide), fun t => absurd t (by decide), fun _ => d5 F Q q, fun t => absurd t (by decide), fun t => absurd t (by decide), fun t => absurd t (by decide)⟩)
        rw [sw]
        clear c2
        simp (disch := first | omega | decide) only [mX12_clause_J29, ↓rh_rcv, ↓rh_g2, ↓rh_g12, ↓rh_p12, ↓rh_g19, ↓rh_p19, ↓rh_r72, ↓rh_w72, ↓be_y, ↓be_n, ↓bf_y, ↓bf_n, ↓bl_y, ↓bl_n, ↓bm_y, ↓bm_n, ↓bg_y, ↓bg_n, ↓bs_y, ↓bs_n, ↓bo_y, ↓bo_n, ↓bp_y, ↓bp_n, ↓forall_eq, ↓within_y, ↓within_n, ↓isIn_y, ↓isIn_n, and_true, true_and, and_self, us_at, us_ne, w32_id, um_eq, um_ne, um_um, uu_eq, uu_ne, uu_uu, vv_eq, vv_ne, vv_vv, ne_eq, not_false_eq_true, not_true_eq_false, reduceCtorEq, Int.reduceAdd, Int.reduceSub, Int.reduceMul, Int.reduceNeg, Nat.reduceEqDiff, or_true, true_or, true_implies, false_implies, Int.reduceLT, Int.reduceLE, Int.reduceEq, e0]
        exact q3
      · have sw : srt (tk j) = 7 := by rw [k1]; rfl
        obtain ⟨u2, a1, a2, a3⟩ := cl_65 (M := M) (u := u) (sr := 7) (n := (cl.length : Int)) nx h1 hj h5 h6 h12 (by omega)
        have f2 : ∀ k, k < 7 ∨ 11 < k → k ≠ 14 → u2 k = u k := fun k hk h14 => by rw [a2 k hk, uu_ne h14]
        obtain ⟨u3, M3, b1, b2, b3, b4, b5, b6⟩ := num_r (x := u 12 + 1 + 3 * cl.length + 1) (lo := 1) (hi := 60) (M := um M 72 (us (M 72) (u 12 + 1 + 3 * cl.length) 7)) nx t44 a1 (by omega) (by rw [f2 4 (by decide) (by decide)]; exact h5) (by rw [um_ne (by decide)]; exact h6) (by omega) (by omega) o
        have f3 : ∀ k, k < 7 ∨ 11 < k → k ≠ 14 → u3 k = u k := fun k hk h14 => by rw [b1 k hk, f2 k hk h14]
        have m3 : ∀ i, i ≠ u 12 + 1 + 3 * cl.length → i ≠ u 12 + 1 + 3 * cl.length + 1 → M3 72 i = M 72 i := fun i i0 i1 => by rw [b3 i i1, um_eq, us_ne i0]
        obtain ⟨u', M', d1, d2, d3, d4, d5⟩ := fin_r (X := M 72) (sr := 7) (a := tk (j + 1) - 100) (b := 0) (cl := cl) (u3 := u3) (M3 := M3) nx t44 (fun i c e => by
          obtain ⟨k1, k2, k3, k4⟩ := b4 i c e
          obtain ⟨i1, e1, e2, -⟩ := gnumO e
          simp only [Sum.inl.injEq, Prod.mk.injEq] at e1
          rw [← e1.2]
          exact ⟨k1, by omega, by omega, ots_k (f3 13 (by decide) (by decide)) (f3 12 (by decide) (by decide)) (fun i hi => m3 i (by omega) (by omega)) h2⟩) b5 (by rw [f3 4 (by decide) (by decide)]; exact h5) (by rw [b2 73 (by decide), um_ne (by decide)]; exact h6) (f3 12 (by decide) (by decide)) h12 c3 (by rw [f3 19 (by decide) (by decide)]; exact rco_put h4 (by omega)) h3 (m3 _ (by omega) (by omega)) (fun i i1 i2 => m3 i (by omega) (by omega)) (by rw [b3 _ (by omega), um_eq, us_eq]) (fun i c e _ => ⟨(b4 i c e).2.1, fun n => absurd rfl n⟩)
        refine ⟨u', M', d1, d2, frR_t (fun k hk => f3 k (by omega) (by omega)) d3, frT_t ⟨fun k k1 _ => by rw [b2 k k1, um_ne k1], fun i hi => m3 i (by omega) (by omega)⟩ d4, fun F Q q => cl_29 ch h c1 c2 ?_⟩
        have q3 := a3 F Q (by
          unfold mX12_body
          refine ⟨fun t => absurd t (by decide), fun t => absurd t (by decide), fun t => absurd t (by decide), fun t => absurd t (by decide), fun t => absurd t (by decide), fun _ => ?_, fun t => absurd t (by decide)⟩
          simp only [rh_rcv]
          exact b6 F _ (d5 F Q q))
        rw [sw]
        clear c2
        simp (disch := first | omega | decide) only [mX12_clause_J29, ↓rh_rcv, ↓rh_g2, ↓rh_g12, ↓rh_p12, ↓rh_g19, ↓rh_p19, ↓rh_r72, ↓rh_w72, ↓be_y, ↓be_n, ↓bf_y, ↓bf_n, ↓bl_y, ↓bl_n, ↓bm_y, ↓bm_n, ↓bg_y, ↓bg_n, ↓bs_y, ↓bs_n, ↓bo_y, ↓bo_n, ↓bp_y, ↓bp_n, ↓forall_eq, ↓within_y, ↓within_n, ↓isIn_y, ↓isIn_n, and_true, true_and, and_self, us_at, us_ne, w32_id, um_eq, um_ne, um_um, uu_eq, uu_ne, uu_uu, vv_eq, vv_ne, vv_vv, ne_eq, not_false_eq_true, not_true_eq_false, reduceCtorEq, Int.reduceAdd, Int.reduceSub, Int.reduceMul, Int.reduceNeg, Nat.reduceEqDiff, or_true, true_or, true_implies, false_implies, Int.reduceLT, Int.reduceLE, Int.reduceEq, e0]
        exact q3
end RY
