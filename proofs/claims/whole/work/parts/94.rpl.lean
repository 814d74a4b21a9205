-- ===== the reference's pile and what it writes =====
def rtk (tk plc bh : Nat → Int) (j : Nat) (u : Nat → Int) : Prop := u 7 = bh j ∧ u 8 = plc j ∧ tkr (tk j) (u 9) (u 10) (u 11)
def fru (u u' : Nat → Int) : Prop := ∀ k, k < 7 ∨ 11 < k → u' k = u k
def ntx (tk plc bh : Nat → Int) (cn : Nat) (L : Int) (W : Int → Int) : Prop := ∀ (j : Nat) (u : Nat → Int) (M : Nat → Int → Int), j < cn → u 4 = L → M 73 = W → rtk tk plc bh j u → ∃ u', rtk tk plc bh (j + 1) u' ∧ fru u u' ∧ ∀ (F : hp) (Q : hp → Prop), Q (rh F u' M) → mX12_nextToken 69 (rh F u M) Q
def pil (A : Int → Int) : List Int → Prop
  | [] => True
  | x :: r => A (r.length : Int) = x ∧ pil A r
def pls (pl : List Int) (u : Nat → Int) (M : Nat → Int → Int) : Prop := u 16 = (pl.length : Int) ∧ u 17 = (cnm pl : Int) ∧ pil (M 74) pl
def ots (o : List (Int × Int)) (u : Nat → Int) (M : Nat → Int → Int) : Prop := u 13 = (o.length : Int) ∧ (0 ≤ u 12 ∧ u 12 ≤ 2043) ∧ ∀ (i : Nat) p, o[i]? = some p → M 72 (u 12 + 73 + 2 * i) = p.1 ∧ M 72 (u 12 + 73 + 2 * i + 1) = p.2
def frX (t : Int) (M M' : Nat → Int → Int) : Prop := (∀ j, j ≠ 72 → j ≠ 74 → M' j = M j) ∧ ∀ i, i < t + 73 ∨ t + 681 ≤ i → M' 72 i = M 72 i
-- only what reading touches
def frp (u u' : Nat → Int) : Prop := ∀ k, k ≠ 7 → k ≠ 8 → k ≠ 9 → k ≠ 10 → k ≠ 11 → k ≠ 13 → k ≠ 16 → k ≠ 17 → k ≠ 18 → u' k = u k
def pot (x : Int) : Int := if isM x then 0 else if x = 22 then 1 else if x = 21 then 2 else if 10 ≤ x then 3 else if 8 ≤ x then 5 else 4
def wfp : List Int → Prop
  | [] => True
  | x :: r => (0 ≤ x ∧ x ≤ 43) ∧ (isM x ∨ ∀ y, r.head? = some y → pot y < pot x) ∧ wfp r
section RP
variable {tk plc bh : Nat → Int} {cn : Nat} {L : Int} {W : Int → Int} {u : Nat → Int} {M : Nat → Int → Int} {F : hp} {pl : List Int} {o : List (Int × Int)}
theorem pot_b (x : Int) : 0 ≤ pot x ∧ pot x ≤ 5 := by unfold pot; repeat' split
                                                      all_goals omega
theorem pot_m {x : Int} (h : ¬ isM x) : 1 ≤ pot x := by unfold pot; rw [if_neg h]; repeat' split
                                                        all_goals omega
theorem wfp_l : ∀ pl : List Int, wfp pl → ∀ x r, pl = x :: r → (pl.length : Int) ≤ 6 * cnm pl + pot x
  | [], _ => fun x r e => absurd e (by simp)
  | [x], h => fun y r e => by
    injection e with e1 e2
    subst e1
    have pb := pot_b x
    rw [cnm]
    by_cases d : isM x
    · rw [if_pos d]; simp only [List.length_singleton]; omega
    · have := pot_m d
      rw [if_neg d]; simp only [List.length_singleton]; omega
  | x :: y :: r, h => fun z s e => by
    injection e with e1 e2
    subst e1
    have i := wfp_l (y :: r) h.2.2 y r rfl
    have pb := pot_b y
    rw [cnm]
    simp only [List.length_cons] at i ⊢
    rcases h.2.1 with d | d
    · have : pot x = 0 := by unfold pot; rw [if_pos d]
      rw [if_pos d]; omega
    · have d := d y rfl
      by_cases e : isM x
      · have : pot x = 0 := by unfold pot; rw [if_pos e]
        rw [if_pos e]; omega
      · rw [if_neg e]; omega
theorem wfp_len (h : wfp pl) (hc : cnm pl ≤ 8) : pl.length ≤ 53 := by
  cases pl with
  | nil => simp
  | cons x r =>
    have := wfp_l _ h x r rfl
    have pb := pot_b x
    omega
theorem pil_us {A : Int → Int} {x : Int} {n : Int} : ∀ pl : List Int, (pl.length : Int) ≤ n → pil A pl → pil (us A n x) pl
  | [], _, _ => trivial
  | y :: r, h, hp => by
    simp only [List.length_cons] at h
    exact ⟨by rw [us_ne (by omega)]; exact hp.1, pil_us r (by omega) hp.2⟩
theorem rank_r {x : Int} (hx : 0 ≤ x ∧ x ≤ 43) {Q : Int → hp → Prop} : mX12_rank x F Q ↔ Q (rk x) F := by
  unfold mX12_rank rk
  rw [w32_id (x := x) (by omega) (by omega)]
  by_cases c1 : 40 ≤ x
  · rw [if_pos c1]; exact ⟨fun t => t.2 (by omega), fun t => ⟨fun n => by omega, fun _ => t⟩⟩
  rw [if_neg c1]
  by_cases c2 : x = 22
  · rw [if_pos c2]; exact ⟨fun t => (t.1 (by omega)).1 c2, fun t => ⟨fun _ => ⟨fun _ => t, fun n => absurd c2 n⟩, fun n => by omega⟩⟩
  rw [if_neg c2]
  by_cases c3 : x = 21
  · rw [if_pos c3]; exact ⟨fun t => ((t.1 (by omega)).2 c2).1 c3, fun t => ⟨fun _ => ⟨fun n => absurd n c2, fun _ => ⟨fun _ => t, fun n => absurd c3 n⟩⟩, fun n => by omega⟩⟩
  rw [if_neg c3]
  by_cases c4 : x = 20
  · rw [if_pos c4]; exact ⟨fun t => (((t.1 (by omega)).2 c2).2 c3).1 c4, fun t => ⟨fun _ => ⟨fun n => absurd n c2, fun _ => ⟨fun n => absurd n c3, fun _ => ⟨fun _ => t, fun n => absurd c4 n⟩⟩⟩, fun n => by omega⟩⟩
  rw [if_neg c4]
  by_cases c5 : 10 ≤ x
  · rw [if_pos c5]; exact ⟨fun t => (((t.1 (by omega)).2 c2).2 c3).2 c4 |>.2 (by omega), fun t => ⟨fun _ => ⟨fun n => absurd n c2, fun _ => ⟨fun n => absurd n c3, fun _ => ⟨fun n => absurd n c4, fun _ => ⟨fun n => by omega, fun _ => t⟩⟩⟩⟩, fun n => by omega⟩⟩
  rw [if_neg c5]
  by_cases c6 : 8 ≤ x
  · rw [if_pos c6]; exact ⟨fun t => ((((t.1 (by omega)).2 c2).2 c3).2 c4 |>.1 (by omega)).2 (by omega), fun t => ⟨fun _ => ⟨fun n => absurd n c2, fun _ => ⟨fun n => absurd n c3, fun _ => ⟨fun n => absurd n c4, fun _ => ⟨fun _ => ⟨fun n => by omega, fun _ => t⟩, fun n => by omega⟩⟩⟩⟩, fun n => by omega⟩⟩
  rw [if_neg c6]
  by_cases c7 : 6 ≤ x
  · rw [if_pos c7]; exact ⟨fun t => (((((t.1 (by omega)).2 c2).2 c3).2 c4 |>.1 (by omega)).1 (by omega)).2 (by omega), fun t => ⟨fun _ => ⟨fun n => absurd n c2, fun _ => ⟨fun n => absurd n c3, fun _ => ⟨fun n => absurd n c4, fun _ => ⟨fun _ => ⟨fun _ => ⟨fun n => by omega, fun _ => t⟩, fun n => by omega⟩, fun n => by omega⟩⟩⟩⟩, fun n => by omega⟩⟩
  rw [if_neg c7]
  exact ⟨fun t => (((((t.1 (by omega)).2 c2).2 c3).2 c4 |>.1 (by omega)).1 (by omega)).1 (by omega), fun t => ⟨fun _ => ⟨fun n => absurd n c2, fun _ => ⟨fun n => absurd n c3, fun _ => ⟨fun n => absurd n c4, fun _ => ⟨fun _ => ⟨fun _ => ⟨fun _ => t, fun n => by omega⟩, fun n => by omega⟩, fun n => by omega⟩⟩⟩⟩, fun n => by omega⟩⟩
theorem emit_r {a b : Int} (h : ots o u M) (hl : o.length < 304) {Q : hp → Prop} : ∃ M', ots (o ++ [(a, b)]) (uu u 13 ((o.length : Int) + 1)) M' ∧ frX (u 12) M M' ∧ M' 74 = M 74 ∧ ∀ (F : hp) (Q : hp → Prop), Q (rh F (uu u 13 ((o.length : Int) + 1)) M') → mX12_emit 69 a b (rh F u M) Q := by
  obtain ⟨h1, h2, h3⟩ := h
  refine ⟨um M 72 (us (us (M 72) (u 12 + 73 + 2 * o.length) a) (u 12 + 73 + 2 * o.length + 1) b), ⟨?_, ?_, fun i p hi => ?_⟩, ⟨fun j j1 _ => um_ne j1, fun i hi => ?_⟩, um_ne (by decide), fun F Q q => ?_⟩
  · rw [uu_eq, List.length_append, List.length_singleton]; omega
  · rw [uu_ne (by decide)]; exact h2
  · rw [uu_ne (by decide), um_eq]
    by_cases f : i < o.length
    · rw [List.getElem?_append_left f] at hi
      rw [us_ne (by omega), us_ne (by omega), us_ne (by omega), us_ne (by omega)]
      exact h3 i p hi
    · by_cases g : i = o.length
      · subst g
        rw [List.getElem?_append_right (Nat.le_refl _), Nat.sub_self] at hi
        simp only [List.getElem?_cons_zero, Option.some.injEq] at hi
        subst hi
        rw [us_ne (by omega), us_eq, us_eq]
        exact ⟨rfl, rfl⟩
      · rw [List.getElem?_eq_none (by rw [List.length_append, List.length_singleton]; omega)] at hi
        exact absurd hi (by simp)
  · rw [um_eq, us_ne (by omega), us_ne (by omega)]
  · simp (disch := first | omega | decide) only [mX12_emit, ↓rh_rcv, ↓rh_g2, ↓rh_g12, ↓rh_p12, ↓rh_g13, ↓rh_p13, ↓rh_r72, ↓rh_w72, ↓be_y, ↓be_n, ↓bf_y, ↓bf_n, ↓bl_y, ↓bl_n, ↓bm_y, ↓bm_n, ↓bg_y, ↓bg_n, ↓bs_y, ↓bs_n, ↓bo_y, ↓bo_n, ↓bp_y, ↓bp_n, ↓forall_eq, ↓within_y, ↓within_n, ↓isIn_y, ↓isIn_n, and_true, true_and, and_self, us_at, us_ne, w32_id, um_eq, um_ne, um_um, uu_eq, uu_ne, uu_uu, vv_eq, vv_ne, vv_vv, ne_eq, not_false_eq_true, not_true_eq_false, reduceCtorEq, Int.reduceAdd, Int.reduceSub, Int.reduceMul, Int.reduceNeg, Nat.reduceEqDiff, or_true, true_or, true_implies, false_implies, Int.reduceLT, Int.reduceLE, Int.reduceEq, h1]
    exact q
theorem frX_t {t : Int} {M M' M'' : Nat → Int → Int} (a : frX t M M') (b : frX t M' M'') : frX t M M'' := ⟨fun j h1 h2 => by rw [b.1 j h1 h2, a.1 j h1 h2], fun i h => by rw [b.2 i h, a.2 i h]⟩
theorem frX_r {t : Int} (M : Nat → Int → Int) : frX t M M := ⟨fun _ _ _ => rfl, fun _ _ => rfl⟩
-- settle
def frq (u u' : Nat → Int) : Prop := ∀ k, k ≠ 13 → k ≠ 16 → k ≠ 17 → u' k = u k
theorem settle_r {l : Int} (hl : 1 ≤ l ∧ l ≤ 7) : ∀ (pl : List Int) (o : List (Int × Int)) (u : Nat → Int) (M : Nat → Int → Int), wfp pl → cnm pl ≤ 8 → o.length + pl.length ≤ 300 → pls pl u M → ots o u M → ∃ u' M', pls (stl l pl o).1 u' M' ∧ ots (stl l pl o).2 u' M' ∧ frq u u' ∧ frX (u 12) M M' ∧ M' 74 = M 74 ∧ ∀ (F : hp) (Q : hp → Prop), Q (rh F u' M') → mX12_settle_L0 Q (pl.length + 1) 69 l (rh F u M)
  | [], o, u, M, hw, hc, ho, hp, ht => by
    refine ⟨u, M, hp, ht, fun _ _ _ _ => rfl, frX_r M, rfl, fun F Q q => ?_⟩
    have e := hp.1
    rw [List.length_nil] at e
    rw [mX12_settle_L0]
    simp (disch := first | omega | decide) only [w32_id, ↓rh_rcv, ↓rh_g16, ↓rh_p16, ↓be_y, ↓be_n, ↓bf_y, ↓bf_n, ↓bl_y, ↓bl_n, ↓bm_y, ↓bm_n, ↓bg_y, ↓bg_n, ↓bs_y, ↓bs_n, ↓bo_y, ↓bo_n, ↓bp_y, ↓bp_n, ↓forall_eq, ↓within_y, ↓within_n, ↓isIn_y, ↓isIn_n, and_true, true_and, and_self, us_at, us_ne, w32_id, um_eq, um_ne, um_um, uu_eq, uu_ne, uu_uu, vv_eq, vv_ne, vv_vv, ne_eq, not_false_eq_true, not_true_eq_false, reduceCtorEq, Int.reduceAdd, Int.reduceSub, Int.reduceMul, Int.reduceNeg, Nat.reduceEqDiff, or_true, true_or, true_implies, false_implies, Int.reduceLT, Int.reduceLE, Int.reduceEq, e]
    exact q
  | x :: r, o, u, M, hw, hc, ho, hp, ht => by
    obtain ⟨p1, p2, p3, p4⟩ := id hp
    have len := wfp_len hw hc
    simp only [List.length_cons] at len ho p1
    have xb := hw.1
    have rb := rk_b x
    have e1 : u 16 - 1 = (r.length : Int) := by omega
    have rx : M 74 (r.length : Int) = x := p3
    rw [stl]
    by_cases d : l ≤ rk x
    · rw [if_pos d]
      have ht0 : ots o (uu u 16 (r.length : Int)) M := by
        obtain ⟨a, b, c⟩ := ht
        refine ⟨by rw [uu_ne (by decide)]; exact a, by rw [uu_ne (by decide)]; exact b, fun i p hi => ?_⟩
        rw [uu_ne (by decide)]; exact c i p hi
      obtain ⟨M1, a1, a2, a3, a4⟩ := emit_r (a := x) (b := 0) (Q := fun _ => True) ht0 (by omega)
      rw [uu_ne (by decide)] at a2
      have rx1 : M1 74 (r.length : Int) = x := by rw [a3]; exact rx
      rw [cnm] at p2 hc
      by_cases m : isM x
      · rw [if_pos m] at p2 hc
        obtain ⟨u', M', b1, b2, b3, b4, b5, b6⟩ := settle_r hl r (o ++ [(x, 0)]) (uu (uu (uu u 16 (r.length : Int)) 13 ((o.length : Int) + 1)) 17 (u 17 - 1)) M1 hw.2.2 (by omega) (by rw [List.length_append, List.length_singleton]; omega) ⟨by rw [uu_ne (by decide), uu_ne (by decide), uu_eq], by rw [uu_eq]; omega, by rw [a3]; exact p4⟩ (by
          obtain ⟨a, b, c⟩ := a1
          refine ⟨by rw [uu_ne (by decide)]; exact a, by rw [uu_ne (by decide)]; exact b, fun i p hi => ?_⟩
          rw [uu_ne (by decide)]; exact c i p hi)
        rw [uu_ne (by decide), uu_ne (by decide), uu_ne (by decide)] at b4
        refine ⟨u', M', b1, b2, fun k k1 k2 k3 => by rw [b3 k k1 k2 k3, uu_ne k3, uu_ne k1, uu_ne k2], frX_t a2 b4, by rw [b5, a3], fun F Q q => ?_⟩
        have b7 := b6 F Q q
        have a5 := a4 F (fun F12 => gR F12 (some 69) 12 15 (fun x14 => gI F12 (some 69) 12 16 (fun x15 => aI F12 x14 0 x15 (fun x16 => mX12_rank x16 F12 (fun x18 F17 => (w32 x18 = 7 → mX12_settle_J80 (fun o' a1' F' => mX12_settle_L0 Q (r.length + 1) o' a1' F') Q 69 l F17) ∧ (¬ w32 x18 = 7 → gR F17 (some 69) 12 15 (fun x19 => gI F17 (some 69) 12 16 (fun x20 => aI F17 x19 0 x20 (fun x21 => (w32 x21 = 20 → mX12_settle_J80 (fun o' a1' F' => mX12_settle_L0 Q (r.length + 1) o' a1' F') Q 69 l F17) ∧ (¬ w32 x21 = 20 → mX12_settle_L0 Q (r.length + 1) 69 l F17)))))))))) (by
          by_cases s7 : rk x = 7
          · simp (disch := first | omega | decide) only [mX12_settle_J80, rank_r, ↓rh_rcv, ↓rh_g15, ↓rh_g16, ↓rh_p16, ↓rh_g17, ↓rh_p17, ↓rh_r74, ↓rh_w74, ↓be_y, ↓be_n, ↓bf_y, ↓bf_n, ↓bl_y, ↓bl_n, ↓bm_y, ↓bm_n, ↓bg_y, ↓bg_n, ↓bs_y, ↓bs_n, ↓bo_y, ↓bo_n, ↓bp_y, ↓bp_n, ↓forall_eq, ↓within_y, ↓within_n, ↓isIn_y, ↓isIn_n, and_true, true_and, and_self, us_at, us_ne, w32_id, um_eq, um_ne, um_um, uu_eq, uu_ne, uu_uu, vv_eq, vv_ne, vv_vv, ne_eq, not_false_eq_true, not_true_eq_false, reduceCtorEq, Int.reduceAdd, Int.reduceSub, Int.reduceMul, Int.reduceNeg, Nat.reduceEqDiff, or_true, true_or, true_implies, false_implies, Int.reduceLT, Int.reduceLE, Int.reduceEq, rx1, s7]
            exact b7
          · have x20 : x = 20 := by
              rcases m with m | m | m
              · exfalso; have : rk x = 0 := by unfold rk; rw [if_pos m]
                omega
              · exact m
              · exfalso
                apply s7
                unfold rk
                rw [if_neg (by omega), if_neg (by omega), if_neg (by omega), if_neg (by omega), if_neg (by omega), if_neg (by omega), if_neg (by omega)]
            simp (disch := first | omega | decide) only [mX12_settle_J80, rank_r, ↓rh_rcv, ↓rh_g15, ↓rh_g16, ↓rh_p16, ↓rh_g17, ↓rh_p17, ↓rh_r74, ↓rh_w74, ↓be_y, ↓be_n, ↓bf_y, ↓bf_n, ↓bl_y, ↓bl_n, ↓bm_y, ↓bm_n, ↓bg_y, ↓bg_n, ↓bs_y, ↓bs_n, ↓bo_y, ↓bo_n, ↓bp_y, ↓bp_n, ↓forall_eq, ↓within_y, ↓within_n, ↓isIn_y, ↓isIn_n, and_true, true_and, and_self, us_at, us_ne, w32_id, um_eq, um_ne, um_um, uu_eq, uu_ne, uu_uu, vv_eq, vv_ne, vv_vv, ne_eq, not_false_eq_true, not_true_eq_false, reduceCtorEq, Int.reduceAdd, Int.reduceSub, Int.reduceMul, Int.reduceNeg, Nat.reduceEqDiff, or_true, true_or, true_implies, false_implies, Int.reduceLT, Int.reduceLE, Int.reduceEq, rx1]
            exact b7)
        rw [List.length_cons, mX12_settle_L0]
        simp (disch := first | omega | decide) only [rank_r, ↓rh_rcv, ↓rh_g15, ↓rh_g16, ↓rh_p16, ↓rh_r74, ↓rh_w74, ↓be_y, ↓be_n, ↓bf_y, ↓bf_n, ↓bl_y, ↓bl_n, ↓bm_y, ↓bm_n, ↓bg_y, ↓bg_n, ↓bs_y, ↓bs_n, ↓bo_y, ↓bo_n, ↓bp_y, ↓bp_n, ↓forall_eq, ↓within_y, ↓within_n, ↓isIn_y, ↓isIn_n, and_true, true_and, and_self, us_at, us_ne, w32_id, um_eq, um_ne, um_um, uu_eq, uu_ne, uu_uu, vv_eq, vv_ne, vv_vv, ne_eq, not_false_eq_true, not_true_eq_false, reduceCtorEq, Int.reduceAdd, Int.reduceSub, Int.reduceMul, Int.reduceNeg, Nat.reduceEqDiff, or_true, true_or, true_implies, false_implies, Int.reduceLT, Int.reduceLE, Int.reduceEq, e1, rx]
        exact a5
      · rw [if_neg m] at p2 hc
        obtain ⟨u', M', b1, b2, b3, b4, b5, b6⟩ := settle_r hl r (o ++ [(x, 0)]) (uu (uu u 16 (r.length : Int)) 13 ((o.length : Int) + 1)) M1 hw.2.2 (by omega) (by rw [List.length_append, List.length_singleton]; omega) ⟨by rw [uu_ne (by decide), uu_eq], by rw [uu_ne (by decide), uu_ne (by decide)]; omega, by rw [a3]; exact p4⟩ a1
        rw [uu_ne (by decide), uu_ne (by decide)] at b4
        refine ⟨u', M', b1, b2, fun k k1 k2 k3 => by rw [b3 k k1 k2 k3, uu_ne k1, uu_ne k2], frX_t a2 b4, by rw [b5, a3], fun F Q q => ?_⟩
        have b7 := b6 F Q q
        have n7 : ¬ rk x = 7 := fun t => by
          unfold isM at m
          unfold rk at t
          rw [if_neg (by omega)] at t
          repeat' split at t
          all_goals omega
        have n20 : ¬ x = 20 := fun t => m (.inr (.inl t))
        have a5 := a4 F (fun F12 => gR F12 (some 69) 12 15 (fun x14 => gI F12 (some 69) 12 16 (fun x15 => aI F12 x14 0 x15 (fun x16 => mX12_rank x16 F12 (fun x18 F17 => (w32 x18 = 7 → mX12_settle_J80 (fun o' a1' F' => mX12_settle_L0 Q (r.length + 1) o' a1' F') Q 69 l F17) ∧ (¬ w32 x18 = 7 → gR F17 (some 69) 12 15 (fun x19 => gI F17 (some 69) 12 16 (fun x20 => aI F17 x19 0 x20 (fun x21 => (w32 x21 = 20 → mX12_settle_J80 (fun o' a1' F' => mX12_settle_L0 Q (r.length + 1) o' a1' F') Q 69 l F17) ∧ (¬ w32 x21 = 20 → mX12_settle_L0 Q (r.length + 1) 69 l F17)))))))))) (by
          simp (disch := first | omega | decide) only [rank_r, ↓rh_rcv, ↓rh_g15, ↓rh_g16, ↓rh_p16, ↓rh_r74, ↓rh_w74, ↓be_y, ↓be_n, ↓bf_y, ↓bf_n, ↓bl_y, ↓bl_n, ↓bm_y, ↓bm_n, ↓bg_y, ↓bg_n, ↓bs_y, ↓bs_n, ↓bo_y, ↓bo_n, ↓bp_y, ↓bp_n, ↓forall_eq, ↓within_y, ↓within_n, ↓isIn_y, ↓isIn_n, and_true, true_and, and_self, us_at, us_ne, w32_id, um_eq, um_ne, um_um, uu_eq, uu_ne, uu_uu, vv_eq, vv_ne, vv_vv, ne_eq, not_false_eq_true, not_true_eq_false, reduceCtorEq, Int.reduceAdd, Int.reduceSub, Int.reduceMul, Int.reduceNeg, Nat.reduceEqDiff, or_true, true_or, true_implies, false_implies, Int.reduceLT, Int.reduceLE, Int.reduceEq, rx1]
          exact b7)
        rw [List.length_cons, mX12_settle_L0]
        simp (disch := first | omega | decide) only [rank_r, ↓rh_rcv, ↓rh_g15, ↓rh_g16, ↓rh_p16, ↓rh_r74, ↓rh_w74, ↓be_y, ↓be_n, ↓bf_y, ↓bf_n, ↓bl_y, ↓bl_n, ↓bm_y, ↓bm_n, ↓bg_y, ↓bg_n, ↓bs_y, ↓bs_n, ↓bo_y, ↓bo_n, ↓bp_y, ↓bp_n, ↓forall_eq, ↓within_y, ↓within_n, ↓isIn_y, ↓isIn_n, and_true, true_and, and_self, us_at, us_ne, w32_id, um_eq, um_ne, um_um, uu_eq, uu_ne, uu_uu, vv_eq, vv_ne, vv_vv, ne_eq, not_false_eq_true, not_true_eq_false, reduceCtorEq, Int.reduceAdd, Int.reduceSub, Int.reduceMul, Int.reduceNeg, Nat.reduceEqDiff, or_true, true_or, true_implies, false_implies, Int.reduceLT, Int.reduceLE, Int.reduceEq, e1, rx]
        exact a5
    · rw [if_neg d]
      refine ⟨u, M, hp, ht, fun _ _ _ _ => rfl, frX_r M, rfl, fun F Q q => ?_⟩
      rw [mX12_settle_L0]
      simp (disch := first | omega | decide) only [rank_r, ↓rh_rcv, ↓rh_g15, ↓rh_g16, ↓rh_p16, ↓rh_r74, ↓rh_w74, ↓be_y, ↓be_n, ↓bf_y, ↓bf_n, ↓bl_y, ↓bl_n, ↓bm_y, ↓bm_n, ↓bg_y, ↓bg_n, ↓bs_y, ↓bs_n, ↓bo_y, ↓bo_n, ↓bp_y, ↓bp_n, ↓forall_eq, ↓within_y, ↓within_n, ↓isIn_y, ↓isIn_n, and_true, true_and, and_self, us_at, us_ne, w32_id, um_eq, um_ne, um_um, uu_eq, uu_ne, uu_uu, vv_eq, vv_ne, vv_vv, ne_eq, not_false_eq_true, not_true_eq_false, reduceCtorEq, Int.reduceAdd, Int.reduceSub, Int.reduceMul, Int.reduceNeg, Nat.reduceEqDiff, or_true, true_or, true_implies, false_implies, Int.reduceLT, Int.reduceLE, Int.reduceEq, e1, rx]
      exact q
end RP
