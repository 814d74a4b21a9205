def a0 : Int → Int := us (us (us (us (us (us (us (us (us (us (us (us (us (us (fun _ => 0) 8 353) 2 (-1)) 9 1) 10 1) 46 1) 51 1) 47 1) 52 1) 48 1) 53 1) 49 1) 54 1) 50 1) 55 1
def av0 (i : Int) : Int := if i = 8 then 353 else if i = 2 then -1 else if i = 9 ∨ i = 10 ∨ (46 ≤ i ∧ i ≤ 55) then 1 else 0
theorem a0_v (i : Int) : a0 i = av0 i := by
  unfold av0
  by_cases c8 : i = 8
  · subst c8; rw [if_pos rfl]; decide
  rw [if_neg c8]
  by_cases c2 : i = 2
  · subst c2; rw [if_pos rfl]; decide
  rw [if_neg c2]
  by_cases c3 : i = 9 ∨ i = 10 ∨ (46 ≤ i ∧ i ≤ 55)
  · rw [if_pos c3]
    obtain rfl | rfl | rfl | rfl | rfl | rfl | rfl | rfl | rfl | rfl | rfl | rfl : i = 9 ∨ i = 10 ∨ i = 46 ∨ i = 47 ∨ i = 48 ∨ i = 49 ∨ i = 50 ∨ i = 51 ∨ i = 52 ∨ i = 53 ∨ i = 54 ∨ i = 55 := by omega
    all_goals decide
  · rw [if_neg c3]
    unfold a0
    rw [us_ne (by omega), us_ne (by omega), us_ne (by omega), us_ne (by omega), us_ne (by omega), us_ne (by omega), us_ne (by omega), us_ne (by omega), us_ne (by omega), us_ne (by omega), us_ne (by omega), us_ne (by omega), us_ne (by omega), us_ne (by omega)]
theorem y0_v : ∀ k : Nat, k < 60 → y0 k = zp k (av0 (za (zs k))) := by decide +kernel
section FN
theorem SR0 {G : hp} {X A : Int → Int} (hA : ∀ i, 0 ≤ i → i < 1954 → A i = av0 i) : SR 0 G X A y0 (fun _ => 0) (fun _ => 0) (fun _ => 0) (fun _ => 0) (fun _ => 0) (fun _ => 0) (fun _ => 0) (fun _ => 0) (fun _ => 0) (fun _ => 0) 0 0 0 8 0 4 0 8 0 0 (-1) 0 (fun _ => none) := by
  have z : ∀ i, 0 ≤ i → i < 1954 → i ≠ 8 → i ≠ 2 → i ≠ 9 → i ≠ 10 → (i < 46 ∨ 55 < i) → A i = 0 := fun i h0 h1 h2 h3 h4 h5 h6 => by
    rw [hA i h0 h1]
    unfold av0
    rw [if_neg h2, if_neg h3, if_neg (by omega)]
  have o1 : ∀ i, 46 ≤ i → i ≤ 55 → A i = 1 := fun i h0 h1 => by
    rw [hA i (by omega) (by omega)]
    unfold av0
    rw [if_neg (by omega), if_neg (by omega), if_pos (by omega)]
  have z0 := z 0 (by omega) (by omega) (by omega) (by omega) (by omega) (by omega) (by omega)
  have z1 := z 1 (by omega) (by omega) (by omega) (by omega) (by omega) (by omega) (by omega)
  have z3 := z 3 (by omega) (by omega) (by omega) (by omega) (by omega) (by omega) (by omega)
  have z4 := z 4 (by omega) (by omega) (by omega) (by omega) (by omega) (by omega) (by omega)
  have z5 := z 5 (by omega) (by omega) (by omega) (by omega) (by omega) (by omega) (by omega)
  have z6 := z 6 (by omega) (by omega) (by omega) (by omega) (by omega) (by omega) (by omega)
  have z60 := z 60 (by omega) (by omega) (by omega) (by omega) (by omega) (by omega) (by omega)
  have a2 : A 2 = -1 := by rw [hA 2 (by omega) (by omega)]; decide
  refine ⟨⟨fun k h0 h1 => ?_, ?_, fun i h0 h1 => ?_⟩, ⟨by omega, ⟨by rw [z3], by omega⟩, fun j h0 h1 => by omega⟩, fun c h0 h1 => ?_, ⟨by omega, fun k h0 h1 => ?_⟩, ⟨fun r h0 h1 => ?_, ?_⟩, ⟨rfl, ⟨by rw [z4], by omega⟩, fun i h0 h1 => ?_⟩, ⟨rfl, ⟨by rw [z5], by omega⟩, fun i h0 h1 => ?_⟩, ⟨rfl, ⟨by rw [z6], by omega⟩, fun i h0 h1 => ?_⟩, ⟨⟨by rw [z1], by omega⟩, ⟨by rw [a2], by omega⟩, ⟨by rw [z60], by omega⟩⟩, fun k h0 h1 => by omega⟩
  · have t := y0_v k.toNat (by omega)
    rw [Int.toNat_of_nonneg h0] at t
    rw [t]
    show _ = zp k (A (za (zs k)))
    have rg := za_rng h0 h1
    rw [hA _ (by omega) (by omega)]
  · unfold yok
    refine ⟨by decide, by decide, by decide, by decide, by decide, by decide, by decide, fun c c0 c1 => ?_, fun t t0 t1 => ?_, ?_⟩
    · obtain rfl | rfl | rfl | rfl | rfl : c = 0 ∨ c = 1 ∨ c = 2 ∨ c = 3 ∨ c = 4 := by omega
      all_goals decide
    · obtain rfl | rfl | rfl : t = 0 ∨ t = 1 ∨ t = 2 := by omega
      all_goals decide
    · have e : tl y0 14 (y0 11) ++ tl y0 19 (y0 12) ++ tl y0 24 (y0 13) = [] := by decide
      have e2 : ran (y0 4) = [] := by decide
      rw [e, e2]
  · show 0 ≤ A (za i) ∧ A (za i) < 540000
    have : za i = i + 1894 := by unfold za; rw [if_neg (by omega), if_neg (by omega)]
    rw [this, z _ (by omega) (by omega) (by omega) (by omega) (by omega) (by omega) (by omega)]
    omega
  · have e1 := z (36 + c) (by omega) (by omega) (by omega) (by omega) (by omega) (by omega) (by omega)
    have e2 := z (41 + c) (by omega) (by omega) (by omega) (by omega) (by omega) (by omega) (by omega)
    have e3 := o1 (46 + c) (by omega) (by omega)
    have e4 := o1 (51 + c) (by omega) (by omega)
    have e5 := z (103 + c) (by omega) (by omega) (by omega) (by omega) (by omega) (by omega) (by omega)
    rw [e1, e2, e3, e4, e5, z0]
    dsimp only
    refine ⟨by omega, by omega, by omega, by omega, by omega, fun t => by omega, fun _ => by omega⟩
  · rw [z (56 + k) (by omega) (by omega) (by omega) (by omega) (by omega) (by omega) (by omega)]
    refine ⟨by omega, fun l l0 l1 => ?_⟩
    simp [tb]
  · rw [z (61 + r) (by omega) (by omega) (by omega) (by omega) (by omega) (by omega) (by omega)]; dsimp only; omega
  · rw [z 61 (by omega) (by omega) (by omega) (by omega) (by omega) (by omega) (by omega), z 62 (by omega) (by omega) (by omega) (by omega) (by omega) (by omega) (by omega), z 63 (by omega) (by omega) (by omega) (by omega) (by omega) (by omega) (by omega), z 64 (by omega) (by omega) (by omega) (by omega) (by omega) (by omega) (by omega), z 65 (by omega) (by omega) (by omega) (by omega) (by omega) (by omega) (by omega), z 66 (by omega) (by omega) (by omega) (by omega) (by omega) (by omega) (by omega)]; rfl
  · rw [z (67 + i) (by omega) (by omega) (by omega) (by omega) (by omega) (by omega) (by omega)]; dsimp only; omega
  · rw [z (91 + 3 * i) (by omega) (by omega) (by omega) (by omega) (by omega) (by omega) (by omega), z (91 + 3 * i + 1) (by omega) (by omega) (by omega) (by omega) (by omega) (by omega) (by omega), z (91 + 3 * i + 2) (by omega) (by omega) (by omega) (by omega) (by omega) (by omega) (by omega)]; dsimp only; omega
  · rw [z (108 + 2 * i) (by omega) (by omega) (by omega) (by omega) (by omega) (by omega) (by omega), z (108 + 2 * i + 1) (by omega) (by omega) (by omega) (by omega) (by omega) (by omega) (by omega)]; dsimp only; omega
def M01 : Nat → Int → Int := um (um M00 70 a0) 71 (cpy a0 (fun _ => 0) 0 0 1954)
theorem Rel0 : Rel 0 (fun _ => none) v0 N0 T0 u0 M01 := by
  have s1 := SR0 (G := fun _ => none) (X := M01 72) (A := M01 70) (fun i _ _ => a0_v i)
  have s2 := SR0 (G := fun _ => none) (X := M01 72) (A := M01 71) (fun i h0 h1 => by
    show cpy a0 (fun _ => 0) 0 0 1954 i = _
    unfold cpy
    rw [if_pos (by omega), show 0 + (i - 0) = i by omega]
    exact a0_v i)
  refine ⟨s1, s2, ⟨by decide, by decide⟩, ⟨⟨rfl, by decide⟩, ⟨rfl, by decide⟩, ⟨rfl, by decide⟩, fun i h0 h1 => ?_⟩, rfl, ⟨by decide, fun t => absurd t (by decide)⟩, ⟨87, by omega, fun h hh => ⟨fun _ => hh, fun _ => rfl⟩⟩, fun i _ _ => .inl rfl, fun i _ _ => .inl rfl⟩
  exfalso
  have h1 : i < 0 := h1
  omega
theorem itl_r {F : hp} {Q : hp → Prop} (q : Q (rh F u0 M01)) : itl Q 69 (rh F u0 M00) := by
  have cp := cop1 (F := F) (u := u0) (M := um M00 70 a0) (C := fun _ => 0) (Q := Q) q 1954 0 (by omega) (by omega)
  have ec : cpy ((um M00 70 a0) 70) (fun _ => (0 : Int)) 0 0 0 = fun _ => 0 := by
    funext j
    unfold cpy
    rw [if_neg (by omega)]
  have em : um (um M00 70 a0) 71 (fun _ => 0) = um M00 70 a0 := by
    funext j
    by_cases d : j = 71
    · subst d; rw [um_eq, um_ne (by decide)]; rfl
    · rw [um_ne d]
  rw [ec, em] at cp
  have fin : mX12_copy (some 70) (some 71) (rh F u0 (um M00 70 a0)) (fun F7 => Q F7) := ⟨_, cp⟩
  unfold itl
  simp (disch := first | omega | decide) only [w32_id, ↓rh_rcv, ↓rh_g0, ↓rh_g1, ↓rh_r70, ↓rh_w70, ↓rh_r71, ↓rh_w71, ↓be_y, ↓be_n, ↓bf_y, ↓bf_n, ↓bl_y, ↓bl_n, ↓bm_y, ↓bm_n, ↓bg_y, ↓bg_n, ↓bs_y, ↓bs_n, ↓bo_y, ↓bo_n, ↓bp_y, ↓bp_n, ↓forall_eq, ↓within_y, ↓within_n, ↓isIn_y, ↓isIn_n, and_true, true_and, and_self, us_at, us_ne, w32_id, um_eq, um_ne, um_um, uu_eq, uu_ne, uu_uu, vv_eq, vv_ne, vv_vv, ne_eq, not_false_eq_true, not_true_eq_false, reduceCtorEq, Int.reduceAdd, Int.reduceSub, Int.reduceMul, Int.reduceNeg, Nat.reduceEqDiff, or_true, true_or, true_implies, false_implies, Int.reduceLT, Int.reduceLE, Int.reduceEq]
  refine ⟨6, ?_⟩
  simp (disch := first | omega | decide) only [mX12_init_L196, rh_rcv, rh_g0, rh_g1, rh_r70, rh_w70, rh_r71, rh_w71, ↓i_pos, ↓i_neg, and_true, true_and, and_self, w32_id, us_at, us_ne, um_eq, um_ne, um_um, uu_eq, uu_ne, uu_uu, vv_eq, vv_ne, vv_vv, forall_eq, within_y, within_n, isIn_y, isIn_n, ne_eq, not_false_eq_true, not_true_eq_false, reduceCtorEq, Int.reduceAdd, Int.reduceSub, Int.reduceMul, Int.reduceNeg, Nat.reduceEqDiff, or_true, true_or, true_implies, false_implies, Int.reduceLT, Int.reduceLE, Int.reduceEq, iMax_l, iMax_r, iMin_l, iMin_r]
  exact fin
end FN
