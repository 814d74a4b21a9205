section SU
variable {n : Int} {u : Nat → Int} {M : Nat → Int → Int} {R C : Int → Int} {s : std}
theorem tl_app {f : Int → Int} {b m : Int} (hm : 0 ≤ m) : ∀ k : Nat, tl f b (m + k) = tl f b m ++ tl f (b + m) k
  | 0 => by rw [tl_nil f (b + m) (show (((0 : Nat)) : Int) ≤ 0 by omega), List.append_nil, show m + ((0 : Nat) : Int) = m by omega]
  | k + 1 => by
    rw [show m + ((k + 1 : Nat) : Int) = m + k + 1 by omega, tl_snoc (by omega), tl_app hm k, show ((k + 1 : Nat) : Int) = (k : Int) + 1 by omega, tl_snoc (by omega), List.append_assoc, show b + (m + (k : Int)) = b + m + k by omega]
def spl (R : Int → Int) (p : List Int) (d : Int) (q : List Int) : Prop := tl R 0 p.length = p ∧ R p.length = d ∧ tl R (p.length + 1) q.length = q
theorem spl_iff {p q : List Int} {d : Int} : tl R 0 (p ++ d :: q).length = p ++ d :: q ↔ spl R p d q := by
  have e : ((p ++ d :: q).length : Int) = (p.length : Int) + ((q.length + 1 : Nat) : Int) := by rw [List.length_append, List.length_cons]; omega
  rw [e, tl_app (by omega), Int.zero_add, show ((q.length + 1 : Nat) : Int) = (q.length : Int) + 1 by omega, tl_cons (by omega)]
  have l := tl_len R 0 (n := (p.length : Int)) (by omega)
  constructor
  · intro h
    obtain ⟨h1, h2⟩ := List.append_inj h (by omega)
    obtain ⟨h3, h4⟩ := List.cons.inj h2
    exact ⟨h1, h3, h4⟩
  · rintro ⟨h1, h2, h3⟩
    rw [h1, h2, h3]
theorem spl_w {p q : List Int} {d x : Int} (h : spl R p d q) : spl (us R p.length x) p x q := by
  obtain ⟨h1, h2, h3⟩ := h
  refine ⟨?_, us_eq _ _ _, ?_⟩
  · conv => rhs; rw [← h1]
    exact tl_congr (fun i i0 i1 => us_ne (by omega))
  · conv => rhs; rw [← h3]
    exact tl_congr (fun i i0 i1 => us_ne (by omega))
-- to the left
theorem sh89 {f t a3 c a5 : Int} : ∀ (y : List Int) (x z : List Int) (d : Int) (R : Int → Int), spl R x d (y ++ z) → (x.length : Int) + y.length + z.length < 5 → a5 = (x.length : Int) + y.length → ∃ R' d', spl R' (x ++ y) d' z ∧ ∀ (F : hp) (Q : Int → hp → Prop), (∃ k5, mX12_isShunted_L121 Q k5 69 f t c a5 a3 (rh F u (um M 80 R'))) → mX12_isShunted_L89 Q (y.length + 1) 69 f t a3 c a5 x.length (rh F u (um M 80 R))
  | [], x, z, d, R, h, hl, e => by
    refine ⟨R, d, by rw [List.append_nil]; exact h, fun F Q q => ?_⟩
    simp only [List.length_nil] at e hl ⊢
    rw [mX12_isShunted_L89]
    simp (disch := first | omega | decide) only [w32_id, ↓rh_rcv, ↓rh_g27, ↓rh_r80, ↓rh_w80, ↓be_y, ↓be_n, ↓bf_y, ↓bf_n, ↓bl_y, ↓bl_n, ↓bm_y, ↓bm_n, ↓bg_y, ↓bg_n, ↓bs_y, ↓bs_n, ↓bo_y, ↓bo_n, ↓bp_y, ↓bp_n, ↓forall_eq, ↓within_y, ↓within_n, ↓isIn_y, ↓isIn_n, and_true, true_and, and_self, us_at, us_ne, w32_id, um_eq, um_ne, um_um, uu_eq, uu_ne, uu_uu, vv_eq, vv_ne, vv_vv, ne_eq, not_false_eq_true, not_true_eq_false, reduceCtorEq, Int.reduceAdd, Int.reduceSub, Int.reduceMul, Int.reduceNeg, Nat.reduceEqDiff, or_true, true_or, true_implies, false_implies, Int.reduceLT, Int.reduceLE, Int.reduceEq]
    exact q
  | b :: y, x, z, d, R, h, hl, e => by
    have r : R ((x.length : Int) + 1) = b := by
      have h3 := h.2.2
      rw [List.cons_append, List.length_cons, show ((((y ++ z).length + 1 : Nat)) : Int) = ((y ++ z).length : Int) + 1 by omega, tl_cons (by omega)] at h3
      exact (List.cons.inj h3).1
    have w := spl_w (x := b) h
    have w2 : spl (us R x.length b) (x ++ [b]) b (y ++ z) := by
      rw [← spl_iff, List.append_assoc]
      exact spl_iff.2 w
    have ll : ((x ++ [b]).length : Int) = (x.length : Int) + 1 := by rw [List.length_append]; rfl
    rw [List.length_cons] at e hl
    obtain ⟨R', d', a1, a2⟩ := sh89 (f := f) (t := t) (a3 := a3) (c := c) (a5 := a5) y (x ++ [b]) z b _ w2 (by omega) (by omega)
    rw [List.append_assoc, List.singleton_append] at a1
    refine ⟨R', d', a1, fun F Q q => ?_⟩
    have a3' := a2 F Q q
    rw [ll] at a3'
    rw [List.length_cons, mX12_isShunted_L89]
    simp (disch := first | omega | decide) only [w32_id, ↓rh_rcv, ↓rh_g27, ↓rh_r80, ↓rh_w80, ↓be_y, ↓be_n, ↓bf_y, ↓bf_n, ↓bl_y, ↓bl_n, ↓bm_y, ↓bm_n, ↓bg_y, ↓bg_n, ↓bs_y, ↓bs_n, ↓bo_y, ↓bo_n, ↓bp_y, ↓bp_n, ↓forall_eq, ↓within_y, ↓within_n, ↓isIn_y, ↓isIn_n, and_true, true_and, and_self, us_at, us_ne, w32_id, um_eq, um_ne, um_um, uu_eq, uu_ne, uu_uu, vv_eq, vv_ne, vv_vv, ne_eq, not_false_eq_true, not_true_eq_false, reduceCtorEq, Int.reduceAdd, Int.reduceSub, Int.reduceMul, Int.reduceNeg, Nat.reduceEqDiff, or_true, true_or, true_implies, false_implies, Int.reduceLT, Int.reduceLE, Int.reduceEq, r]
    exact a3'
-- to the right: the row between, from its end
theorem sh121 {f t c a5 : Int} {K : Int → (hp → Prop)} : ∀ (yr : List Int) (x z : List Int) (d : Int) (R : Int → Int), spl R (x ++ yr.reverse) d z → (x.length : Int) + yr.length + z.length < 5 → a5 = (x.length : Int) → ∃ R' d', spl R' x d' (yr.reverse ++ z) ∧ ∀ (F : hp) (Q : Int → hp → Prop) (C : Int → Int), (sI (rh F u (um (um M 80 R') 81 C)) (some 80) 0 a5 c (fun F6 => gR F6 (some 69) 12 28 (fun x7 => aI F6 x7 0 f (fun x8 => sI F6 x7 0 f (x8 - 1) (fun F9 => gR F9 (some 69) 12 28 (fun x10 => aI F9 x10 0 t (fun x11 => sI F9 x10 0 t (x11 + 1) (fun F12 => Q 1 F12)))))))) → mX12_isShunted_L121 Q (yr.length + 1) 69 f t c a5 ((x.length : Int) + yr.length) (rh F u (um (um M 80 R) 81 C))
  | [], x, z, d, R, h, hl, e => by
    refine ⟨R, d, by simpa using h, fun F Q C q => ?_⟩
    simp only [List.length_nil] at e hl ⊢
    rw [mX12_isShunted_L121]
    simp (disch := first | omega | decide) only [w32_id, ↓rh_rcv, ↓rh_g27, ↓be_y, ↓be_n, ↓bf_y, ↓bf_n, ↓bl_y, ↓bl_n, ↓bm_y, ↓bm_n, ↓bg_y, ↓bg_n, ↓bs_y, ↓bs_n, ↓bo_y, ↓bo_n, ↓bp_y, ↓bp_n, ↓forall_eq, ↓within_y, ↓within_n, ↓isIn_y, ↓isIn_n, and_true, true_and, and_self, us_at, us_ne, w32_id, um_eq, um_ne, um_um, uu_eq, uu_ne, uu_uu, vv_eq, vv_ne, vv_vv, ne_eq, not_false_eq_true, not_true_eq_false, reduceCtorEq, Int.reduceAdd, Int.reduceSub, Int.reduceMul, Int.reduceNeg, Nat.reduceEqDiff, or_true, true_or, true_implies, false_implies, Int.reduceLT, Int.reduceLE, Int.reduceEq]
    exact q
  | b :: y, x, z, d, R, h, hl, e => by
    rw [List.reverse_cons, ← List.append_assoc] at h
    have h4 := spl_iff.2 h
    rw [List.append_assoc] at h4
    have h5 : spl R (x ++ y.reverse) b (d :: z) := spl_iff.1 h4
    have r : R ((x ++ y.reverse).length : Int) = b := h5.2.1
    have w := spl_w (x := b) h
    have ll : ((x ++ y.reverse ++ [b]).length : Int) = (x.length : Int) + y.length + 1 := by simp only [List.length_append, List.length_reverse, List.length_singleton]; omega
    have l2 : ((x ++ y.reverse).length : Int) = (x.length : Int) + y.length := by simp only [List.length_append, List.length_reverse]; omega
    rw [ll] at w
    rw [l2] at r
    have w2 : spl (us R ((x.length : Int) + y.length + 1) b) (x ++ y.reverse) b (b :: z) := by
      have w3 := spl_iff.2 w
      rw [List.append_assoc] at w3
      exact spl_iff.1 w3
    rw [List.length_cons] at hl ⊢
    obtain ⟨R', d', a1, a2⟩ := sh121 (f := f) (t := t) (c := c) (a5 := a5) (K := K) y x (b :: z) b _ w2 (by rw [List.length_cons]; omega) e
    refine ⟨R', d', by rw [List.reverse_cons, List.append_assoc]; exact a1, fun F Q C q => ?_⟩
    have a3 := a2 F Q C q
    have r' : R ((x.length : Int) + ((y.length + 1 : Nat) : Int) - 1) = b := by rw [show (x.length : Int) + ((y.length + 1 : Nat) : Int) - 1 = (x.length : Int) + y.length by omega]; exact r
    have e1 : (x.length : Int) + ((y.length + 1 : Nat) : Int) = (x.length : Int) + y.length + 1 := by omega
    have e2 : (x.length : Int) + (y.length : Int) + 1 + -1 = (x.length : Int) + y.length := by omega
    rw [e1] at r' ⊢
    rw [mX12_isShunted_L121]
    simp (disch := first | omega | decide) only [w32_id, ↓rh_rcv, ↓rh_g27, ↓rh_r80, ↓rh_w80, ↓be_y, ↓be_n, ↓bf_y, ↓bf_n, ↓bl_y, ↓bl_n, ↓bm_y, ↓bm_n, ↓bg_y, ↓bg_n, ↓bs_y, ↓bs_n, ↓bo_y, ↓bo_n, ↓bp_y, ↓bp_n, ↓forall_eq, ↓within_y, ↓within_n, ↓isIn_y, ↓isIn_n, and_true, true_and, and_self, us_at, us_ne, w32_id, um_eq, um_ne, um_um, uu_eq, uu_ne, uu_uu, vv_eq, vv_ne, vv_vv, ne_eq, not_false_eq_true, not_true_eq_false, reduceCtorEq, Int.reduceAdd, Int.reduceSub, Int.reduceMul, Int.reduceNeg, Nat.reduceEqDiff, or_true, true_or, true_implies, false_implies, Int.reduceLT, Int.reduceLE, Int.reduceEq, r', e2]
    exact a3
end SU
