def bmp (x : Int) (r : List Int) : List Int := r.map (fun y => if y < x then y else y + 1)
def dcd : Nat → Int → List Int → List Int
  | 0, _, r => r
  | k + 1, v, r => dcd k (v / (r.length + 1)) ((v % (r.length + 1)) :: bmp (v % (r.length + 1)) r)
def splb (R : Int → Int) (b : Int) (p : List Int) (d : Int) (q : List Int) : Prop := tl R b p.length = p ∧ R (b + p.length) = d ∧ tl R (b + p.length + 1) q.length = q
section DC
variable {n : Int} {u : Nat → Int} {M : Nat → Int → Int} {R C : Int → Int} {s : std}
theorem splb_iff {b : Int} {p q : List Int} {d : Int} : tl R b (p ++ d :: q).length = p ++ d :: q ↔ splb R b p d q := by
  have e : ((p ++ d :: q).length : Int) = (p.length : Int) + ((q.length + 1 : Nat) : Int) := by rw [List.length_append, List.length_cons]; omega
  rw [e, tl_app (by omega), show ((q.length + 1 : Nat) : Int) = (q.length : Int) + 1 by omega, tl_cons (by omega)]
  have l := tl_len R b (n := (p.length : Int)) (by omega)
  constructor
  · intro h
    obtain ⟨h1, h2⟩ := List.append_inj h (by omega)
    obtain ⟨h3, h4⟩ := List.cons.inj h2
    exact ⟨h1, h3, h4⟩
  · rintro ⟨h1, h2, h3⟩
    rw [h1, h2, h3]
theorem splb_w {b : Int} {p q : List Int} {d x : Int} (h : splb R b p d q) : splb (us R (b + p.length) x) b p x q := by
  obtain ⟨h1, h2, h3⟩ := h
  refine ⟨?_, us_eq _ _ _, ?_⟩
  · conv => rhs; rw [← h1]
    exact tl_congr (fun i i0 i1 => us_ne (by omega))
  · conv => rhs; rw [← h3]
    exact tl_congr (fun i i0 i1 => us_ne (by omega))
theorem ss85 {a3 a4 x : Int} (h4 : 0 ≤ a4) (xb : 0 ≤ x ∧ x < 5) (hn : n ≤ 5) : ∀ (r p : List Int) (R : Int → Int), R a4 = x → tl R (a4 + 1) (p ++ r).length = p ++ r → (∀ z, z ∈ r → 0 ≤ z ∧ z < 5) → a4 + 1 + p.length + r.length = n → ∃ R', R' a4 = x ∧ tl R' (a4 + 1) (p ++ bmp x r).length = p ++ bmp x r ∧ ∀ (F : hp) (X : Nat → Int → Int → Int → hp → Prop) (Q : hp → Prop), X 69 n a3 (a4 + -1) (rh F u (um M 80 R')) → mX12_standSo_L85 X Q (r.length + 1) 69 n a3 a4 (a4 + 1 + p.length) (rh F u (um M 80 R))
  | [], p, R, hx, h, hz, hl => by
    refine ⟨R, hx, h, fun F X Q q => ?_⟩
    simp only [List.length_nil] at hl ⊢
    rw [mX12_standSo_L85]
    simp (disch := first | omega | decide) only [w32_id, ↓rh_rcv, ↓rh_g0, ↓be_y, ↓be_n, ↓bf_y, ↓bf_n, ↓bl_y, ↓bl_n, ↓bm_y, ↓bm_n, ↓bg_y, ↓bg_n, ↓bs_y, ↓bs_n, ↓bo_y, ↓bo_n, ↓bp_y, ↓bp_n, ↓forall_eq, ↓within_y, ↓within_n, ↓isIn_y, ↓isIn_n, and_true, true_and, and_self, us_at, us_ne, w32_id, um_eq, um_ne, um_um, uu_eq, uu_ne, uu_uu, vv_eq, vv_ne, vv_vv, ne_eq, not_false_eq_true, not_true_eq_false, reduceCtorEq, Int.reduceAdd, Int.reduceSub, Int.reduceMul, Int.reduceNeg, Nat.reduceEqDiff, or_true, true_or, true_implies, false_implies, Int.reduceLT, Int.reduceLE, Int.reduceEq]
    exact q
  | z :: r, p, R, hx, h, hz, hl => by
    have zb := hz z List.mem_cons_self
    have sp := splb_iff.1 h
    have rz : R (a4 + 1 + p.length) = z := sp.2.1
    rw [List.length_cons] at hl ⊢
    by_cases d : z < x
    · have ll : ((p ++ [z]).length : Int) = (p.length : Int) + 1 := by rw [List.length_append]; rfl
      obtain ⟨R', g1, g2, g3⟩ := ss85 (a3 := a3) h4 xb hn r (p ++ [z]) R hx (by rw [List.append_assoc, List.singleton_append]; exact h) (fun y hy => hz y (List.mem_cons_of_mem _ hy)) (by omega)
      have eb : bmp x (z :: r) = z :: bmp x r := by
        show (if z < x then z else z + 1) :: _ = _
        rw [if_pos d]; rfl
      refine ⟨R', g1, by rw [eb]; rw [List.append_assoc, List.singleton_append] at g2; exact g2, fun F X Q q => ?_⟩
      have g4 := g3 F X Q q
      rw [ll, ← Int.add_assoc] at g4
      rw [mX12_standSo_L85]
      simp (disch := first | omega | decide) only [mX12_standSo_J119, ↓rh_rcv, ↓rh_g27, ↓rh_r80, ↓rh_w80, ↓be_y, ↓be_n, ↓bf_y, ↓bf_n, ↓bl_y, ↓bl_n, ↓bm_y, ↓bm_n, ↓bg_y, ↓bg_n, ↓bs_y, ↓bs_n, ↓bo_y, ↓bo_n, ↓bp_y, ↓bp_n, ↓forall_eq, ↓within_y, ↓within_n, ↓isIn_y, ↓isIn_n, and_true, true_and, and_self, us_at, us_ne, w32_id, um_eq, um_ne, um_um, uu_eq, uu_ne, uu_uu, vv_eq, vv_ne, vv_vv, ne_eq, not_false_eq_true, not_true_eq_false, reduceCtorEq, Int.reduceAdd, Int.reduceSub, Int.reduceMul, Int.reduceNeg, Nat.reduceEqDiff, or_true, true_or, true_implies, false_implies, Int.reduceLT, Int.reduceLE, Int.reduceEq, rz, hx]
      exact g4
    · have ll : ((p ++ [z + 1]).length : Int) = (p.length : Int) + 1 := by rw [List.length_append]; rfl
      have w := splb_iff.2 (splb_w (x := z + 1) sp)
      obtain ⟨R', g1, g2, g3⟩ := ss85 (a3 := a3) h4 xb hn r (p ++ [z + 1]) (us R (a4 + 1 + p.length) (z + 1)) (by rw [us_ne (by omega)]; exact hx) (by rw [List.append_assoc, List.singleton_append]; exact w) (fun y hy => hz y (List.mem_cons_of_mem _ hy)) (by omega)
      have eb : bmp x (z :: r) = (z + 1) :: bmp x r := by
        show (if z < x then z else z + 1) :: _ = _
        rw [if_neg d]; rfl
      refine ⟨R', g1, by rw [eb]; rw [List.append_assoc, List.singleton_append] at g2; exact g2, fun F X Q q => ?_⟩
      have g4 := g3 F X Q q
      rw [ll, ← Int.add_assoc] at g4
      rw [mX12_standSo_L85]
      simp (disch := first | omega | decide) only [mX12_standSo_J119, ↓rh_rcv, ↓rh_g27, ↓rh_r80, ↓rh_w80, ↓be_y, ↓be_n, ↓bf_y, ↓bf_n, ↓bl_y, ↓bl_n, ↓bm_y, ↓bm_n, ↓bg_y, ↓bg_n, ↓bs_y, ↓bs_n, ↓bo_y, ↓bo_n, ↓bp_y, ↓bp_n, ↓forall_eq, ↓within_y, ↓within_n, ↓isIn_y, ↓isIn_n, and_true, true_and, and_self, us_at, us_ne, w32_id, um_eq, um_ne, um_um, uu_eq, uu_ne, uu_uu, vv_eq, vv_ne, vv_vv, ne_eq, not_false_eq_true, not_true_eq_false, reduceCtorEq, Int.reduceAdd, Int.reduceSub, Int.reduceMul, Int.reduceNeg, Nat.reduceEqDiff, or_true, true_or, true_implies, false_implies, Int.reduceLT, Int.reduceLE, Int.reduceEq, rz, hx]
      exact g4
end DC
