-- ===== a stand as the reference's number =====
def cnl (x : Int) : List Int → Int
  | [] => 0
  | z :: r => (if z < x then 1 else 0) + cnl x r
def lh : Int → List Int → Int
  | a, [] => a
  | a, x :: r => lh (a * (r.length + 1) + cnl x r) r
def num (s : std) : Int := 36 * lh 0 (brow s) + 6 * s.1.length + s.2.1.length
section NU
variable {n : Int} {u : Nat → Int} {M : Nat → Int → Int} {s : std}
theorem cnl_b {x : Int} : ∀ r : List Int, 0 ≤ cnl x r ∧ cnl x r ≤ r.length
  | [] => by simp [cnl]
  | z :: r => by
    have i := cnl_b (x := x) r
    rw [cnl, List.length_cons]
    split <;> omega
theorem so22 {a2 a3 x : Int} {F : hp} {X : Nat → Int → Int → Int → hp → Prop} {Q : Int → hp → Prop} (hx : M 80 a3 = x) (h3 : 0 ≤ a3 ∧ a3 < 5) (xb : 0 ≤ x ∧ x < 5) : ∀ (r p : List Int) (a4 : Int), tl (M 80) 0 (p ++ r).length = p ++ r → (∀ z, z ∈ r → 0 ≤ z ∧ z < 5) → (p.length : Int) + r.length = n → n ≤ 5 → X 69 n (a2 * (n - a3) + (a4 + cnl x r)) (a3 + 1) (rh F u M) → mX12_standOf_L22 X Q (r.length + 1) 69 n a2 a3 a4 p.length (rh F u M)
  | [], p, a4, h, hz, hl, hn, q => by
    simp only [List.length_nil] at hl ⊢
    rw [cnl, Int.add_zero] at q
    rw [mX12_standOf_L22]
    simp (disch := first | omega | decide) only [w32_id, ↓rh_rcv, ↓rh_g0, ↓be_y, ↓be_n, ↓bf_y, ↓bf_n, ↓bl_y, ↓bl_n, ↓bm_y, ↓bm_n, ↓bg_y, ↓bg_n, ↓bs_y, ↓bs_n, ↓bo_y, ↓bo_n, ↓bp_y, ↓bp_n, ↓forall_eq, ↓within_y, ↓within_n, ↓isIn_y, ↓isIn_n, and_true, true_and, and_self, us_at, us_ne, w32_id, um_eq, um_ne, um_um, uu_eq, uu_ne, uu_uu, vv_eq, vv_ne, vv_vv, ne_eq, not_false_eq_true, not_true_eq_false, reduceCtorEq, Int.reduceAdd, Int.reduceSub, Int.reduceMul, Int.reduceNeg, Nat.reduceEqDiff, or_true, true_or, true_implies, false_implies, Int.reduceLT, Int.reduceLE, Int.reduceEq]
    exact q
  | z :: r, p, a4, h, hz, hl, hn, q => by
    have zb := hz z List.mem_cons_self
    have rz : M 80 p.length = z := (spl_iff.1 h).2.1
    have ll : ((p ++ [z]).length : Int) = (p.length : Int) + 1 := by rw [List.length_append]; rfl
    rw [List.length_cons] at hl ⊢
    rw [mX12_standOf_L22]
    rw [cnl] at q
    by_cases d : z < x
    · rw [if_pos d, ← Int.add_assoc a4 1] at q
      have g := so22 hx h3 xb r (p ++ [z]) (a4 + 1) (by rw [List.append_assoc, List.singleton_append]; exact h) (fun y hy => hz y (List.mem_cons_of_mem _ hy)) (by omega) hn q (Q := Q)
      rw [ll] at g
      simp (disch := first | omega | decide) only [mX12_standOf_J51, ↓rh_rcv, ↓rh_g27, ↓rh_r80, ↓rh_w80, ↓be_y, ↓be_n, ↓bf_y, ↓bf_n, ↓bl_y, ↓bl_n, ↓bm_y, ↓bm_n, ↓bg_y, ↓bg_n, ↓bs_y, ↓bs_n, ↓bo_y, ↓bo_n, ↓bp_y, ↓bp_n, ↓forall_eq, ↓within_y, ↓within_n, ↓isIn_y, ↓isIn_n, and_true, true_and, and_self, us_at, us_ne, w32_id, um_eq, um_ne, um_um, uu_eq, uu_ne, uu_uu, vv_eq, vv_ne, vv_vv, ne_eq, not_false_eq_true, not_true_eq_false, reduceCtorEq, Int.reduceAdd, Int.reduceSub, Int.reduceMul, Int.reduceNeg, Nat.reduceEqDiff, or_true, true_or, true_implies, false_implies, Int.reduceLT, Int.reduceLE, Int.reduceEq, rz, hx]
      exact g
    · rw [if_neg d, ← Int.add_assoc a4 0] at q
      have g := so22 hx h3 xb r (p ++ [z]) (a4 + 0) (by rw [List.append_assoc, List.singleton_append]; exact h) (fun y hy => hz y (List.mem_cons_of_mem _ hy)) (by omega) hn q (Q := Q)
      rw [ll] at g
      simp (disch := first | omega | decide) only [mX12_standOf_J51, ↓rh_rcv, ↓rh_g27, ↓rh_r80, ↓rh_w80, ↓be_y, ↓be_n, ↓bf_y, ↓bf_n, ↓bl_y, ↓bl_n, ↓bm_y, ↓bm_n, ↓bg_y, ↓bg_n, ↓bs_y, ↓bs_n, ↓bo_y, ↓bo_n, ↓bp_y, ↓bp_n, ↓forall_eq, ↓within_y, ↓within_n, ↓isIn_y, ↓isIn_n, and_true, true_and, and_self, us_at, us_ne, w32_id, um_eq, um_ne, um_um, uu_eq, uu_ne, uu_uu, vv_eq, vv_ne, vv_vv, ne_eq, not_false_eq_true, not_true_eq_false, reduceCtorEq, Int.reduceAdd, Int.reduceSub, Int.reduceMul, Int.reduceNeg, Nat.reduceEqDiff, or_true, true_or, true_implies, false_implies, Int.reduceLT, Int.reduceLE, Int.reduceEq, rz, hx]
      exact g
theorem so9 {F : hp} {Q : Int → hp → Prop} : ∀ (w p : List Int) (a : Int), tl (M 80) 0 (p ++ w).length = p ++ w → (∀ z, z ∈ w → 0 ≤ z ∧ z < 5) → (p.length : Int) + w.length = n → n ≤ 5 → Q (36 * lh a w + 6 * M 81 0 + M 81 1) (rh F u M) → mX12_standOf_L9 Q (w.length + 1) 69 n a p.length (rh F u M)
  | [], p, a, h, hz, hl, hn, q => by
    simp only [List.length_nil] at hl ⊢
    rw [lh] at q
    rw [mX12_standOf_L9]
    simp (disch := first | omega | decide) only [w32_id, ↓rh_rcv, ↓rh_g28, ↓rh_r81, ↓rh_w81, ↓be_y, ↓be_n, ↓bf_y, ↓bf_n, ↓bl_y, ↓bl_n, ↓bm_y, ↓bm_n, ↓bg_y, ↓bg_n, ↓bs_y, ↓bs_n, ↓bo_y, ↓bo_n, ↓bp_y, ↓bp_n, ↓forall_eq, ↓within_y, ↓within_n, ↓isIn_y, ↓isIn_n, and_true, true_and, and_self, us_at, us_ne, w32_id, um_eq, um_ne, um_um, uu_eq, uu_ne, uu_uu, vv_eq, vv_ne, vv_vv, ne_eq, not_false_eq_true, not_true_eq_false, reduceCtorEq, Int.reduceAdd, Int.reduceSub, Int.reduceMul, Int.reduceNeg, Nat.reduceEqDiff, or_true, true_or, true_implies, false_implies, Int.reduceLT, Int.reduceLE, Int.reduceEq]
    exact q
  | z :: r, p, a, h, hz, hl, hn, q => by
    have zb := hz z List.mem_cons_self
    have rz : M 80 p.length = z := (spl_iff.1 h).2.1
    have ll : ((p ++ [z]).length : Int) = (p.length : Int) + 1 := by rw [List.length_append]; rfl
    rw [List.length_cons] at hl ⊢
    rw [lh] at q
    have h2 : tl (M 80) 0 ((p ++ [z]) ++ r).length = (p ++ [z]) ++ r := by rw [List.append_assoc, List.singleton_append]; exact h
    have hz2 : ∀ y, y ∈ r → 0 ≤ y ∧ y < 5 := fun y hy => hz y (List.mem_cons_of_mem _ hy)
    have g := so9 r (p ++ [z]) _ h2 hz2 (by omega) hn q
    rw [ll] at g
    have e : (r.length : Int) + 1 = n - p.length := by omega
    rw [e] at g
    have g2 := so22 (n := n) (a2 := a) (a3 := (p.length : Int)) (x := z) (X := fun o' a1' a2' a3' F' => mX12_standOf_L9 Q (r.length + 1) o' a1' a2' a3' F') (Q := Q) rz (by omega) zb r (p ++ [z]) 0 h2 hz2 (by omega) hn (by rw [Int.zero_add]; exact g)
    rw [ll] at g2
    rw [mX12_standOf_L9]
    simp (disch := first | omega | decide) only [w32_id, ↓rh_rcv, ↓rh_g0, ↓be_y, ↓be_n, ↓bf_y, ↓bf_n, ↓bl_y, ↓bl_n, ↓bm_y, ↓bm_n, ↓bg_y, ↓bg_n, ↓bs_y, ↓bs_n, ↓bo_y, ↓bo_n, ↓bp_y, ↓bp_n, ↓forall_eq, ↓within_y, ↓within_n, ↓isIn_y, ↓isIn_n, and_true, true_and, and_self, us_at, us_ne, w32_id, um_eq, um_ne, um_um, uu_eq, uu_ne, uu_uu, vv_eq, vv_ne, vv_vv, ne_eq, not_false_eq_true, not_true_eq_false, reduceCtorEq, Int.reduceAdd, Int.reduceSub, Int.reduceMul, Int.reduceNeg, Nat.reduceEqDiff, or_true, true_or, true_implies, false_implies, Int.reduceLT, Int.reduceLE, Int.reduceEq]
    exact ⟨_, g2⟩
theorem so_r (h : svl n s) (hn : 0 ≤ n ∧ n ≤ 5) (hr : rrep s (M 80) (M 81)) {F : hp} {Q : Int → hp → Prop} (q : Q (num s) (rh F u M)) : mX12_standOf 69 (rh F u M) Q := by
  have ll := rr_l h hn.1
  obtain ⟨⟨c0, c1, c2⟩, b⟩ := id hr
  have bl : ((brow s).length : Int) = n := by
    unfold brow
    simp only [List.length_append, List.length_reverse]
    omega
  have en3 : M 81 0 + M 81 1 + M 81 2 = n := by omega
  unfold num at q
  rw [← c0, ← c1] at q
  have g := so9 (n := n) (brow s) [] 0 (by rw [List.nil_append]; exact b) (fun z hz => by
    unfold brow at hz
    simp only [List.mem_append, List.mem_reverse] at hz
    have m : z ∈ sts s := by unfold sts; simp only [List.mem_append]; exact hz
    have := (svl_m h).1 m
    omega) (by rw [List.length_nil]; omega) hn.2 q
  simp (disch := first | omega | decide) only [mX12_standOf, mX12_cars, ↓rh_rcv, ↓rh_g28, ↓rh_r81, ↓rh_w81, ↓be_y, ↓be_n, ↓bf_y, ↓bf_n, ↓bl_y, ↓bl_n, ↓bm_y, ↓bm_n, ↓bg_y, ↓bg_n, ↓bs_y, ↓bs_n, ↓bo_y, ↓bo_n, ↓bp_y, ↓bp_n, ↓forall_eq, ↓within_y, ↓within_n, ↓isIn_y, ↓isIn_n, and_true, true_and, and_self, us_at, us_ne, w32_id, um_eq, um_ne, um_um, uu_eq, uu_ne, uu_uu, vv_eq, vv_ne, vv_vv, ne_eq, not_false_eq_true, not_true_eq_false, reduceCtorEq, Int.reduceAdd, Int.reduceSub, Int.reduceMul, Int.reduceNeg, Nat.reduceEqDiff, or_true, true_or, true_implies, false_implies, Int.reduceLT, Int.reduceLE, Int.reduceEq]
  rw [en3]
  exact ⟨_, g⟩
end NU
