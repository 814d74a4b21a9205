section TH
variable {n P : Int} {v : Nat → Nat → Int} {N : Nat → Int → Int} {u : Nat → Int} {M : Nat → Int → Int} {s : std}
theorem there_l {c t : Int} (hc : 0 ≤ c ∧ c ≤ 4) (ht : 0 ≤ t ∧ t < 3) {F : hp} {Q : Int → hp → Prop} : ∀ (w p z : List Int), tl (M 80) 0 (p ++ (w ++ z)).length = p ++ (w ++ z) → (p.length : Int) + w.length = en (M 81) t → (p.length : Int) + w.length + z.length ≤ 5 → (∀ d, d ∈ w → 0 ≤ d ∧ d < 5) → Q (if c ∈ w then 1 else 0) (rh F u M) → mX12_isThere_L13 Q (w.length + 1) 69 c t p.length (rh F u M)
  | [], p, z, h, he, hl, hd, q => by
    rw [if_neg (by simp)] at q
    simp only [List.length_nil] at he hl ⊢
    have pe : (p.length : Int) = en (M 81) t := by omega
    rw [mX12_isThere_L13]
    simp (disch := first | omega | decide) only [↓end_r, ↓rh_rcv, ↓rh_g0, ↓be_y, ↓be_n, ↓bf_y, ↓bf_n, ↓bl_y, ↓bl_n, ↓bm_y, ↓bm_n, ↓bg_y, ↓bg_n, ↓bs_y, ↓bs_n, ↓bo_y, ↓bo_n, ↓bp_y, ↓bp_n, ↓forall_eq, ↓within_y, ↓within_n, ↓isIn_y, ↓isIn_n, and_true, true_and, and_self, us_at, us_ne, w32_id, um_eq, um_ne, um_um, uu_eq, uu_ne, uu_uu, vv_eq, vv_ne, vv_vv, ne_eq, not_false_eq_true, not_true_eq_false, reduceCtorEq, Int.reduceAdd, Int.reduceSub, Int.reduceMul, Int.reduceNeg, Nat.reduceEqDiff, or_true, true_or, true_implies, false_implies, Int.reduceLT, Int.reduceLE, Int.reduceEq]
    exact q
  | d :: w, p, z, h, he, hl, hd, q => by
    have db := hd d List.mem_cons_self
    rw [List.length_cons] at he hl ⊢
    have r : M 80 p.length = d := (spl_iff.1 (by rw [List.cons_append] at h; exact h)).2.1
    rw [mX12_isThere_L13]
    by_cases e : d = c
    · rw [if_pos (by rw [e]; exact List.mem_cons_self)] at q
      simp (disch := first | omega | decide) only [↓end_r, ↓rh_rcv, ↓rh_g27, ↓rh_r80, ↓rh_w80, ↓be_y, ↓be_n, ↓bf_y, ↓bf_n, ↓bl_y, ↓bl_n, ↓bm_y, ↓bm_n, ↓bg_y, ↓bg_n, ↓bs_y, ↓bs_n, ↓bo_y, ↓bo_n, ↓bp_y, ↓bp_n, ↓forall_eq, ↓within_y, ↓within_n, ↓isIn_y, ↓isIn_n, and_true, true_and, and_self, us_at, us_ne, w32_id, um_eq, um_ne, um_um, uu_eq, uu_ne, uu_uu, vv_eq, vv_ne, vv_vv, ne_eq, not_false_eq_true, not_true_eq_false, reduceCtorEq, Int.reduceAdd, Int.reduceSub, Int.reduceMul, Int.reduceNeg, Nat.reduceEqDiff, or_true, true_or, true_implies, false_implies, Int.reduceLT, Int.reduceLE, Int.reduceEq, r]
      exact q
    · have q2 : Q (if c ∈ w then 1 else 0) (rh F u M) := by
        by_cases m : c ∈ w
        · rw [if_pos (List.mem_cons_of_mem _ m)] at q; rw [if_pos m]; exact q
        · rw [if_neg (fun z => by rcases List.mem_cons.1 z with z | z; exact e z.symm; exact m z)] at q; rw [if_neg m]; exact q
      have ll : ((p ++ [d]).length : Int) = (p.length : Int) + 1 := by rw [List.length_append]; rfl
      have g := there_l hc ht w (p ++ [d]) z (by rw [List.append_assoc, List.singleton_append]; rw [List.cons_append] at h; exact h) (by omega) (by omega) (fun x hx => hd x (List.mem_cons_of_mem _ hx)) q2
      rw [ll] at g
      simp (disch := first | omega | decide) only [↓end_r, ↓rh_rcv, ↓rh_g27, ↓rh_r80, ↓rh_w80, ↓be_y, ↓be_n, ↓bf_y, ↓bf_n, ↓bl_y, ↓bl_n, ↓bm_y, ↓bm_n, ↓bg_y, ↓bg_n, ↓bs_y, ↓bs_n, ↓bo_y, ↓bo_n, ↓bp_y, ↓bp_n, ↓forall_eq, ↓within_y, ↓within_n, ↓isIn_y, ↓isIn_n, and_true, true_and, and_self, us_at, us_ne, w32_id, um_eq, um_ne, um_um, uu_eq, uu_ne, uu_uu, vv_eq, vv_ne, vv_vv, ne_eq, not_false_eq_true, not_true_eq_false, reduceCtorEq, Int.reduceAdd, Int.reduceSub, Int.reduceMul, Int.reduceNeg, Nat.reduceEqDiff, or_true, true_or, true_implies, false_implies, Int.reduceLT, Int.reduceLE, Int.reduceEq, r]
      exact g
theorem there_r (h : svl n s) (hn : 0 ≤ n ∧ n ≤ 5) (hr : rrep s (M 80) (M 81)) {c t : Int} (hc : 0 ≤ c ∧ c ≤ 4) (ht : 0 ≤ t ∧ t < 3) {F : hp} {Q : Int → hp → Prop} (q : Q (if c ∈ sg s t then 1 else 0) (rh F u M)) : mX12_isThere 69 c t (rh F u M) Q := by
  have ll := rr_l h hn.1
  have ct := rr_c hr ht
  have hd : ∀ d, d ∈ (sg s t).reverse → 0 ≤ d ∧ d < 5 := fun d hd => by
    have := (svl_m h).1 (sg_mem ht (List.mem_reverse.1 hd))
    omega
  have hq : Q (if c ∈ (sg s t).reverse then 1 else 0) (rh F u M) := by
    simp only [List.mem_reverse]
    exact q
  have key : ∃ p z, brow s = p ++ ((sg s t).reverse ++ z) ∧ (p.length : Int) + (sg s t).reverse.length = en (M 81) t ∧ (p.length : Int) + (sg s t).reverse.length + z.length ≤ 5 := by
    obtain ⟨⟨c0, c1, c2⟩, -⟩ := hr
    unfold en brow
    obtain rfl | rfl | rfl : t = 0 ∨ t = 1 ∨ t = 2 := by omega
    · refine ⟨[], s.2.1.reverse ++ s.2.2.reverse, by rw [List.nil_append, List.append_assoc]; rfl, ?_, ?_⟩
      · rw [if_pos rfl, List.length_reverse]
        show (0 : Int) + s.1.length = _
        omega
      · rw [List.length_append, List.length_reverse, List.length_reverse, List.length_reverse]
        show (0 : Int) + s.1.length + _ ≤ 5
        omega
    · refine ⟨s.1.reverse, s.2.2.reverse, by rw [List.append_assoc]; rfl, ?_, ?_⟩
      · rw [if_neg (by decide), if_pos rfl, List.length_reverse, List.length_reverse]
        show (s.1.length : Int) + s.2.1.length = _
        omega
      · rw [List.length_reverse, List.length_reverse, List.length_reverse]
        show (s.1.length : Int) + s.2.1.length + _ ≤ 5
        omega
    · refine ⟨s.1.reverse ++ s.2.1.reverse, [], by rw [List.append_nil]; rfl, ?_, ?_⟩
      · rw [if_neg (by decide), if_neg (by decide), List.length_append, List.length_reverse, List.length_reverse, List.length_reverse]
        show ((s.1.length + s.2.1.length : Nat) : Int) + s.2.2.length = _
        omega
      · rw [List.length_append, List.length_reverse, List.length_reverse, List.length_reverse]
        show ((s.1.length + s.2.1.length : Nat) : Int) + s.2.2.length + (0 : Int) ≤ 5
        omega
  obtain ⟨p, z, e1, e2, e3⟩ := key
  have b := hr.2
  rw [e1] at b
  have g := there_l hc ht _ p z b e2 e3 hd hq
  rw [List.length_reverse] at e2
  have pe : en (M 81) t - M 81 t = (p.length : Int) := by omega
  simp (disch := first | omega | decide) only [mX12_isThere, ↓end_r, ↓rh_rcv, ↓rh_g28, ↓rh_r81, ↓rh_w81, ↓be_y, ↓be_n, ↓bf_y, ↓bf_n, ↓bl_y, ↓bl_n, ↓bm_y, ↓bm_n, ↓bg_y, ↓bg_n, ↓bs_y, ↓bs_n, ↓bo_y, ↓bo_n, ↓bp_y, ↓bp_n, ↓forall_eq, ↓within_y, ↓within_n, ↓isIn_y, ↓isIn_n, and_true, true_and, and_self, us_at, us_ne, w32_id, um_eq, um_ne, um_um, uu_eq, uu_ne, uu_uu, vv_eq, vv_ne, vv_vv, ne_eq, not_false_eq_true, not_true_eq_false, reduceCtorEq, Int.reduceAdd, Int.reduceSub, Int.reduceMul, Int.reduceNeg, Nat.reduceEqDiff, or_true, true_or, true_implies, false_implies, Int.reduceLT, Int.reduceLE, Int.reduceEq]
  rw [pe]
  exact ⟨_, g⟩
end TH
