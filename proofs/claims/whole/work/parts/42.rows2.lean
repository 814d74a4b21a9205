-- ===== the reference's rows of a track =====
def PTL : List (List Nat) := [[0, 1, 2, 3, 4], [0, 1, 2, 4, 3], [0, 1, 3, 2, 4], [0, 1, 3, 4, 2], [0, 1, 4, 2, 3], [0, 1, 4, 3, 2], [0, 2, 1, 3, 4], [0, 2, 1, 4, 3], [0, 2, 3, 1, 4], [0, 2, 3, 4, 1], [0, 2, 4, 1, 3], [0, 2, 4, 3, 1], [0, 3, 1, 2, 4], [0, 3, 1, 4, 2], [0, 3, 2, 1, 4], [0, 3, 2, 4, 1], [0, 3, 4, 1, 2], [0, 3, 4, 2, 1], [0, 4, 1, 2, 3], [0, 4, 1, 3, 2], [0, 4, 2, 1, 3], [0, 4, 2, 3, 1], [0, 4, 3, 1, 2], [0, 4, 3, 2, 1], [1, 0, 2, 3, 4], [1, 0, 2, 4, 3], [1, 0, 3, 2, 4], [1, 0, 3, 4, 2], [1, 0, 4, 2, 3], [1, 0, 4, 3, 2], [1, 2, 0, 3, 4], [1, 2, 0, 4, 3], [1, 2, 3, 0, 4], [1, 2, 3, 4, 0], [1, 2, 4, 0, 3], [1, 2, 4, 3, 0], [1, 3, 0, 2, 4], [1, 3, 0, 4, 2], [1, 3, 2, 0, 4], [1, 3, 2, 4, 0], [1, 3, 4, 0, 2], [1, 3, 4, 2, 0], [1, 4, 0, 2, 3], [1, 4, 0, 3, 2], [1, 4, 2, 0, 3], [1, 4, 2, 3, 0], [1, 4, 3, 0, 2], [1, 4, 3, 2, 0], [2, 0, 1, 3, 4], [2, 0, 1, 4, 3], [2, 0, 3, 1, 4], [2, 0, 3, 4, 1], [2, 0, 4, 1, 3], [2, 0, 4, 3, 1], [2, 1, 0, 3, 4], [2, 1, 0, 4, 3], [2, 1, 3, 0, 4], [2, 1, 3, 4, 0], [2, 1, 4, 0, 3], [2, 1, 4, 3, 0], [2, 3, 0, 1, 4], [2, 3, 0, 4, 1], [2, 3, 1, 0, 4], [2, 3, 1, 4, 0], [2, 3, 4, 0, 1], [2, 3, 4, 1, 0], [2, 4, 0, 1, 3], [2, 4, 0, 3, 1], [2, 4, 1, 0, 3], [2, 4, 1, 3, 0], [2, 4, 3, 0, 1], [2, 4, 3, 1, 0], [3, 0, 1, 2, 4], [3, 0, 1, 4, 2], [3, 0, 2, 1, 4], [3, 0, 2, 4, 1], [3, 0, 4, 1, 2], [3, 0, 4, 2, 1], [3, 1, 0, 2, 4], [3, 1, 0, 4, 2], [3, 1, 2, 0, 4], [3, 1, 2, 4, 0], [3, 1, 4, 0, 2], [3, 1, 4, 2, 0], [3, 2, 0, 1, 4], [3, 2, 0, 4, 1], [3, 2, 1, 0, 4], [3, 2, 1, 4, 0], [3, 2, 4, 0, 1], [3, 2, 4, 1, 0], [3, 4, 0, 1, 2], [3, 4, 0, 2, 1], [3, 4, 1, 0, 2], [3, 4, 1, 2, 0], [3, 4, 2, 0, 1], [3, 4, 2, 1, 0], [4, 0, 1, 2, 3], [4, 0, 1, 3, 2], [4, 0, 2, 1, 3], [4, 0, 2, 3, 1], [4, 0, 3, 1, 2], [4, 0, 3, 2, 1], [4, 1, 0, 2, 3], [4, 1, 0, 3, 2], [4, 1, 2, 0, 3], [4, 1, 2, 3, 0], [4, 1, 3, 0, 2], [4, 1, 3, 2, 0], [4, 2, 0, 1, 3], [4, 2, 0, 3, 1], [4, 2, 1, 0, 3], [4, 2, 1, 3, 0], [4, 2, 3, 0, 1], [4, 2, 3, 1, 0], [4, 3, 0, 1, 2], [4, 3, 0, 2, 1], [4, 3, 1, 0, 2], [4, 3, 1, 2, 0], [4, 3, 2, 0, 1], [4, 3, 2, 1, 0]]
set_option maxRecDepth 20000 in
theorem PTL_ok : ∀ o : Nat, o < 120 → (List.range 5).map (fun i => prc o i) = (PTL.getD o []).map (fun x => (x : Int)) := by decide +kernel
def fcN (n : Nat) : Nat := [1, 1, 2, 6, 24, 120].getD n 1
set_option maxRecDepth 20000 in
theorem cnt_tab : (List.range 32).all (fun m => (PTL.map (fun l => l.filter (fun c => m.testBit c))).all (fun x => decide (120 ≤ fcN x.length * (PTL.map (fun l => l.filter (fun c => m.testBit c))).count x))) = true := by decide +kernel
set_option maxRecDepth 20000 in
theorem prl_perm : ∀ o : Nat, o < 120 → ((List.range 5).map (fun i => prc o i)).Perm (ran 5) := by decide +kernel
theorem fcN_e : ∀ n : Nat, n < 6 → ((fcN n : Nat) : Int) = (if (n : Int) = 5 then 120 else rowsI (4 - (n : Int))) := by decide +kernel
def gor (A : Int → Int) (m o : Int) : Bool := okl (zForb A) (frl o m 5)
def cnr (A : Int → Int) (m : Int) : Nat → Int → Int
  | 0, _ => 0
  | k + 1, o => (if gor A m o then 1 else 0) + cnr A m k (o + 1)
theorem cnr_b (A : Int → Int) (m : Int) : ∀ (k : Nat) (o : Int), 0 ≤ cnr A m k o ∧ cnr A m k o ≤ k := by
  intro k
  induction k with
  | zero => intro o; exact ⟨Int.le_refl _, Int.le_refl _⟩
  | succ k ih =>
    intro o
    have := ih (o + 1)
    rw [cnr]
    split <;> omega
theorem frl_p {o m : Nat} (ho : o < 120) : frl o m 5 = ((PTL.getD o []).filter (fun c => m.testBit c)).map (fun x => (x : Int)) := by
  unfold frl
  rw [PTL_ok o ho, List.filter_map]
  rfl
theorem cnr_l {A : Int → Int} {m : Nat} {x : List Nat} (hx : okl (zForb A) (x.map (fun x => (x : Int))) = true) : ∀ (k o : Nat), o + k = 120 → ((((PTL.drop o).map (fun l => l.filter (fun c => m.testBit c))).count x : Nat) : Int) ≤ cnr A m k o := by
  intro k
  induction k with
  | zero =>
    intro o ho
    obtain rfl : o = 120 := by omega
    decide
  | succ k ih =>
    intro o ho
    have g := ih (o + 1) (by omega)
    have hl : PTL.length = 120 := by decide
    have e : PTL.drop o = PTL.getD o [] :: PTL.drop (o + 1) := by
      rw [List.drop_eq_getElem_cons (by omega)]
      congr 1
      rw [List.getD_eq_getElem?_getD, List.getElem?_eq_getElem (by omega)]
      rfl
    rw [e, List.map_cons, List.count_cons, cnr, show (o : Int) + 1 = ((o + 1 : Nat) : Int) by omega]
    by_cases d : (PTL.getD o []).filter (fun c => m.testBit c) = x
    · have go : gor A m o = true := by
        unfold gor
        rw [frl_p (by omega), d]
        exact hx
      rw [go]
      simp only [d, beq_self_eq_true, if_true]
      omega
    · rw [if_neg (by simpa using d)]
      split <;> omega
theorem cnr_tab {A : Int → Int} {m o : Int} (hm : 0 ≤ m ∧ m ≤ 31) (ho : 0 ≤ o ∧ o < 120) (hg : gor A m o = true) : 120 ≤ (if ((frl o m 5).length : Int) = 5 then 120 else rowsI (4 - ((frl o m 5).length : Int))) * cnr A m 120 0 := by
  obtain ⟨m, rfl⟩ := Int.eq_ofNat_of_zero_le hm.1
  obtain ⟨o, rfl⟩ := Int.eq_ofNat_of_zero_le ho.1
  unfold gor at hg
  have ll := frl_len (o : Int) (m : Int) 5
  rw [frl_p (by omega)] at hg ll ⊢
  generalize hx : (PTL.getD o []).filter (fun c => m.testBit c) = x at hg ll
  rw [List.length_map] at ll ⊢
  have c1 := cnr_l (m := m) hg 120 0 (by omega)
  rw [List.drop_zero] at c1
  have t := List.all_eq_true.mp cnt_tab m (List.mem_range.mpr (by omega))
  have hl : PTL.length = 120 := by decide
  have t2 := List.all_eq_true.mp t x (List.mem_map.mpr ⟨PTL.getD o [], by rw [List.getD_eq_getElem?_getD, List.getElem?_eq_getElem (by omega)]; exact List.getElem_mem _, hx⟩)
  have t3 := of_decide_eq_true t2
  rw [← fcN_e x.length (by omega)]
  have e : fcN x.length * (PTL.map (fun l => l.filter (fun c => m.testBit c))).count x = fcN x.length * (PTL.map (fun l => l.filter (fun c => m.testBit c))).count x := rfl
  have h1 : ((fcN x.length : Nat) : Int) * (((PTL.map (fun l => l.filter (fun c => m.testBit c))).count x : Nat) : Int) ≤ ((fcN x.length : Nat) : Int) * cnr A m 120 0 := Int.mul_le_mul_of_nonneg_left c1 (by omega)
  have h2 : ((fcN x.length * (PTL.map (fun l => l.filter (fun c => m.testBit c))).count x : Nat) : Int) = ((fcN x.length : Nat) : Int) * (((PTL.map (fun l => l.filter (fun c => m.testBit c))).count x : Nat) : Int) := by rw [Int.natCast_mul]
  omega
