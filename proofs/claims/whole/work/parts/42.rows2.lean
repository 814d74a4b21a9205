-- ===== the reference's rows of a track =====
def PTL : List (List Nat) := [[0, 1, 2, 3, 4], [0, 1, 2, 4, 3], [0, 1, 3, 2, 4], [0, 1, 3, 4, 2], [0, 1, 4, 2, 3], [0, 1, 4, 3, 2], [0, 2, 1, 3, 4], [0, 2, 1, 4, 3], [0, 2, 3, 1, 4], [0, 2, 3, 4, 1], [0, 2, 4, 1, 3], [0, 2, 4, 3, 1], [0, 3, 1, 2, 4], [0, 3, 1, 4, 2], [0, 3, 2, 1, 4], [0, 3, 2, 4, 1], [0, 3, 4, 1, 2], [0, 3, 4, 2, 1], [0, 4, 1, 2, 3], [0, 4, 1, 3, 2], [0, 4, 2, 1, 3], [0, 4, 2, 3, 1], [0, 4, 3, 1, 2], [0, 4, 3, 2, 1], [1, 0, 2, 3, 4], [1, 0, 2, 4, 3], [1, 0, 3, 2, 4], [1, 0, 3, 4, 2], [1, 0, 4, 2, 3], [1, 0, 4, 3, 2], [1, 2, 0, 3, 4], [1, 2, 0, 4, 3], [1, 2, 3, 0, 4], [1, 2, 3, 4, 0], [1, 2, 4, 0, 3], [1, 2, 4, 3, 0], [1, 3, 0, 2, 4], [1, 3, 0, 4, 2], [1, 3, 2, 0, 4], [1, 3, 2, 4, 0], [1, 3, 4, 0, 2], [1, 3, 4, 2, 0], [1, 4, 0, 2, 3], [1, 4, 0, 3, 2], [1, 4, 2, 0, 3], [1, 4, 2, 3, 0], [1, 4, 3, 0, 2], [1, 4, 3, 2, 0], [2, 0, 1, 3, 4], [2, 0, 1, 4, 3], [2, 0, 3, 1, 4], [2, 0, 3, 4, 1], [2, 0, 4, 1, 3], [2, 0, 4, 3, 1], [2, 1, 0, 3, 4], [2, 1, 0, 4, 3], [2, 1, 3, 0, 4], [2, 1, 3, 4, 0], [2, 1, 4, 0, 3], [2, 1, 4, 3, 0], [2, 3, 0, 1, 4], [2, 3, 0, 4, 1], [2, 3, 1, 0, 4], [2, 3, 1, 4, 0], [2, 3, 4, 0, 1], [2, 3, 4, 1, 0], [2, 4, 0, 1, 3], [2, 4, 0, 3, 1], [2, 4, 1, 0, 3], [2, 4, 1, 3, 0], [2, 4, 3, 0, 1], [2, 4, 3, 1, 0], [3, 0, 1, 2, 4], [3, 0, 1, 4, 2], [3, 0, 2, 1, 4], [3, 0, 2, 4, 1], [3, 0, 4, 1, 2], [3, 0, 4, 2, 1], [3, 1, 0, 2, 4], [3, 1, 0, 4, 2], [3, 1, 2, 0, 4], [3, 1, 2, 4, 0], [3, 1, 4, 0, 2], [3, 1, 4, 2, 0], [3, 2, 0, 1, 4], [3, 2, 0, 4, 1], [3, 2, 1, 0, 4], [3, 2, 1, 4, 0], [3, 2, 4, 0, 1], [3, 2, 4, 1, 0], [3, 4, 0, 1, 2], [3, 4, 0, 2, 1], [3, 4, 1, 0, 2], [3, 4, 1, 2, 0], [3, 4, 2, 0, 1], [3, 4, 2, 1, 0], [4, 0, 1, 2, 3], [4, 0, 1, 3, 2], [4, 0, 2, 1, 3], [4, 0, 2, 3, 1], [4, 0, 3, 1, 2], [4, 0, 3, 2, 1], [4, 1, 0, 2, 3], [4, 1, 0, 3, 2], [4, 1, 2, 0, 3], [4, 1, 2, 3, 0], [4, 1, 3, 0, 2], [4, 1, 3, 2, 0], [4, 2, 0, 1, 3], [4, 2, 0, 3, 1], [4, 2, 1, 0, 3], [4, 2, 1, 3, 0], [4, 2, 3, 0, 1], [4, 2, 3, 1, 0], [4, 3, 0, 1, 2], [4, 3, 0, 2, 1], [4, 3, 1, 0, 2], [4, 3, 1, 2, 0], [4, 3, 2, 0, 1], [4, 3, 2, 1, 0]]
set_option maxRecDepth 20000 in
theorem PTL_ok : ∀ o : Nat, o < 120 → (List.range 5).map (fun i => prc o i) = (PTL.getD o []).map (fun (x : Nat) => (x : Int)) := by decide +kernel
def fcN (n : Nat) : Nat := [1, 1, 2, 6, 24, 120].getD n 1
def cntp (m : Nat) : Bool := (PTL.map (fun l => l.filter (fun c => m.testBit c))).eraseDups.all (fun x => decide (120 ≤ fcN x.length * (PTL.map (fun l => l.filter (fun c => m.testBit c))).count x))
set_option maxRecDepth 20000 in
theorem cntp0 : cntp 0 = true := by decide +kernel
set_option maxRecDepth 20000 in
theorem cntp1 : cntp 1 = true := by decide +kernel
set_option maxRecDepth 20000 in
theorem cntp2 : cntp 2 = true := by decide +kernel
set_option maxRecDepth 20000 in
theorem cntp3 : cntp 3 = true := by decide +kernel
set_option maxRecDepth 20000 in
theorem cntp4 : cntp 4 = true := by decide +kernel
set_option maxRecDepth 20000 in
theorem cntp5 : cntp 5 = true := by decide +kernel
set_option maxRecDepth 20000 in
theorem cntp6 : cntp 6 = true := by decide +kernel
set_option maxRecDepth 20000 in
theorem cntp7 : cntp 7 = true := by decide +kernel
set_option maxRecDepth 20000 in
theorem cntp8 : cntp 8 = true := by decide +kernel
set_option maxRecDepth 20000 in
theorem cntp9 : cntp 9 = true := by decide +kernel
set_option maxRecDepth 20000 in
theorem cntp10 : cntp 10 = true := by decide +kernel
set_option maxRecDepth 20000 in
theorem cntp11 : cntp 11 = true := by decide +kernel
set_option maxRecDepth 20000 in
theorem cntp12 : cntp 12 = true := by decide +kernel
set_option maxRecDepth 20000 in
theorem cntp13 : cntp 13 = true := by decide +kernel
set_option maxRecDepth 20000 in
theorem cntp14 : cntp 14 = true := by decide +kernel
set_option maxRecDepth 20000 in
theorem cntp15 : cntp 15 = true := by decide +kernel
set_option maxRecDepth 20000 in
theorem cntp16 : cntp 16 = true := by decide +kernel
set_option maxRecDepth 20000 in
theorem cntp17 : cntp 17 = true := by decide +kernel
set_option maxRecDepth 20000 in
theorem cntp18 : cntp 18 = true := by decide +kernel
set_option maxRecDepth 20000 in
theorem cntp19 : cntp 19 = true := by decide +kernel
set_option maxRecDepth 20000 in
theorem cntp20 : cntp 20 = true := by decide +kernel
set_option maxRecDepth 20000 in
theorem cntp21 : cntp 21 = true := by decide +kernel
set_option maxRecDepth 20000 in
theorem cntp22 : cntp 22 = true := by decide +kernel
set_option maxRecDepth 20000 in
theorem cntp23 : cntp 23 = true := by decide +kernel
set_option maxRecDepth 20000 in
theorem cntp24 : cntp 24 = true := by decide +kernel
set_option maxRecDepth 20000 in
theorem cntp25 : cntp 25 = true := by decide +kernel
set_option maxRecDepth 20000 in
theorem cntp26 : cntp 26 = true := by decide +kernel
set_option maxRecDepth 20000 in
theorem cntp27 : cntp 27 = true := by decide +kernel
set_option maxRecDepth 20000 in
theorem cntp28 : cntp 28 = true := by decide +kernel
set_option maxRecDepth 20000 in
theorem cntp29 : cntp 29 = true := by decide +kernel
set_option maxRecDepth 20000 in
theorem cntp30 : cntp 30 = true := by decide +kernel
set_option maxRecDepth 20000 in
theorem cntp31 : cntp 31 = true := by decide +kernel
theorem cnt_tab : ∀ m : Nat, m < 32 → cntp m = true := by
  intro m hm
  match m, hm with
  | 0, _ => exact cntp0
  | 1, _ => exact cntp1
  | 2, _ => exact cntp2
  | 3, _ => exact cntp3
  | 4, _ => exact cntp4
  | 5, _ => exact cntp5
  | 6, _ => exact cntp6
  | 7, _ => exact cntp7
  | 8, _ => exact cntp8
  | 9, _ => exact cntp9
  | 10, _ => exact cntp10
  | 11, _ => exact cntp11
  | 12, _ => exact cntp12
  | 13, _ => exact cntp13
  | 14, _ => exact cntp14
  | 15, _ => exact cntp15
  | 16, _ => exact cntp16
  | 17, _ => exact cntp17
  | 18, _ => exact cntp18
  | 19, _ => exact cntp19
  | 20, _ => exact cntp20
  | 21, _ => exact cntp21
  | 22, _ => exact cntp22
  | 23, _ => exact cntp23
  | 24, _ => exact cntp24
  | 25, _ => exact cntp25
  | 26, _ => exact cntp26
  | 27, _ => exact cntp27
  | 28, _ => exact cntp28
  | 29, _ => exact cntp29
  | 30, _ => exact cntp30
  | 31, _ => exact cntp31
  | k + 32, h => exact absurd h (by omega)
set_option maxRecDepth 20000 in
theorem prl_perm : ∀ o : Nat, o < 120 → ((List.range 5).map (fun i => prc o i)).Perm (ran 5) := by decide +kernel
theorem fcN_e : ∀ n : Nat, n < 6 → ((fcN n : Nat) : Int) = (if (n : Int) = 5 then 120 else rowsI (4 - (n : Int))) := by decide +kernel
def gor (A : Int → Int) (m o : Int) : Bool := okl (zForb A) (frl o m 5)
def cnr (A : Int → Int) (m : Int) : Nat → Int → Int
  | 0, _ => 0
  | k + 1, o => (if gor A m o then 1 else 0) + cnr A m k (o + 1)
theorem cnr_b (A : Int → Int) (m : Int) : ∀ (k : Nat) (o : Int), 0 ≤ cnr A m k o ∧ cnr A m k o ≤ k := by
  intro k
  induction k with
  | zero => intro o; exact ⟨Int.le_refl _, Int.le_refl _⟩
  | succ k ih =>
    intro o
    have := ih (o + 1)
    rw [cnr]
    split <;> omega
theorem frl_p {o m : Nat} (ho : o < 120) : frl o m 5 = ((PTL.getD o []).filter (fun c => m.testBit c)).map (fun (x : Nat) => (x : Int)) := by
  unfold frl
  rw [PTL_ok o ho, List.filter_map]
  rfl
theorem cnr_l {A : Int → Int} {m : Nat} {x : List Nat} (hx : okl (zForb A) (x.map (fun (x : Nat) => (x : Int))) = true) : ∀ (k o : Nat), o + k = 120 → ((((PTL.drop o).map (fun l => l.filter (fun c => m.testBit c))).count x : Nat) : Int) ≤ cnr A m k o := by
  intro k
  induction k with
  | zero =>
    intro o ho
    obtain rfl : o = 120 := by omega
    have e : PTL.drop 120 = [] := by decide
    rw [e]
    exact Int.le_refl _
  | succ k ih =>
    intro o ho
    have g := ih (o + 1) (by omega)
    have hl : PTL.length = 120 := by decide
    have e : PTL.drop o = PTL.getD o [] :: PTL.drop (o + 1) := by
      rw [List.drop_eq_getElem_cons (by omega)]
      congr 1
      rw [List.getD_eq_getElem?_getD, List.getElem?_eq_getElem (by omega)]
      rfl
    rw [e, List.map_cons, List.count_cons, cnr, show (o : Int) + 1 = ((o + 1 : Nat) : Int) by omega]
    by_cases d : (PTL.getD o []).filter (fun c => m.testBit c) = x
    · have go : gor A m o = true := by
        unfold gor
        rw [frl_p (by omega), d]
        exact hx
      rw [go]
      simp only [d, beq_self_eq_true, if_true]
      omega
    · rw [if_neg (by simpa using d)]
      split <;> omega
theorem cnr_tab {A : Int → Int} {m o : Int} (hm : 0 ≤ m ∧ m ≤ 31) (ho : 0 ≤ o ∧ o < 120) (hg : gor A m o = true) : 120 ≤ (if ((frl o m 5).length : Int) = 5 then 120 else rowsI (4 - ((frl o m 5).length : Int))) * cnr A m 120 0 := by
  obtain ⟨m, rfl⟩ := Int.eq_ofNat_of_zero_le hm.1
  obtain ⟨o, rfl⟩ := Int.eq_ofNat_of_zero_le ho.1
  unfold gor at hg
  have ll := frl_len (o : Int) (m : Int) 5
  rw [frl_p (by omega)] at hg ll ⊢
  generalize hx : (PTL.getD o []).filter (fun c => m.testBit c) = x at hg ll
  rw [List.length_map] at ll ⊢
  have c1 := cnr_l (m := m) hg 120 0 (by omega)
  rw [List.drop_zero] at c1
  have t := cnt_tab m (by omega)
  unfold cntp at t
  have hl : PTL.length = 120 := by decide
  have t2 := List.all_eq_true.mp t x (List.mem_eraseDups.mpr <| List.mem_map.mpr ⟨PTL.getD o [], by rw [List.getD_eq_getElem?_getD, List.getElem?_eq_getElem (by omega)]; exact List.getElem_mem _, hx⟩)
  have t3 := of_decide_eq_true t2
  rw [← fcN_e x.length (by omega)]
  have e : fcN x.length * (PTL.map (fun l => l.filter (fun c => m.testBit c))).count x = fcN x.length * (PTL.map (fun l => l.filter (fun c => m.testBit c))).count x := rfl
  have h1 : ((fcN x.length : Nat) : Int) * (((PTL.map (fun l => l.filter (fun c => m.testBit c))).count x : Nat) : Int) ≤ ((fcN x.length : Nat) : Int) * cnr A m 120 0 := Int.mul_le_mul_of_nonneg_left c1 (by omega)
  have h2 : ((fcN x.length * (PTL.map (fun l => l.filter (fun c => m.testBit c))).count x : Nat) : Int) = ((fcN x.length : Nat) : Int) * (((PTL.map (fun l => l.filter (fun c => m.testBit c))).count x : Nat) : Int) := by rw [Int.natCast_mul]
  omega
