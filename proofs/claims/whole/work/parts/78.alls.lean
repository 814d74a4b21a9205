-- ===== all ways to stand, as a list; what is read off it =====
def ins (x : Int) : List Int → List (List Int)
  | [] => [[x]]
  | y :: r => (x :: y :: r) :: (ins x r).map (fun l => y :: l)
def pms : List Int → List (List Int)
  | [] => [[]]
  | x :: l => (pms l).flatMap (ins x)
def cut (w : List Int) (a b : Nat) : std := (w.take a, (w.drop a).take b, (w.drop a).drop b)
def cuts (w : List Int) : List std := (List.range (w.length + 1)).flatMap (fun a => (List.range (w.length + 1 - a)).map (fun b => cut w a b))
def alls (n : Int) : List std := (pms (ran n)).flatMap cuts
theorem ins_m {x : Int} {v : List Int} : ∀ u : List Int, u ++ x :: v ∈ ins x (u ++ v)
  | [] => by
    cases v with
    | nil => exact List.mem_cons_self
    | cons y r => exact List.mem_cons_self
  | y :: u => List.mem_cons_of_mem _ (List.mem_map.2 ⟨_, ins_m u, rfl⟩)
theorem pms_m : ∀ (l w : List Int), w.Perm l → w ∈ pms l
  | [], w, h => by rw [h.eq_nil]; exact List.mem_cons_self
  | x :: l, w, h => by
    obtain ⟨u, v, e⟩ := List.append_of_mem (h.mem_iff.2 List.mem_cons_self)
    subst e
    have h2 : (u ++ v).Perm l := (List.perm_cons x).1 (List.perm_middle.symm.trans h)
    exact List.mem_flatMap.2 ⟨u ++ v, pms_m l _ h2, ins_m u⟩
theorem cuts_m (s : std) : s ∈ cuts (sts s) := by
  obtain ⟨a, b, c⟩ := s
  have l : (sts (a, b, c)).length = a.length + b.length + c.length := by simp only [sts, List.length_append]
  refine List.mem_flatMap.2 ⟨a.length, List.mem_range.2 (by omega), List.mem_map.2 ⟨b.length, List.mem_range.2 (by omega), ?_⟩⟩
  simp only [cut, sts, List.append_assoc, List.take_left, List.drop_left]
theorem alls_m {n : Int} {s : std} (h : svl n s) : s ∈ alls n := List.mem_flatMap.2 ⟨_, pms_m _ _ h, cuts_m s⟩
theorem nd_len {α : Type} : ∀ (l m : List α), l.Nodup → (∀ x, x ∈ l → x ∈ m) → l.length ≤ m.length
  | [], _, _, _ => Nat.zero_le _
  | x :: l, m, d, h => by
    obtain ⟨u, v, e⟩ := List.append_of_mem (h x List.mem_cons_self)
    subst e
    have ⟨d1, d2⟩ := List.nodup_cons.1 d
    have := nd_len l (u ++ v) d2 (fun y hy => by
      have := h y (List.mem_cons_of_mem _ hy)
      simp only [List.mem_append, List.mem_cons] at this ⊢
      rcases this with t | rfl | t
      · exact Or.inl t
      · exact absurd hy d1
      · exact Or.inr t)
    simp only [List.length_append, List.length_cons] at this ⊢
    omega
-- what stands on x, from a code
def cfd (e x : Int) : Nat → Int → Option Int
  | 0, _ => none
  | k + 1, c => if e % 8 = x then some c else cfd (e / 8) x k (c + 1)
def chn (e : Int) (n : Nat) : Nat → Int → List Int → List Int
  | 0, _, l => l
  | k + 1, x, l => match cfd e x n 0 with
    | none => l
    | some c => chn e n k c (c :: l)
def dec (n e : Int) : std := (chn e n.toNat 5 5 [], chn e n.toNat 5 6 [], chn e n.toNat 5 7 [])
def stb (n : Int) (s : std) : Bool := dcd n.toNat (lh 0 (brow s)) [] == brow s && decide (0 ≤ lh 0 (brow s)) && decide (lh 0 (brow s) < 120) && dec n (enc s) == s
set_option maxRecDepth 100000 in
theorem stb_0 : (alls 0).all (stb 0) = true := by decide +kernel
set_option maxRecDepth 100000 in
theorem stb_1 : (alls 1).all (stb 1) = true := by decide +kernel
set_option maxRecDepth 100000 in
theorem stb_2 : (alls 2).all (stb 2) = true := by decide +kernel
set_option maxRecDepth 100000 in
theorem stb_3 : (alls 3).all (stb 3) = true := by decide +kernel
set_option maxRecDepth 100000 in
theorem stb_4 : (alls 4).all (stb 4) = true := by decide +kernel
set_option maxRecDepth 100000 in
theorem stb_5 : (alls 5).all (stb 5) = true := by decide +kernel
set_option maxRecDepth 100000 in
theorem alls_l : (alls 0).length = 1 ∧ (alls 1).length = 3 ∧ (alls 2).length = 12 ∧ (alls 3).length = 60 ∧ (alls 4).length = 360 ∧ (alls 5).length = 2520 := by decide +kernel
theorem stb_a {n : Int} (hn : 0 ≤ n ∧ n ≤ 5) : (alls n).all (stb n) = true ∧ (alls n).length ≤ 2520 := by
  obtain ⟨a, b, c, d, e, f⟩ := alls_l
  obtain rfl | rfl | rfl | rfl | rfl | rfl : n = 0 ∨ n = 1 ∨ n = 2 ∨ n = 3 ∨ n = 4 ∨ n = 5 := by omega
  · exact ⟨stb_0, by omega⟩
  · exact ⟨stb_1, by omega⟩
  · exact ⟨stb_2, by omega⟩
  · exact ⟨stb_3, by omega⟩
  · exact ⟨stb_4, by omega⟩
  · exact ⟨stb_5, by omega⟩
theorem stb_e {n : Int} (hn : 0 ≤ n ∧ n ≤ 5) {s : std} (h : svl n s) : dcd n.toNat (lh 0 (brow s)) [] = brow s ∧ (0 ≤ lh 0 (brow s) ∧ lh 0 (brow s) < 120) ∧ dec n (enc s) = s := by
  have t := List.all_eq_true.1 (stb_a hn).1 s (alls_m h)
  unfold stb at t
  simp only [Bool.and_eq_true, beq_iff_eq, decide_eq_true_eq] at t
  exact ⟨t.1.1.1, ⟨t.1.1.2, t.1.2⟩, t.2⟩
theorem enc_inj {n : Int} (hn : 0 ≤ n ∧ n ≤ 5) {s s' : std} (h : svl n s) (h' : svl n s') (e : enc s = enc s') : s = s' := by
  rw [← (stb_e hn h).2.2, ← (stb_e hn h').2.2, e]
theorem svl_l3 {n : Int} (hn : 0 ≤ n) {s : std} (h : svl n s) : (s.1.length : Int) + s.2.1.length + s.2.2.length = n := by
  have := h.length_eq
  simp only [sts, ran, List.length_append, List.length_map, List.length_range] at this
  omega
theorem num_d {n : Int} (hn : 0 ≤ n ∧ n ≤ 5) {s : std} (h : svl n s) : num s % 6 = s.2.1.length ∧ num s / 6 % 6 = s.1.length ∧ num s / 36 = lh 0 (brow s) := by
  have l1 := svl_l3 hn.1 h
  unfold num
  generalize lh 0 (brow s) = A
  refine ⟨?_, ?_, ?_⟩ <;> omega
theorem num_inj {n : Int} (hn : 0 ≤ n ∧ n ≤ 5) {s s' : std} (h : svl n s) (h' : svl n s') (e : num s = num s') : s = s' := by
  obtain ⟨a1, a2, -⟩ := stb_e hn h
  obtain ⟨b1, b2, -⟩ := stb_e hn h'
  obtain ⟨c1, c2, c3⟩ := num_d hn h
  obtain ⟨d1, d2, d3⟩ := num_d hn h'
  rw [e] at c1 c2 c3
  have e1 : s.1.length = s'.1.length := by omega
  have e2 : s.2.1.length = s'.2.1.length := by omega
  have e3 : lh 0 (brow s) = lh 0 (brow s') := by omega
  have e4 : brow s = brow s' := by rw [← a1, ← b1, e3]
  unfold brow at e4
  rw [List.append_assoc, List.append_assoc] at e4
  obtain ⟨f1, f2⟩ := List.append_inj e4 (by rw [List.length_reverse, List.length_reverse]; exact e1)
  obtain ⟨f3, f4⟩ := List.append_inj f2 (by rw [List.length_reverse, List.length_reverse]; exact e2)
  exact Prod.ext (List.reverse_inj.1 f1) (Prod.ext (List.reverse_inj.1 f3) (List.reverse_inj.1 f4))
theorem num_b {n : Int} (hn : 0 ≤ n ∧ n ≤ 5) {s : std} (h : svl n s) : 0 ≤ num s ∧ num s < 4320 := by
  obtain ⟨-, a2, -⟩ := stb_e hn h
  have l1 := svl_l3 hn.1 h
  unfold num
  omega
theorem all_len {n : Int} (hn : 0 ≤ n ∧ n ≤ 5) {l : List std} (d : l.Nodup) (h : ∀ s, s ∈ l → svl n s) : l.length ≤ 2520 :=
  Nat.le_trans (nd_len l (alls n) d (fun x hx => alls_m (h x hx))) (stb_a hn).2
