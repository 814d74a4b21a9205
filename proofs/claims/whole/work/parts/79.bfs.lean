-- ===== bits of a word, all 32 =====
def kb (x : Int) (b : Nat) : Bool := (Int32.ofInt x).toBitVec.getLsbD b
theorem kb_1 : ∀ b : Nat, b < 32 → (Int32.ofInt 1 <<< (Int32.ofInt (b : Int) &&& 31)).toBitVec = BitVec.twoPow 32 b := by decide +kernel
theorem kb_0 (b : Nat) : kb 0 b = false := by
  show (0#32).getLsbD b = false
  exact BitVec.getLsbD_zero
theorem kb_and {x : Int} {b : Nat} (hb : b < 32) : iAnd x (iShl 1 b) = (if kb x b then (BitVec.twoPow 32 b).toInt else 0) := by
  unfold iAnd iShl
  rw [Int32.ofInt_toInt, ← Int32.toInt_toBitVec, Int32.toBitVec_and, kb_1 b hb, BitVec.and_twoPow]
  unfold kb
  split
  · rfl
  · rfl
theorem kb_tp : ∀ b : Nat, b < 32 → w32 ((BitVec.twoPow 32 b).toInt) ≠ 0 := by decide +kernel
theorem kb_y {x : Int} {b : Nat} (hb : b < 32) (h : kb x b = true) : w32 (iAnd x (iShl 1 b)) ≠ 0 := by
  rw [kb_and hb, h]
  exact kb_tp b hb
theorem kb_n {x : Int} {b : Nat} (hb : b < 32) (h : kb x b = false) : w32 (iAnd x (iShl 1 b)) = 0 := by
  rw [kb_and hb, h]
  exact (show w32 0 = 0 by decide)
theorem kb_or {x : Int} {b : Nat} (hb : b < 32) (b' : Nat) : kb (iOr x (iShl 1 b)) b' = (kb x b' || (decide (b' < 32) && decide (b = b'))) := by
  unfold kb iOr iShl
  rw [Int32.ofInt_toInt, Int32.ofInt_toInt, Int32.toBitVec_or, kb_1 b hb, BitVec.getLsbD_or, BitVec.getLsbD_twoPow]
  by_cases d : b = b'
  · subst d; simp [hb]
  · simp [d]
-- ===== the search, as lists =====
abbrev qt := List (std × Nat × Nat)
def qok (n : Int) (s0 : std) (q : qt) : Prop := q[0]? = some (s0, 0, 0) ∧ (∀ x, x ∈ q → svl n x.1) ∧ (q.map (fun x => x.1)).Nodup ∧ ∀ (j : Nat) x, q[j]? = some x → 0 < j → x.2.1 < j ∧ x.2.2 < 9
def qadd (q : qt) (i mv : Nat) (s' : std) : qt := if s' ∈ q.map (fun x => x.1) then q else q ++ [(s', i, mv)]
section BF
variable {n P : Int} {s0 s s' : std} {q : qt}
theorem qok_len (hn : 0 ≤ n ∧ n ≤ 5) (h : qok n s0 q) : q.length ≤ 2520 := by
  have := all_len hn h.2.2.1 (fun s hs => by
    obtain ⟨x, hx, e⟩ := List.mem_map.1 hs
    subst e
    exact h.2.1 x hx)
  rwa [List.length_map] at this
theorem qok_pos (h : qok n s0 q) : 0 < q.length := by
  cases q with
  | nil => exact absurd h.1 (by simp)
  | cons x r => exact Nat.zero_lt_succ _
theorem qok_0 (h : svl n s) : qok n s [(s, 0, 0)] := by
  refine ⟨rfl, fun x hx => ?_, by simp, fun j x hj hp => ?_⟩
  · rw [List.mem_singleton] at hx; subst hx; exact h
  · cases j with
    | zero => exact absurd hp (by omega)
    | succ j => simp at hj
theorem qok_put (h : qok n s0 q) {i mv : Nat} (hi : i < q.length) (hm : mv < 9) (hs : svl n s') (hx : s' ∉ q.map (fun x => x.1)) : qok n s0 (q ++ [(s', i, mv)]) := by
  obtain ⟨a, b, c, d⟩ := h
  have l0 : 0 < q.length := by omega
  refine ⟨by rw [List.getElem?_append_left l0]; exact a, fun x hx' => ?_, ?_, fun j x hj hp => ?_⟩
  · rcases List.mem_append.1 hx' with t | t
    · exact b x t
    · rw [List.mem_singleton] at t; subst t; exact hs
  · rw [List.map_append, List.nodup_append]
    refine ⟨c, by simp, fun x hx1 y hy e => ?_⟩
    simp only [List.map_cons, List.map_nil, List.mem_singleton] at hy
    subst hy
    subst e
    exact hx hx1
  · by_cases e : j < q.length
    · rw [List.getElem?_append_left e] at hj
      exact d j x hj hp
    · by_cases e2 : j = q.length
      · subst e2
        rw [List.getElem?_append_right (Nat.le_refl _), Nat.sub_self] at hj
        simp only [List.getElem?_cons_zero, Option.some.injEq] at hj
        subst hj
        exact ⟨hi, hm⟩
      · rw [List.getElem?_eq_none (by rw [List.length_append, List.length_singleton]; omega)] at hj
        exact absurd hj (by simp)
theorem qadd_ok (h : qok n s0 q) {i mv : Nat} (hi : i < q.length) (hm : mv < 9) (hs : svl n s') : qok n s0 (qadd q i mv s') ∧ ∃ l, qadd q i mv s' = q ++ l := by
  unfold qadd
  by_cases d : s' ∈ q.map (fun x => x.1)
  · rw [if_pos d]
    exact ⟨h, [], (List.append_nil _).symm⟩
  · rw [if_neg d]
    exact ⟨qok_put h hi hm hs d, _, rfl⟩
theorem bq1_y {i mv : Nat} {a : Nat × Nat} (hq : q[i]? = some (s, a)) (g : stp P s mv = some s') : bq1 P i q mv = qadd q i mv s' := by
  unfold bq1 qadd
  rw [hq]
  simp only [g]
theorem bq1_n {i mv : Nat} {a : Nat × Nat} (hq : q[i]? = some (s, a)) (g : stp P s mv = none) : bq1 P i q mv = q := by
  unfold bq1
  rw [hq]
  simp only [g]
theorem stp_v (hn : n ≤ 5) (h : svl n s) {mv : Nat} (hm : mv < 9) (g : stp P s mv = some s') : svl n s' := by
  by_cases d : goes P s ((mv : Int) / 3) ((mv : Int) % 3)
  · rw [stp_y h hn (by omega) d] at g
    injection g with g
    subst g
    exact (mo_all h hn (by omega) (by omega) d.1 d.2.1).1
  · rw [stp_n h hn (by omega) d] at g
    exact absurd g (by simp)
theorem bq1_ok (hn : n ≤ 5) (h : qok n s0 q) {i mv : Nat} (hi : i < q.length) (hm : mv < 9) : qok n s0 (bq1 P i q mv) ∧ ∃ l, bq1 P i q mv = q ++ l := by
  have e : q[i]? = some (q[i].1, q[i].2) := List.getElem?_eq_getElem hi
  have v : svl n q[i].1 := h.2.1 _ (List.getElem_mem hi)
  cases g : stp P q[i].1 mv with
  | none => rw [bq1_n e g]; exact ⟨h, [], (List.append_nil _).symm⟩
  | some s' => rw [bq1_y e g]; exact qadd_ok h hi hm (stp_v hn v hm g)
theorem bq_9 (P : Int) (i : Nat) (q : qt) : bq P i q = (List.range' 0 9).foldl (bq1 P i) q := rfl
theorem fold_ok (hn : n ≤ 5) {i : Nat} : ∀ (k m : Nat) (q : qt), m + k = 9 → qok n s0 q → i < q.length → qok n s0 ((List.range' m k).foldl (bq1 P i) q) ∧ ∃ l, (List.range' m k).foldl (bq1 P i) q = q ++ l := by
  intro k
  induction k with
  | zero => exact fun m q _ h _ => ⟨h, [], (List.append_nil _).symm⟩
  | succ k ih =>
    intro m q hm h hi
    obtain ⟨a, l, e⟩ := bq1_ok (P := P) hn h hi (mv := m) (by omega)
    obtain ⟨b, l', e'⟩ := ih (m + 1) (bq1 P i q m) (by omega) a (by rw [e, List.length_append]; omega)
    rw [List.range'_succ, List.foldl_cons]
    exact ⟨b, l ++ l', by rw [e', e, List.append_assoc]⟩
end BF
