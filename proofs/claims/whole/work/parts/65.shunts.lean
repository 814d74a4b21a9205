section SW
variable {n P : Int} {u : Nat → Int} {M : Nat → Int → Int} {s : std}
theorem rr_l (h : svl n s) (hn : 0 ≤ n) : (s.1.length : Int) + s.2.1.length + s.2.2.length = n := by
  have e := h.length_eq
  unfold ran sts at e
  simp only [List.length_append, List.length_map, List.length_range] at e
  omega
theorem rr_c (hr : rrep s (M 80) (M 81)) {t : Int} (ht : 0 ≤ t ∧ t < 3) : M 81 t = (sg s t).length := by
  obtain rfl | rfl | rfl : t = 0 ∨ t = 1 ∨ t = 2 := by omega
  · exact hr.1.1
  · exact hr.1.2.1
  · exact hr.1.2.2
theorem rd_top (h : svl n s) (hn : 0 ≤ n ∧ n ≤ 5) (hr : rrep s (M 80) (M 81)) {t c : Int} {r : List Int} (ht : 0 ≤ t ∧ t < 3) (e : sg s t = c :: r) : M 80 (en (M 81) t - 1) = c ∧ 0 ≤ en (M 81) t - 1 ∧ en (M 81) t - 1 < 5 := by
  have ll := rr_l h hn.1
  obtain ⟨l0, l1, l2⟩ := s
  obtain ⟨⟨c0, c1, c2⟩, b⟩ := hr
  simp only at c0 c1 c2 ll
  unfold brow at b
  simp only at b
  unfold en
  obtain rfl | rfl | rfl : t = 0 ∨ t = 1 ∨ t = 2 := by omega
  · obtain rfl : l0 = c :: r := e
    rw [List.length_cons] at c0 ll
    rw [List.reverse_cons, List.append_assoc, List.append_assoc, List.singleton_append] at b
    have z := (spl_iff.1 b).2.1
    rw [List.length_reverse] at z
    rw [if_pos rfl, show M 81 0 - 1 = (r.length : Int) by omega]
    exact ⟨z, by omega, by omega⟩
  · obtain rfl : l1 = c :: r := e
    rw [List.length_cons] at c1 ll
    rw [List.reverse_cons, ← List.append_assoc, List.append_assoc, List.singleton_append] at b
    have z := (spl_iff.1 b).2.1
    rw [List.length_append, List.length_reverse, List.length_reverse] at z
    rw [if_neg (by decide), if_pos rfl, show M 81 0 + M 81 1 - 1 = ((l0.length + r.length : Nat) : Int) by omega]
    exact ⟨z, by omega, by omega⟩
  · obtain rfl : l2 = c :: r := e
    rw [List.length_cons] at c2 ll
    rw [List.reverse_cons, ← List.append_assoc] at b
    have z := (spl_iff.1 b).2.1
    rw [List.length_append, List.length_append, List.length_reverse, List.length_reverse, List.length_reverse] at z
    rw [if_neg (by decide), if_neg (by decide), show M 81 0 + M 81 1 + M 81 2 - 1 = ((l0.length + l1.length + r.length : Nat) : Int) by omega]
    exact ⟨z, by omega, by omega⟩
def frm (M M' : Nat → Int → Int) : Prop := ∀ j, j ≠ 80 → j ≠ 81 → M' j = M j
theorem frm_2 {R C : Int → Int} : frm M (um (um M 80 R) 81 C) := fun j a b => by rw [um_ne b, um_ne a]
theorem mv_01 {c : Int} {r l1 l2 : List Int} (hn : (r.length : Int) + l1.length + l2.length < 5) (hr : rrep ((c :: r), l1, l2) (M 80) (M 81)) : ∃ M', rrep (r, (c :: l1), l2) (M' 80) (M' 81) ∧ frm M M' ∧ ∀ (F : hp) (Q : Int → hp → Prop), Q 1 (rh F u M') → mX12_isShunted_J64 Q 69 0 1 (en (M 81) 0 - 1) c (rh F u M) := by
  obtain ⟨⟨c0, c1, c2⟩, b⟩ := hr
  simp only [List.length_cons] at c0 c1 c2
  unfold brow at b
  simp only at b
  have e0 : (c :: r).reverse ++ l1.reverse ++ l2.reverse = r.reverse ++ c :: (l1.reverse ++ l2.reverse) := by simp
  rw [e0] at b
  have e1 : r.reverse ++ (c :: l1).reverse ++ l2.reverse = (r.reverse ++ l1.reverse) ++ c :: l2.reverse := by simp
  obtain ⟨R', w1, w2⟩ := core_l (u := u) (M := M) (f := 0) (t := 1) (c := c) (x := r.reverse) (y := l1.reverse) (z := l2.reverse) (by omega) (by omega) (by omega) (spl_iff.1 b) (by simp only [List.length_append, List.length_reverse, List.length_nil]; omega) (by unfold en; simp (disch := decide) only [if_true, if_false, Int.reduceEq, List.length_append, List.length_reverse]; omega)
  refine ⟨um (um M 80 R') 81 (us (us (M 81) 0 (M 81 0 - 1)) 1 (M 81 1 + 1)), ⟨⟨?_, ?_, ?_⟩, ?_⟩, frm_2, fun F Q q => ?_⟩
  · simp (disch := omega) only [um_eq, us_at, us_ne, List.length_cons]
    omega
  · simp (disch := omega) only [um_eq, us_at, us_ne, List.length_cons]
    omega
  · simp (disch := omega) only [um_eq, us_at, us_ne, List.length_cons]
    omega
  · show tl R' 0 (brow _).length = brow _
    unfold brow
    simp only
    rw [e1]
    exact spl_iff.2 w1
  · have g := w2 F Q q
    have ee : en (M 81) 0 - 1 = (r.reverse.length : Int) := by
      unfold en
      simp (disch := decide) only [if_true, if_false, Int.reduceEq, List.length_append, List.length_reverse]
      omega
    rw [ee]
    exact g
theorem mv_02 {c : Int} {r l1 l2 : List Int} (hn : (r.length : Int) + l1.length + l2.length < 5) (hr : rrep ((c :: r), l1, l2) (M 80) (M 81)) : ∃ M', rrep (r, l1, (c :: l2)) (M' 80) (M' 81) ∧ frm M M' ∧ ∀ (F : hp) (Q : Int → hp → Prop), Q 1 (rh F u M') → mX12_isShunted_J64 Q 69 0 2 (en (M 81) 0 - 1) c (rh F u M) := by
  obtain ⟨⟨c0, c1, c2⟩, b⟩ := hr
  simp only [List.length_cons] at c0 c1 c2
  unfold brow at b
  simp only at b
  have e0 : (c :: r).reverse ++ l1.reverse ++ l2.reverse = r.reverse ++ c :: ((l1.reverse ++ l2.reverse) ++ ([] : List Int)) := by simp
  rw [e0] at b
  have e1 : r.reverse ++ l1.reverse ++ (c :: l2).reverse = (r.reverse ++ (l1.reverse ++ l2.reverse)) ++ c :: ([] : List Int) := by simp
  obtain ⟨R', w1, w2⟩ := core_l (u := u) (M := M) (f := 0) (t := 2) (c := c) (x := r.reverse) (y := (l1.reverse ++ l2.reverse)) (z := ([] : List Int)) (by omega) (by omega) (by omega) (spl_iff.1 b) (by simp only [List.length_append, List.length_reverse, List.length_nil]; omega) (by unfold en; simp (disch := decide) only [if_true, if_false, Int.reduceEq, List.length_append, List.length_reverse]; omega)
  refine ⟨um (um M 80 R') 81 (us (us (M 81) 0 (M 81 0 - 1)) 2 (M 81 2 + 1)), ⟨⟨?_, ?_, ?_⟩, ?_⟩, frm_2, fun F Q q => ?_⟩
  · simp (disch := omega) only [um_eq, us_at, us_ne, List.length_cons]
    omega
  · simp (disch := omega) only [um_eq, us_at, us_ne, List.length_cons]
    omega
  · simp (disch := omega) only [um_eq, us_at, us_ne, List.length_cons]
    omega
  · show tl R' 0 (brow _).length = brow _
    unfold brow
    simp only
    rw [e1]
    exact spl_iff.2 w1
  · have g := w2 F Q q
    have ee : en (M 81) 0 - 1 = (r.reverse.length : Int) := by
      unfold en
      simp (disch := decide) only [if_true, if_false, Int.reduceEq, List.length_append, List.length_reverse]
      omega
    rw [ee]
    exact g
theorem mv_10 {c : Int} {r l0 l2 : List Int} (hn : (r.length : Int) + l0.length + l2.length < 5) (hr : rrep (l0, (c :: r), l2) (M 80) (M 81)) : ∃ M', rrep ((c :: l0), r, l2) (M' 80) (M' 81) ∧ frm M M' ∧ ∀ (F : hp) (Q : Int → hp → Prop), Q 1 (rh F u M') → mX12_isShunted_J64 Q 69 1 0 (en (M 81) 1 - 1) c (rh F u M) := by
  obtain ⟨⟨c0, c1, c2⟩, b⟩ := hr
  simp only [List.length_cons] at c0 c1 c2
  unfold brow at b
  simp only at b
  have e0 : l0.reverse ++ (c :: r).reverse ++ l2.reverse = (l0.reverse ++ r.reverse) ++ c :: l2.reverse := by simp
  rw [e0] at b
  have e1 : (c :: l0).reverse ++ r.reverse ++ l2.reverse = l0.reverse ++ c :: (r.reverse ++ l2.reverse) := by simp
  obtain ⟨R', w1, w2⟩ := core_r (u := u) (M := M) (f := 1) (t := 0) (c := c) (x := l0.reverse) (yr := r) (z := l2.reverse) (by omega) (by omega) (by omega) (spl_iff.1 b) (by simp only [List.length_append, List.length_reverse, List.length_nil]; omega) (by unfold en; simp (disch := decide) only [if_true, if_false, Int.reduceEq, List.length_append, List.length_reverse]; omega)
  refine ⟨um (um M 80 R') 81 (us (us (M 81) 1 (M 81 1 - 1)) 0 (M 81 0 + 1)), ⟨⟨?_, ?_, ?_⟩, ?_⟩, frm_2, fun F Q q => ?_⟩
  · simp (disch := omega) only [um_eq, us_at, us_ne, List.length_cons]
    omega
  · simp (disch := omega) only [um_eq, us_at, us_ne, List.length_cons]
    omega
  · simp (disch := omega) only [um_eq, us_at, us_ne, List.length_cons]
    omega
  · show tl R' 0 (brow _).length = brow _
    unfold brow
    simp only
    rw [e1]
    exact spl_iff.2 w1
  · have g := w2 F Q q
    have ee : en (M 81) 1 - 1 = (l0.reverse.length : Int) + r.length := by
      unfold en
      simp (disch := decide) only [if_true, if_false, Int.reduceEq, List.length_append, List.length_reverse]
      omega
    rw [ee]
    exact g
theorem mv_12 {c : Int} {r l0 l2 : List Int} (hn : (r.length : Int) + l0.length + l2.length < 5) (hr : rrep (l0, (c :: r), l2) (M 80) (M 81)) : ∃ M', rrep (l0, r, (c :: l2)) (M' 80) (M' 81) ∧ frm M M' ∧ ∀ (F : hp) (Q : Int → hp → Prop), Q 1 (rh F u M') → mX12_isShunted_J64 Q 69 1 2 (en (M 81) 1 - 1) c (rh F u M) := by
  obtain ⟨⟨c0, c1, c2⟩, b⟩ := hr
  simp only [List.length_cons] at c0 c1 c2
  unfold brow at b
  simp only at b
  have e0 : l0.reverse ++ (c :: r).reverse ++ l2.reverse = (l0.reverse ++ r.reverse) ++ c :: (l2.reverse ++ ([] : List Int)) := by simp
  rw [e0] at b
  have e1 : l0.reverse ++ r.reverse ++ (c :: l2).reverse = ((l0.reverse ++ r.reverse) ++ l2.reverse) ++ c :: ([] : List Int) := by simp
  obtain ⟨R', w1, w2⟩ := core_l (u := u) (M := M) (f := 1) (t := 2) (c := c) (x := (l0.reverse ++ r.reverse)) (y := l2.reverse) (z := ([] : List Int)) (by omega) (by omega) (by omega) (spl_iff.1 b) (by simp only [List.length_append, List.length_reverse, List.length_nil]; omega) (by unfold en; simp (disch := decide) only [if_true, if_false, Int.reduceEq, List.length_append, List.length_reverse]; omega)
  refine ⟨um (um M 80 R') 81 (us (us (M 81) 1 (M 81 1 - 1)) 2 (M 81 2 + 1)), ⟨⟨?_, ?_, ?_⟩, ?_⟩, frm_2, fun F Q q => ?_⟩
  · simp (disch := omega) only [um_eq, us_at, us_ne, List.length_cons]
    omega
  · simp (disch := omega) only [um_eq, us_at, us_ne, List.length_cons]
    omega
  · simp (disch := omega) only [um_eq, us_at, us_ne, List.length_cons]
    omega
  · show tl R' 0 (brow _).length = brow _
    unfold brow
    simp only
    rw [e1]
    exact spl_iff.2 w1
  · have g := w2 F Q q
    have ee : en (M 81) 1 - 1 = ((l0.reverse ++ r.reverse).length : Int) := by
      unfold en
      simp (disch := decide) only [if_true, if_false, Int.reduceEq, List.length_append, List.length_reverse]
      omega
    rw [ee]
    exact g
theorem mv_20 {c : Int} {r l0 l1 : List Int} (hn : (r.length : Int) + l0.length + l1.length < 5) (hr : rrep (l0, l1, (c :: r)) (M 80) (M 81)) : ∃ M', rrep ((c :: l0), l1, r) (M' 80) (M' 81) ∧ frm M M' ∧ ∀ (F : hp) (Q : Int → hp → Prop), Q 1 (rh F u M') → mX12_isShunted_J64 Q 69 2 0 (en (M 81) 2 - 1) c (rh F u M) := by
  obtain ⟨⟨c0, c1, c2⟩, b⟩ := hr
  simp only [List.length_cons] at c0 c1 c2
  unfold brow at b
  simp only at b
  have e0 : l0.reverse ++ l1.reverse ++ (c :: r).reverse = (l0.reverse ++ (r ++ l1).reverse) ++ c :: ([] : List Int) := by simp
  rw [e0] at b
  have e1 : (c :: l0).reverse ++ l1.reverse ++ r.reverse = l0.reverse ++ c :: ((r ++ l1).reverse ++ ([] : List Int)) := by simp
  obtain ⟨R', w1, w2⟩ := core_r (u := u) (M := M) (f := 2) (t := 0) (c := c) (x := l0.reverse) (yr := (r ++ l1)) (z := ([] : List Int)) (by omega) (by omega) (by omega) (spl_iff.1 b) (by simp only [List.length_append, List.length_reverse, List.length_nil]; omega) (by unfold en; simp (disch := decide) only [if_true, if_false, Int.reduceEq, List.length_append, List.length_reverse]; omega)
  refine ⟨um (um M 80 R') 81 (us (us (M 81) 2 (M 81 2 - 1)) 0 (M 81 0 + 1)), ⟨⟨?_, ?_, ?_⟩, ?_⟩, frm_2, fun F Q q => ?_⟩
  · simp (disch := omega) only [um_eq, us_at, us_ne, List.length_cons]
    omega
  · simp (disch := omega) only [um_eq, us_at, us_ne, List.length_cons]
    omega
  · simp (disch := omega) only [um_eq, us_at, us_ne, List.length_cons]
    omega
  · show tl R' 0 (brow _).length = brow _
    unfold brow
    simp only
    rw [e1]
    exact spl_iff.2 w1
  · have g := w2 F Q q
    have ee : en (M 81) 2 - 1 = (l0.reverse.length : Int) + (r ++ l1).length := by
      unfold en
      simp (disch := decide) only [if_true, if_false, Int.reduceEq, List.length_append, List.length_reverse]
      omega
    rw [ee]
    exact g
theorem mv_21 {c : Int} {r l0 l1 : List Int} (hn : (r.length : Int) + l0.length + l1.length < 5) (hr : rrep (l0, l1, (c :: r)) (M 80) (M 81)) : ∃ M', rrep (l0, (c :: l1), r) (M' 80) (M' 81) ∧ frm M M' ∧ ∀ (F : hp) (Q : Int → hp → Prop), Q 1 (rh F u M') → mX12_isShunted_J64 Q 69 2 1 (en (M 81) 2 - 1) c (rh F u M) := by
  obtain ⟨⟨c0, c1, c2⟩, b⟩ := hr
  simp only [List.length_cons] at c0 c1 c2
  unfold brow at b
  simp only at b
  have e0 : l0.reverse ++ l1.reverse ++ (c :: r).reverse = ((l0.reverse ++ l1.reverse) ++ r.reverse) ++ c :: ([] : List Int) := by simp
  rw [e0] at b
  have e1 : l0.reverse ++ (c :: l1).reverse ++ r.reverse = (l0.reverse ++ l1.reverse) ++ c :: (r.reverse ++ ([] : List Int)) := by simp
  obtain ⟨R', w1, w2⟩ := core_r (u := u) (M := M) (f := 2) (t := 1) (c := c) (x := (l0.reverse ++ l1.reverse)) (yr := r) (z := ([] : List Int)) (by omega) (by omega) (by omega) (spl_iff.1 b) (by simp only [List.length_append, List.length_reverse, List.length_nil]; omega) (by unfold en; simp (disch := decide) only [if_true, if_false, Int.reduceEq, List.length_append, List.length_reverse]; omega)
  refine ⟨um (um M 80 R') 81 (us (us (M 81) 2 (M 81 2 - 1)) 1 (M 81 1 + 1)), ⟨⟨?_, ?_, ?_⟩, ?_⟩, frm_2, fun F Q q => ?_⟩
  · simp (disch := omega) only [um_eq, us_at, us_ne, List.length_cons]
    omega
  · simp (disch := omega) only [um_eq, us_at, us_ne, List.length_cons]
    omega
  · simp (disch := omega) only [um_eq, us_at, us_ne, List.length_cons]
    omega
  · show tl R' 0 (brow _).length = brow _
    unfold brow
    simp only
    rw [e1]
    exact spl_iff.2 w1
  · have g := w2 F Q q
    have ee : en (M 81) 2 - 1 = ((l0.reverse ++ l1.reverse).length : Int) + r.length := by
      unfold en
      simp (disch := decide) only [if_true, if_false, Int.reduceEq, List.length_append, List.length_reverse]
      omega
    rw [ee]
    exact g
end SW
