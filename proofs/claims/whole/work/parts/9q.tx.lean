section TXX
variable {G G' : hp} {r : Option Nat} {X X' : Int → Int} {k : Int}
theorem opl_c {p q : Int} (e : ∀ i, 681 * k ≤ i → i < 681 * k + 681 → X' i = X i) (hp0 : 0 ≤ p ∧ q ≤ 300) : opl X' k p q = opl X k p q := by
  unfold opl
  apply List.map_congr_left
  intro i hi
  rw [List.mem_range] at hi
  exact e _ (by omega) (by omega)
theorem TX_X (e : ∀ i, 681 * k ≤ i → i < 681 * k + 681 → X' i = X i) (h : TX G r X k) : TX G r X' k := by
  obtain ⟨h1, hc, ho, hb, nc, n, fc, fo, fb, a1, a2, a3, a4, a5, a6, a7⟩ := h
  have lw : ∀ w, lwok w fb fo X k nc n → lwok w fb fo X' k nc n := fun w hw => by
    rcases hw with ⟨b1, b2⟩ | ⟨b1, j, b2, b3, b4, b5, b6, b7⟩
    · exact .inl ⟨b1, fun j j0 j1 => by rw [e _ (by omega) (by omega)]; exact b2 j j0 j1⟩
    · refine .inr ⟨b1, j, b2, by rw [e _ (by omega) (by omega)]; exact b3, fun i i0 i1 => by rw [e _ (by omega) (by omega)]; exact b4 i i0 i1, by rw [e _ (by omega) (by omega)]; exact b5, by rw [e _ (by omega) (by omega)]; exact b6, ?_⟩
      obtain ⟨d1, d2, d3⟩ := b7
      refine ⟨d1, by rw [opl_c e (by omega)]; exact d2, fun i i0 i1 => ?_⟩
      rw [e _ (by omega) (by omega), e _ (by omega) (by omega)]
      exact d3 i i0 i1
  refine ⟨h1, hc, ho, hb, nc, n, fc, fo, fb, a1, a2, by rw [e _ (by omega) (by omega)]; exact a3, a4, fun j j0 j1 => ?_, lw 0 a6, lw 1 a7⟩
  have := a5 j j0 j1
  unfold clok at this ⊢
  rw [e (681 * k + 1 + 3 * j) (by omega) (by omega), e (681 * k + 1 + 3 * j + 1) (by omega) (by omega), e (681 * k + 1 + 3 * j + 2) (by omega) (by omega)]
  exact this
theorem TX_G (e : ∀ h c, 87 ≤ h → G h = some c → G' h = some c) (h : TX G r X k) : TX G' r X k := by
  obtain ⟨h1, hc, ho, hb, nc, n, fc, fo, fb, a1, a2, a3⟩ := h
  exact ⟨h1, hc, ho, hb, nc, n, fc, fo, fb, a1, ⟨e _ _ a1.2.1 a2.1, e _ _ a1.2.2.1 a2.2.1, e _ _ a1.2.2.2.1 a2.2.2.1, e _ _ a1.2.2.2.2 a2.2.2.2⟩, a3⟩
theorem cxq_p {mo : Bool} {p : Int × Int} (h : pok mo p) : cxp (cxq p) p.1 p.2 := by
  unfold cxq
  rcases h with ⟨h1, h2, h3⟩ | ⟨h1, h2, h3, -⟩ | ⟨h1, h2⟩
  · rw [if_pos h1]; exact .inl ⟨h1, rfl, h2, h3⟩
  · rw [if_neg (by omega), if_pos h1]; exact .inr (.inl ⟨h1, rfl, h2, h3⟩)
  · rw [if_neg (by omega), if_neg (by omega)]; exact .inr (.inr ⟨h1, rfl⟩)
theorem opl_l {t : Int} {o1 x o2 : List (Int × Int)} (e : t = 681 * k) (h : ∀ (i : Nat) p, (o1 ++ x ++ o2)[i]? = some p → X (t + 73 + 2 * i) = p.1) : opl X k o1.length ((o1.length : Int) + x.length) = x.map (fun y => y.1) := by
  unfold opl
  apply List.ext_getElem?
  intro i
  rw [List.getElem?_map, List.getElem?_map]
  by_cases d : i < x.length
  · rw [List.getElem?_range (by omega), List.getElem?_eq_getElem d]
    simp only [Option.map_some, Option.some.injEq]
    have g : (o1 ++ x ++ o2)[o1.length + i]? = some x[i] := by
      rw [List.append_assoc, List.getElem?_append_right (by omega), Nat.add_sub_cancel_left, List.getElem?_append_left d, List.getElem?_eq_getElem d]
    have := h _ _ g
    rw [← this]
    congr 1
    omega
  · rw [List.getElem?_eq_none (by rw [List.length_range]; omega), List.getElem?_eq_none (by omega)]
    rfl
theorem TX_new {tk plc bh : Nat → Int} {cn : Nat} {L : Int} {W : Int → Int} {j : Nat} {o : List (Int × Int)} {cl : List (Int × Int × Int)} {v : Nat → Nat → Int} {N : Nat → Int → Int} {u : Nat → Int} {M : Nat → Int → Int} (hC : CT tk plc cn j o cl v N) (hR : RT tk plc bh cn L W j o cl u M) (hv : tcl o cl) (hcn : cn ≤ 300) (h12 : u 12 = 681 * k) (hX : X = M 72) {a b c d : Nat} (ha : 87 ≤ a ∧ 87 ≤ b ∧ 87 ≤ c ∧ 87 ≤ d) {fc fo fb : Int → Int} (g1 : G a = some (cO 8 [vr (some b), vr (some c), vr (some d)])) (g2 : G b = some (cA 0 (3 * (cl.length : Int)) fc)) (g3 : G c = some (cA 0 (o.length : Int) fo)) (g4 : G d = some (cA 0 4 fb)) (e1 : ∀ i, 0 ≤ i → i < 3 * (cl.length : Int) → fc i = N 54 i) (e2 : ∀ i, 0 ≤ i → i < (o.length : Int) → fo i = N 53 i) (e3 : ∀ i, 0 ≤ i → i < 4 → fb i = N 55 i) : TX G (some a) X k := by
  subst hX
  obtain ⟨⟨m0, hc⟩, c2, c3, c4, c5, c6⟩ := hC
  obtain ⟨r1, r2, r3, r4, r5, r6, ⟨r7, r8, r9⟩⟩ := hR
  have cods : ∀ (i : Nat) p, o[i]? = some p → N 53 i = cxq p := hc.2.2.2.2.2.2.2.2.1
  rw [h12] at r3
  have r2' := r2.2.2
  rw [h12] at r2'
  have lw : ∀ w : Int, w = 0 ∨ w = 1 → cbw w cl N → lwok w fb fo (M 72) k (cl.length : Int) (o.length : Int) := fun w hw hb => by
    rcases hb with ⟨b1, b2⟩ | ⟨i, p, q, b1, b2, b3, b4, b5⟩
    · left
      refine ⟨by rw [e3 _ (by omega) (by omega)]; exact b1, fun j j0 j1 => ?_⟩
      have jl : j.toNat < cl.length := by omega
      have gj : cl[j.toNat]? = some cl[j.toNat] := List.getElem?_eq_getElem jl
      have := (r3.2 _ _ gj).1
      rw [Int.toNat_of_nonneg j0] at this
      rw [this]
      exact b2 _ (List.getElem_mem jl)
    · right
      have il : i < cl.length := by
        rcases Nat.lt_or_ge i cl.length with t | t
        · exact t
        · rw [List.getElem?_eq_none t] at b1; exact absurd b1 (by simp)
      have x1 := r3.2 i _ b1
      have f1 : fb (2 * w) = p := by rw [e3 _ (by omega) (by omega)]; exact b4
      have f2 : fb (2 * w + 1) = q := by rw [e3 _ (by omega) (by omega)]; exact b5
      have x2 := x1.2 (by show w ≠ 5; omega)
      have vl := (hv _ (List.mem_of_getElem? b1)).2.2 (by show w < 2; omega)
      have vl : lwfq o (decide (w = 0)) p q := vl
      obtain ⟨o1, x, o2, y1, y2, y3, y4, y5⟩ := vl
      have ol : (o.length : Int) = (o1.length : Int) + x.length + o2.length := by rw [y1]; simp only [List.length_append]; omega
      refine ⟨by omega, (i : Int), by omega, x1.1, fun i' i0 i1 t => ?_, by rw [f1]; exact x2.1, by rw [f2]; exact x2.2 (by show w ≠ 7; omega), ?_⟩
      · have gl : i'.toNat < cl.length := by omega
        have gi : cl[i'.toNat]? = some cl[i'.toNat] := List.getElem?_eq_getElem gl
        have := (r3.2 _ _ gi).1
        rw [Int.toNat_of_nonneg i0, t] at this
        have := b2 _ _ gi this.symm
        omega
      · rw [f1, f2, y2, y3]
        refine ⟨by omega, ?_, fun i' i0 i1 => ?_⟩
        · rw [opl_l (t := 681 * k) rfl (fun i p hi => (r2' i p (by rw [y1]; exact hi)).1)]
          exact y4
        · have di : i'.toNat - o1.length < x.length := by omega
          have gi : o[i'.toNat]? = some x[i'.toNat - o1.length] := by
            rw [y1, List.append_assoc, List.getElem?_append_right (by omega), List.getElem?_append_left di, List.getElem?_eq_getElem di]
          have s1 := r2' _ _ gi
          have s2 := cods _ _ gi
          rw [Int.toNat_of_nonneg (by omega : 0 ≤ i')] at s1 s2
          have pk' := y5 _ (List.getElem_mem di)
          rw [s1.1, s1.2, e2 _ (by omega) (by omega), s2]
          refine ⟨cxq_p pk', fun t => ?_⟩
          rcases pk' with ⟨k1, -⟩ | ⟨k1, k2, k3, k4⟩ | ⟨k1, -⟩
          · omega
          · refine ⟨fun w0 => k4.1 (by rw [w0]; rfl), fun w1 => k4.2 (by rw [w1]; rfl)⟩
          · omega
  refine ⟨a, b, c, d, (cl.length : Int), (o.length : Int), fc, fo, fb, ⟨rfl, ha⟩, ⟨g1, g2, g3, g4⟩, ⟨r3.1, by omega, by omega⟩, ⟨by omega, by omega⟩, fun j j0 j1 => ?_, lw 0 (.inl rfl) c5, lw 1 (.inr rfl) c6⟩
  have jl : j.toNat < cl.length := by omega
  have gj : cl[j.toNat]? = some cl[j.toNat] := List.getElem?_eq_getElem jl
  have x1 := r3.2 _ _ gj
  have x2 := c4 _ _ gj
  rw [Int.toNat_of_nonneg j0] at x1 x2
  have vl := hv _ (List.getElem_mem jl)
  unfold clok
  rw [x1.1]
  refine ⟨vl.1, by rw [e1 _ (by omega) (by omega)]; exact x2.1, fun s2 s5 => ?_⟩
  have x3 := x1.2 s5
  have x4 := x2.2 s2 s5
  rw [x3.1]
  refine ⟨by rw [e1 _ (by omega) (by omega)]; exact x4.1, fun s7 => by rw [x3.2 s7, e1 _ (by omega) (by omega)]; exact x4.2 s7, ?_⟩
  by_cases s7 : cl[j.toNat].1 = 7
  · have := vl.2.1
    unfold deedok at this ⊢
    refine ⟨fun t => by omega, fun t => by omega, fun t => by omega, fun t => by omega, this.2.2.2.2⟩
  · rw [x3.2 s7]; exact vl.2.1
end TXX
