-- ===== all clauses of a text =====
def lwfq (o : List (Int × Int)) (mo : Bool) (p q : Int) : Prop := ∃ o1 x o2, o = o1 ++ x ++ o2 ∧ p = (o1.length : Int) ∧ q = (o1.length : Int) + (x.length : Int) ∧ tyl (x.map (fun y => y.1)) [] = some [true] ∧ ∀ y, y ∈ x → pok mo y
def tcl (o : List (Int × Int)) (cl : List (Int × Int × Int)) : Prop := ∀ c, c ∈ cl → (0 ≤ c.1 ∧ c.1 ≤ 7) ∧ deedok c.1 c.2.1 c.2.2 ∧ (c.1 < 2 → lwfq o (decide (c.1 = 0)) c.2.1 c.2.2)
section TO
variable {tk plc bh : Nat → Int} {cn : Nat} {o o' : List (Int × Int)} {j j' : Nat} {cl cl' : List (Int × Int × Int)}
theorem gcz_t (t44 : tk cn = 44) (hj : j ≤ cn) (c44 : tk j ≠ 44) (hl : cl.length ≤ 24) : ∃ s' cl', gcz tk j o cl s' cl' := by
  have hj' : j < cn := by
    have : j ≠ cn := fun e => c44 (by rw [e]; exact t44)
    omega
  by_cases c1 : (11 ≤ tk j ∧ tk j ≤ 17) ∨ tk j = 0
  · by_cases c2 : (tk j = 11 ∨ tk j = 12) ∧ ∃ t, t ∈ cl ∧ t.1 = tk j - 11
    · exact ⟨_, [], .inr (.inl ⟨c2.1, c2.2, rfl⟩)⟩
    · by_cases c3 : cl.length = 24
      · exact ⟨_, [], .inr (.inr ⟨c1, c2, .inl ⟨c3, rfl⟩⟩)⟩
      · have c3' : cl.length < 24 := by omega
        by_cases k1 : tk j = 11 ∨ tk j = 12
        · obtain ⟨s1, g, -, -⟩ := (g_all (mo := decide (tk j = 11)) t44 cn).1 (.inl (j + 1, o)) 0 (by show j + 1 ≤ cn; omega) (by show cn - (j + 1) ≤ cn; omega)
          rcases s1 with ⟨j1, o1⟩ | ⟨k, e⟩
          · exact ⟨_, cl ++ [(tk j - 11, (o.length : Int), (o1.length : Int))], .inr (.inr ⟨c1, c2, .inr ⟨c3', .inl ⟨k1, _, g, rfl, fun j2 o2 e => by simp only [Sum.inl.injEq, Prod.mk.injEq] at e; rw [e.2]⟩⟩⟩)⟩
          · exact ⟨_, [], .inr (.inr ⟨c1, c2, .inr ⟨c3', .inl ⟨k1, _, g, rfl, fun j2 o2 e => absurd e (by simp)⟩⟩⟩)⟩
        · by_cases k2 : tk j = 16
          · exact ⟨_, _, .inr (.inr ⟨c1, c2, .inr ⟨c3', .inr (.inr (.inl ⟨k2, rfl, rfl⟩))⟩⟩)⟩
          · by_cases k3 : tk j = 0
            · exact ⟨_, _, .inr (.inr ⟨c1, c2, .inr ⟨c3', .inr (.inr (.inr ⟨k3, rfl, rfl⟩))⟩⟩)⟩
            · exact ⟨_, _, .inr (.inr ⟨c1, c2, .inr ⟨c3', .inr (.inl ⟨by omega, rfl, rfl⟩)⟩⟩)⟩
  · exact ⟨_, [], .inl ⟨by omega, by omega, rfl⟩⟩
theorem lwfq_x {mo : Bool} {p q : Int} {x : List (Int × Int)} (h : lwfq o mo p q) : lwfq (o ++ x) mo p q := by
  obtain ⟨o1, y, o2, e, k⟩ := h
  exact ⟨o1, y, o2 ++ x, by rw [e]; simp [List.append_assoc], k⟩
theorem tcl_put {x : List (Int × Int)} (h : tcl o cl) {c : Int × Int × Int} (hc : (0 ≤ c.1 ∧ c.1 ≤ 7) ∧ deedok c.1 c.2.1 c.2.2 ∧ (c.1 < 2 → lwfq (o ++ x) (decide (c.1 = 0)) c.2.1 c.2.2)) : tcl (o ++ x) (cl ++ [c]) := fun d hd => by
  rcases List.mem_append.1 hd with k | k
  · obtain ⟨a, b, e⟩ := h d k
    exact ⟨a, b, fun t => lwfq_x (e t)⟩
  · rw [List.mem_singleton] at k; subst k; exact hc
theorem gcz_v (hz : gcz tk j o cl (.inl (j', o')) cl') (h : tcl o cl) : tcl o' cl' ∧ j < j' := by
  rcases hz with ⟨-, -, e⟩ | ⟨-, -, e⟩ | ⟨c1, c2, ⟨-, e⟩ | ⟨c3, hz⟩⟩
  · exact absurd e (by simp)
  · exact absurd e (by simp)
  · exact absurd e (by simp)
  · rcases hz with ⟨k1, s1, k2, e, k3⟩ | ⟨k1, e, rfl⟩ | ⟨k1, e, rfl⟩ | ⟨k1, e, rfl⟩
    · obtain ⟨i, e1, e2⟩ := g_expO e.symm
      obtain ⟨jj, oo, x, f1, f2, f3, f4, f5, f6⟩ := gO_t k2 i o' e1
      simp only [Sum.inl.injEq, Prod.mk.injEq] at f1
      obtain ⟨f1a, f1b⟩ := f1
      subst f1b
      rw [k3 _ _ e1]
      refine ⟨?_, by omega⟩
      rw [f2]
      refine tcl_put h ⟨by simp only; omega, ?_, fun _ => ⟨o, x, [], by simp, rfl, by simp only [List.length_append]; omega, f6 [], ?_⟩⟩
      · unfold deedok; refine ⟨fun t => ?_, fun t => ?_, fun t => ?_, fun t => ?_, fun t => ?_⟩ <;> ((try simp only at t); omega)
      · have : decide ((tk j - 11, (o.length : Int), ((o ++ x).length : Int)).1 = 0) = decide (tk j = 11) := by
          simp only [decide_eq_decide]; omega
        rw [this]; exact f5
    · obtain ⟨i, e1, e2⟩ := g_expO e.symm
      obtain ⟨i1, e3, e4, b1, b2⟩ := gnumO e1
      obtain ⟨i2, e5, e6⟩ := g_expO e3
      obtain ⟨i3, e7, e8, b3, b4⟩ := gnumO e5
      simp only [Sum.inl.injEq, Prod.mk.injEq] at e7
      obtain ⟨e7a, e7b⟩ := e7
      subst e7b
      have i1' : i1 = j + 3 := by omega
      have i3' : i3 = j + 1 := by omega
      rw [i1'] at b1 b2
      rw [i3'] at b3 b4
      refine ⟨?_, by omega⟩
      have := tcl_put (x := []) h (c := (tk j - 11, tk (j + 1) - 100, tk (j + 3) - 100)) ⟨by simp only; omega, ?_, fun t => by simp only at t; omega⟩
      · rw [List.append_nil] at this; exact this
      · unfold deedok
        rcases k1 with k | k | k | k
        all_goals
          rw [k] at b1 b2 b3 b4 ⊢
          simp only [plo, phi, plo2, phi2, Int.reduceEq, if_true, if_false] at b1 b2 b3 b4
          refine ⟨fun t => ?_, fun t => ?_, fun t => ?_, fun t => ?_, fun t => ?_⟩ <;> ((try simp only at t ⊢); omega)
    · obtain ⟨i, e1, e2⟩ := g_expO e.symm
      simp only [Sum.inl.injEq, Prod.mk.injEq] at e1
      obtain ⟨e1a, e1b⟩ := e1
      subst e1b
      refine ⟨?_, by omega⟩
      have := tcl_put (x := []) h (c := (5, 0, 0)) ⟨by decide, by unfold deedok; decide, fun t => absurd t (by decide)⟩
      rw [List.append_nil] at this; exact this
    · obtain ⟨i, e1, e2⟩ := g_expO e.symm
      obtain ⟨i1, e3, e4, b1, b2⟩ := gnumO e1
      simp only [Sum.inl.injEq, Prod.mk.injEq] at e3
      obtain ⟨e3a, e3b⟩ := e3
      subst e3b
      rw [← e3a] at b1 b2
      refine ⟨?_, by omega⟩
      have := tcl_put (x := []) h (c := (7, tk (j + 1) - 100, 0)) ⟨by show (0 : Int) ≤ 7 ∧ (7 : Int) ≤ 7; omega, by unfold deedok; refine ⟨fun t => ?_, fun t => ?_, fun t => ?_, fun t => ?_, fun t => ?_⟩ <;> (try simp only at t ⊢) <;> omega, fun t => absurd (show (7 : Int) < 2 from t) (by decide)⟩
      rw [List.append_nil] at this; exact this
end TO
