-- ===== what is written: how long, of what, and that it can be reckoned =====
def pok (mo : Bool) (p : Int × Int) : Prop := (p.1 = 0 ∧ 0 ≤ p.2 ∧ p.2 ≤ 9999) ∨ (p.1 = 1 ∧ 0 ≤ p.2 ∧ p.2 ≤ 10 ∧ okn mo p.2) ∨ (((2 ≤ p.1 ∧ p.1 ≤ 15) ∨ (20 ≤ p.1 ∧ p.1 ≤ 22)) ∧ p.2 = 0)
def tyP (m : Nat) (st : List Bool) : List Bool := if m = 10 ∨ m = 11 then true :: st else if m = 14 ∨ m = 15 then false :: st else st
def tyQ (m : Nat) (st : List Bool) : List Bool := if m = 4 ∨ m = 5 ∨ m = 6 ∨ m = 14 ∨ m = 15 then false :: st else true :: st
theorem tyl_ap : ∀ (a b : List Int) (s : List Bool), tyl (a ++ b) s = (tyl a s).bind (tyl b)
  | [], b, s => rfl
  | x :: a, b, s => by
    rw [List.cons_append, tyl, tyl]
    cases tyo x s with
    | none => rfl
    | some t => exact tyl_ap a b t
section TY
variable {tk : Nat → Int} {mo : Bool}
def gO (mo : Bool) (m : Nat) (s s' : gs) : Prop := ∀ j' o', s' = .inl (j', o') → ∃ j o x, s = .inl (j, o) ∧ o' = o ++ x ∧ j ≤ j' ∧ x.length + j ≤ j' ∧ (∀ p, p ∈ x → pok mo p) ∧ ∀ st, tyl (x.map (fun p => p.1)) (tyP m st) = some (tyQ m st)
theorem gO_same {m : Nat} (hm : ∀ st, tyP m st = tyQ m st) (s : gs) : gO mo m s s := fun j' o' e => ⟨j', o', [], e, (List.append_nil _).symm, Nat.le_refl _, by simp, fun p hp => absurd hp (by simp), fun st => by rw [hm]; rfl⟩
theorem gO_bad {m : Nat} {s : gs} {k : Int} : gO mo m s (gfal k s) := fun j' o' e => by
  rcases s with ⟨j, o⟩ | ⟨k', e'⟩
  · exact absurd e (by simp [gfal])
  · exact absurd e (by simp [gfal])
theorem g_advO {s : gs} {j : Nat} {o : List (Int × Int)} (e : gadv s = .inl (j, o)) : ∃ i, s = .inl (i, o) ∧ j = i + 1 := by
  rcases s with ⟨i, o'⟩ | ⟨k', e'⟩
  · simp only [gadv, Sum.inl.injEq, Prod.mk.injEq] at e
    obtain ⟨e1, e2⟩ := e
    subst e2
    exact ⟨i, rfl, e1.symm⟩
  · exact absurd e (by simp [gadv])
theorem g_emtO {s : gs} {p : Int × Int} {j : Nat} {o : List (Int × Int)} (e : gemt p s = .inl (j, o)) : ∃ o', s = .inl (j, o') ∧ o = o' ++ [p] := by
  rcases s with ⟨i, o'⟩ | ⟨k', e'⟩
  · simp only [gemt, Sum.inl.injEq, Prod.mk.injEq] at e
    obtain ⟨e1, e2⟩ := e
    subst e1
    exact ⟨o', rfl, e2.symm⟩
  · exact absurd e (by simp [gemt])
theorem g_expO {s : gs} {c : Int} {j : Nat} {o : List (Int × Int)} (e : gexp tk c s = .inl (j, o)) : ∃ i, s = .inl (i, o) ∧ j = i + 1 := by
  unfold gexp at e
  by_cases d : gcur tk s = c
  · rw [if_pos d] at e; exact g_advO e
  · rw [if_neg d] at e
    rcases s with ⟨i, o'⟩ | ⟨k', e'⟩
    · exact absurd e (by simp [gfal])
    · exact absurd e (by simp [gfal])
theorem gO_seq {m m1 m2 : Nat} {s s1 s2 : gs} (h1 : gO mo m1 s s1) (h2 : gO mo m2 s1 s2) (t1 : ∀ st, tyP m1 st = tyP m st) (t2 : ∀ st, tyQ m1 st = tyP m2 st) (t3 : ∀ st, tyQ m2 st = tyQ m st) : gO mo m s s2 := fun j' o' e => by
  obtain ⟨j1, o1, x2, e1, a1, a2, a3, a4, a5⟩ := h2 j' o' e
  obtain ⟨j, o, x1, e2, b1, b2, b3, b4, b5⟩ := h1 j1 o1 e1
  refine ⟨j, o, x1 ++ x2, e2, by rw [a1, b1, List.append_assoc], by omega, by rw [List.length_append]; omega, fun p hp => ?_, fun st => ?_⟩
  · rcases List.mem_append.1 hp with t | t
    · exact b4 p t
    · exact a4 p t
  · rw [List.map_append, tyl_ap, ← t1, b5]
    show tyl (x2.map (fun p => p.1)) (tyQ m1 st) = _
    rw [t2, a5, t3]
-- an operation between: m1 reads what is behind it, m2 goes on
theorem gO_op {m m1 : Nat} {s s1 s2 : gs} {p : Int × Int} (h1 : gO mo m1 (gadv s) s1) (h2 : gO mo m (gemt p s1) s2) (hp : pok mo p) (t : ∀ st, tyP m1 (tyP m st) = tyP m st ∧ tyo p.1 (tyQ m1 (tyP m st)) = some (tyP m st)) : gO mo m s s2 := fun j' o' e => by
  obtain ⟨j1, o1, x2, e1, a1, a2, a3, a4, a5⟩ := h2 j' o' e
  obtain ⟨o1', e1', f1⟩ := g_emtO e1
  obtain ⟨j, o, x1, e2, b1, b2, b3, b4, b5⟩ := h1 j1 o1' e1'
  obtain ⟨i, e3, f2⟩ := g_advO e2
  refine ⟨i, o, x1 ++ [p] ++ x2, e3, by rw [a1, f1, b1]; simp [List.append_assoc], by omega, by simp only [List.length_append, List.length_singleton]; omega, fun y hy => ?_, fun st => ?_⟩
  · rcases List.mem_append.1 hy with z | z
    · rcases List.mem_append.1 z with z | z
      · exact b4 y z
      · rw [List.mem_singleton] at z; subst z; exact hp
    · exact a4 y z
  · rw [List.map_append, tyl_ap, List.map_append, tyl_ap]
    have := b5 (tyP m st)
    rw [(t st).1] at this
    rw [this]
    show ((tyo p.1 (tyQ m1 (tyP m st))).bind (tyl [])).bind _ = _
    rw [(t st).2]
    exact a5 st
theorem gO_t {m d : Nat} {s s' : gs} (h : gg tk mo m d s s') : gO mo m s s' := by
  refine gg_ind (C := fun m _ s s' => gO mo m s s') h ?r_sum ?r_smE ?r_smO ?r_pro ?r_prE ?r_prO ?r_num ?r_big ?r_nam ?r_noN ?r_non ?r_dee ?r_par ?r_una ?r_iff ?r_cho ?r_eit ?r_eiE ?r_eiO ?r_bot ?r_boE ?r_boO ?r_nott ?r_noD ?r_ask ?r_asF
  case r_sum => exact fun d s s1 s2 _ i1 _ i2 => gO_seq i1 i2 (fun _ => rfl) (fun _ => rfl) (fun _ => rfl)
  case r_smE => exact fun d s _ => gO_same (fun _ => rfl) s
  case r_smO =>
    intro d s s1 s2 c _ i1 _ i2
    refine gO_op i1 i2 (.inr (.inr ⟨by simp only; omega, rfl⟩)) (fun st => ⟨rfl, ?_⟩)
    rcases c with c | c <;> (simp only [c]; rfl)
  case r_pro => exact fun d s s1 s2 _ i1 _ i2 => gO_seq i1 i2 (fun _ => rfl) (fun _ => rfl) (fun _ => rfl)
  case r_prE => exact fun d s _ => gO_same (fun _ => rfl) s
  case r_prO =>
    intro d s s1 s2 c _ i1 _ i2
    refine gO_op i1 i2 (.inr (.inr ⟨by simp only; omega, rfl⟩)) (fun st => ⟨rfl, ?_⟩)
    rcases c with c | c <;> (simp only [c]; rfl)
  case r_num =>
    intro d s c1 c2 j' o' e
    obtain ⟨o1, e1, f1⟩ := g_emtO e
    obtain ⟨i, e2, f2⟩ := g_advO e1
    exact ⟨i, o1, _, e2, f1, by omega, by simp; omega, fun p hp => by rw [List.mem_singleton] at hp; subst hp; exact .inl ⟨rfl, by simp only; omega, by simp only; omega⟩, fun st => rfl⟩
  case r_big => exact fun d s _ => gO_bad
  case r_nam =>
    intro d s c1 c2 c3 j' o' e
    obtain ⟨o1, e1, f1⟩ := g_emtO e
    obtain ⟨i, e2, f2⟩ := g_advO e1
    exact ⟨i, o1, _, e2, f1, by omega, by simp; omega, fun p hp => by rw [List.mem_singleton] at hp; subst hp; exact .inr (.inl ⟨rfl, by simp only; omega, by simp only; omega, c3⟩), fun st => rfl⟩
  case r_noN => exact fun d s _ _ _ => gO_bad
  case r_non => exact fun d s _ _ _ => gO_bad
  case r_dee => exact fun d s _ _ => gO_bad
  case r_par =>
    intro d s s1 c1 c2 _ i1 j' o' e
    obtain ⟨i, e1, f1⟩ := g_expO e
    obtain ⟨j, o, x, e2, b1, b2, b3, b4, b5⟩ := i1 i o' e1
    obtain ⟨i2, e3, f2⟩ := g_advO e2
    exact ⟨i2, o, x, e3, b1, by omega, by omega, b4, b5⟩
  case r_una =>
    intro d s s1 c1 c2 _ i1 j' o' e
    obtain ⟨o1, e1, f1⟩ := g_emtO e
    obtain ⟨j, o, x, e2, b1, b2, b3, b4, b5⟩ := i1 j' o1 e1
    obtain ⟨i2, e3, f2⟩ := g_advO e2
    refine ⟨i2, o, x ++ [(uop (gcur tk s), 0)], e3, by rw [f1, b1, List.append_assoc], by omega, by rw [List.length_append, List.length_singleton]; omega, fun p hp => ?_, fun st => ?_⟩
    · rcases List.mem_append.1 hp with z | z
      · exact b4 p z
      · rw [List.mem_singleton] at z; subst z
        exact .inr (.inr ⟨by simp only [uop]; split <;> (try split) <;> omega, rfl⟩)
    · rw [List.map_append, tyl_ap, b5]
      rcases c1 with c | c | c <;> (simp only [c]; rfl)
  case r_iff =>
    intro d s s1 c1 c2 _ i1 j' o' e
    obtain ⟨j, o, x, e2, b1, b2, b3, b4, b5⟩ := i1 j' o' e
    obtain ⟨i2, e3, f2⟩ := g_advO e2
    exact ⟨i2, o, x, e3, b1, by omega, by omega, b4, b5⟩
  case r_cho =>
    intro d s s1 s2 s3 _ i1 _ i2 _ i3 j' o' e
    obtain ⟨o1, e1, f1⟩ := g_emtO e
    obtain ⟨i, e2, f2⟩ := g_expO e1
    obtain ⟨j3, o3, x3, e3, a1, a2, a3, a4, a5⟩ := i3 i o1 e2
    obtain ⟨i3', e4, f3⟩ := g_expO e3
    obtain ⟨j2, o2, x2, e5, b1, b2, b3, b4, b5⟩ := i2 i3' o3 e4
    obtain ⟨i4, e6, f4⟩ := g_expO e5
    obtain ⟨j1, oo, x1, e7, c1, c2, c3, c4, c5⟩ := i1 i4 o2 e6
    refine ⟨j1, oo, x1 ++ x2 ++ x3 ++ [(3, 0)], e7, by rw [f1, a1, b1, c1]; simp [List.append_assoc], by omega, by simp only [List.length_append, List.length_singleton]; omega, fun p hp => ?_, fun st => ?_⟩
    · simp only [List.mem_append, List.mem_singleton] at hp
      rcases hp with ((z | z) | z) | z
      · exact c4 p z
      · exact b4 p z
      · exact a4 p z
      · subst z; exact .inr (.inr ⟨by simp, rfl⟩)
    · have t1 : tyl (x1.map (fun p => p.1)) st = some (false :: st) := c5 st
      have t2 : tyl (x2.map (fun p => p.1)) (false :: st) = some (true :: false :: st) := b5 (false :: st)
      have t3 : tyl (x3.map (fun p => p.1)) (true :: false :: st) = some (true :: true :: false :: st) := a5 (true :: false :: st)
      show tyl _ st = _
      rw [List.map_append, tyl_ap, List.map_append, tyl_ap, List.map_append, tyl_ap, t1]
      show ((tyl _ (false :: st)).bind _).bind _ = _
      rw [t2]
      show (tyl _ (true :: false :: st)).bind _ = _
      rw [t3]
      rfl
  case r_eit => exact fun d s s1 s2 _ i1 _ i2 => gO_seq i1 i2 (fun _ => rfl) (fun _ => rfl) (fun _ => rfl)
  case r_eiE => exact fun d s _ => gO_same (fun _ => rfl) s
  case r_eiO => exact fun d s s1 s2 c _ i1 _ i2 => gO_op i1 i2 (.inr (.inr ⟨by simp, rfl⟩)) (fun st => ⟨rfl, rfl⟩)
  case r_bot => exact fun d s s1 s2 _ i1 _ i2 => gO_seq i1 i2 (fun _ => rfl) (fun _ => rfl) (fun _ => rfl)
  case r_boE => exact fun d s _ => gO_same (fun _ => rfl) s
  case r_boO => exact fun d s s1 s2 c _ i1 _ i2 => gO_op i1 i2 (.inr (.inr ⟨by simp, rfl⟩)) (fun st => ⟨rfl, rfl⟩)
  case r_nott =>
    intro d s s1 c1 c2 _ i1 j' o' e
    obtain ⟨o1, e1, f1⟩ := g_emtO e
    obtain ⟨j, o, x, e2, b1, b2, b3, b4, b5⟩ := i1 j' o1 e1
    obtain ⟨i2, e3, f2⟩ := g_advO e2
    refine ⟨i2, o, x ++ [(20, 0)], e3, by rw [f1, b1, List.append_assoc], by omega, by rw [List.length_append, List.length_singleton]; omega, fun p hp => ?_, fun st => ?_⟩
    · rcases List.mem_append.1 hp with z | z
      · exact b4 p z
      · rw [List.mem_singleton] at z; subst z
        exact .inr (.inr ⟨by simp, rfl⟩)
    · rw [List.map_append, tyl_ap, b5]
      rfl
  case r_noD => exact fun d s _ _ => gO_bad
  case r_ask =>
    intro d s s1 s2 c1 _ i1 c2 _ i2 j' o' e
    obtain ⟨o1, e1, f1⟩ := g_emtO e
    obtain ⟨j2, o2, x2, e2, b1, b2, b3, b4, b5⟩ := i2 j' o1 e1
    obtain ⟨i4, e6, f4⟩ := g_advO e2
    obtain ⟨j1, oo, x1, e7, k1, k2, k3, k4, k5⟩ := i1 i4 o2 e6
    refine ⟨j1, oo, x1 ++ x2 ++ [(cop (gcur tk s1), 0)], e7, by rw [f1, b1, k1]; simp [List.append_assoc], by omega, by simp only [List.length_append, List.length_singleton]; omega, fun p hp => ?_, fun st => ?_⟩
    · simp only [List.mem_append, List.mem_singleton] at hp
      rcases hp with (z | z) | z
      · exact k4 p z
      · exact b4 p z
      · subst z; exact .inr (.inr ⟨by simp only [cop]; repeat' split
                                      all_goals omega, rfl⟩)
    · have t1 : tyl (x1.map (fun p => p.1)) st = some (true :: st) := k5 st
      have t2 : tyl (x2.map (fun p => p.1)) (true :: st) = some (true :: true :: st) := b5 (true :: st)
      show tyl _ st = _
      rw [List.map_append, tyl_ap, List.map_append, tyl_ap, t1]
      show (tyl _ (true :: st)).bind _ = _
      rw [t2]
      generalize gcur tk s1 = c at c2
      unfold isC at c2
      obtain rfl | rfl | rfl | rfl | rfl | rfl : c = 30 ∨ c = 31 ∨ c = 32 ∨ c = 33 ∨ c = 41 ∨ c = 42 := by omega
      all_goals rfl
  case r_asF =>
    intro d s s1 c1 _ i1 c2 j' o' e
    rcases s1 with ⟨a, b⟩ | ⟨a, b⟩
    · exact absurd e (by simp [gfal])
    · exact absurd e (by simp [gfal])
end TY
