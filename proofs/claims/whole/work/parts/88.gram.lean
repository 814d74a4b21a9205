-- ===== reading a law: what is asked for, as a relation =====
inductive gs where
  | ok (j : Nat) (o : List (Int × Int)) : gs
  | bad (k : Int) (e : Nat) : gs
def gcur (tk : Nat → Int) : gs → Int
  | .ok j _ => tk j
  | .bad _ _ => 45
def gadv : gs → gs
  | .ok j o => .ok (j + 1) o
  | .bad k e => .bad k e
def gemt (p : Int × Int) : gs → gs
  | .ok j o => .ok j (o ++ [p])
  | .bad k e => .bad k e
def gfal (k : Int) : gs → gs
  | .ok j _ => .bad k j
  | .bad k' e => .bad k' e
def gexp (tk : Nat → Int) (c : Int) (s : gs) : gs := if gcur tk s = c then gadv s else gfal 1 s
def okn (mo : Bool) (c : Int) : Prop := (mo = true → c < 9) ∧ (mo = false → c < 6 ∨ 8 < c)
def uop (c : Int) : Int := if c = 35 then 5 else if c = 20 then 4 else 2
def isC (c : Int) : Prop := (30 ≤ c ∧ c ≤ 33) ∨ c = 41 ∨ c = 42
def cop (c : Int) : Int := if c = 30 then 10 else if c = 41 then 11 else if c = 31 then 12 else if c = 42 then 13 else if c = 32 then 14 else 15
def isU (c : Int) : Prop := c = 35 ∨ c = 20 ∨ c = 21
def isB (c : Int) : Prop := c = 38 ∨ c = 22 ∨ isU c
inductive gg (tk : Nat → Int) (mo : Bool) : Nat → Nat → gs → gs → Prop
  | sum {d s s1 s2} : gg tk mo 1 d s s1 → gg tk mo 10 d s1 s2 → gg tk mo 0 d s s2
  | smE {d s} : ¬ (gcur tk s = 34 ∨ gcur tk s = 35) → gg tk mo 10 d s s
  | smO {d s s1 s2} : (gcur tk s = 34 ∨ gcur tk s = 35) → gg tk mo 1 d (gadv s) s1 → gg tk mo 10 d (gemt (gcur tk s - 28, 0) s1) s2 → gg tk mo 10 d s s2
  | pro {d s s1 s2} : gg tk mo 2 d s s1 → gg tk mo 11 d s1 s2 → gg tk mo 1 d s s2
  | prE {d s} : ¬ (gcur tk s = 36 ∨ gcur tk s = 37) → gg tk mo 11 d s s
  | prO {d s s1 s2} : (gcur tk s = 36 ∨ gcur tk s = 37) → gg tk mo 2 d (gadv s) s1 → gg tk mo 11 d (gemt (gcur tk s - 28, 0) s1) s2 → gg tk mo 11 d s s2
  | num {d s} : 100 ≤ gcur tk s → gcur tk s ≤ 10099 → gg tk mo 2 d s (gemt (0, gcur tk s - 100) (gadv s))
  | big {d s} : 10099 < gcur tk s → gg tk mo 2 d s (gfal 2 s)
  | nam {d s} : 0 ≤ gcur tk s → gcur tk s ≤ 10 → okn mo (gcur tk s) → gg tk mo 2 d s (gemt (1, gcur tk s) (gadv s))
  | noN {d s} : 0 ≤ gcur tk s → gcur tk s ≤ 10 → ¬ okn mo (gcur tk s) → gg tk mo 2 d s (gfal 5 s)
  | non {d s} : gcur tk s < 100 → ¬ (0 ≤ gcur tk s ∧ gcur tk s ≤ 10) → ¬ isB (gcur tk s) → gg tk mo 2 d s (gfal 1 s)
  | dee {d s} : isB (gcur tk s) → 8 ≤ d → gg tk mo 2 d s (gfal 3 s)
  | par {d s s1} : gcur tk s = 38 → d < 8 → gg tk mo 0 (d + 1) (gadv s) s1 → gg tk mo 2 d s (gexp tk 39 s1)
  | una {d s s1} : isU (gcur tk s) → d < 8 → gg tk mo 2 (d + 1) (gadv s) s1 → gg tk mo 2 d s (gemt (uop (gcur tk s), 0) s1)
  | iff {d s s1} : gcur tk s = 22 → d < 8 → gg tk mo 3 (d + 1) (gadv s) s1 → gg tk mo 2 d s s1
  | cho {d s s1 s2 s3} : gg tk mo 4 d s s1 → gg tk mo 0 d (gexp tk 23 s1) s2 → gg tk mo 0 d (gexp tk 24 s2) s3 → gg tk mo 3 d s (gemt (3, 0) (gexp tk 25 s3))
  | eit {d s s1 s2} : gg tk mo 5 d s s1 → gg tk mo 14 d s1 s2 → gg tk mo 4 d s s2
  | eiE {d s} : gcur tk s ≠ 26 → gg tk mo 14 d s s
  | eiO {d s s1 s2} : gcur tk s = 26 → gg tk mo 5 d (gadv s) s1 → gg tk mo 14 d (gemt (22, 0) s1) s2 → gg tk mo 14 d s s2
  | bot {d s s1 s2} : gg tk mo 6 d s s1 → gg tk mo 15 d s1 s2 → gg tk mo 5 d s s2
  | boE {d s} : gcur tk s ≠ 27 → gg tk mo 15 d s s
  | boO {d s s1 s2} : gcur tk s = 27 → gg tk mo 6 d (gadv s) s1 → gg tk mo 15 d (gemt (21, 0) s1) s2 → gg tk mo 15 d s s2
  | nott {d s s1} : gcur tk s = 28 → d < 8 → gg tk mo 6 (d + 1) (gadv s) s1 → gg tk mo 6 d s (gemt (20, 0) s1)
  | noD {d s} : gcur tk s = 28 → 8 ≤ d → gg tk mo 6 d s (gfal 3 s)
  | ask {d s s1 s2} : gcur tk s ≠ 28 → gg tk mo 0 d s s1 → isC (gcur tk s1) → gg tk mo 0 d (gadv s1) s2 → gg tk mo 6 d s (gemt (cop (gcur tk s1), 0) s2)
  | asF {d s s1} : gcur tk s ≠ 28 → gg tk mo 0 d s s1 → ¬ isC (gcur tk s1) → gg tk mo 6 d s (gfal 1 s1)
section GG
variable {tk : Nat → Int} {mo : Bool}
-- from a fault nothing but that fault
theorem gg_bad {m d : Nat} {s s' : gs} (h : gg tk mo m d s s') : ∀ k e, s = .bad k e → s' = .bad k e := by
  induction h with
  | sum _ _ i1 i2 => exact fun k e h => i2 k e (i1 k e h)
  | smE _ => exact fun k e h => h
  | smO c _ _ _ _ => intro k e h; subst h; exact absurd c (by simp [gcur])
  | pro _ _ i1 i2 => exact fun k e h => i2 k e (i1 k e h)
  | prE _ => exact fun k e h => h
  | prO c _ _ _ _ => intro k e h; subst h; exact absurd c (by simp [gcur])
  | num c _ => intro k e h; subst h; exact absurd c (by simp [gcur])
  | big _ => intro k e h; subst h; rfl
  | nam _ c _ => intro k e h; subst h; exact absurd c (by simp [gcur])
  | noN _ _ _ => intro k e h; subst h; rfl
  | non _ _ _ => intro k e h; subst h; rfl
  | dee _ _ => intro k e h; subst h; rfl
  | par c _ _ _ => intro k e h; subst h; exact absurd c (by simp [gcur])
  | una c _ _ _ => intro k e h; subst h; exact absurd c (by simp [gcur, isU])
  | iff c _ _ _ => intro k e h; subst h; exact absurd c (by simp [gcur])
  | cho _ _ _ i1 i2 i3 =>
    intro k e h
    have a1 := i1 k e h
    subst a1
    have a2 := i2 k e (by simp [gexp, gcur, gfal])
    subst a2
    have a3 := i3 k e (by simp [gexp, gcur, gfal])
    subst a3
    simp [gexp, gcur, gfal, gemt]
  | eit _ _ i1 i2 => exact fun k e h => i2 k e (i1 k e h)
  | eiE _ => exact fun k e h => h
  | eiO c _ _ _ _ => intro k e h; subst h; exact absurd c (by simp [gcur])
  | bot _ _ i1 i2 => exact fun k e h => i2 k e (i1 k e h)
  | boE _ => exact fun k e h => h
  | boO c _ _ _ _ => intro k e h; subst h; exact absurd c (by simp [gcur])
  | nott c _ _ _ => intro k e h; subst h; exact absurd c (by simp [gcur])
  | noD _ _ => intro k e h; subst h; rfl
  | ask _ _ c _ i1 _ => intro k e h; have a := i1 k e h; subst a; exact absurd c (by simp [gcur, isC])
  | asF _ _ _ i1 => intro k e h; have a := i1 k e h; subst a; rfl
-- it is there for every state
def gB (cn : Nat) : gs → Prop
  | .ok j _ => j ≤ cn
  | .bad _ e => e ≤ cn
def gw (cn : Nat) : gs → Nat
  | .ok j _ => cn - j
  | .bad _ _ => 0
def gT (tk : Nat → Int) (mo : Bool) (cn m n : Nat) : Prop := ∀ s d, gB cn s → gw cn s ≤ n → ∃ s', gg tk mo m d s s' ∧ gB cn s' ∧ gw cn s' ≤ gw cn s
variable {cn : Nat}
theorem g_adv (hc : tk cn = 44) {s : gs} (hB : gB cn s) (c : gcur tk s ≠ 44) (c2 : gcur tk s ≠ 45) : gB cn (gadv s) ∧ gw cn (gadv s) + 1 ≤ gw cn s := by
  cases s with
  | bad k e => exact absurd rfl c2
  | ok j o =>
    have h1 : j ≤ cn := hB
    have : j ≠ cn := fun e => c (by rw [gcur, e]; exact hc)
    refine ⟨?_, ?_⟩
    · show j + 1 ≤ cn; omega
    · show cn - (j + 1) + 1 ≤ cn - j; omega
theorem g_emt {s : gs} {p : Int × Int} : (gB cn (gemt p s) ↔ gB cn s) ∧ gw cn (gemt p s) = gw cn s := by
  cases s <;> exact ⟨Iff.rfl, rfl⟩
theorem g_fal {s : gs} {k : Int} (hB : gB cn s) : gB cn (gfal k s) ∧ gw cn (gfal k s) ≤ gw cn s := by
  cases s with
  | ok j o => exact ⟨hB, Nat.zero_le _⟩
  | bad k e => exact ⟨hB, Nat.le_refl _⟩
theorem g_exp (hc : tk cn = 44) {s : gs} {c : Int} (c1 : c ≠ 44) (c2 : c ≠ 45) (hB : gB cn s) : gB cn (gexp tk c s) ∧ gw cn (gexp tk c s) ≤ gw cn s := by
  unfold gexp
  by_cases d : gcur tk s = c
  · rw [if_pos d]
    have := g_adv hc hB (by rw [d]; exact c1) (by rw [d]; exact c2)
    exact ⟨this.1, by omega⟩
  · rw [if_neg d]; exact g_fal hB
theorem g_all (hc : tk cn = 44) : ∀ n, gT tk mo cn 0 n ∧ gT tk mo cn 1 n ∧ gT tk mo cn 2 n ∧ gT tk mo cn 3 n ∧ gT tk mo cn 4 n ∧ gT tk mo cn 5 n ∧ gT tk mo cn 6 n ∧ gT tk mo cn 10 n ∧ gT tk mo cn 11 n ∧ gT tk mo cn 14 n ∧ gT tk mo cn 15 n := by
  intro n
  induction n with
  | zero =>
    -- nothing is left: the tape's end, or a fault
    have h2 : gT tk mo cn 2 0 := fun s d hB hw => by
      have c : gcur tk s = 44 ∨ gcur tk s = 45 := by
        cases s with
        | bad k e => exact .inr rfl
        | ok j o =>
          have h1 : j ≤ cn := hB
          have h2 : cn - j ≤ 0 := hw
          have : j = cn := by omega
          left; rw [gcur, this]; exact hc
      exact ⟨gfal 1 s, .non (by omega) (by omega) (by unfold isB isU; omega), g_fal hB⟩
    have tl : ∀ (m : Nat) (P : Int → Prop), (∀ d s, ¬ P (gcur tk s) → gg tk mo m d s s) → (¬ P 44 ∧ ¬ P 45) → gT tk mo cn m 0 := fun m P r p s d hB hw => by
      refine ⟨s, r d s ?_, hB, Nat.le_refl _⟩
      cases s with
      | bad k e => exact p.2
      | ok j o =>
        have h1 : j ≤ cn := hB
        have h2 : cn - j ≤ 0 := hw
        have : j = cn := by omega
        rw [gcur, this, hc]; exact p.1
    have h11 : gT tk mo cn 11 0 := tl 11 (fun c => c = 36 ∨ c = 37) (fun d s c => .prE c) (by omega)
    have h10 : gT tk mo cn 10 0 := tl 10 (fun c => c = 34 ∨ c = 35) (fun d s c => .smE c) (by omega)
    have h14 : gT tk mo cn 14 0 := tl 14 (fun c => c = 26) (fun d s c => .eiE c) (by omega)
    have h15 : gT tk mo cn 15 0 := tl 15 (fun c => c = 27) (fun d s c => .boE c) (by omega)
    have h1 : gT tk mo cn 1 0 := fun s d hB hw => by
      obtain ⟨s1, a1, a2, a3⟩ := h2 s d hB hw
      obtain ⟨s2, b1, b2, b3⟩ := h11 s1 d a2 (by omega)
      exact ⟨s2, .pro a1 b1, b2, by omega⟩
    have h0 : gT tk mo cn 0 0 := fun s d hB hw => by
      obtain ⟨s1, a1, a2, a3⟩ := h1 s d hB hw
      obtain ⟨s2, b1, b2, b3⟩ := h10 s1 d a2 (by omega)
      exact ⟨s2, .sum a1 b1, b2, by omega⟩
    have h6 : gT tk mo cn 6 0 := fun s d hB hw => by
      have cz : ∀ s, gB cn s → gw cn s ≤ 0 → gcur tk s = 44 ∨ gcur tk s = 45 := fun s hB hw => by
        cases s with
        | bad k e => exact .inr rfl
        | ok j o =>
          have h1 : j ≤ cn := hB
          have h2 : cn - j ≤ 0 := hw
          have : j = cn := by omega
          left; rw [gcur, this]; exact hc
      obtain ⟨s1, a1, a2, a3⟩ := h0 s d hB hw
      have c1 := cz s hB hw
      have c2 := cz s1 a2 (by omega)
      have f := g_fal (k := 1) a2
      exact ⟨gfal 1 s1, .asF (by omega) a1 (by unfold isC; omega), f.1, by omega⟩
    have h5 : gT tk mo cn 5 0 := fun s d hB hw => by
      obtain ⟨s1, a1, a2, a3⟩ := h6 s d hB hw
      obtain ⟨s2, b1, b2, b3⟩ := h15 s1 d a2 (by omega)
      exact ⟨s2, .bot a1 b1, b2, by omega⟩
    have h4 : gT tk mo cn 4 0 := fun s d hB hw => by
      obtain ⟨s1, a1, a2, a3⟩ := h5 s d hB hw
      obtain ⟨s2, b1, b2, b3⟩ := h14 s1 d a2 (by omega)
      exact ⟨s2, .eit a1 b1, b2, by omega⟩
    have h3 : gT tk mo cn 3 0 := fun s d hB hw => by
      obtain ⟨s1, a1, a2, a3⟩ := h4 s d hB hw
      have e1 := g_exp hc (c := 23) (by omega) (by omega) a2
      obtain ⟨s2, b1, b2, b3⟩ := h0 (gexp tk 23 s1) d e1.1 (by omega)
      have e2 := g_exp hc (c := 24) (by omega) (by omega) b2
      obtain ⟨s3, c1, c2, c3⟩ := h0 (gexp tk 24 s2) d e2.1 (by omega)
      have e3 := g_exp hc (c := 25) (by omega) (by omega) c2
      have e4 := g_emt (cn := cn) (s := gexp tk 25 s3) (p := (3, 0))
      exact ⟨_, .cho a1 b1 c1, e4.1.2 e3.1, by omega⟩
    exact ⟨h0, h1, h2, h3, h4, h5, h6, h10, h11, h14, h15⟩
  | succ n ih =>
    obtain ⟨i0, i1, i2, i3, i4, i5, i6, i10, i11, i14, i15⟩ := ih
    have h2 : gT tk mo cn 2 (n + 1) := fun s d hB hw => by
      by_cases c1 : 10099 < gcur tk s
      · exact ⟨_, .big c1, g_fal hB⟩
      by_cases c2 : 100 ≤ gcur tk s
      · have a := g_adv hc hB (by omega) (by omega)
        have e := g_emt (cn := cn) (s := gadv s) (p := (0, gcur tk s - 100))
        exact ⟨_, .num c2 (by omega), e.1.2 a.1, by omega⟩
      by_cases c3 : 0 ≤ gcur tk s ∧ gcur tk s ≤ 10
      · by_cases c4 : okn mo (gcur tk s)
        · have a := g_adv hc hB (by omega) (by omega)
          have e := g_emt (cn := cn) (s := gadv s) (p := (1, gcur tk s))
          exact ⟨_, .nam c3.1 c3.2 c4, e.1.2 a.1, by omega⟩
        · exact ⟨_, .noN c3.1 c3.2 c4, g_fal hB⟩
      by_cases c5 : isB (gcur tk s)
      · by_cases c6 : 8 ≤ d
        · exact ⟨_, .dee c5 c6, g_fal hB⟩
        · have a := g_adv hc hB (by unfold isB isU at c5; omega) (by unfold isB isU at c5; omega)
          by_cases c7 : gcur tk s = 38
          · obtain ⟨s1, b1, b2, b3⟩ := i0 (gadv s) (d + 1) a.1 (by omega)
            have e := g_exp hc (c := 39) (by omega) (by omega) b2
            exact ⟨_, .par c7 (by omega) b1, e.1, by omega⟩
          · by_cases c8 : gcur tk s = 22
            · obtain ⟨s1, b1, b2, b3⟩ := i3 (gadv s) (d + 1) a.1 (by omega)
              exact ⟨_, .iff c8 (by omega) b1, b2, by omega⟩
            · obtain ⟨s1, b1, b2, b3⟩ := i2 (gadv s) (d + 1) a.1 (by omega)
              have e := g_emt (cn := cn) (s := s1) (p := (uop (gcur tk s), 0))
              exact ⟨_, .una (by unfold isB isU at c5; unfold isU; omega) (by omega) b1, e.1.2 b2, by omega⟩
      · exact ⟨_, .non (by omega) c3 c5, g_fal hB⟩
    have h11 : gT tk mo cn 11 (n + 1) := fun s d hB hw => by
      by_cases c : gcur tk s = 36 ∨ gcur tk s = 37
      · have a := g_adv hc hB (by omega) (by omega)
        obtain ⟨s1, b1, b2, b3⟩ := i2 (gadv s) d a.1 (by omega)
        have e := g_emt (cn := cn) (s := s1) (p := (gcur tk s - 28, 0))
        obtain ⟨s2, k1, k2, k3⟩ := i11 (gemt (gcur tk s - 28, 0) s1) d (e.1.2 b2) (by omega)
        exact ⟨s2, .prO c b1 k1, k2, by omega⟩
      · exact ⟨s, .prE c, hB, Nat.le_refl _⟩
    have h1 : gT tk mo cn 1 (n + 1) := fun s d hB hw => by
      obtain ⟨s1, a1, a2, a3⟩ := h2 s d hB hw
      obtain ⟨s2, b1, b2, b3⟩ := h11 s1 d a2 (by omega)
      exact ⟨s2, .pro a1 b1, b2, by omega⟩
    have h10 : gT tk mo cn 10 (n + 1) := fun s d hB hw => by
      by_cases c : gcur tk s = 34 ∨ gcur tk s = 35
      · have a := g_adv hc hB (by omega) (by omega)
        obtain ⟨s1, b1, b2, b3⟩ := i1 (gadv s) d a.1 (by omega)
        have e := g_emt (cn := cn) (s := s1) (p := (gcur tk s - 28, 0))
        obtain ⟨s2, k1, k2, k3⟩ := i10 (gemt (gcur tk s - 28, 0) s1) d (e.1.2 b2) (by omega)
        exact ⟨s2, .smO c b1 k1, k2, by omega⟩
      · exact ⟨s, .smE c, hB, Nat.le_refl _⟩
    have h0 : gT tk mo cn 0 (n + 1) := fun s d hB hw => by
      obtain ⟨s1, a1, a2, a3⟩ := h1 s d hB hw
      obtain ⟨s2, b1, b2, b3⟩ := h10 s1 d a2 (by omega)
      exact ⟨s2, .sum a1 b1, b2, by omega⟩
    have h6 : gT tk mo cn 6 (n + 1) := fun s d hB hw => by
      by_cases c : gcur tk s = 28
      · by_cases c6 : 8 ≤ d
        · exact ⟨_, .noD c c6, g_fal hB⟩
        · have a := g_adv hc hB (by omega) (by omega)
          obtain ⟨s1, b1, b2, b3⟩ := i6 (gadv s) (d + 1) a.1 (by omega)
          have e := g_emt (cn := cn) (s := s1) (p := (20, 0))
          exact ⟨_, .nott c (by omega) b1, e.1.2 b2, by omega⟩
      · obtain ⟨s1, a1, a2, a3⟩ := h0 s d hB hw
        by_cases c2 : isC (gcur tk s1)
        · have a := g_adv hc a2 (by unfold isC at c2; omega) (by unfold isC at c2; omega)
          obtain ⟨s2, b1, b2, b3⟩ := i0 (gadv s1) d a.1 (by omega)
          have e := g_emt (cn := cn) (s := s2) (p := (cop (gcur tk s1), 0))
          exact ⟨_, .ask c a1 c2 b1, e.1.2 b2, by omega⟩
        · have f := g_fal (k := 1) a2
          exact ⟨_, .asF c a1 c2, f.1, by omega⟩
    have h15 : gT tk mo cn 15 (n + 1) := fun s d hB hw => by
      by_cases c : gcur tk s = 27
      · have a := g_adv hc hB (by omega) (by omega)
        obtain ⟨s1, b1, b2, b3⟩ := i6 (gadv s) d a.1 (by omega)
        have e := g_emt (cn := cn) (s := s1) (p := (21, 0))
        obtain ⟨s2, k1, k2, k3⟩ := i15 (gemt (21, 0) s1) d (e.1.2 b2) (by omega)
        exact ⟨s2, .boO c b1 k1, k2, by omega⟩
      · exact ⟨s, .boE c, hB, Nat.le_refl _⟩
    have h5 : gT tk mo cn 5 (n + 1) := fun s d hB hw => by
      obtain ⟨s1, a1, a2, a3⟩ := h6 s d hB hw
      obtain ⟨s2, b1, b2, b3⟩ := h15 s1 d a2 (by omega)
      exact ⟨s2, .bot a1 b1, b2, by omega⟩
    have h14 : gT tk mo cn 14 (n + 1) := fun s d hB hw => by
      by_cases c : gcur tk s = 26
      · have a := g_adv hc hB (by omega) (by omega)
        obtain ⟨s1, b1, b2, b3⟩ := i5 (gadv s) d a.1 (by omega)
        have e := g_emt (cn := cn) (s := s1) (p := (22, 0))
        obtain ⟨s2, k1, k2, k3⟩ := i14 (gemt (22, 0) s1) d (e.1.2 b2) (by omega)
        exact ⟨s2, .eiO c b1 k1, k2, by omega⟩
      · exact ⟨s, .eiE c, hB, Nat.le_refl _⟩
    have h4 : gT tk mo cn 4 (n + 1) := fun s d hB hw => by
      obtain ⟨s1, a1, a2, a3⟩ := h5 s d hB hw
      obtain ⟨s2, b1, b2, b3⟩ := h14 s1 d a2 (by omega)
      exact ⟨s2, .eit a1 b1, b2, by omega⟩
    have h3 : gT tk mo cn 3 (n + 1) := fun s d hB hw => by
      obtain ⟨s1, a1, a2, a3⟩ := h4 s d hB hw
      have e1 := g_exp hc (c := 23) (by omega) (by omega) a2
      obtain ⟨s2, b1, b2, b3⟩ := h0 (gexp tk 23 s1) d e1.1 (by omega)
      have e2 := g_exp hc (c := 24) (by omega) (by omega) b2
      obtain ⟨s3, c1, c2, c3⟩ := h0 (gexp tk 24 s2) d e2.1 (by omega)
      have e3 := g_exp hc (c := 25) (by omega) (by omega) c2
      have e4 := g_emt (cn := cn) (s := gexp tk 25 s3) (p := (3, 0))
      exact ⟨_, .cho a1 b1 c1, e4.1.2 e3.1, by omega⟩
    exact ⟨h0, h1, h2, h3, h4, h5, h6, h10, h11, h14, h15⟩
end GG
