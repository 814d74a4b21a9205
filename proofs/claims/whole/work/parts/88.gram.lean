-- ===== reading a law: what is asked for, as a relation =====
abbrev gs := (Nat × List (Int × Int)) ⊕ (Int × Nat)
def gcur (tk : Nat → Int) : gs → Int
  | .inl (j, _) => tk j
  | .inr (_, _) => 45
def gadv : gs → gs
  | .inl (j, o) => (.inl ((j + 1), o))
  | .inr (k, e) => (.inr (k, e))
def gemt (p : Int × Int) : gs → gs
  | .inl (j, o) => (.inl (j, (o ++ [p])))
  | .inr (k, e) => (.inr (k, e))
def gfal (k : Int) : gs → gs
  | .inl (j, _) => (.inr (k, j))
  | .inr (k', e) => (.inr (k', e))
def gexp (tk : Nat → Int) (c : Int) (s : gs) : gs := if gcur tk s = c then gadv s else gfal 1 s
def okn (mo : Bool) (c : Int) : Prop := (mo = true → c < 9) ∧ (mo = false → c < 6 ∨ 8 < c)
def uop (c : Int) : Int := if c = 35 then 5 else if c = 20 then 4 else 2
def isC (c : Int) : Prop := (30 ≤ c ∧ c ≤ 33) ∨ c = 41 ∨ c = 42
def cop (c : Int) : Int := if c = 30 then 10 else if c = 41 then 11 else if c = 31 then 12 else if c = 42 then 13 else if c = 32 then 14 else 15
def isU (c : Int) : Prop := c = 35 ∨ c = 20 ∨ c = 21
def isB (c : Int) : Prop := c = 38 ∨ c = 22 ∨ isU c
def ggc (tk : Nat → Int) (mo : Bool) (R : Nat → Nat → gs → gs → Prop) : Prop := (∀ (d : Nat) (s : gs) (s1 : gs) (s2 : gs), R 1 d s s1 → R 10 d s1 s2 → R 0 d s s2)
  ∧ (∀ (d : Nat) (s : gs), ¬ (gcur tk s = 34 ∨ gcur tk s = 35) → R 10 d s s)
  ∧ (∀ (d : Nat) (s : gs) (s1 : gs) (s2 : gs), (gcur tk s = 34 ∨ gcur tk s = 35) → R 1 d (gadv s) s1 → R 10 d (gemt (gcur tk s - 28, 0) s1) s2 → R 10 d s s2)
  ∧ (∀ (d : Nat) (s : gs) (s1 : gs) (s2 : gs), R 2 d s s1 → R 11 d s1 s2 → R 1 d s s2)
  ∧ (∀ (d : Nat) (s : gs), ¬ (gcur tk s = 36 ∨ gcur tk s = 37) → R 11 d s s)
  ∧ (∀ (d : Nat) (s : gs) (s1 : gs) (s2 : gs), (gcur tk s = 36 ∨ gcur tk s = 37) → R 2 d (gadv s) s1 → R 11 d (gemt (gcur tk s - 28, 0) s1) s2 → R 11 d s s2)
  ∧ (∀ (d : Nat) (s : gs), 100 ≤ gcur tk s → gcur tk s ≤ 10099 → R 2 d s (gemt (0, gcur tk s - 100) (gadv s)))
  ∧ (∀ (d : Nat) (s : gs), 10099 < gcur tk s → R 2 d s (gfal 2 s))
  ∧ (∀ (d : Nat) (s : gs), 0 ≤ gcur tk s → gcur tk s ≤ 10 → okn mo (gcur tk s) → R 2 d s (gemt (1, gcur tk s) (gadv s)))
  ∧ (∀ (d : Nat) (s : gs), 0 ≤ gcur tk s → gcur tk s ≤ 10 → ¬ okn mo (gcur tk s) → R 2 d s (gfal 5 s))
  ∧ (∀ (d : Nat) (s : gs), gcur tk s < 100 → ¬ (0 ≤ gcur tk s ∧ gcur tk s ≤ 10) → ¬ isB (gcur tk s) → R 2 d s (gfal 1 s))
  ∧ (∀ (d : Nat) (s : gs), isB (gcur tk s) → 8 ≤ d → R 2 d s (gfal 3 s))
  ∧ (∀ (d : Nat) (s : gs) (s1 : gs), gcur tk s = 38 → d < 8 → R 0 (d + 1) (gadv s) s1 → R 2 d s (gexp tk 39 s1))
  ∧ (∀ (d : Nat) (s : gs) (s1 : gs), isU (gcur tk s) → d < 8 → R 2 (d + 1) (gadv s) s1 → R 2 d s (gemt (uop (gcur tk s), 0) s1))
  ∧ (∀ (d : Nat) (s : gs) (s1 : gs), gcur tk s = 22 → d < 8 → R 3 (d + 1) (gadv s) s1 → R 2 d s s1)
  ∧ (∀ (d : Nat) (s : gs) (s1 : gs) (s2 : gs) (s3 : gs), R 4 d s s1 → R 0 d (gexp tk 23 s1) s2 → R 0 d (gexp tk 24 s2) s3 → R 3 d s (gemt (3, 0) (gexp tk 25 s3)))
  ∧ (∀ (d : Nat) (s : gs) (s1 : gs) (s2 : gs), R 5 d s s1 → R 14 d s1 s2 → R 4 d s s2)
  ∧ (∀ (d : Nat) (s : gs), gcur tk s ≠ 26 → R 14 d s s)
  ∧ (∀ (d : Nat) (s : gs) (s1 : gs) (s2 : gs), gcur tk s = 26 → R 5 d (gadv s) s1 → R 14 d (gemt (22, 0) s1) s2 → R 14 d s s2)
  ∧ (∀ (d : Nat) (s : gs) (s1 : gs) (s2 : gs), R 6 d s s1 → R 15 d s1 s2 → R 5 d s s2)
  ∧ (∀ (d : Nat) (s : gs), gcur tk s ≠ 27 → R 15 d s s)
  ∧ (∀ (d : Nat) (s : gs) (s1 : gs) (s2 : gs), gcur tk s = 27 → R 6 d (gadv s) s1 → R 15 d (gemt (21, 0) s1) s2 → R 15 d s s2)
  ∧ (∀ (d : Nat) (s : gs) (s1 : gs), gcur tk s = 28 → d < 8 → R 6 (d + 1) (gadv s) s1 → R 6 d s (gemt (20, 0) s1))
  ∧ (∀ (d : Nat) (s : gs), gcur tk s = 28 → 8 ≤ d → R 6 d s (gfal 3 s))
  ∧ (∀ (d : Nat) (s : gs) (s1 : gs) (s2 : gs), gcur tk s ≠ 28 → R 0 d s s1 → isC (gcur tk s1) → R 0 d (gadv s1) s2 → R 6 d s (gemt (cop (gcur tk s1), 0) s2))
  ∧ (∀ (d : Nat) (s : gs) (s1 : gs), gcur tk s ≠ 28 → R 0 d s s1 → ¬ isC (gcur tk s1) → R 6 d s (gfal 1 s1))
def gg (tk : Nat → Int) (mo : Bool) (m : Nat) (d : Nat) (s : gs) (s' : gs) : Prop := ∀ R : Nat → Nat → gs → gs → Prop, ggc tk mo R → R m d s s'
section GGE
variable {tk : Nat → Int} {mo : Bool}
theorem gg_sum {d : Nat} {s : gs} {s1 : gs} {s2 : gs} (h0 : gg tk mo 1 d s s1) (h1 : gg tk mo 10 d s1 s2) : gg tk mo 0 d s s2 := fun R h => h.1 d s s1 s2 (h0 R h) (h1 R h)
theorem gg_smE {d : Nat} {s : gs} (h0 : ¬ (gcur tk s = 34 ∨ gcur tk s = 35)) : gg tk mo 10 d s s := fun R h => h.2.1 d s h0
theorem gg_smO {d : Nat} {s : gs} {s1 : gs} {s2 : gs} (h0 : (gcur tk s = 34 ∨ gcur tk s = 35)) (h1 : gg tk mo 1 d (gadv s) s1) (h2 : gg tk mo 10 d (gemt (gcur tk s - 28, 0) s1) s2) : gg tk mo 10 d s s2 := fun R h => h.2.2.1 d s s1 s2 h0 (h1 R h) (h2 R h)
theorem gg_pro {d : Nat} {s : gs} {s1 : gs} {s2 : gs} (h0 : gg tk mo 2 d s s1) (h1 : gg tk mo 11 d s1 s2) : gg tk mo 1 d s s2 := fun R h => h.2.2.2.1 d s s1 s2 (h0 R h) (h1 R h)
theorem gg_prE {d : Nat} {s : gs} (h0 : ¬ (gcur tk s = 36 ∨ gcur tk s = 37)) : gg tk mo 11 d s s := fun R h => h.2.2.2.2.1 d s h0
theorem gg_prO {d : Nat} {s : gs} {s1 : gs} {s2 : gs} (h0 : (gcur tk s = 36 ∨ gcur tk s = 37)) (h1 : gg tk mo 2 d (gadv s) s1) (h2 : gg tk mo 11 d (gemt (gcur tk s - 28, 0) s1) s2) : gg tk mo 11 d s s2 := fun R h => h.2.2.2.2.2.1 d s s1 s2 h0 (h1 R h) (h2 R h)
theorem gg_num {d : Nat} {s : gs} (h0 : 100 ≤ gcur tk s) (h1 : gcur tk s ≤ 10099) : gg tk mo 2 d s (gemt (0, gcur tk s - 100) (gadv s)) := fun R h => h.2.2.2.2.2.2.1 d s h0 h1
theorem gg_big {d : Nat} {s : gs} (h0 : 10099 < gcur tk s) : gg tk mo 2 d s (gfal 2 s) := fun R h => h.2.2.2.2.2.2.2.1 d s h0
theorem gg_nam {d : Nat} {s : gs} (h0 : 0 ≤ gcur tk s) (h1 : gcur tk s ≤ 10) (h2 : okn mo (gcur tk s)) : gg tk mo 2 d s (gemt (1, gcur tk s) (gadv s)) := fun R h => h.2.2.2.2.2.2.2.2.1 d s h0 h1 h2
theorem gg_noN {d : Nat} {s : gs} (h0 : 0 ≤ gcur tk s) (h1 : gcur tk s ≤ 10) (h2 : ¬ okn mo (gcur tk s)) : gg tk mo 2 d s (gfal 5 s) := fun R h => h.2.2.2.2.2.2.2.2.2.1 d s h0 h1 h2
theorem gg_non {d : Nat} {s : gs} (h0 : gcur tk s < 100) (h1 : ¬ (0 ≤ gcur tk s ∧ gcur tk s ≤ 10)) (h2 : ¬ isB (gcur tk s)) : gg tk mo 2 d s (gfal 1 s) := fun R h => h.2.2.2.2.2.2.2.2.2.2.1 d s h0 h1 h2
theorem gg_dee {d : Nat} {s : gs} (h0 : isB (gcur tk s)) (h1 : 8 ≤ d) : gg tk mo 2 d s (gfal 3 s) := fun R h => h.2.2.2.2.2.2.2.2.2.2.2.1 d s h0 h1
theorem gg_par {d : Nat} {s : gs} {s1 : gs} (h0 : gcur tk s = 38) (h1 : d < 8) (h2 : gg tk mo 0 (d + 1) (gadv s) s1) : gg tk mo 2 d s (gexp tk 39 s1) := fun R h => h.2.2.2.2.2.2.2.2.2.2.2.2.1 d s s1 h0 h1 (h2 R h)
theorem gg_una {d : Nat} {s : gs} {s1 : gs} (h0 : isU (gcur tk s)) (h1 : d < 8) (h2 : gg tk mo 2 (d + 1) (gadv s) s1) : gg tk mo 2 d s (gemt (uop (gcur tk s), 0) s1) := fun R h => h.2.2.2.2.2.2.2.2.2.2.2.2.2.1 d s s1 h0 h1 (h2 R h)
theorem gg_iff {d : Nat} {s : gs} {s1 : gs} (h0 : gcur tk s = 22) (h1 : d < 8) (h2 : gg tk mo 3 (d + 1) (gadv s) s1) : gg tk mo 2 d s s1 := fun R h => h.2.2.2.2.2.2.2.2.2.2.2.2.2.2.1 d s s1 h0 h1 (h2 R h)
theorem gg_cho {d : Nat} {s : gs} {s1 : gs} {s2 : gs} {s3 : gs} (h0 : gg tk mo 4 d s s1) (h1 : gg tk mo 0 d (gexp tk 23 s1) s2) (h2 : gg tk mo 0 d (gexp tk 24 s2) s3) : gg tk mo 3 d s (gemt (3, 0) (gexp tk 25 s3)) := fun R h => h.2.2.2.2.2.2.2.2.2.2.2.2.2.2.2.1 d s s1 s2 s3 (h0 R h) (h1 R h) (h2 R h)
theorem gg_eit {d : Nat} {s : gs} {s1 : gs} {s2 : gs} (h0 : gg tk mo 5 d s s1) (h1 : gg tk mo 14 d s1 s2) : gg tk mo 4 d s s2 := fun R h => h.2.2.2.2.2.2.2.2.2.2.2.2.2.2.2.2.1 d s s1 s2 (h0 R h) (h1 R h)
theorem gg_eiE {d : Nat} {s : gs} (h0 : gcur tk s ≠ 26) : gg tk mo 14 d s s := fun R h => h.2.2.2.2.2.2.2.2.2.2.2.2.2.2.2.2.2.1 d s h0
theorem gg_eiO {d : Nat} {s : gs} {s1 : gs} {s2 : gs} (h0 : gcur tk s = 26) (h1 : gg tk mo 5 d (gadv s) s1) (h2 : gg tk mo 14 d (gemt (22, 0) s1) s2) : gg tk mo 14 d s s2 := fun R h => h.2.2.2.2.2.2.2.2.2.2.2.2.2.2.2.2.2.2.1 d s s1 s2 h0 (h1 R h) (h2 R h)
theorem gg_bot {d : Nat} {s : gs} {s1 : gs} {s2 : gs} (h0 : gg tk mo 6 d s s1) (h1 : gg tk mo 15 d s1 s2) : gg tk mo 5 d s s2 := fun R h => h.2.2.2.2.2.2.2.2.2.2.2.2.2.2.2.2.2.2.2.1 d s s1 s2 (h0 R h) (h1 R h)
theorem gg_boE {d : Nat} {s : gs} (h0 : gcur tk s ≠ 27) : gg tk mo 15 d s s := fun R h => h.2.2.2.2.2.2.2.2.2.2.2.2.2.2.2.2.2.2.2.2.1 d s h0
theorem gg_boO {d : Nat} {s : gs} {s1 : gs} {s2 : gs} (h0 : gcur tk s = 27) (h1 : gg tk mo 6 d (gadv s) s1) (h2 : gg tk mo 15 d (gemt (21, 0) s1) s2) : gg tk mo 15 d s s2 := fun R h => h.2.2.2.2.2.2.2.2.2.2.2.2.2.2.2.2.2.2.2.2.2.1 d s s1 s2 h0 (h1 R h) (h2 R h)
theorem gg_nott {d : Nat} {s : gs} {s1 : gs} (h0 : gcur tk s = 28) (h1 : d < 8) (h2 : gg tk mo 6 (d + 1) (gadv s) s1) : gg tk mo 6 d s (gemt (20, 0) s1) := fun R h => h.2.2.2.2.2.2.2.2.2.2.2.2.2.2.2.2.2.2.2.2.2.2.1 d s s1 h0 h1 (h2 R h)
theorem gg_noD {d : Nat} {s : gs} (h0 : gcur tk s = 28) (h1 : 8 ≤ d) : gg tk mo 6 d s (gfal 3 s) := fun R h => h.2.2.2.2.2.2.2.2.2.2.2.2.2.2.2.2.2.2.2.2.2.2.2.1 d s h0 h1
theorem gg_ask {d : Nat} {s : gs} {s1 : gs} {s2 : gs} (h0 : gcur tk s ≠ 28) (h1 : gg tk mo 0 d s s1) (h2 : isC (gcur tk s1)) (h3 : gg tk mo 0 d (gadv s1) s2) : gg tk mo 6 d s (gemt (cop (gcur tk s1), 0) s2) := fun R h => h.2.2.2.2.2.2.2.2.2.2.2.2.2.2.2.2.2.2.2.2.2.2.2.2.1 d s s1 s2 h0 (h1 R h) h2 (h3 R h)
theorem gg_asF {d : Nat} {s : gs} {s1 : gs} (h0 : gcur tk s ≠ 28) (h1 : gg tk mo 0 d s s1) (h2 : ¬ isC (gcur tk s1)) : gg tk mo 6 d s (gfal 1 s1) := fun R h => h.2.2.2.2.2.2.2.2.2.2.2.2.2.2.2.2.2.2.2.2.2.2.2.2.2 d s s1 h0 (h1 R h) h2
theorem gg_ind {C : Nat → Nat → gs → gs → Prop} {m : Nat} {d : Nat} {s : gs} {s' : gs} (h : gg tk mo m d s s')
  (r_sum : ∀ (d : Nat) (s : gs) (s1 : gs) (s2 : gs), gg tk mo 1 d s s1 → C 1 d s s1 → gg tk mo 10 d s1 s2 → C 10 d s1 s2 → C 0 d s s2)
  (r_smE : ∀ (d : Nat) (s : gs), ¬ (gcur tk s = 34 ∨ gcur tk s = 35) → C 10 d s s)
  (r_smO : ∀ (d : Nat) (s : gs) (s1 : gs) (s2 : gs), (gcur tk s = 34 ∨ gcur tk s = 35) → gg tk mo 1 d (gadv s) s1 → C 1 d (gadv s) s1 → gg tk mo 10 d (gemt (gcur tk s - 28, 0) s1) s2 → C 10 d (gemt (gcur tk s - 28, 0) s1) s2 → C 10 d s s2)
  (r_pro : ∀ (d : Nat) (s : gs) (s1 : gs) (s2 : gs), gg tk mo 2 d s s1 → C 2 d s s1 → gg tk mo 11 d s1 s2 → C 11 d s1 s2 → C 1 d s s2)
  (r_prE : ∀ (d : Nat) (s : gs), ¬ (gcur tk s = 36 ∨ gcur tk s = 37) → C 11 d s s)
  (r_prO : ∀ (d : Nat) (s : gs) (s1 : gs) (s2 : gs), (gcur tk s = 36 ∨ gcur tk s = 37) → gg tk mo 2 d (gadv s) s1 → C 2 d (gadv s) s1 → gg tk mo 11 d (gemt (gcur tk s - 28, 0) s1) s2 → C 11 d (gemt (gcur tk s - 28, 0) s1) s2 → C 11 d s s2)
  (r_num : ∀ (d : Nat) (s : gs), 100 ≤ gcur tk s → gcur tk s ≤ 10099 → C 2 d s (gemt (0, gcur tk s - 100) (gadv s)))
  (r_big : ∀ (d : Nat) (s : gs), 10099 < gcur tk s → C 2 d s (gfal 2 s))
  (r_nam : ∀ (d : Nat) (s : gs), 0 ≤ gcur tk s → gcur tk s ≤ 10 → okn mo (gcur tk s) → C 2 d s (gemt (1, gcur tk s) (gadv s)))
  (r_noN : ∀ (d : Nat) (s : gs), 0 ≤ gcur tk s → gcur tk s ≤ 10 → ¬ okn mo (gcur tk s) → C 2 d s (gfal 5 s))
  (r_non : ∀ (d : Nat) (s : gs), gcur tk s < 100 → ¬ (0 ≤ gcur tk s ∧ gcur tk s ≤ 10) → ¬ isB (gcur tk s) → C 2 d s (gfal 1 s))
  (r_dee : ∀ (d : Nat) (s : gs), isB (gcur tk s) → 8 ≤ d → C 2 d s (gfal 3 s))
  (r_par : ∀ (d : Nat) (s : gs) (s1 : gs), gcur tk s = 38 → d < 8 → gg tk mo 0 (d + 1) (gadv s) s1 → C 0 (d + 1) (gadv s) s1 → C 2 d s (gexp tk 39 s1))
  (r_una : ∀ (d : Nat) (s : gs) (s1 : gs), isU (gcur tk s) → d < 8 → gg tk mo 2 (d + 1) (gadv s) s1 → C 2 (d + 1) (gadv s) s1 → C 2 d s (gemt (uop (gcur tk s), 0) s1))
  (r_iff : ∀ (d : Nat) (s : gs) (s1 : gs), gcur tk s = 22 → d < 8 → gg tk mo 3 (d + 1) (gadv s) s1 → C 3 (d + 1) (gadv s) s1 → C 2 d s s1)
  (r_cho : ∀ (d : Nat) (s : gs) (s1 : gs) (s2 : gs) (s3 : gs), gg tk mo 4 d s s1 → C 4 d s s1 → gg tk mo 0 d (gexp tk 23 s1) s2 → C 0 d (gexp tk 23 s1) s2 → gg tk mo 0 d (gexp tk 24 s2) s3 → C 0 d (gexp tk 24 s2) s3 → C 3 d s (gemt (3, 0) (gexp tk 25 s3)))
  (r_eit : ∀ (d : Nat) (s : gs) (s1 : gs) (s2 : gs), gg tk mo 5 d s s1 → C 5 d s s1 → gg tk mo 14 d s1 s2 → C 14 d s1 s2 → C 4 d s s2)
  (r_eiE : ∀ (d : Nat) (s : gs), gcur tk s ≠ 26 → C 14 d s s)
  (r_eiO : ∀ (d : Nat) (s : gs) (s1 : gs) (s2 : gs), gcur tk s = 26 → gg tk mo 5 d (gadv s) s1 → C 5 d (gadv s) s1 → gg tk mo 14 d (gemt (22, 0) s1) s2 → C 14 d (gemt (22, 0) s1) s2 → C 14 d s s2)
  (r_bot : ∀ (d : Nat) (s : gs) (s1 : gs) (s2 : gs), gg tk mo 6 d s s1 → C 6 d s s1 → gg tk mo 15 d s1 s2 → C 15 d s1 s2 → C 5 d s s2)
  (r_boE : ∀ (d : Nat) (s : gs), gcur tk s ≠ 27 → C 15 d s s)
  (r_boO : ∀ (d : Nat) (s : gs) (s1 : gs) (s2 : gs), gcur tk s = 27 → gg tk mo 6 d (gadv s) s1 → C 6 d (gadv s) s1 → gg tk mo 15 d (gemt (21, 0) s1) s2 → C 15 d (gemt (21, 0) s1) s2 → C 15 d s s2)
  (r_nott : ∀ (d : Nat) (s : gs) (s1 : gs), gcur tk s = 28 → d < 8 → gg tk mo 6 (d + 1) (gadv s) s1 → C 6 (d + 1) (gadv s) s1 → C 6 d s (gemt (20, 0) s1))
  (r_noD : ∀ (d : Nat) (s : gs), gcur tk s = 28 → 8 ≤ d → C 6 d s (gfal 3 s))
  (r_ask : ∀ (d : Nat) (s : gs) (s1 : gs) (s2 : gs), gcur tk s ≠ 28 → gg tk mo 0 d s s1 → C 0 d s s1 → isC (gcur tk s1) → gg tk mo 0 d (gadv s1) s2 → C 0 d (gadv s1) s2 → C 6 d s (gemt (cop (gcur tk s1), 0) s2))
  (r_asF : ∀ (d : Nat) (s : gs) (s1 : gs), gcur tk s ≠ 28 → gg tk mo 0 d s s1 → C 0 d s s1 → ¬ isC (gcur tk s1) → C 6 d s (gfal 1 s1))
  : C m d s s' :=
  (h (fun m d s s' => gg tk mo m d s s' ∧ C m d s s') ⟨fun d s s1 s2 h0 h1 => ⟨gg_sum h0.1 h1.1, r_sum d s s1 s2 h0.1 h0.2 h1.1 h1.2⟩,
    fun d s h0 => ⟨gg_smE h0, r_smE d s h0⟩,
    fun d s s1 s2 h0 h1 h2 => ⟨gg_smO h0 h1.1 h2.1, r_smO d s s1 s2 h0 h1.1 h1.2 h2.1 h2.2⟩,
    fun d s s1 s2 h0 h1 => ⟨gg_pro h0.1 h1.1, r_pro d s s1 s2 h0.1 h0.2 h1.1 h1.2⟩,
    fun d s h0 => ⟨gg_prE h0, r_prE d s h0⟩,
    fun d s s1 s2 h0 h1 h2 => ⟨gg_prO h0 h1.1 h2.1, r_prO d s s1 s2 h0 h1.1 h1.2 h2.1 h2.2⟩,
    fun d s h0 h1 => ⟨gg_num h0 h1, r_num d s h0 h1⟩,
    fun d s h0 => ⟨gg_big h0, r_big d s h0⟩,
    fun d s h0 h1 h2 => ⟨gg_nam h0 h1 h2, r_nam d s h0 h1 h2⟩,
    fun d s h0 h1 h2 => ⟨gg_noN h0 h1 h2, r_noN d s h0 h1 h2⟩,
    fun d s h0 h1 h2 => ⟨gg_non h0 h1 h2, r_non d s h0 h1 h2⟩,
    fun d s h0 h1 => ⟨gg_dee h0 h1, r_dee d s h0 h1⟩,
    fun d s s1 h0 h1 h2 => ⟨gg_par h0 h1 h2.1, r_par d s s1 h0 h1 h2.1 h2.2⟩,
    fun d s s1 h0 h1 h2 => ⟨gg_una h0 h1 h2.1, r_una d s s1 h0 h1 h2.1 h2.2⟩,
    fun d s s1 h0 h1 h2 => ⟨gg_iff h0 h1 h2.1, r_iff d s s1 h0 h1 h2.1 h2.2⟩,
    fun d s s1 s2 s3 h0 h1 h2 => ⟨gg_cho h0.1 h1.1 h2.1, r_cho d s s1 s2 s3 h0.1 h0.2 h1.1 h1.2 h2.1 h2.2⟩,
    fun d s s1 s2 h0 h1 => ⟨gg_eit h0.1 h1.1, r_eit d s s1 s2 h0.1 h0.2 h1.1 h1.2⟩,
    fun d s h0 => ⟨gg_eiE h0, r_eiE d s h0⟩,
    fun d s s1 s2 h0 h1 h2 => ⟨gg_eiO h0 h1.1 h2.1, r_eiO d s s1 s2 h0 h1.1 h1.2 h2.1 h2.2⟩,
    fun d s s1 s2 h0 h1 => ⟨gg_bot h0.1 h1.1, r_bot d s s1 s2 h0.1 h0.2 h1.1 h1.2⟩,
    fun d s h0 => ⟨gg_boE h0, r_boE d s h0⟩,
    fun d s s1 s2 h0 h1 h2 => ⟨gg_boO h0 h1.1 h2.1, r_boO d s s1 s2 h0 h1.1 h1.2 h2.1 h2.2⟩,
    fun d s s1 h0 h1 h2 => ⟨gg_nott h0 h1 h2.1, r_nott d s s1 h0 h1 h2.1 h2.2⟩,
    fun d s h0 h1 => ⟨gg_noD h0 h1, r_noD d s h0 h1⟩,
    fun d s s1 s2 h0 h1 h2 h3 => ⟨gg_ask h0 h1.1 h2 h3.1, r_ask d s s1 s2 h0 h1.1 h1.2 h2 h3.1 h3.2⟩,
    fun d s s1 h0 h1 h2 => ⟨gg_asF h0 h1.1 h2, r_asF d s s1 h0 h1.1 h1.2 h2⟩⟩).2
end GGE
section GG
variable {tk : Nat → Int} {mo : Bool}
-- from a fault nothing but that fault
theorem gg_bad {m d : Nat} {s s' : gs} (h : gg tk mo m d s s') : ∀ k e, s = (.inr (k, e)) → s' = (.inr (k, e)) := by
  refine gg_ind (C := fun m d s s' => ∀ k e, s = .inr (k, e) → s' = .inr (k, e)) h ?r_sum ?r_smE ?r_smO ?r_pro ?r_prE ?r_prO ?r_num ?r_big ?r_nam ?r_noN ?r_non ?r_dee ?r_par ?r_una ?r_iff ?r_cho ?r_eit ?r_eiE ?r_eiO ?r_bot ?r_boE ?r_boO ?r_nott ?r_noD ?r_ask ?r_asF
  case r_sum =>
    intro _ _ _ _ _ i1 _ i2
    exact fun k e h => i2 k e (i1 k e h)
  case r_smE =>
    intro _ _ _
    exact fun k e h => h
  case r_smO =>
    intro _ _ _ _ c _ _ _ _
    intro k e h; subst h; exact absurd c (by simp [gcur])
  case r_pro =>
    intro _ _ _ _ _ i1 _ i2
    exact fun k e h => i2 k e (i1 k e h)
  case r_prE =>
    intro _ _ _
    exact fun k e h => h
  case r_prO =>
    intro _ _ _ _ c _ _ _ _
    intro k e h; subst h; exact absurd c (by simp [gcur])
  case r_num =>
    intro _ _ c _
    intro k e h; subst h; exact absurd c (by simp [gcur])
  case r_big =>
    intro _ _ _
    intro k e h; subst h; rfl
  case r_nam =>
    intro _ _ _ c _
    intro k e h; subst h; exact absurd c (by simp [gcur])
  case r_noN =>
    intro _ _ _ _ _
    intro k e h; subst h; rfl
  case r_non =>
    intro _ _ _ _ _
    intro k e h; subst h; rfl
  case r_dee =>
    intro _ _ _ _
    intro k e h; subst h; rfl
  case r_par =>
    intro _ _ _ c _ _ _
    intro k e h; subst h; exact absurd c (by simp [gcur])
  case r_una =>
    intro _ _ _ c _ _ _
    intro k e h; subst h; exact absurd c (by simp [gcur, isU])
  case r_iff =>
    intro _ _ _ c _ _ _
    intro k e h; subst h; exact absurd c (by simp [gcur])
  case r_cho =>
    intro _ _ _ _ _ _ i1 _ i2 _ i3
    intro k e h
    have a1 := i1 k e h
    subst a1
    have a2 := i2 k e (by simp [gexp, gcur, gfal])
    subst a2
    have a3 := i3 k e (by simp [gexp, gcur, gfal])
    subst a3
    simp [gexp, gcur, gfal, gemt]
  case r_eit =>
    intro _ _ _ _ _ i1 _ i2
    exact fun k e h => i2 k e (i1 k e h)
  case r_eiE =>
    intro _ _ _
    exact fun k e h => h
  case r_eiO =>
    intro _ _ _ _ c _ _ _ _
    intro k e h; subst h; exact absurd c (by simp [gcur])
  case r_bot =>
    intro _ _ _ _ _ i1 _ i2
    exact fun k e h => i2 k e (i1 k e h)
  case r_boE =>
    intro _ _ _
    exact fun k e h => h
  case r_boO =>
    intro _ _ _ _ c _ _ _ _
    intro k e h; subst h; exact absurd c (by simp [gcur])
  case r_nott =>
    intro _ _ _ c _ _ _
    intro k e h; subst h; exact absurd c (by simp [gcur])
  case r_noD =>
    intro _ _ _ _
    intro k e h; subst h; rfl
  case r_ask =>
    intro _ _ _ _ _ _ i1 c _ _
    intro k e h; have a := i1 k e h; subst a; exact absurd c (by simp [gcur, isC])
  case r_asF =>
    intro _ _ _ _ _ i1 _
    intro k e h; have a := i1 k e h; subst a; rfl
-- it is there for every state
def gB (cn : Nat) : gs → Prop
  | .inl (j, _) => j ≤ cn
  | .inr (_, e) => e ≤ cn
def gw (cn : Nat) : gs → Nat
  | .inl (j, _) => cn - j
  | .inr (_, _) => 0
def gT (tk : Nat → Int) (mo : Bool) (cn m n : Nat) : Prop := ∀ s d, gB cn s → gw cn s ≤ n → ∃ s', gg tk mo m d s s' ∧ gB cn s' ∧ gw cn s' ≤ gw cn s
variable {cn : Nat}
theorem g_adv (hc : tk cn = 44) {s : gs} (hB : gB cn s) (c : gcur tk s ≠ 44) (c2 : gcur tk s ≠ 45) : gB cn (gadv s) ∧ gw cn (gadv s) + 1 ≤ gw cn s := by
  cases s with
  | inr p => obtain ⟨k, e⟩ := p; exact absurd rfl c2
  | inl p =>
    obtain ⟨j, o⟩ := p
    have h1 : j ≤ cn := hB
    have : j ≠ cn := fun e => c (by rw [gcur, e]; exact hc)
    refine ⟨?_, ?_⟩
    · show j + 1 ≤ cn; omega
    · show cn - (j + 1) + 1 ≤ cn - j; omega
theorem g_emt {s : gs} {p : Int × Int} : (gB cn (gemt p s) ↔ gB cn s) ∧ gw cn (gemt p s) = gw cn s := by
  cases s <;> exact ⟨Iff.rfl, rfl⟩
theorem g_fal {s : gs} {k : Int} (hB : gB cn s) : gB cn (gfal k s) ∧ gw cn (gfal k s) ≤ gw cn s := by
  cases s with
  | inl p => obtain ⟨j, o⟩ := p; exact ⟨hB, Nat.zero_le _⟩
  | inr p => obtain ⟨k, e⟩ := p; exact ⟨hB, Nat.le_refl _⟩
theorem g_exp (hc : tk cn = 44) {s : gs} {c : Int} (c1 : c ≠ 44) (c2 : c ≠ 45) (hB : gB cn s) : gB cn (gexp tk c s) ∧ gw cn (gexp tk c s) ≤ gw cn s := by
  unfold gexp
  by_cases d : gcur tk s = c
  · rw [if_pos d]
    have := g_adv hc hB (by rw [d]; exact c1) (by rw [d]; exact c2)
    exact ⟨this.1, by omega⟩
  · rw [if_neg d]; exact g_fal hB
theorem g_all (hc : tk cn = 44) : ∀ n, gT tk mo cn 0 n ∧ gT tk mo cn 1 n ∧ gT tk mo cn 2 n ∧ gT tk mo cn 3 n ∧ gT tk mo cn 4 n ∧ gT tk mo cn 5 n ∧ gT tk mo cn 6 n ∧ gT tk mo cn 10 n ∧ gT tk mo cn 11 n ∧ gT tk mo cn 14 n ∧ gT tk mo cn 15 n := by
  intro n
  induction n with
  | zero =>
    -- nothing is left: the tape's end, or a fault
    have h2 : gT tk mo cn 2 0 := fun s d hB hw => by
      have c : gcur tk s = 44 ∨ gcur tk s = 45 := by
        cases s with
        | inr p => obtain ⟨k, e⟩ := p; exact .inr rfl
        | inl p =>
          obtain ⟨j, o⟩ := p
          have h1 : j ≤ cn := hB
          have h2 : cn - j ≤ 0 := hw
          have : j = cn := by omega
          left; rw [gcur, this]; exact hc
      exact ⟨gfal 1 s, gg_non (by omega) (by omega) (by unfold isB isU; omega), g_fal hB⟩
    have tl : ∀ (m : Nat) (P : Int → Prop), (∀ d s, ¬ P (gcur tk s) → gg tk mo m d s s) → (¬ P 44 ∧ ¬ P 45) → gT tk mo cn m 0 := fun m P r p s d hB hw => by
      refine ⟨s, r d s ?_, hB, Nat.le_refl _⟩
      cases s with
      | inr p => obtain ⟨k, e⟩ := p; exact p.2
      | inl p =>
        obtain ⟨j, o⟩ := p
        have h1 : j ≤ cn := hB
        have h2 : cn - j ≤ 0 := hw
        have : j = cn := by omega
        rw [gcur, this, hc]; exact p.1
    have h11 : gT tk mo cn 11 0 := tl 11 (fun c => c = 36 ∨ c = 37) (fun d s c => gg_prE c) (by omega)
    have h10 : gT tk mo cn 10 0 := tl 10 (fun c => c = 34 ∨ c = 35) (fun d s c => gg_smE c) (by omega)
    have h14 : gT tk mo cn 14 0 := tl 14 (fun c => c = 26) (fun d s c => gg_eiE c) (by omega)
    have h15 : gT tk mo cn 15 0 := tl 15 (fun c => c = 27) (fun d s c => gg_boE c) (by omega)
    have h1 : gT tk mo cn 1 0 := fun s d hB hw => by
      obtain ⟨s1, a1, a2, a3⟩ := h2 s d hB hw
      obtain ⟨s2, b1, b2, b3⟩ := h11 s1 d a2 (by omega)
      exact ⟨s2, gg_pro a1 b1, b2, by omega⟩
    have h0 : gT tk mo cn 0 0 := fun s d hB hw => by
      obtain ⟨s1, a1, a2, a3⟩ := h1 s d hB hw
      obtain ⟨s2, b1, b2, b3⟩ := h10 s1 d a2 (by omega)
      exact ⟨s2, gg_sum a1 b1, b2, by omega⟩
    have h6 : gT tk mo cn 6 0 := fun s d hB hw => by
      have cz : ∀ s, gB cn s → gw cn s ≤ 0 → gcur tk s = 44 ∨ gcur tk s = 45 := fun s hB hw => by
        cases s with
        | inr p => obtain ⟨k, e⟩ := p; exact .inr rfl
        | inl p =>
          obtain ⟨j, o⟩ := p
          have h1 : j ≤ cn := hB
          have h2 : cn - j ≤ 0 := hw
          have : j = cn := by omega
          left; rw [gcur, this]; exact hc
      obtain ⟨s1, a1, a2, a3⟩ := h0 s d hB hw
      have c1 := cz s hB hw
      have c2 := cz s1 a2 (by omega)
      have f := g_fal (k := 1) a2
      exact ⟨gfal 1 s1, gg_asF (by omega) a1 (by unfold isC; omega), f.1, by omega⟩
    have h5 : gT tk mo cn 5 0 := fun s d hB hw => by
      obtain ⟨s1, a1, a2, a3⟩ := h6 s d hB hw
      obtain ⟨s2, b1, b2, b3⟩ := h15 s1 d a2 (by omega)
      exact ⟨s2, gg_bot a1 b1, b2, by omega⟩
    have h4 : gT tk mo cn 4 0 := fun s d hB hw => by
      obtain ⟨s1, a1, a2, a3⟩ := h5 s d hB hw
      obtain ⟨s2, b1, b2, b3⟩ := h14 s1 d a2 (by omega)
      exact ⟨s2, gg_eit a1 b1, b2, by omega⟩
    have h3 : gT tk mo cn 3 0 := fun s d hB hw => by
      obtain ⟨s1, a1, a2, a3⟩ := h4 s d hB hw
      have e1 := g_exp hc (c := 23) (by omega) (by omega) a2
      obtain ⟨s2, b1, b2, b3⟩ := h0 (gexp tk 23 s1) d e1.1 (by omega)
      have e2 := g_exp hc (c := 24) (by omega) (by omega) b2
      obtain ⟨s3, c1, c2, c3⟩ := h0 (gexp tk 24 s2) d e2.1 (by omega)
      have e3 := g_exp hc (c := 25) (by omega) (by omega) c2
      have e4 := g_emt (cn := cn) (s := gexp tk 25 s3) (p := (3, 0))
      exact ⟨_, gg_cho a1 b1 c1, e4.1.2 e3.1, by omega⟩
    exact ⟨h0, h1, h2, h3, h4, h5, h6, h10, h11, h14, h15⟩
  | succ n ih =>
    obtain ⟨i0, i1, i2, i3, i4, i5, i6, i10, i11, i14, i15⟩ := ih
    have h2 : gT tk mo cn 2 (n + 1) := fun s d hB hw => by
      by_cases c1 : 10099 < gcur tk s
      · exact ⟨_, gg_big c1, g_fal hB⟩
      by_cases c2 : 100 ≤ gcur tk s
      · have a := g_adv hc hB (by omega) (by omega)
        have e := g_emt (cn := cn) (s := gadv s) (p := (0, gcur tk s - 100))
        exact ⟨_, gg_num c2 (by omega), e.1.2 a.1, by omega⟩
      by_cases c3 : 0 ≤ gcur tk s ∧ gcur tk s ≤ 10
      · by_cases c4 : okn mo (gcur tk s)
        · have a := g_adv hc hB (by omega) (by omega)
          have e := g_emt (cn := cn) (s := gadv s) (p := (1, gcur tk s))
          exact ⟨_, gg_nam c3.1 c3.2 c4, e.1.2 a.1, by omega⟩
        · exact ⟨_, gg_noN c3.1 c3.2 c4, g_fal hB⟩
      by_cases c5 : isB (gcur tk s)
      · by_cases c6 : 8 ≤ d
        · exact ⟨_, gg_dee c5 c6, g_fal hB⟩
        · have a := g_adv hc hB (by unfold isB isU at c5; omega) (by unfold isB isU at c5; omega)
          by_cases c7 : gcur tk s = 38
          · obtain ⟨s1, b1, b2, b3⟩ := i0 (gadv s) (d + 1) a.1 (by omega)
            have e := g_exp hc (c := 39) (by omega) (by omega) b2
            exact ⟨_, gg_par c7 (by omega) b1, e.1, by omega⟩
          · by_cases c8 : gcur tk s = 22
            · obtain ⟨s1, b1, b2, b3⟩ := i3 (gadv s) (d + 1) a.1 (by omega)
              exact ⟨_, gg_iff c8 (by omega) b1, b2, by omega⟩
            · obtain ⟨s1, b1, b2, b3⟩ := i2 (gadv s) (d + 1) a.1 (by omega)
              have e := g_emt (cn := cn) (s := s1) (p := (uop (gcur tk s), 0))
              exact ⟨_, gg_una (by unfold isB isU at c5; unfold isU; omega) (by omega) b1, e.1.2 b2, by omega⟩
      · exact ⟨_, gg_non (by omega) c3 c5, g_fal hB⟩
    have h11 : gT tk mo cn 11 (n + 1) := fun s d hB hw => by
      by_cases c : gcur tk s = 36 ∨ gcur tk s = 37
      · have a := g_adv hc hB (by omega) (by omega)
        obtain ⟨s1, b1, b2, b3⟩ := i2 (gadv s) d a.1 (by omega)
        have e := g_emt (cn := cn) (s := s1) (p := (gcur tk s - 28, 0))
        obtain ⟨s2, k1, k2, k3⟩ := i11 (gemt (gcur tk s - 28, 0) s1) d (e.1.2 b2) (by omega)
        exact ⟨s2, gg_prO c b1 k1, k2, by omega⟩
      · exact ⟨s, gg_prE c, hB, Nat.le_refl _⟩
    have h1 : gT tk mo cn 1 (n + 1) := fun s d hB hw => by
      obtain ⟨s1, a1, a2, a3⟩ := h2 s d hB hw
      obtain ⟨s2, b1, b2, b3⟩ := h11 s1 d a2 (by omega)
      exact ⟨s2, gg_pro a1 b1, b2, by omega⟩
    have h10 : gT tk mo cn 10 (n + 1) := fun s d hB hw => by
      by_cases c : gcur tk s = 34 ∨ gcur tk s = 35
      · have a := g_adv hc hB (by omega) (by omega)
        obtain ⟨s1, b1, b2, b3⟩ := i1 (gadv s) d a.1 (by omega)
        have e := g_emt (cn := cn) (s := s1) (p := (gcur tk s - 28, 0))
        obtain ⟨s2, k1, k2, k3⟩ := i10 (gemt (gcur tk s - 28, 0) s1) d (e.1.2 b2) (by omega)
        exact ⟨s2, gg_smO c b1 k1, k2, by omega⟩
      · exact ⟨s, gg_smE c, hB, Nat.le_refl _⟩
    have h0 : gT tk mo cn 0 (n + 1) := fun s d hB hw => by
      obtain ⟨s1, a1, a2, a3⟩ := h1 s d hB hw
      obtain ⟨s2, b1, b2, b3⟩ := h10 s1 d a2 (by omega)
      exact ⟨s2, gg_sum a1 b1, b2, by omega⟩
    have h6 : gT tk mo cn 6 (n + 1) := fun s d hB hw => by
      by_cases c : gcur tk s = 28
      · by_cases c6 : 8 ≤ d
        · exact ⟨_, gg_noD c c6, g_fal hB⟩
        · have a := g_adv hc hB (by omega) (by omega)
          obtain ⟨s1, b1, b2, b3⟩ := i6 (gadv s) (d + 1) a.1 (by omega)
          have e := g_emt (cn := cn) (s := s1) (p := (20, 0))
          exact ⟨_, gg_nott c (by omega) b1, e.1.2 b2, by omega⟩
      · obtain ⟨s1, a1, a2, a3⟩ := h0 s d hB hw
        by_cases c2 : isC (gcur tk s1)
        · have a := g_adv hc a2 (by unfold isC at c2; omega) (by unfold isC at c2; omega)
          obtain ⟨s2, b1, b2, b3⟩ := i0 (gadv s1) d a.1 (by omega)
          have e := g_emt (cn := cn) (s := s2) (p := (cop (gcur tk s1), 0))
          exact ⟨_, gg_ask c a1 c2 b1, e.1.2 b2, by omega⟩
        · have f := g_fal (k := 1) a2
          exact ⟨_, gg_asF c a1 c2, f.1, by omega⟩
    have h15 : gT tk mo cn 15 (n + 1) := fun s d hB hw => by
      by_cases c : gcur tk s = 27
      · have a := g_adv hc hB (by omega) (by omega)
        obtain ⟨s1, b1, b2, b3⟩ := i6 (gadv s) d a.1 (by omega)
        have e := g_emt (cn := cn) (s := s1) (p := (21, 0))
        obtain ⟨s2, k1, k2, k3⟩ := i15 (gemt (21, 0) s1) d (e.1.2 b2) (by omega)
        exact ⟨s2, gg_boO c b1 k1, k2, by omega⟩
      · exact ⟨s, gg_boE c, hB, Nat.le_refl _⟩
    have h5 : gT tk mo cn 5 (n + 1) := fun s d hB hw => by
      obtain ⟨s1, a1, a2, a3⟩ := h6 s d hB hw
      obtain ⟨s2, b1, b2, b3⟩ := h15 s1 d a2 (by omega)
      exact ⟨s2, gg_bot a1 b1, b2, by omega⟩
    have h14 : gT tk mo cn 14 (n + 1) := fun s d hB hw => by
      by_cases c : gcur tk s = 26
      · have a := g_adv hc hB (by omega) (by omega)
        obtain ⟨s1, b1, b2, b3⟩ := i5 (gadv s) d a.1 (by omega)
        have e := g_emt (cn := cn) (s := s1) (p := (22, 0))
        obtain ⟨s2, k1, k2, k3⟩ := i14 (gemt (22, 0) s1) d (e.1.2 b2) (by omega)
        exact ⟨s2, gg_eiO c b1 k1, k2, by omega⟩
      · exact ⟨s, gg_eiE c, hB, Nat.le_refl _⟩
    have h4 : gT tk mo cn 4 (n + 1) := fun s d hB hw => by
      obtain ⟨s1, a1, a2, a3⟩ := h5 s d hB hw
      obtain ⟨s2, b1, b2, b3⟩ := h14 s1 d a2 (by omega)
      exact ⟨s2, gg_eit a1 b1, b2, by omega⟩
    have h3 : gT tk mo cn 3 (n + 1) := fun s d hB hw => by
      obtain ⟨s1, a1, a2, a3⟩ := h4 s d hB hw
      have e1 := g_exp hc (c := 23) (by omega) (by omega) a2
      obtain ⟨s2, b1, b2, b3⟩ := h0 (gexp tk 23 s1) d e1.1 (by omega)
      have e2 := g_exp hc (c := 24) (by omega) (by omega) b2
      obtain ⟨s3, c1, c2, c3⟩ := h0 (gexp tk 24 s2) d e2.1 (by omega)
      have e3 := g_exp hc (c := 25) (by omega) (by omega) c2
      have e4 := g_emt (cn := cn) (s := gexp tk 25 s3) (p := (3, 0))
      exact ⟨_, gg_cho a1 b1 c1, e4.1.2 e3.1, by omega⟩
    exact ⟨h0, h1, h2, h3, h4, h5, h6, h10, h11, h14, h15⟩
end GG
