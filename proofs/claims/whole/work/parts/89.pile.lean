-- ===== the reference's reading: a machine with a pile =====
def rk (o : Int) : Int := if 40 ≤ o then 0 else if o = 22 then 1 else if o = 21 then 2 else if o = 20 then 3 else if 10 ≤ o then 4 else if 8 ≤ o then 6 else if 6 ≤ o then 5 else 7
abbrev isM (o : Int) : Prop := 40 ≤ o ∨ o = 20 ∨ o < 6
def cnm : List Int → Nat
  | [] => 0
  | x :: r => (if isM x then 1 else 0) + cnm r
def stl (l : Int) : List Int → List (Int × Int) → List Int × List (Int × Int)
  | [], o => ([], o)
  | x :: r, o => if l ≤ rk x then stl l r (o ++ [(x, 0)]) else (x :: r, o)
def opn : List Int → Int
  | [] => -1
  | x :: r => if 40 ≤ x then x else opn r
def cmd : List Int → Prop
  | [] => False
  | x :: r => if 4 < rk x then cmd r else rk x = 4
def hdr (P : Int → Prop) : List Int → Prop
  | [] => False
  | x :: _ => P x
def aah (pl : List Int) : Prop := opn pl = 41 ∧ hdr (fun x => 40 ≤ x ∨ (1 ≤ rk x ∧ rk x ≤ 3)) pl
def opc (c : Int) : Int := if c = 38 then 40 else if c = 22 then 41 else uop c
-- what stands between, of this token over this pile
def btw (c : Int) (pl : List Int) (p : Int) : Prop := (34 ≤ c ∧ c ≤ 37 ∧ p = c - 28) ∨ (isC c ∧ opn pl = 41 ∧ ¬ cmd pl ∧ p = cop c) ∨ (c = 27 ∧ opn pl = 41 ∧ cmd pl ∧ p = 21) ∨ (c = 26 ∧ opn pl = 41 ∧ cmd pl ∧ p = 22)
def nob (c : Int) (pl : List Int) : Prop := ¬ (34 ≤ c ∧ c ≤ 37) ∧ (opn pl = 41 → (¬ cmd pl → ¬ isC c) ∧ (cmd pl → c ≠ 27 ∧ c ≠ 26))
def mrunc (tk : Nat → Int) (mo : Bool) (R : Nat → List Int → List (Int × Int) → Bool → Int → Nat → List (Int × Int) → Prop) : Prop := (∀ (j : Nat) (pl : List Int) (o : List (Int × Int)), 10099 < tk j → R j pl o false 2 j o)
  ∧ (∀ (j : Nat) (pl : List Int) (o : List (Int × Int)), 0 ≤ tk j → tk j ≤ 10 → ¬ okn mo (tk j) → R j pl o false 5 j o)
  ∧ (∀ (j : Nat) (pl : List Int) (o : List (Int × Int)) (k : Int) (e : Nat) (f : List (Int × Int)), 100 ≤ tk j → tk j ≤ 10099 → R (j + 1) (stl 7 pl (o ++ [(0, tk j - 100)])).1 (stl 7 pl (o ++ [(0, tk j - 100)])).2 true k e f → R j pl o false k e f)
  ∧ (∀ (j : Nat) (pl : List Int) (o : List (Int × Int)) (k : Int) (e : Nat) (f : List (Int × Int)), 0 ≤ tk j → tk j ≤ 10 → okn mo (tk j) → R (j + 1) (stl 7 pl (o ++ [(1, tk j)])).1 (stl 7 pl (o ++ [(1, tk j)])).2 true k e f → R j pl o false k e f)
  ∧ (∀ (j : Nat) (pl : List Int) (o : List (Int × Int)), isB (tk j) → cnm pl = 8 → R j pl o false 3 j o)
  ∧ (∀ (j : Nat) (pl : List Int) (o : List (Int × Int)) (k : Int) (e : Nat) (f : List (Int × Int)), isB (tk j) → cnm pl < 8 → R (j + 1) (opc (tk j) :: pl) o false k e f → R j pl o false k e f)
  ∧ (∀ (j : Nat) (pl : List Int) (o : List (Int × Int)), tk j = 28 → aah pl → cnm pl = 8 → R j pl o false 3 j o)
  ∧ (∀ (j : Nat) (pl : List Int) (o : List (Int × Int)) (k : Int) (e : Nat) (f : List (Int × Int)), tk j = 28 → aah pl → cnm pl < 8 → R (j + 1) (20 :: pl) o false k e f → R j pl o false k e f)
  ∧ (∀ (j : Nat) (pl : List Int) (o : List (Int × Int)), tk j < 100 → ¬ (0 ≤ tk j ∧ tk j ≤ 10) → ¬ isB (tk j) → (tk j = 28 → ¬ aah pl) → R j pl o false 1 j o)
  ∧ (∀ (j : Nat) (pl : List Int) (o : List (Int × Int)) (p : Int) (k : Int) (e : Nat) (f : List (Int × Int)), btw (tk j) pl p → R (j + 1) (p :: (stl (if rk p = 4 then 5 else rk p) pl o).1) (stl (if rk p = 4 then 5 else rk p) pl o).2 false k e f → R j pl o true k e f)
  ∧ (∀ (j : Nat) (pl : List Int) (o : List (Int × Int)) (k : Int) (e : Nat) (f : List (Int × Int)), tk j = 23 → opn pl = 41 → cmd pl → R (j + 1) (42 :: (stl 1 pl o).1.tail) (stl 1 pl o).2 false k e f → R j pl o true k e f)
  ∧ (∀ (j : Nat) (pl : List Int) (o : List (Int × Int)) (k : Int) (e : Nat) (f : List (Int × Int)), tk j = 24 → opn pl = 42 → R (j + 1) (43 :: (stl 1 pl o).1.tail) (stl 1 pl o).2 false k e f → R j pl o true k e f)
  ∧ (∀ (j : Nat) (pl : List Int) (o : List (Int × Int)) (k : Int) (e : Nat) (f : List (Int × Int)), tk j = 39 → opn pl = 40 → R (j + 1) (stl 7 (stl 1 pl o).1.tail (stl 1 pl o).2).1 (stl 7 (stl 1 pl o).1.tail (stl 1 pl o).2).2 true k e f → R j pl o true k e f)
  ∧ (∀ (j : Nat) (pl : List Int) (o : List (Int × Int)) (k : Int) (e : Nat) (f : List (Int × Int)), tk j = 25 → opn pl = 43 → R (j + 1) (stl 7 (stl 1 pl o).1.tail ((stl 1 pl o).2 ++ [(3, 0)])).1 (stl 7 (stl 1 pl o).1.tail ((stl 1 pl o).2 ++ [(3, 0)])).2 true k e f → R j pl o true k e f)
  ∧ (∀ (j : Nat) (pl : List Int) (o : List (Int × Int)), nob (tk j) pl → 0 ≤ opn pl → ¬ (tk j = 23 ∧ opn pl = 41 ∧ cmd pl) → ¬ (tk j = 24 ∧ opn pl = 42) → ¬ (tk j = 39 ∧ opn pl = 40) → ¬ (tk j = 25 ∧ opn pl = 43) → R j pl o true 1 j o)
  ∧ (∀ (j : Nat) (pl : List Int) (o : List (Int × Int)), nob (tk j) pl → opn pl < 0 → R j pl o true 0 j (stl 1 pl o).2)
def mrun (tk : Nat → Int) (mo : Bool) (j : Nat) (pl : List Int) (o : List (Int × Int)) (w : Bool) (k : Int) (e : Nat) (f : List (Int × Int)) : Prop := ∀ R : Nat → List Int → List (Int × Int) → Bool → Int → Nat → List (Int × Int) → Prop, mrunc tk mo R → R j pl o w k e f
section MRUNE
variable {tk : Nat → Int} {mo : Bool}
theorem mrun_big {j : Nat} {pl : List Int} {o : List (Int × Int)} (h0 : 10099 < tk j) : mrun tk mo j pl o false 2 j o := fun R h => h.1 j pl o h0
theorem mrun_noN {j : Nat} {pl : List Int} {o : List (Int × Int)} (h0 : 0 ≤ tk j) (h1 : tk j ≤ 10) (h2 : ¬ okn mo (tk j)) : mrun tk mo j pl o false 5 j o := fun R h => h.2.1 j pl o h0 h1 h2
theorem mrun_num {j : Nat} {pl : List Int} {o : List (Int × Int)} {k : Int} {e : Nat} {f : List (Int × Int)} (h0 : 100 ≤ tk j) (h1 : tk j ≤ 10099) (h2 : mrun tk mo (j + 1) (stl 7 pl (o ++ [(0, tk j - 100)])).1 (stl 7 pl (o ++ [(0, tk j - 100)])).2 true k e f) : mrun tk mo j pl o false k e f := fun R h => h.2.2.1 j pl o k e f h0 h1 (h2 R h)
theorem mrun_nam {j : Nat} {pl : List Int} {o : List (Int × Int)} {k : Int} {e : Nat} {f : List (Int × Int)} (h0 : 0 ≤ tk j) (h1 : tk j ≤ 10) (h2 : okn mo (tk j)) (h3 : mrun tk mo (j + 1) (stl 7 pl (o ++ [(1, tk j)])).1 (stl 7 pl (o ++ [(1, tk j)])).2 true k e f) : mrun tk mo j pl o false k e f := fun R h => h.2.2.2.1 j pl o k e f h0 h1 h2 (h3 R h)
theorem mrun_dee {j : Nat} {pl : List Int} {o : List (Int × Int)} (h0 : isB (tk j)) (h1 : cnm pl = 8) : mrun tk mo j pl o false 3 j o := fun R h => h.2.2.2.2.1 j pl o h0 h1
theorem mrun_opn {j : Nat} {pl : List Int} {o : List (Int × Int)} {k : Int} {e : Nat} {f : List (Int × Int)} (h0 : isB (tk j)) (h1 : cnm pl < 8) (h2 : mrun tk mo (j + 1) (opc (tk j) :: pl) o false k e f) : mrun tk mo j pl o false k e f := fun R h => h.2.2.2.2.2.1 j pl o k e f h0 h1 (h2 R h)
theorem mrun_ntD {j : Nat} {pl : List Int} {o : List (Int × Int)} (h0 : tk j = 28) (h1 : aah pl) (h2 : cnm pl = 8) : mrun tk mo j pl o false 3 j o := fun R h => h.2.2.2.2.2.2.1 j pl o h0 h1 h2
theorem mrun_ntt {j : Nat} {pl : List Int} {o : List (Int × Int)} {k : Int} {e : Nat} {f : List (Int × Int)} (h0 : tk j = 28) (h1 : aah pl) (h2 : cnm pl < 8) (h3 : mrun tk mo (j + 1) (20 :: pl) o false k e f) : mrun tk mo j pl o false k e f := fun R h => h.2.2.2.2.2.2.2.1 j pl o k e f h0 h1 h2 (h3 R h)
theorem mrun_non {j : Nat} {pl : List Int} {o : List (Int × Int)} (h0 : tk j < 100) (h1 : ¬ (0 ≤ tk j ∧ tk j ≤ 10)) (h2 : ¬ isB (tk j)) (h3 : (tk j = 28 → ¬ aah pl)) : mrun tk mo j pl o false 1 j o := fun R h => h.2.2.2.2.2.2.2.2.1 j pl o h0 h1 h2 h3
theorem mrun_btw {j : Nat} {pl : List Int} {o : List (Int × Int)} {p : Int} {k : Int} {e : Nat} {f : List (Int × Int)} (h0 : btw (tk j) pl p) (h1 : mrun tk mo (j + 1) (p :: (stl (if rk p = 4 then 5 else rk p) pl o).1) (stl (if rk p = 4 then 5 else rk p) pl o).2 false k e f) : mrun tk mo j pl o true k e f := fun R h => h.2.2.2.2.2.2.2.2.2.1 j pl o p k e f h0 (h1 R h)
theorem mrun_thn {j : Nat} {pl : List Int} {o : List (Int × Int)} {k : Int} {e : Nat} {f : List (Int × Int)} (h0 : tk j = 23) (h1 : opn pl = 41) (h2 : cmd pl) (h3 : mrun tk mo (j + 1) (42 :: (stl 1 pl o).1.tail) (stl 1 pl o).2 false k e f) : mrun tk mo j pl o true k e f := fun R h => h.2.2.2.2.2.2.2.2.2.2.1 j pl o k e f h0 h1 h2 (h3 R h)
theorem mrun_els {j : Nat} {pl : List Int} {o : List (Int × Int)} {k : Int} {e : Nat} {f : List (Int × Int)} (h0 : tk j = 24) (h1 : opn pl = 42) (h2 : mrun tk mo (j + 1) (43 :: (stl 1 pl o).1.tail) (stl 1 pl o).2 false k e f) : mrun tk mo j pl o true k e f := fun R h => h.2.2.2.2.2.2.2.2.2.2.2.1 j pl o k e f h0 h1 (h2 R h)
theorem mrun_clo {j : Nat} {pl : List Int} {o : List (Int × Int)} {k : Int} {e : Nat} {f : List (Int × Int)} (h0 : tk j = 39) (h1 : opn pl = 40) (h2 : mrun tk mo (j + 1) (stl 7 (stl 1 pl o).1.tail (stl 1 pl o).2).1 (stl 7 (stl 1 pl o).1.tail (stl 1 pl o).2).2 true k e f) : mrun tk mo j pl o true k e f := fun R h => h.2.2.2.2.2.2.2.2.2.2.2.2.1 j pl o k e f h0 h1 (h2 R h)
theorem mrun_nde {j : Nat} {pl : List Int} {o : List (Int × Int)} {k : Int} {e : Nat} {f : List (Int × Int)} (h0 : tk j = 25) (h1 : opn pl = 43) (h2 : mrun tk mo (j + 1) (stl 7 (stl 1 pl o).1.tail ((stl 1 pl o).2 ++ [(3, 0)])).1 (stl 7 (stl 1 pl o).1.tail ((stl 1 pl o).2 ++ [(3, 0)])).2 true k e f) : mrun tk mo j pl o true k e f := fun R h => h.2.2.2.2.2.2.2.2.2.2.2.2.2.1 j pl o k e f h0 h1 (h2 R h)
theorem mrun_stp {j : Nat} {pl : List Int} {o : List (Int × Int)} (h0 : nob (tk j) pl) (h1 : 0 ≤ opn pl) (h2 : ¬ (tk j = 23 ∧ opn pl = 41 ∧ cmd pl)) (h3 : ¬ (tk j = 24 ∧ opn pl = 42)) (h4 : ¬ (tk j = 39 ∧ opn pl = 40)) (h5 : ¬ (tk j = 25 ∧ opn pl = 43)) : mrun tk mo j pl o true 1 j o := fun R h => h.2.2.2.2.2.2.2.2.2.2.2.2.2.2.1 j pl o h0 h1 h2 h3 h4 h5
theorem mrun_fin {j : Nat} {pl : List Int} {o : List (Int × Int)} (h0 : nob (tk j) pl) (h1 : opn pl < 0) : mrun tk mo j pl o true 0 j (stl 1 pl o).2 := fun R h => h.2.2.2.2.2.2.2.2.2.2.2.2.2.2.2 j pl o h0 h1
theorem mrun_ind {C : Nat → List Int → List (Int × Int) → Bool → Int → Nat → List (Int × Int) → Prop} {j : Nat} {pl : List Int} {o : List (Int × Int)} {w : Bool} {k : Int} {e : Nat} {f : List (Int × Int)} (h : mrun tk mo j pl o w k e f)
  (r_big : ∀ (j : Nat) (pl : List Int) (o : List (Int × Int)), 10099 < tk j → C j pl o false 2 j o)
  (r_noN : ∀ (j : Nat) (pl : List Int) (o : List (Int × Int)), 0 ≤ tk j → tk j ≤ 10 → ¬ okn mo (tk j) → C j pl o false 5 j o)
  (r_num : ∀ (j : Nat) (pl : List Int) (o : List (Int × Int)) (k : Int) (e : Nat) (f : List (Int × Int)), 100 ≤ tk j → tk j ≤ 10099 → mrun tk mo (j + 1) (stl 7 pl (o ++ [(0, tk j - 100)])).1 (stl 7 pl (o ++ [(0, tk j - 100)])).2 true k e f → C (j + 1) (stl 7 pl (o ++ [(0, tk j - 100)])).1 (stl 7 pl (o ++ [(0, tk j - 100)])).2 true k e f → C j pl o false k e f)
  (r_nam : ∀ (j : Nat) (pl : List Int) (o : List (Int × Int)) (k : Int) (e : Nat) (f : List (Int × Int)), 0 ≤ tk j → tk j ≤ 10 → okn mo (tk j) → mrun tk mo (j + 1) (stl 7 pl (o ++ [(1, tk j)])).1 (stl 7 pl (o ++ [(1, tk j)])).2 true k e f → C (j + 1) (stl 7 pl (o ++ [(1, tk j)])).1 (stl 7 pl (o ++ [(1, tk j)])).2 true k e f → C j pl o false k e f)
  (r_dee : ∀ (j : Nat) (pl : List Int) (o : List (Int × Int)), isB (tk j) → cnm pl = 8 → C j pl o false 3 j o)
  (r_opn : ∀ (j : Nat) (pl : List Int) (o : List (Int × Int)) (k : Int) (e : Nat) (f : List (Int × Int)), isB (tk j) → cnm pl < 8 → mrun tk mo (j + 1) (opc (tk j) :: pl) o false k e f → C (j + 1) (opc (tk j) :: pl) o false k e f → C j pl o false k e f)
  (r_ntD : ∀ (j : Nat) (pl : List Int) (o : List (Int × Int)), tk j = 28 → aah pl → cnm pl = 8 → C j pl o false 3 j o)
  (r_ntt : ∀ (j : Nat) (pl : List Int) (o : List (Int × Int)) (k : Int) (e : Nat) (f : List (Int × Int)), tk j = 28 → aah pl → cnm pl < 8 → mrun tk mo (j + 1) (20 :: pl) o false k e f → C (j + 1) (20 :: pl) o false k e f → C j pl o false k e f)
  (r_non : ∀ (j : Nat) (pl : List Int) (o : List (Int × Int)), tk j < 100 → ¬ (0 ≤ tk j ∧ tk j ≤ 10) → ¬ isB (tk j) → (tk j = 28 → ¬ aah pl) → C j pl o false 1 j o)
  (r_btw : ∀ (j : Nat) (pl : List Int) (o : List (Int × Int)) (p : Int) (k : Int) (e : Nat) (f : List (Int × Int)), btw (tk j) pl p → mrun tk mo (j + 1) (p :: (stl (if rk p = 4 then 5 else rk p) pl o).1) (stl (if rk p = 4 then 5 else rk p) pl o).2 false k e f → C (j + 1) (p :: (stl (if rk p = 4 then 5 else rk p) pl o).1) (stl (if rk p = 4 then 5 else rk p) pl o).2 false k e f → C j pl o true k e f)
  (r_thn : ∀ (j : Nat) (pl : List Int) (o : List (Int × Int)) (k : Int) (e : Nat) (f : List (Int × Int)), tk j = 23 → opn pl = 41 → cmd pl → mrun tk mo (j + 1) (42 :: (stl 1 pl o).1.tail) (stl 1 pl o).2 false k e f → C (j + 1) (42 :: (stl 1 pl o).1.tail) (stl 1 pl o).2 false k e f → C j pl o true k e f)
  (r_els : ∀ (j : Nat) (pl : List Int) (o : List (Int × Int)) (k : Int) (e : Nat) (f : List (Int × Int)), tk j = 24 → opn pl = 42 → mrun tk mo (j + 1) (43 :: (stl 1 pl o).1.tail) (stl 1 pl o).2 false k e f → C (j + 1) (43 :: (stl 1 pl o).1.tail) (stl 1 pl o).2 false k e f → C j pl o true k e f)
  (r_clo : ∀ (j : Nat) (pl : List Int) (o : List (Int × Int)) (k : Int) (e : Nat) (f : List (Int × Int)), tk j = 39 → opn pl = 40 → mrun tk mo (j + 1) (stl 7 (stl 1 pl o).1.tail (stl 1 pl o).2).1 (stl 7 (stl 1 pl o).1.tail (stl 1 pl o).2).2 true k e f → C (j + 1) (stl 7 (stl 1 pl o).1.tail (stl 1 pl o).2).1 (stl 7 (stl 1 pl o).1.tail (stl 1 pl o).2).2 true k e f → C j pl o true k e f)
  (r_nde : ∀ (j : Nat) (pl : List Int) (o : List (Int × Int)) (k : Int) (e : Nat) (f : List (Int × Int)), tk j = 25 → opn pl = 43 → mrun tk mo (j + 1) (stl 7 (stl 1 pl o).1.tail ((stl 1 pl o).2 ++ [(3, 0)])).1 (stl 7 (stl 1 pl o).1.tail ((stl 1 pl o).2 ++ [(3, 0)])).2 true k e f → C (j + 1) (stl 7 (stl 1 pl o).1.tail ((stl 1 pl o).2 ++ [(3, 0)])).1 (stl 7 (stl 1 pl o).1.tail ((stl 1 pl o).2 ++ [(3, 0)])).2 true k e f → C j pl o true k e f)
  (r_stp : ∀ (j : Nat) (pl : List Int) (o : List (Int × Int)), nob (tk j) pl → 0 ≤ opn pl → ¬ (tk j = 23 ∧ opn pl = 41 ∧ cmd pl) → ¬ (tk j = 24 ∧ opn pl = 42) → ¬ (tk j = 39 ∧ opn pl = 40) → ¬ (tk j = 25 ∧ opn pl = 43) → C j pl o true 1 j o)
  (r_fin : ∀ (j : Nat) (pl : List Int) (o : List (Int × Int)), nob (tk j) pl → opn pl < 0 → C j pl o true 0 j (stl 1 pl o).2)
  : C j pl o w k e f :=
  (h (fun j pl o w k e f => mrun tk mo j pl o w k e f ∧ C j pl o w k e f) ⟨fun j pl o h0 => ⟨mrun_big h0, r_big j pl o h0⟩,
    fun j pl o h0 h1 h2 => ⟨mrun_noN h0 h1 h2, r_noN j pl o h0 h1 h2⟩,
    fun j pl o k e f h0 h1 h2 => ⟨mrun_num h0 h1 h2.1, r_num j pl o k e f h0 h1 h2.1 h2.2⟩,
    fun j pl o k e f h0 h1 h2 h3 => ⟨mrun_nam h0 h1 h2 h3.1, r_nam j pl o k e f h0 h1 h2 h3.1 h3.2⟩,
    fun j pl o h0 h1 => ⟨mrun_dee h0 h1, r_dee j pl o h0 h1⟩,
    fun j pl o k e f h0 h1 h2 => ⟨mrun_opn h0 h1 h2.1, r_opn j pl o k e f h0 h1 h2.1 h2.2⟩,
    fun j pl o h0 h1 h2 => ⟨mrun_ntD h0 h1 h2, r_ntD j pl o h0 h1 h2⟩,
    fun j pl o k e f h0 h1 h2 h3 => ⟨mrun_ntt h0 h1 h2 h3.1, r_ntt j pl o k e f h0 h1 h2 h3.1 h3.2⟩,
    fun j pl o h0 h1 h2 h3 => ⟨mrun_non h0 h1 h2 h3, r_non j pl o h0 h1 h2 h3⟩,
    fun j pl o p k e f h0 h1 => ⟨mrun_btw h0 h1.1, r_btw j pl o p k e f h0 h1.1 h1.2⟩,
    fun j pl o k e f h0 h1 h2 h3 => ⟨mrun_thn h0 h1 h2 h3.1, r_thn j pl o k e f h0 h1 h2 h3.1 h3.2⟩,
    fun j pl o k e f h0 h1 h2 => ⟨mrun_els h0 h1 h2.1, r_els j pl o k e f h0 h1 h2.1 h2.2⟩,
    fun j pl o k e f h0 h1 h2 => ⟨mrun_clo h0 h1 h2.1, r_clo j pl o k e f h0 h1 h2.1 h2.2⟩,
    fun j pl o k e f h0 h1 h2 => ⟨mrun_nde h0 h1 h2.1, r_nde j pl o k e f h0 h1 h2.1 h2.2⟩,
    fun j pl o h0 h1 h2 h3 h4 h5 => ⟨mrun_stp h0 h1 h2 h3 h4 h5, r_stp j pl o h0 h1 h2 h3 h4 h5⟩,
    fun j pl o h0 h1 => ⟨mrun_fin h0 h1, r_fin j pl o h0 h1⟩⟩).2
end MRUNE
def pz (l : List Int) : List (Int × Int) := l.map (fun x => (x, 0))
def low (r : Int) (pl : List Int) : Prop := ∀ x, pl.head? = some x → rk x < r
def rr (a b : Int) (pd : List Int) : Prop := ∀ x, x ∈ pd → a ≤ rk x ∧ rk x < b
section MR
variable {tk : Nat → Int} {mo : Bool}
theorem gexp_y {c : Int} {j : Nat} {o : List (Int × Int)} (h : tk j = c) : gexp tk c ((.inl (j, o))) = (.inl ((j + 1), o)) := by
  unfold gexp
  rw [if_pos (show gcur tk ((.inl (j, o))) = c from h)]; rfl
theorem gexp_n {c : Int} {j : Nat} {o : List (Int × Int)} (h : tk j ≠ c) : gexp tk c ((.inl (j, o))) = (.inr (1, j)) := by
  unfold gexp
  rw [if_neg (show ¬ gcur tk ((.inl (j, o))) = c from h)]; rfl
theorem rk_b (o : Int) : 0 ≤ rk o ∧ rk o ≤ 7 := by unfold rk; repeat' split
                                                   all_goals omega
theorem stl_p {l : Int} {pl : List Int} (hl : low l pl) : ∀ (pd : List Int) (o : List (Int × Int)), (∀ x, x ∈ pd → l ≤ rk x) → stl l (pd ++ pl) o = (pl, o ++ pz pd)
  | [], o, _ => by
    cases pl with
    | nil => simp [stl, pz]
    | cons x r =>
      have : rk x < l := hl x rfl
      rw [List.nil_append, stl, if_neg (by omega)]
      simp [pz]
  | x :: pd, o, h => by
    rw [List.cons_append, stl, if_pos (h x List.mem_cons_self), stl_p hl pd _ (fun y hy => h y (List.mem_cons_of_mem _ hy))]
    simp [pz]
theorem opn_p {pl : List Int} : ∀ (pd : List Int), (∀ x, x ∈ pd → 1 ≤ rk x) → opn (pd ++ pl) = opn pl
  | [], _ => rfl
  | x :: pd, h => by
    have hx := h x List.mem_cons_self
    have : ¬ 40 ≤ x := fun t => by unfold rk at hx; rw [if_pos t] at hx; omega
    rw [List.cons_append, opn, if_neg this]
    exact opn_p pd (fun y hy => h y (List.mem_cons_of_mem _ hy))
theorem cmd_p {pl : List Int} : ∀ (pd : List Int), (∀ x, x ∈ pd → 4 < rk x) → (cmd (pd ++ pl) ↔ cmd pl)
  | [], _ => Iff.rfl
  | x :: pd, h => by
    rw [List.cons_append, cmd, if_pos (h x List.mem_cons_self)]
    exact cmd_p pd (fun y hy => h y (List.mem_cons_of_mem _ hy))
theorem rk_34 {c : Int} (h : c = 34 ∨ c = 35) : rk (c - 28) = 5 ∧ ¬ isM (c - 28) := by
  rcases h with rfl | rfl <;> decide
theorem rk_36 {c : Int} (h : c = 36 ∨ c = 37) : rk (c - 28) = 6 ∧ ¬ isM (c - 28) := by
  rcases h with rfl | rfl <;> decide
theorem rk_c {c : Int} (h : isC c) : rk (cop c) = 4 ∧ ¬ isM (cop c) := by
  unfold isC at h
  obtain rfl | rfl | rfl | rfl | rfl | rfl : c = 30 ∨ c = 31 ∨ c = 32 ∨ c = 33 ∨ c = 41 ∨ c = 42 := by omega
  all_goals decide
theorem rk_u {c : Int} (h : isU c) : rk (uop c) = 7 ∧ isM (uop c) := by
  rcases h with rfl | rfl | rfl <;> decide
theorem aah_n {x : Int} {pl : List Int} (h : 4 ≤ rk x) : ¬ aah (x :: pl) := fun t => by
  have := t.2
  unfold hdr at this
  simp only at this
  have : 40 ≤ x := by omega
  unfold rk at h
  rw [if_pos this] at h
  omega
-- what reading one after another leaves: the pile's own part pd is still to be written
def rok (tk : Nat → Int) (mo : Bool) (j : Nat) (pl0 : List Int) (o0 : List (Int × Int)) (w0 : Bool) (pl : List Int) (P : List Int → Prop) : gs → Prop
  | .inl (j', o') => ∃ pd o1, P pd ∧ o' = o1 ++ pz pd ∧ ∀ k e f, mrun tk mo j' (pd ++ pl) o1 true k e f → mrun tk mo j pl0 o0 w0 k e f
  | .inr (k, e) => ∃ f, mrun tk mo j pl0 o0 w0 k e f
-- what follows a one
def one (tk : Nat → Int) (mo : Bool) (j : Nat) (pl0 : List Int) (o0 : List (Int × Int)) (w0 : Bool) (pl : List Int) : gs → Prop
  | .inl (j', o') => ∀ k e f, mrun tk mo j' (stl 7 pl o').1 (stl 7 pl o').2 true k e f → mrun tk mo j pl0 o0 w0 k e f
  | .inr (k, e) => ∃ f, mrun tk mo j pl0 o0 w0 k e f
def nxt (tk : Nat → Int) (P : Int → Prop) : gs → Prop
  | .inl (j, _) => P (tk j)
  | .inr (_, _) => True
def no4 (c : Int) : Prop := ¬ (34 ≤ c ∧ c ≤ 37)
def no2 (c : Int) : Prop := ¬ (36 ≤ c ∧ c ≤ 37)
-- how a pile stands before an ask
def asq (r : Int) (pl : List Int) : Prop := opn pl = 41 ∧ hdr (fun x => 40 ≤ x ∨ (1 ≤ rk x ∧ rk x < r)) pl
def gC (tk : Nat → Int) (mo : Bool) (m d : Nat) (s s' : gs) : Prop := ∀ j o, s = (.inl (j, o)) → d ≤ 8 →
  match m with
  | 2 => ∀ pl, cnm pl = d → (tk j = 28 → ¬ aah pl) → one tk mo j pl o false pl s'
  | 1 => ∀ pl, cnm pl = d → low 6 pl → (tk j = 28 → ¬ aah pl) → rok tk mo j pl o false pl (rr 6 7) s' ∧ nxt tk no2 s'
  | 11 => ∀ pl pd o1, cnm pl = d → low 6 pl → rr 6 7 pd → o = o1 ++ pz pd → rok tk mo j (pd ++ pl) o1 true pl (rr 6 7) s' ∧ nxt tk no2 s'
  | 0 => ∀ pl, cnm pl = d → low 5 pl → (tk j = 28 → ¬ aah pl) → rok tk mo j pl o false pl (rr 5 7) s' ∧ nxt tk no4 s'
  | 10 => ∀ pl pd o1, cnm pl = d → low 5 pl → rr 5 7 pd → no2 (tk j) → o = o1 ++ pz pd → rok tk mo j (pd ++ pl) o1 true pl (rr 5 7) s' ∧ nxt tk no4 s'
  | 6 => ∀ pl, cnm pl = d → asq 4 pl → rok tk mo j pl o false pl (fun pd => rr 3 7 pd ∧ cmd (pd ++ pl)) s' ∧ nxt tk no4 s'
  | 5 => ∀ pl, cnm pl = d → asq 2 pl → rok tk mo j pl o false pl (fun pd => rr 2 7 pd ∧ cmd (pd ++ pl)) s' ∧ nxt tk (fun c => no4 c ∧ c ≠ 27) s'
  | 15 => ∀ pl pd o1, cnm pl = d → asq 2 pl → rr 2 7 pd → cmd (pd ++ pl) → no4 (tk j) → o = o1 ++ pz pd → rok tk mo j (pd ++ pl) o1 true pl (fun pd => rr 2 7 pd ∧ cmd (pd ++ pl)) s' ∧ nxt tk (fun c => no4 c ∧ c ≠ 27) s'
  | 4 => ∀ pl, cnm pl = d → asq 1 pl → rok tk mo j pl o false pl (fun pd => rr 1 7 pd ∧ cmd (pd ++ pl)) s' ∧ nxt tk (fun c => no4 c ∧ c ≠ 27 ∧ c ≠ 26) s'
  | 14 => ∀ pl pd o1, cnm pl = d → asq 1 pl → rr 1 7 pd → cmd (pd ++ pl) → no4 (tk j) → tk j ≠ 27 → o = o1 ++ pz pd → rok tk mo j (pd ++ pl) o1 true pl (fun pd => rr 1 7 pd ∧ cmd (pd ++ pl)) s' ∧ nxt tk (fun c => no4 c ∧ c ≠ 27 ∧ c ≠ 26) s'
  | 3 => ∀ pl, cnm (41 :: pl) = d → one tk mo j (41 :: pl) o false pl s'
  | _ => True
theorem asq_low {r : Int} {pl : List Int} (hr : 1 ≤ r) (h : asq r pl) : low r pl := fun x hx => by
  have t := h.2
  cases pl with
  | nil => exact absurd hx (by simp)
  | cons y q =>
    simp only [List.head?_cons, Option.some.injEq] at hx
    subst hx
    have t : 40 ≤ y ∨ (1 ≤ rk y ∧ rk y < r) := t
    rcases t with t | t
    · unfold rk; rw [if_pos t]; omega
    · exact t.2
theorem asq_cmd {r : Int} {pl : List Int} (hr : r ≤ 4) (h : asq r pl) : ¬ cmd pl := fun c => by
  have t := h.2
  cases pl with
  | nil => exact c
  | cons y q =>
    have t : 40 ≤ y ∨ (1 ≤ rk y ∧ rk y < r) := t
    have e : rk y < 4 := by
      rcases t with t | t
      · unfold rk; rw [if_pos t]; omega
      · omega
    rw [cmd, if_neg (by omega)] at c
    omega
theorem asq_aah {r : Int} {pl : List Int} (hr : r ≤ 4) (h : asq r pl) : aah pl := ⟨h.1, by
  have t := h.2
  cases pl with
  | nil => exact t
  | cons y q =>
    have t : 40 ≤ y ∨ (1 ≤ rk y ∧ rk y < r) := t
    show 40 ≤ y ∨ (1 ≤ rk y ∧ rk y ≤ 3)
    omega⟩
theorem asq_up {r r' : Int} {pl : List Int} (hr : r ≤ r') (h : asq r pl) : asq r' pl := ⟨h.1, by
  have t := h.2
  cases pl with
  | nil => exact t
  | cons y q =>
    have t : 40 ≤ y ∨ (1 ≤ rk y ∧ rk y < r) := t
    show 40 ≤ y ∨ (1 ≤ rk y ∧ rk y < r')
    omega⟩
theorem low_up {r r' : Int} {pl : List Int} (hr : r ≤ r') (h : low r pl) : low r' pl := fun x hx => by have := h x hx; omega
theorem lowq_c {r x : Int} {pl : List Int} (h : rk x < r) : low r (x :: pl) := fun y hy => by
  simp only [List.head?_cons, Option.some.injEq] at hy
  subst hy; exact h
theorem rr_up {a b a' : Int} {pd : List Int} (h : rr a b pd) (ha : a' ≤ a) : rr a' b pd := fun x hx => by have := h x hx; omega
theorem rr_sn {a b x : Int} {pd : List Int} (h : rr a b pd) (hx : a ≤ rk x ∧ rk x < b) : rr a b (pd ++ [x]) := fun y hy => by
  rcases List.mem_append.1 hy with t | t
  · exact h y t
  · rw [List.mem_singleton] at t; subst t; exact hx
theorem pz_sn {pd : List Int} {x : Int} : pz (pd ++ [x]) = pz pd ++ [(x, 0)] := by simp [pz]
theorem cnm_n {x : Int} {pl : List Int} (h : ¬ isM x) : cnm (x :: pl) = cnm pl := by rw [cnm, if_neg h]; omega
theorem cnm_y {x : Int} {pl : List Int} (h : isM x) : cnm (x :: pl) = cnm pl + 1 := by rw [cnm, if_pos h]; omega
theorem gC_t {m d : Nat} {s s' : gs} (h : gg tk mo m d s s') : gC tk mo m d s s' := by
  refine gg_ind (C := gC tk mo) h ?r_sum ?r_smE ?r_smO ?r_pro ?r_prE ?r_prO ?r_num ?r_big ?r_nam ?r_noN ?r_non ?r_dee ?r_par ?r_una ?r_iff ?r_cho ?r_eit ?r_eiE ?r_eiO ?r_bot ?r_boE ?r_boO ?r_nott ?r_noD ?r_ask ?r_asF
  case r_sum =>
    intro d s s1 s2 h1 i1 h2 i2
    intro j o e hd pl hc hl ha
    have a := i1 j o e hd pl hc (low_up (by omega) hl) ha
    cases s1 with
    | inr p => obtain ⟨k, e⟩ := p; rw [gg_bad h2 k e rfl]; exact ⟨a.1, trivial⟩
    | inl p =>
      obtain ⟨j1, o1'⟩ := p
      obtain ⟨⟨pd, o1, p1, p2, p3⟩, p4⟩ := a
      obtain ⟨b1, b2⟩ := i2 j1 o1' rfl hd pl pd o1 hc hl (rr_up p1 (by omega)) p4 p2
      refine ⟨?_, b2⟩
      cases s2 with
      | inr p => obtain ⟨k, e⟩ := p; obtain ⟨f, g⟩ := b1; exact ⟨f, p3 _ _ _ g⟩
      | inl p => obtain ⟨j2, o2⟩ := p; obtain ⟨pd', o', q1, q2, q3⟩ := b1; exact ⟨pd', o', q1, q2, fun k e f g => p3 _ _ _ (q3 _ _ _ g)⟩
  case r_smE =>
    intro d s c
    intro j o e hd pl pd o1 hc hl hp hn ho
    subst e
    refine ⟨⟨pd, o1, hp, ho, fun k e f g => g⟩, ?_⟩
    show no4 (tk j)
    have c : ¬ (tk j = 34 ∨ tk j = 35) := c
    unfold no2 at hn
    unfold no4
    omega
  case r_smO =>
    intro d s s1 s2 c h1 i1 h2 i2
    intro j o e hd pl pd o1 hc hl hp hn ho
    subst e
    have c : tk j = 34 ∨ tk j = 35 := c
    obtain ⟨r5, nm⟩ := rk_34 c
    have st : stl 5 (pd ++ pl) o1 = (pl, o) := by rw [stl_p hl pd o1 (fun x hx => (hp x hx).1), ho]
    have a := i1 (j + 1) o rfl hd ((tk j - 28) :: pl) (by rw [cnm_n nm]; exact hc) (lowq_c (by omega)) (fun _ => aah_n (by omega))
    have pre : ∀ k e f, mrun tk mo (j + 1) ((tk j - 28) :: pl) o false k e f → mrun tk mo j (pd ++ pl) o1 true k e f := fun k e f g =>
      mrun_btw (.inl ⟨by omega, by omega, rfl⟩) (by rw [r5, if_neg (by omega), st]; exact g)
    cases s1 with
    | inr p =>
      obtain ⟨k, e⟩ := p
      rw [gg_bad h2 k e rfl]
      obtain ⟨⟨f, g⟩, -⟩ := a
      exact ⟨⟨f, pre _ _ _ g⟩, trivial⟩
    | inl p =>
      obtain ⟨j1, o1'⟩ := p
      obtain ⟨⟨pd1, o2, p1, p2, p3⟩, p4⟩ := a
      obtain ⟨b1, b2⟩ := i2 j1 (o1' ++ [(tk j - 28, 0)]) rfl hd pl (pd1 ++ [tk j - 28]) o2 hc hl (rr_sn (rr_up p1 (by omega)) (by omega)) p4 (by rw [p2, pz_sn, List.append_assoc])
      refine ⟨?_, b2⟩
      have mid : ∀ k e f, mrun tk mo j1 (pd1 ++ [tk j - 28] ++ pl) o2 true k e f → mrun tk mo j (pd ++ pl) o1 true k e f := fun k e f g => pre _ _ _ (p3 _ _ _ (by rw [List.append_assoc, List.singleton_append] at g; exact g))
      cases s2 with
      | inr p => obtain ⟨k, e⟩ := p; obtain ⟨f, g⟩ := b1; exact ⟨f, mid _ _ _ g⟩
      | inl p => obtain ⟨j2, o2⟩ := p; obtain ⟨pd', o', q1, q2, q3⟩ := b1; exact ⟨pd', o', q1, q2, fun k e f g => mid _ _ _ (q3 _ _ _ g)⟩
  case r_pro =>
    intro d s s1 s2 h1 i1 h2 i2
    intro j o e hd pl hc hl ha
    have a := i1 j o e hd pl hc ha
    cases s1 with
    | inr p => obtain ⟨k, e⟩ := p; rw [gg_bad h2 k e rfl]; exact ⟨a, trivial⟩
    | inl p =>
      obtain ⟨j1, o1'⟩ := p
      have a : ∀ k e f, mrun tk mo j1 (stl 7 pl o1').1 (stl 7 pl o1').2 true k e f → mrun tk mo j pl o false k e f := a
      have st : stl 7 pl o1' = (pl, o1') := by
        have := stl_p (low_up (r' := 7) (by omega) hl) [] o1' (fun x hx => absurd hx (by simp))
        rw [List.nil_append] at this
        rw [this]; simp [pz]
      rw [st] at a
      obtain ⟨b1, b2⟩ := i2 j1 o1' rfl hd pl [] o1' hc hl (fun x hx => absurd hx (by simp)) (by simp [pz])
      refine ⟨?_, b2⟩
      cases s2 with
      | inr p => obtain ⟨k, e⟩ := p; obtain ⟨f, g⟩ := b1; exact ⟨f, a _ _ _ g⟩
      | inl p => obtain ⟨j2, o2⟩ := p; obtain ⟨pd', o', q1, q2, q3⟩ := b1; exact ⟨pd', o', q1, q2, fun k e f g => a _ _ _ (q3 _ _ _ g)⟩
  case r_prE =>
    intro d s c
    intro j o e hd pl pd o1 hc hl hp ho
    subst e
    refine ⟨⟨pd, o1, hp, ho, fun k e f g => g⟩, ?_⟩
    show no2 (tk j)
    have c : ¬ (tk j = 36 ∨ tk j = 37) := c
    unfold no2
    omega
  case r_prO =>
    intro d s s1 s2 c h1 i1 h2 i2
    intro j o e hd pl pd o1 hc hl hp ho
    subst e
    have c : tk j = 36 ∨ tk j = 37 := c
    obtain ⟨r6, nm⟩ := rk_36 c
    have st : stl 6 (pd ++ pl) o1 = (pl, o) := by rw [stl_p hl pd o1 (fun x hx => (hp x hx).1), ho]
    have a := i1 (j + 1) o rfl hd ((tk j - 28) :: pl) (by rw [cnm_n nm]; exact hc) (fun _ => aah_n (by omega))
    have pre : ∀ k e f, mrun tk mo (j + 1) ((tk j - 28) :: pl) o false k e f → mrun tk mo j (pd ++ pl) o1 true k e f := fun k e f g =>
      mrun_btw (.inl ⟨by omega, by omega, rfl⟩) (by rw [r6, if_neg (by omega), st]; exact g)
    cases s1 with
    | inr p =>
      obtain ⟨k, e⟩ := p
      rw [gg_bad h2 k e rfl]
      obtain ⟨f, g⟩ := a
      exact ⟨⟨f, pre _ _ _ g⟩, trivial⟩
    | inl p =>
      obtain ⟨j1, o1'⟩ := p
      have a : ∀ k e f, mrun tk mo j1 (stl 7 ((tk j - 28) :: pl) o1').1 (stl 7 ((tk j - 28) :: pl) o1').2 true k e f → mrun tk mo (j + 1) ((tk j - 28) :: pl) o false k e f := a
      have s7 : stl 7 ((tk j - 28) :: pl) o1' = ((tk j - 28) :: pl, o1') := by rw [stl, if_neg (by omega)]
      rw [s7] at a
      obtain ⟨b1, b2⟩ := i2 j1 (o1' ++ [(tk j - 28, 0)]) rfl hd pl [tk j - 28] o1' hc hl (fun x hx => by rw [List.mem_singleton] at hx; subst hx; omega) (by simp [pz])
      refine ⟨?_, b2⟩
      cases s2 with
      | inr p => obtain ⟨k, e⟩ := p; obtain ⟨f, g⟩ := b1; exact ⟨f, pre _ _ _ (a _ _ _ g)⟩
      | inl p => obtain ⟨j2, o2⟩ := p; obtain ⟨pd', o', q1, q2, q3⟩ := b1; exact ⟨pd', o', q1, q2, fun k e f g => pre _ _ _ (a _ _ _ (q3 _ _ _ g))⟩
  case r_num =>
    intro d s c1 c2
    intro j o e hd pl hc ha
    subst e
    exact fun k e f g => mrun_num c1 c2 g
  case r_big =>
    intro d s c
    intro j o e hd pl hc ha
    subst e
    exact ⟨_, mrun_big c⟩
  case r_nam =>
    intro d s c1 c2 c3
    intro j o e hd pl hc ha
    subst e
    exact fun k e f g => mrun_nam c1 c2 c3 g
  case r_noN =>
    intro d s c1 c2 c3
    intro j o e hd pl hc ha
    subst e
    exact ⟨_, mrun_noN c1 c2 c3⟩
  case r_non =>
    intro d s c1 c2 c3
    intro j o e hd pl hc ha
    subst e
    exact ⟨_, mrun_non c1 c2 c3 ha⟩
  case r_dee =>
    intro d s c1 c2
    intro j o e hd pl hc ha
    subst e
    exact ⟨_, mrun_dee c1 (by omega)⟩
  case r_par =>
    intro d s s1 c1 c2 h1 i1
    intro j o e hd pl hc ha
    subst e
    have c1 : tk j = 38 := c1
    have a := i1 (j + 1) o rfl (by omega) (40 :: pl) (by rw [cnm_y (by decide), hc]) (lowq_c (by decide)) (fun _ t => absurd (show (40 : Int) = 41 from t.1) (by decide))
    have pre : ∀ k e f, mrun tk mo (j + 1) (40 :: pl) o false k e f → mrun tk mo j pl o false k e f := fun k e f g =>
      mrun_opn (.inl c1) (by omega) (by rw [show opc (tk j) = 40 by rw [c1]; rfl]; exact g)
    cases s1 with
    | inr p =>
      obtain ⟨k, e⟩ := p
      obtain ⟨⟨f, g⟩, -⟩ := a
      have : gexp tk 39 ((.inr (k, e))) = (.inr (k, e)) := by simp [gexp, gcur, gfal]
      rw [this]
      exact ⟨f, pre _ _ _ g⟩
    | inl p =>
      obtain ⟨j1, o1'⟩ := p
      obtain ⟨⟨pd, o1, p1, p2, p3⟩, p4⟩ := a
      have p4 : no4 (tk j1) := p4
      have op : opn (pd ++ 40 :: pl) = 40 := by rw [opn_p pd (fun x hx => by have := p1 x hx; omega)]; rfl
      have st : stl 1 (pd ++ 40 :: pl) o1 = (40 :: pl, o1') := by rw [stl_p (lowq_c (by decide)) pd o1 (fun x hx => by have := p1 x hx; omega), p2]
      by_cases c : tk j1 = 39
      · have : gexp tk 39 ((.inl (j1, o1'))) = (.inl ((j1 + 1), o1')) := by rw [gexp_y c]
        rw [this]
        exact fun k e f g => pre _ _ _ (p3 _ _ _ (mrun_clo c op (by rw [st]; exact g)))
      · have : gexp tk 39 ((.inl (j1, o1'))) = (.inr (1, j1)) := by rw [gexp_n c]
        rw [this]
        exact ⟨_, pre _ _ _ (p3 _ _ _ (mrun_stp ⟨p4, fun t => by omega⟩ (by omega) (by omega) (by omega) (by omega) (by omega)))⟩
  case r_una =>
    intro d s s1 c1 c2 h1 i1
    intro j o e hd pl hc ha
    subst e
    have c1 : isU (tk j) := c1
    obtain ⟨r7, im⟩ := rk_u c1
    have a := i1 (j + 1) o rfl (by omega) (uop (tk j) :: pl) (by rw [cnm_y im, hc]) (fun _ => aah_n (by omega))
    have pre : ∀ k e f, mrun tk mo (j + 1) (uop (tk j) :: pl) o false k e f → mrun tk mo j pl o false k e f := fun k e f g =>
      mrun_opn (.inr (.inr c1)) (by omega) (by
        have : opc (tk j) = uop (tk j) := by unfold opc; rw [if_neg (by unfold isU at c1; omega), if_neg (by unfold isU at c1; omega)]
        rw [this]; exact g)
    cases s1 with
    | inr p => obtain ⟨k, e⟩ := p; obtain ⟨f, g⟩ := a; exact ⟨f, pre _ _ _ g⟩
    | inl p =>
      obtain ⟨j1, o1'⟩ := p
      have a : ∀ k e f, mrun tk mo j1 (stl 7 (uop (tk j) :: pl) o1').1 (stl 7 (uop (tk j) :: pl) o1').2 true k e f → mrun tk mo (j + 1) (uop (tk j) :: pl) o false k e f := a
      rw [stl, if_pos (by omega)] at a
      exact fun k e f g => pre _ _ _ (a _ _ _ g)
  case r_iff =>
    intro d s s1 c1 c2 h1 i1
    intro j o e hd pl hc ha
    subst e
    have c1 : tk j = 22 := c1
    have a := i1 (j + 1) o rfl (by omega) pl (by rw [cnm_y (by decide), hc])
    have pre : ∀ k e f, mrun tk mo (j + 1) (41 :: pl) o false k e f → mrun tk mo j pl o false k e f := fun k e f g =>
      mrun_opn (.inr (.inl c1)) (by omega) (by rw [show opc (tk j) = 41 by rw [c1]; rfl]; exact g)
    cases s1 with
    | inr p => obtain ⟨k, e⟩ := p; obtain ⟨f, g⟩ := a; exact ⟨f, pre _ _ _ g⟩
    | inl p => obtain ⟨j1, o1'⟩ := p; exact fun k e f g => pre _ _ _ (a _ _ _ g)
  case r_cho =>
    intro d s s1 s2 s3 h1 i1 h2 i2 h3 i3
    intro j o e hd pl hc
    have hc' : ∀ x, isM x → cnm (x :: pl) = d := fun x hx => by rw [cnm_y hx, ← hc, cnm_y (by decide)]
    have a := i1 j o e hd (41 :: pl) hc ⟨rfl, .inl (by decide)⟩
    cases s1 with
    | inr p =>
      obtain ⟨k, e⟩ := p
      obtain ⟨⟨f, g⟩, -⟩ := a
      have e1 : gexp tk 23 ((.inr (k, e))) = (.inr (k, e)) := by simp [gexp, gcur, gfal]
      rw [e1] at h2
      have e2 := gg_bad h2 k e rfl
      subst e2
      have e3 : gexp tk 24 ((.inr (k, e))) = (.inr (k, e)) := by simp [gexp, gcur, gfal]
      rw [e3] at h3
      have e4 := gg_bad h3 k e rfl
      subst e4
      have e5 : gemt (3, 0) (gexp tk 25 ((.inr (k, e)))) = (.inr (k, e)) := by simp [gexp, gcur, gfal, gemt]
      rw [e5]
      exact ⟨f, g⟩
    | inl p =>
      obtain ⟨j1, o1'⟩ := p
      obtain ⟨⟨pd, o1, ⟨p1, pc⟩, p2, p3⟩, p4, p5, p6⟩ := a
      have op : opn (pd ++ 41 :: pl) = 41 := by rw [opn_p pd (fun x hx => (p1 x hx).1)]; rfl
      have st : stl 1 (pd ++ 41 :: pl) o1 = (41 :: pl, o1') := by rw [stl_p (lowq_c (by decide)) pd o1 (fun x hx => (p1 x hx).1), p2]
      by_cases c : tk j1 = 23
      · have e1 : gexp tk 23 ((.inl (j1, o1'))) = (.inl ((j1 + 1), o1')) := by rw [gexp_y c]
        rw [e1] at h2 i2
        have pre1 : ∀ k e f, mrun tk mo (j1 + 1) (42 :: pl) o1' false k e f → mrun tk mo j (41 :: pl) o false k e f := fun k e f g => p3 _ _ _ (mrun_thn c op pc (by rw [st]; exact g))
        have b := i2 (j1 + 1) o1' rfl hd (42 :: pl) (hc' 42 (by decide)) (lowq_c (by decide)) (fun _ t => absurd (show (42 : Int) = 41 from t.1) (by decide))
        cases s2 with
        | inr p =>
          obtain ⟨k, e⟩ := p
          obtain ⟨⟨f, g⟩, -⟩ := b
          have e3 : gexp tk 24 ((.inr (k, e))) = (.inr (k, e)) := by simp [gexp, gcur, gfal]
          rw [e3] at h3
          have e4 := gg_bad h3 k e rfl
          subst e4
          have e5 : gemt (3, 0) (gexp tk 25 ((.inr (k, e)))) = (.inr (k, e)) := by simp [gexp, gcur, gfal, gemt]
          rw [e5]
          exact ⟨f, pre1 _ _ _ g⟩
        | inl p =>
          obtain ⟨j2, o2'⟩ := p
          obtain ⟨⟨pd2, o2, q1, q2, q3⟩, q4⟩ := b
          have q4 : no4 (tk j2) := q4
          have op2 : opn (pd2 ++ 42 :: pl) = 42 := by rw [opn_p pd2 (fun x hx => by have := q1 x hx; omega)]; rfl
          have st2 : stl 1 (pd2 ++ 42 :: pl) o2 = (42 :: pl, o2') := by rw [stl_p (lowq_c (by decide)) pd2 o2 (fun x hx => by have := q1 x hx; omega), q2]
          by_cases c2 : tk j2 = 24
          · have e2 : gexp tk 24 ((.inl (j2, o2'))) = (.inl ((j2 + 1), o2')) := by rw [gexp_y c2]
            rw [e2] at h3 i3
            have pre2 : ∀ k e f, mrun tk mo (j2 + 1) (43 :: pl) o2' false k e f → mrun tk mo j (41 :: pl) o false k e f := fun k e f g => pre1 _ _ _ (q3 _ _ _ (mrun_els c2 op2 (by rw [st2]; exact g)))
            have b2 := i3 (j2 + 1) o2' rfl hd (43 :: pl) (hc' 43 (by decide)) (lowq_c (by decide)) (fun _ t => absurd (show (43 : Int) = 41 from t.1) (by decide))
            cases s3 with
            | inr p =>
              obtain ⟨k, e⟩ := p
              obtain ⟨⟨f, g⟩, -⟩ := b2
              have e5 : gemt (3, 0) (gexp tk 25 ((.inr (k, e)))) = (.inr (k, e)) := by simp [gexp, gcur, gfal, gemt]
              rw [e5]
              exact ⟨f, pre2 _ _ _ g⟩
            | inl p =>
              obtain ⟨j3, o3'⟩ := p
              obtain ⟨⟨pd3, o3, r1, r2, r3⟩, r4⟩ := b2
              have r4 : no4 (tk j3) := r4
              have op3 : opn (pd3 ++ 43 :: pl) = 43 := by rw [opn_p pd3 (fun x hx => by have := r1 x hx; omega)]; rfl
              have st3 : stl 1 (pd3 ++ 43 :: pl) o3 = (43 :: pl, o3') := by rw [stl_p (lowq_c (by decide)) pd3 o3 (fun x hx => by have := r1 x hx; omega), r2]
              by_cases c3 : tk j3 = 25
              · have e3 : gemt (3, 0) (gexp tk 25 ((.inl (j3, o3')))) = (.inl ((j3 + 1), (o3' ++ [(3, 0)]))) := by rw [gexp_y c3]; rfl
                rw [e3]
                exact fun k e f g => pre2 _ _ _ (r3 _ _ _ (mrun_nde c3 op3 (by rw [st3]; exact g)))
              · have e3 : gemt (3, 0) (gexp tk 25 ((.inl (j3, o3')))) = (.inr (1, j3)) := by rw [gexp_n c3]; rfl
                rw [e3]
                exact ⟨_, pre2 _ _ _ (r3 _ _ _ (mrun_stp ⟨r4, fun t => by omega⟩ (by omega) (by omega) (by omega) (by omega) (by omega)))⟩
          · have e2 : gexp tk 24 ((.inl (j2, o2'))) = (.inr (1, j2)) := by rw [gexp_n c2]
            rw [e2] at h3
            have e4 := gg_bad h3 1 j2 rfl
            subst e4
            have e5 : gemt (3, 0) (gexp tk 25 ((.inr (1, j2)))) = (.inr (1, j2)) := by simp [gexp, gcur, gfal, gemt]
            rw [e5]
            exact ⟨_, pre1 _ _ _ (q3 _ _ _ (mrun_stp ⟨q4, fun t => by omega⟩ (by omega) (by omega) (by omega) (by omega) (by omega)))⟩
      · have e1 : gexp tk 23 ((.inl (j1, o1'))) = (.inr (1, j1)) := by rw [gexp_n c]
        rw [e1] at h2
        have e2 := gg_bad h2 1 j1 rfl
        subst e2
        have e3 : gexp tk 24 ((.inr (1, j1))) = (.inr (1, j1)) := by simp [gexp, gcur, gfal]
        rw [e3] at h3
        have e4 := gg_bad h3 1 j1 rfl
        subst e4
        have e5 : gemt (3, 0) (gexp tk 25 ((.inr (1, j1)))) = (.inr (1, j1)) := by simp [gexp, gcur, gfal, gemt]
        rw [e5]
        exact ⟨_, p3 _ _ _ (mrun_stp ⟨p4, fun t => ⟨fun n => absurd pc n, fun _ => ⟨p5, p6⟩⟩⟩ (by omega) (fun t => c t.1) (by omega) (by omega) (by omega))⟩
  case r_eit =>
    intro d s s1 s2 h1 i1 h2 i2
    intro j o e hd pl hc hq
    have a := i1 j o e hd pl hc (asq_up (by omega) hq)
    cases s1 with
    | inr p => obtain ⟨k, e⟩ := p; rw [gg_bad h2 k e rfl]; exact ⟨a.1, trivial⟩
    | inl p =>
      obtain ⟨j1, o1'⟩ := p
      obtain ⟨⟨pd, o1, ⟨p1, pc⟩, p2, p3⟩, p4, p5⟩ := a
      obtain ⟨b1, b2⟩ := i2 j1 o1' rfl hd pl pd o1 hc hq (rr_up p1 (by omega)) pc p4 p5 p2
      refine ⟨?_, b2⟩
      cases s2 with
      | inr p => obtain ⟨k, e⟩ := p; obtain ⟨f, g⟩ := b1; exact ⟨f, p3 _ _ _ g⟩
      | inl p => obtain ⟨j2, o2⟩ := p; obtain ⟨pd', o', q1, q2, q3⟩ := b1; exact ⟨pd', o', q1, q2, fun k e f g => p3 _ _ _ (q3 _ _ _ g)⟩
  case r_eiE =>
    intro d s c
    intro j o e hd pl pd o1 hc hq hp hm hn h7 ho
    subst e
    exact ⟨⟨pd, o1, ⟨hp, hm⟩, ho, fun k e f g => g⟩, hn, h7, c⟩
  case r_eiO =>
    intro d s s1 s2 c h1 i1 h2 i2
    intro j o e hd pl pd o1 hc hq hp hm hn h7 ho
    subst e
    have c : tk j = 26 := c
    have st : stl 1 (pd ++ pl) o1 = (pl, o) := by rw [stl_p (asq_low (by omega) hq) pd o1 (fun x hx => (hp x hx).1), ho]
    have op : opn (pd ++ pl) = 41 := by rw [opn_p pd (fun x hx => (hp x hx).1)]; exact hq.1
    have a := i1 (j + 1) o rfl hd (22 :: pl) (by rw [cnm_n (by decide)]; exact hc) ⟨hq.1, .inr (by decide)⟩
    have pre : ∀ k e f, mrun tk mo (j + 1) (22 :: pl) o false k e f → mrun tk mo j (pd ++ pl) o1 true k e f := fun k e f g =>
      mrun_btw (.inr (.inr (.inr ⟨c, op, hm, rfl⟩))) (by rw [show rk 22 = 1 by decide, if_neg (by omega), st]; exact g)
    cases s1 with
    | inr p =>
      obtain ⟨k, e⟩ := p
      rw [gg_bad h2 k e rfl]
      obtain ⟨⟨f, g⟩, -⟩ := a
      exact ⟨⟨f, pre _ _ _ g⟩, trivial⟩
    | inl p =>
      obtain ⟨j1, o1'⟩ := p
      obtain ⟨⟨pd1, o2, ⟨p1, pc⟩, p2, p3⟩, p4, p5⟩ := a
      obtain ⟨b1, b2⟩ := i2 j1 (o1' ++ [(22, 0)]) rfl hd pl (pd1 ++ [22]) o2 hc hq (rr_sn (rr_up p1 (by omega)) (by decide)) (by rw [List.append_assoc, List.singleton_append]; exact pc) p4 p5 (by rw [p2, pz_sn, List.append_assoc])
      refine ⟨?_, b2⟩
      have mid : ∀ k e f, mrun tk mo j1 (pd1 ++ [22] ++ pl) o2 true k e f → mrun tk mo j (pd ++ pl) o1 true k e f := fun k e f g => pre _ _ _ (p3 _ _ _ (by rw [List.append_assoc, List.singleton_append] at g; exact g))
      cases s2 with
      | inr p => obtain ⟨k, e⟩ := p; obtain ⟨f, g⟩ := b1; exact ⟨f, mid _ _ _ g⟩
      | inl p => obtain ⟨j2, o2⟩ := p; obtain ⟨pd', o', q1, q2, q3⟩ := b1; exact ⟨pd', o', q1, q2, fun k e f g => mid _ _ _ (q3 _ _ _ g)⟩
  case r_bot =>
    intro d s s1 s2 h1 i1 h2 i2
    intro j o e hd pl hc hq
    have a := i1 j o e hd pl hc (asq_up (by omega) hq)
    cases s1 with
    | inr p => obtain ⟨k, e⟩ := p; rw [gg_bad h2 k e rfl]; exact ⟨a.1, trivial⟩
    | inl p =>
      obtain ⟨j1, o1'⟩ := p
      obtain ⟨⟨pd, o1, ⟨p1, pc⟩, p2, p3⟩, p4⟩ := a
      obtain ⟨b1, b2⟩ := i2 j1 o1' rfl hd pl pd o1 hc hq (rr_up p1 (by omega)) pc p4 p2
      refine ⟨?_, b2⟩
      cases s2 with
      | inr p => obtain ⟨k, e⟩ := p; obtain ⟨f, g⟩ := b1; exact ⟨f, p3 _ _ _ g⟩
      | inl p => obtain ⟨j2, o2⟩ := p; obtain ⟨pd', o', q1, q2, q3⟩ := b1; exact ⟨pd', o', q1, q2, fun k e f g => p3 _ _ _ (q3 _ _ _ g)⟩
  case r_boE =>
    intro d s c
    intro j o e hd pl pd o1 hc hq hp hm hn ho
    subst e
    exact ⟨⟨pd, o1, ⟨hp, hm⟩, ho, fun k e f g => g⟩, hn, c⟩
  case r_boO =>
    intro d s s1 s2 c h1 i1 h2 i2
    intro j o e hd pl pd o1 hc hq hp hm hn ho
    subst e
    have c : tk j = 27 := c
    have st : stl 2 (pd ++ pl) o1 = (pl, o) := by rw [stl_p (asq_low (by omega) hq) pd o1 (fun x hx => (hp x hx).1), ho]
    have op : opn (pd ++ pl) = 41 := by rw [opn_p pd (fun x hx => by have := hp x hx; omega)]; exact hq.1
    have a := i1 (j + 1) o rfl hd (21 :: pl) (by rw [cnm_n (by decide)]; exact hc) ⟨hq.1, .inr (by decide)⟩
    have pre : ∀ k e f, mrun tk mo (j + 1) (21 :: pl) o false k e f → mrun tk mo j (pd ++ pl) o1 true k e f := fun k e f g =>
      mrun_btw (.inr (.inr (.inl ⟨c, op, hm, rfl⟩))) (by rw [show rk 21 = 2 by decide, if_neg (by omega), st]; exact g)
    cases s1 with
    | inr p =>
      obtain ⟨k, e⟩ := p
      rw [gg_bad h2 k e rfl]
      obtain ⟨⟨f, g⟩, -⟩ := a
      exact ⟨⟨f, pre _ _ _ g⟩, trivial⟩
    | inl p =>
      obtain ⟨j1, o1'⟩ := p
      obtain ⟨⟨pd1, o2, ⟨p1, pc⟩, p2, p3⟩, p4⟩ := a
      obtain ⟨b1, b2⟩ := i2 j1 (o1' ++ [(21, 0)]) rfl hd pl (pd1 ++ [21]) o2 hc hq (rr_sn (rr_up p1 (by omega)) (by decide)) (by rw [List.append_assoc, List.singleton_append]; exact pc) p4 (by rw [p2, pz_sn, List.append_assoc])
      refine ⟨?_, b2⟩
      have mid : ∀ k e f, mrun tk mo j1 (pd1 ++ [21] ++ pl) o2 true k e f → mrun tk mo j (pd ++ pl) o1 true k e f := fun k e f g => pre _ _ _ (p3 _ _ _ (by rw [List.append_assoc, List.singleton_append] at g; exact g))
      cases s2 with
      | inr p => obtain ⟨k, e⟩ := p; obtain ⟨f, g⟩ := b1; exact ⟨f, mid _ _ _ g⟩
      | inl p => obtain ⟨j2, o2⟩ := p; obtain ⟨pd', o', q1, q2, q3⟩ := b1; exact ⟨pd', o', q1, q2, fun k e f g => mid _ _ _ (q3 _ _ _ g)⟩
  case r_nott =>
    intro d s s1 c1 c2 h1 i1
    intro j o e hd pl hc hq
    subst e
    have c1 : tk j = 28 := c1
    have a := i1 (j + 1) o rfl (by omega) (20 :: pl) (by rw [cnm_y (by decide), hc]) ⟨hq.1, .inr (by decide)⟩
    have pre : ∀ k e f, mrun tk mo (j + 1) (20 :: pl) o false k e f → mrun tk mo j pl o false k e f := fun k e f g => mrun_ntt c1 (asq_aah (by omega) hq) (by omega) g
    cases s1 with
    | inr p => obtain ⟨k, e⟩ := p; obtain ⟨⟨f, g⟩, -⟩ := a; exact ⟨⟨f, pre _ _ _ g⟩, trivial⟩
    | inl p =>
      obtain ⟨j1, o1'⟩ := p
      obtain ⟨⟨pd, o1, ⟨p1, pc⟩, p2, p3⟩, p4⟩ := a
      refine ⟨⟨pd ++ [20], o1, ⟨rr_sn p1 (by decide), by rw [List.append_assoc, List.singleton_append]; exact pc⟩, by rw [p2, pz_sn, List.append_assoc], fun k e f g => pre _ _ _ (p3 _ _ _ (by rw [List.append_assoc, List.singleton_append] at g; exact g))⟩, p4⟩
  case r_noD =>
    intro d s c1 c2
    intro j o e hd pl hc hq
    subst e
    exact ⟨⟨_, mrun_ntD c1 (asq_aah (by omega) hq) (by omega)⟩, trivial⟩
  case r_ask =>
    intro d s s1 s2 c1 h1 i1 c2 h2 i2
    intro j o e hd pl hc hq
    have c1 : tk j ≠ 28 := by subst e; exact c1
    have a := i1 j o e hd pl hc (low_up (by omega) (asq_low (by omega) hq)) (fun t => absurd t c1)
    cases s1 with
    | inr p => obtain ⟨k, e⟩ := p; exact absurd c2 (by simp [gcur, isC])
    | inl p =>
      obtain ⟨j1, o1'⟩ := p
      obtain ⟨⟨pd, o1, p1, p2, p3⟩, p4⟩ := a
      have c2 : isC (tk j1) := c2
      obtain ⟨r4, nm⟩ := rk_c c2
      have op : opn (pd ++ pl) = 41 := by rw [opn_p pd (fun x hx => by have := p1 x hx; omega)]; exact hq.1
      have nc : ¬ cmd (pd ++ pl) := by rw [cmd_p pd (fun x hx => by have := p1 x hx; omega)]; exact asq_cmd (by omega) hq
      have st : stl 5 (pd ++ pl) o1 = (pl, o1') := by rw [stl_p (low_up (by omega) (asq_low (by omega) hq)) pd o1 (fun x hx => (p1 x hx).1), p2]
      have pre : ∀ k e f, mrun tk mo (j1 + 1) (cop (tk j1) :: pl) o1' false k e f → mrun tk mo j pl o false k e f := fun k e f g => p3 _ _ _ (mrun_btw (.inr (.inl ⟨c2, op, nc, rfl⟩)) (by rw [if_pos r4, st]; exact g))
      have b := i2 (j1 + 1) o1' rfl hd (cop (tk j1) :: pl) (by rw [cnm_n nm]; exact hc) (lowq_c (by omega)) (fun _ => aah_n (by omega))
      cases s2 with
      | inr p => obtain ⟨k, e⟩ := p; obtain ⟨⟨f, g⟩, -⟩ := b; exact ⟨⟨f, pre _ _ _ g⟩, trivial⟩
      | inl p =>
        obtain ⟨j2, o2'⟩ := p
        obtain ⟨⟨pd2, o2, q1, q2, q3⟩, q4⟩ := b
        refine ⟨⟨pd2 ++ [cop (tk j1)], o2, ⟨rr_sn (rr_up q1 (by omega)) (by omega), ?_⟩, by rw [q2, pz_sn, List.append_assoc]; rfl, fun k e f g => pre _ _ _ (q3 _ _ _ (by rw [List.append_assoc, List.singleton_append] at g; exact g))⟩, q4⟩
        rw [List.append_assoc, List.singleton_append, cmd_p pd2 (fun x hx => by have := q1 x hx; omega), cmd, if_neg (by omega)]
        exact r4
  case r_asF =>
    intro d s s1 c1 h1 i1 c2
    intro j o e hd pl hc hq
    have c1 : tk j ≠ 28 := by subst e; exact c1
    have a := i1 j o e hd pl hc (low_up (by omega) (asq_low (by omega) hq)) (fun t => absurd t c1)
    cases s1 with
    | inr p => obtain ⟨k, e⟩ := p; exact ⟨a.1, trivial⟩
    | inl p =>
      obtain ⟨j1, o1'⟩ := p
      obtain ⟨⟨pd, o1, p1, p2, p3⟩, p4⟩ := a
      have p4 : no4 (tk j1) := p4
      have op : opn (pd ++ pl) = 41 := by rw [opn_p pd (fun x hx => by have := p1 x hx; omega)]; exact hq.1
      have nc : ¬ cmd (pd ++ pl) := by rw [cmd_p pd (fun x hx => by have := p1 x hx; omega)]; exact asq_cmd (by omega) hq
      exact ⟨⟨_, p3 _ _ _ (mrun_stp ⟨p4, fun t => ⟨fun _ => c2, fun m => absurd m nc⟩⟩ (by omega) (fun t => nc t.2.2) (by omega) (by omega) (by omega))⟩, trivial⟩
-- a whole law
theorem law_ok {j j' : Nat} {o o' : List (Int × Int)} (h : gg tk mo 0 0 ((.inl (j, o))) ((.inl (j', o')))) : mrun tk mo j [] o false 0 j' o' := by
  obtain ⟨⟨pd, o1, p1, p2, p3⟩, p4⟩ := gC_t h j o rfl (by omega) [] rfl (fun x hx => absurd hx (by simp)) (fun _ t => absurd t.1 (by decide))
  have p4 : no4 (tk j') := p4
  have op : opn (pd ++ []) = -1 := by rw [opn_p pd (fun x hx => by have := p1 x hx; omega)]; rfl
  have st : stl 1 (pd ++ []) o1 = ([], o') := by rw [stl_p (fun x hx => absurd hx (by simp)) pd o1 (fun x hx => by have := p1 x hx; omega), p2]
  have := p3 0 j' o' (by
    have := mrun_fin (tk := tk) (mo := mo) (j := j') (pl := pd ++ []) (o := o1) ⟨p4, fun t => by omega⟩ (by omega)
    rw [st] at this
    exact this)
  exact this
theorem law_bad {j e : Nat} {k : Int} {o : List (Int × Int)} (h : gg tk mo 0 0 ((.inl (j, o))) ((.inr (k, e)))) : ∃ f, mrun tk mo j [] o false k e f :=
  (gC_t h j o rfl (by omega) [] rfl (fun x hx => absurd hx (by simp)) (fun _ t => absurd t.1 (by decide))).1
end MR
