-- ===== how the class and the reference stand to one another =====
-- rows as lists
def tl (f : Int → Int) (b n : Int) : List Int := (List.range n.toNat).map (fun (i : Nat) => f (b + (i : Int)))
def ran (n : Int) : List Int := (List.range n.toNat).map (fun i => ((i : Nat) : Int))
-- a yard's cell k of the class is the reference's cell zs k of a step
def zs (k : Int) : Int := if k < 4 then k + 1 else if k = 4 then 0 else if k < 11 then k + 19 else if k < 29 then k - 5 else if k = 29 then 5 else k
def za (s : Int) : Int := if s = 0 then 0 else if s < 30 then s + 6 else s + 1894
def pk (x : Int) : Int := x / 54 * 256 + x / 9 % 6 * 16 + x / 3 % 3 * 4 + x % 3
def zp (k x : Int) : Int := if k < 30 then x else pk x
def yok (Y : Int → Int) : Prop := (0 ≤ Y 0 ∧ Y 0 ≤ 9999) ∧ (0 ≤ Y 1 ∧ Y 1 ≤ 30850) ∧ (0 ≤ Y 2 ∧ Y 2 ≤ 9) ∧ (0 ≤ Y 3 ∧ Y 3 ≤ 9) ∧ (0 ≤ Y 4 ∧ Y 4 ≤ 5) ∧ (0 ≤ Y 5 ∧ Y 5 ≤ 31) ∧ (0 ≤ Y 29 ∧ Y 29 ≤ 30) ∧ (∀ c, 0 ≤ c → c < 5 → 0 ≤ Y (6 + c) ∧ Y (6 + c) ≤ 9) ∧ (∀ t, 0 ≤ t → t < 3 → 0 ≤ Y (11 + t) ∧ Y (11 + t) ≤ 5) ∧ (tl Y 14 (Y 11) ++ tl Y 19 (Y 12) ++ tl Y 24 (Y 13)).Perm (ran (Y 4))
def yrel (Y S : Int → Int) : Prop := (∀ k, 0 ≤ k → k < 60 → Y k = zp k (S (zs k))) ∧ yok Y ∧ (∀ i, 30 ≤ i → i < 60 → 0 ≤ S i ∧ S i < 540000)
def jY (Y A : Int → Int) : Prop := yrel Y (fun s => A (za s))
def jK (e k : Int) (K A : Int → Int) : Prop := (0 ≤ e ∧ e < 30) ∧ (k = A 3 ∧ 0 ≤ A 3 ∧ A 3 ≤ 30) ∧ ∀ j, 0 ≤ j → j < A 3 → yrel (fun i => K (60 * ((e + j) % 30) + i)) (fun s => A (124 + 60 * j + s)) ∧ A (124 + 60 * j) ≤ A 0
def jC (C1 C2 C3 C4 C5 A : Int → Int) : Prop := ∀ c, 0 ≤ c → c < 5 → (C1 c = A (36 + c) ∧ 0 ≤ A (36 + c) ∧ A (36 + c) ≤ 3) ∧ (C2 c = A (41 + c) ∧ 0 ≤ A (41 + c) ∧ A (41 + c) ≤ 9) ∧ (1 ≤ A (46 + c) ∧ A (46 + c) ≤ 20) ∧ (1 ≤ A (51 + c) ∧ A (51 + c) ≤ 20) ∧ (0 ≤ A (103 + c) ∧ A (103 + c) ≤ 10) ∧ (c < A 0 → C3 c = A (46 + c) ∧ C4 c = A (51 + c) ∧ C5 c = A (103 + c)) ∧ (A 0 ≤ c → A (46 + c) = 1 ∧ A (51 + c) = 1 ∧ A (103 + c) = 0)
def jF (f : Int) (A : Int → Int) : Prop := (0 ≤ f ∧ f < 65536) ∧ ∀ k, 0 ≤ k → k < 4 → (0 ≤ A (56 + k) ∧ A (56 + k) ≤ 15) ∧ ∀ l, 0 ≤ l → l < 4 → tb f (4 * k + l) = tb (A (56 + k)) l
def jB (n : Int) (B A : Int → Int) : Prop := (∀ r, 0 ≤ r → r < 6 → B r = A (61 + r) ∧ - (99 * n) ≤ A (61 + r) ∧ A (61 + r) ≤ 99 * n) ∧ A 61 + A 62 + A 63 + A 64 + A 65 + A 66 = 0
def jT (m s : Int) (R A : Int → Int) : Prop := m = 8 ∧ (s = A 4 ∧ 0 ≤ A 4 ∧ A 4 ≤ 8) ∧ ∀ i, 0 ≤ i → i < 24 → R i = A (67 + i) ∧ 0 ≤ A (67 + i) ∧ A (67 + i) ≤ 30
def jS (m s : Int) (R A : Int → Int) : Prop := m = 4 ∧ (s = A 5 ∧ 0 ≤ A 5 ∧ A 5 ≤ 4) ∧ ∀ i, 0 ≤ i → i < 4 → (R (3 * i) = A (91 + 3 * i) ∧ 0 ≤ A (91 + 3 * i) ∧ A (91 + 3 * i) ≤ 3) ∧ (R (3 * i + 1) = A (91 + 3 * i + 1) ∧ 0 ≤ A (91 + 3 * i + 1) ∧ A (91 + 3 * i + 1) ≤ 4) ∧ (R (3 * i + 2) = A (91 + 3 * i + 2) ∧ 0 ≤ A (91 + 3 * i + 2) ∧ A (91 + 3 * i + 2) ≤ 2)
def jD (m s : Int) (R A : Int → Int) : Prop := m = 8 ∧ (s = A 6 ∧ 0 ≤ A 6 ∧ A 6 ≤ 8) ∧ ∀ i, 0 ≤ i → i < 8 → (R (3 * i) = A (108 + 2 * i) ∧ 0 ≤ A (108 + 2 * i) ∧ A (108 + 2 * i) ≤ 4) ∧ (R (3 * i + 1) = A (108 + 2 * i + 1) ∧ -9 ≤ A (108 + 2 * i + 1) ∧ A (108 + 2 * i + 1) ≤ 9)
def jX (x1 x2 x3 : Int) (A : Int → Int) : Prop := (x1 = A 1 ∧ 0 ≤ A 1 ∧ A 1 ≤ 4) ∧ (x2 = A 2 ∧ -1 ≤ A 2 ∧ A 2 < A 1) ∧ (x3 = A 60 ∧ 0 ≤ A 60 ∧ A 60 ≤ 119)
-- a text: what the class's sign x is to the reference's pair
def cxo (o : Int) : Int := if o = 2 then 21 else if o = 3 then 22 else if o = 4 then 20 else if o = 5 then 43 else if o < 10 then o + 28 else if o = 10 then 30 else if o = 11 then 41 else if o = 12 then 31 else if o = 13 then 42 else if o < 16 then o + 18 else if o = 20 then 28 else if o = 21 then 27 else 26
def cxp (x o w : Int) : Prop := (o = 0 ∧ x = w ∧ 0 ≤ w ∧ w ≤ 9999) ∨ (o = 1 ∧ x = 10000 + w ∧ 0 ≤ w ∧ w ≤ 10) ∨ (((2 ≤ o ∧ o ≤ 15) ∨ (20 ≤ o ∧ o ≤ 22)) ∧ x = 20000 + cxo o)
def tyo (o : Int) (s : List Bool) : Option (List Bool) :=
  if o = 0 ∨ o = 1 then some (true :: s)
  else if o = 3 then (match s with
    | true :: true :: false :: r => some (true :: r)
    | _ => none)
  else if o < 6 then (match s with
    | true :: r => some (true :: r)
    | _ => none)
  else if o < 10 then (match s with
    | true :: true :: r => some (true :: r)
    | _ => none)
  else if o < 20 then (match s with
    | true :: true :: r => some (false :: r)
    | _ => none)
  else if o = 20 then (match s with
    | false :: r => some (false :: r)
    | _ => none)
  else (match s with
    | false :: false :: r => some (false :: r)
    | _ => none)
def tyl : List Int → List Bool → Option (List Bool)
  | [], s => some s
  | o :: l, s => (tyo o s).bind (tyl l)
-- the ops of the reference's text k from place p to place q
def opl (X : Int → Int) (k p q : Int) : List Int := (List.range (q - p).toNat).map (fun (i : Nat) => X (681 * k + 73 + 2 * (p + (i : Int))))
def lawok (w : Int) (fo X : Int → Int) (k p q n : Int) : Prop := (0 ≤ p ∧ p ≤ q ∧ q ≤ n) ∧ tyl (opl X k p q) [] = some [true] ∧ ∀ i, p ≤ i → i < q → cxp (fo i) (X (681 * k + 73 + 2 * i)) (X (681 * k + 73 + 2 * i + 1)) ∧ (X (681 * k + 73 + 2 * i) = 1 → (w = 0 → X (681 * k + 73 + 2 * i + 1) < 9) ∧ (w = 1 → X (681 * k + 73 + 2 * i + 1) < 6 ∨ 8 < X (681 * k + 73 + 2 * i + 1)))
def deedok (s a b : Int) : Prop := (s = 2 → (0 ≤ a ∧ a ≤ 3) ∧ 1 ≤ b ∧ b ≤ 9) ∧ (s = 3 → (0 ≤ a ∧ a ≤ 3) ∧ 0 ≤ b ∧ b ≤ 3) ∧ (s = 4 → (0 ≤ a ∧ a ≤ 2) ∧ 0 ≤ b ∧ b ≤ 2) ∧ (s = 6 → (1 ≤ a ∧ a ≤ 9) ∧ 0 ≤ b ∧ b ≤ 1) ∧ (s = 7 → 1 ≤ a ∧ a ≤ 60)
def clok (fc X : Int → Int) (k j : Int) : Prop := (0 ≤ X (681 * k + 1 + 3 * j) ∧ X (681 * k + 1 + 3 * j) ≤ 7) ∧ fc (3 * j) = (if X (681 * k + 1 + 3 * j) = 7 then 0 else X (681 * k + 1 + 3 * j) + 11) ∧ (2 ≤ X (681 * k + 1 + 3 * j) → X (681 * k + 1 + 3 * j) ≠ 5 → fc (3 * j + 1) = X (681 * k + 1 + 3 * j + 1) ∧ (X (681 * k + 1 + 3 * j) ≠ 7 → fc (3 * j + 2) = X (681 * k + 1 + 3 * j + 2)) ∧ deedok (X (681 * k + 1 + 3 * j)) (X (681 * k + 1 + 3 * j + 1)) (X (681 * k + 1 + 3 * j + 2)))
def lwok (w : Int) (fb fo X : Int → Int) (k nc n : Int) : Prop := (fb (2 * w) = -1 ∧ ∀ j, 0 ≤ j → j < nc → X (681 * k + 1 + 3 * j) ≠ w) ∨ (0 ≤ fb (2 * w) ∧ ∃ j, (0 ≤ j ∧ j < nc) ∧ X (681 * k + 1 + 3 * j) = w ∧ (∀ i, 0 ≤ i → i < j → X (681 * k + 1 + 3 * i) ≠ w) ∧ X (681 * k + 1 + 3 * j + 1) = fb (2 * w) ∧ X (681 * k + 1 + 3 * j + 2) = fb (2 * w + 1) ∧ lawok w fo X k (fb (2 * w)) (fb (2 * w + 1)) n)
def TX (G : hp) (r : Option Nat) (X : Int → Int) (k : Int) : Prop := ∃ (h hc ho hb : Nat) (nc n : Int) (fc fo fb : Int → Int), (r = some h ∧ 87 ≤ h ∧ 87 ≤ hc ∧ 87 ≤ ho ∧ 87 ≤ hb) ∧ (G h = some (cO 8 [vr (some hc), vr (some ho), vr (some hb)]) ∧ G hc = some (cA 0 (3 * nc) fc) ∧ G ho = some (cA 0 n fo) ∧ G hb = some (cA 0 4 fb)) ∧ (X (681 * k) = nc ∧ 0 ≤ nc ∧ nc ≤ 24) ∧ (0 ≤ n ∧ n ≤ 300) ∧ (∀ j, 0 ≤ j → j < nc → clok fc X k j) ∧ lwok 0 fb fo X k nc n ∧ lwok 1 fb fo X k nc n
def jG (G : hp) (T : Int → Option Nat) (X A : Int → Int) : Prop := ∀ k, 0 ≤ k → k < A 1 → TX G (T k) X k
-- a station (the class's own rows) and a row of the reference
def SR (n : Int) (G : hp) (X A Y K C1 C2 C3 C4 C5 B T1 S1 D1 : Int → Int) (e k f t1 t2 s1 s2 d1 d2 x1 x2 x3 : Int) (T : Int → Option Nat) : Prop := jY Y A ∧ jK e k K A ∧ jC C1 C2 C3 C4 C5 A ∧ jF f A ∧ jB n B A ∧ jT t1 t2 T1 A ∧ jS s1 s2 S1 A ∧ jD d1 d2 D1 A ∧ jX x1 x2 x3 A ∧ jG G T X A
-- how cars stand: three lists, each from the top; a move of code mv where the pairs P allow it
def sg (s : List Int × List Int × List Int) (t : Int) : List Int := if t = 0 then s.1 else if t = 1 then s.2.1 else s.2.2
def sp (s : List Int × List Int × List Int) (t : Int) (l : List Int) : List Int × List Int × List Int := if t = 0 then (l, s.2.1, s.2.2) else if t = 1 then (s.1, l, s.2.2) else (s.1, s.2.1, l)
def stp (P : Int) (s : List Int × List Int × List Int) (mv : Int) : Option (List Int × List Int × List Int) :=
  if mv / 3 = mv % 3 then none
  else match sg s (mv / 3) with
    | [] => none
    | c :: r => match sg s (mv % 3) with
      | [] => some (sp (sp s (mv / 3) r) (mv % 3) [c])
      | d :: q => if tb P (5 * c + d) then some (sp (sp s (mv / 3) r) (mv % 3) (c :: d :: q)) else none
def sts (s : List Int × List Int × List Int) : List Int := s.1 ++ s.2.1 ++ s.2.2
def svl (n : Int) (s : List Int × List Int × List Int) : Prop := (sts s).Perm (ran n)
-- the search, nearest first: of each way to stand from which place and by which move
def bq1 (P : Int) (i : Nat) (q : List ((List Int × List Int × List Int) × Nat × Nat)) (mv : Nat) : List ((List Int × List Int × List Int) × Nat × Nat) :=
  match q[i]? with
  | none => q
  | some (s, _, _) => match stp P s mv with
    | none => q
    | some s' => if s' ∈ q.map (fun x => x.1) then q else q ++ [(s', i, mv)]
def bq (P : Int) (i : Nat) (q : List ((List Int × List Int × List Int) × Nat × Nat)) : List ((List Int × List Int × List Int) × Nat × Nat) := (List.range 9).foldl (bq1 P i) q
def bfs (P : Int) : Nat → Nat → List ((List Int × List Int × List Int) × Nat × Nat) → List ((List Int × List Int × List Int) × Nat × Nat)
  | 0, _, q => q
  | k + 1, i, q => if i < q.length then bfs P k (i + 1) (bq P i q) else q
-- of each car what is below it, in three bits
def blw (f c : Int) : List Int → Int
  | [] => 0
  | d :: r => if c = d then (match r with
    | [] => f
    | e :: _ => e) else blw f c r
def bel (s : List Int × List Int × List Int) (c : Int) : Int := blw 5 c s.1 + blw 6 c s.2.1 + blw 7 c s.2.2
def enc (s : List Int × List Int × List Int) : Int := bel s 0 + 8 * bel s 1 + 64 * bel s 2 + 512 * bel s 3 + 4096 * bel s 4
def jH (f n P : Int) (C D : Int → Int) : Prop := 0 ≤ f ∧ (0 < f → ∃ s, svl n s ∧ (0 ≤ n ∧ n ≤ 5) ∧ (0 ≤ P ∧ P ≤ 33554431) ∧ f = ((bfs P 2521 0 [(s, 0, 0)]).length : Int) ∧ ∀ (j : Nat) x, (bfs P 2521 0 [(s, 0, 0)])[j]? = some x → C j = enc x.1 ∧ D j = 9 * (x.2.1 : Int) + x.2.2)
def jL (a b c a' b' c' : Int) (R W : Int → Int) : Prop := (a = a' ∧ 0 ≤ a' ∧ a' ≤ 300) ∧ (b = b' ∧ -1 ≤ b' ∧ b' ≤ 6) ∧ (c = c' ∧ -1 ≤ c' ∧ c' ≤ 300) ∧ ∀ i, 0 ≤ i → i < a' → (-128 ≤ R i ∧ R i ≤ 127) ∧ W i = R i % 256
def jO (G : hp) (T : Int → Option Nat) : Prop := ∀ i, 0 ≤ i → i < 4 → T i = none ∨ ∃ x fs, T i = some x ∧ 87 ≤ x ∧ G x = some (cO 8 fs)
def jN (G : hp) (T1 T2 : Int → Option Nat) : Prop := (∃ a : Nat, 87 ≤ a ∧ ∀ h, h < 8 ∨ 87 ≤ h → (G h = none ↔ h < 8 ∨ a ≤ h)) ∧ jO G T1 ∧ jO G T2
def Rel (n : Int) (G : hp) (v : Nat → Nat → Int) (N : Nat → Int → Int) (T : Nat → Int → Option Nat) (u : Nat → Int) (M : Nat → Int → Int) : Prop :=
  SR n G (M 72) (M 70) (N 12) (N 14) (N 15) (N 16) (N 17) (N 18) (N 19) (N 20) (N 22) (N 24) (N 26) (v 13 1) (v 13 2) (v 10 15) (v 21 1) (v 21 2) (v 23 1) (v 23 2) (v 25 1) (v 25 2) (v 10 12) (v 10 13) (v 10 14) (T 27)
  ∧ SR n G (M 72) (M 71) (N 33) (N 35) (N 36) (N 37) (N 38) (N 39) (N 40) (N 41) (N 43) (N 45) (N 47) (v 34 1) (v 34 2) (v 31 15) (v 42 1) (v 42 2) (v 44 1) (v 44 2) (v 46 1) (v 46 2) (v 31 12) (v 31 13) (v 31 14) (T 48)
  ∧ (M 71 0 ≤ M 70 0 ∧ M 71 1 ≤ M 70 1) ∧ jL (v 49 6) (v 49 7) (v 49 8) (u 4) (u 5) (u 6) (N 50) (M 73) ∧ u 23 = 1 ∧ jH (v 56 5) (v 56 6) (v 56 7) (N 57) (N 58) ∧ jN G (T 27) (T 48)
