-- ===== the tape cut into tokens =====
def bL (b : Int) : Bool := decide ((97 ≤ b ∧ b ≤ 122) ∨ (65 ≤ b ∧ b ≤ 90))
def bD (b : Int) : Bool := decide (48 ≤ b ∧ b ≤ 57)
def bS (b : Int) : Bool := decide (b = 32 ∨ b = 10)
def spn (P : Int → Bool) (W : Int → Int) (L : Int) : Nat → Int → Int
  | 0, p => p
  | k + 1, p => if p < L ∧ P (W p) = true then spn P W L k (p + 1) else p
def spe (P : Int → Bool) (W : Int → Int) (L p : Int) : Int := spn P W L (L - p).toNat p
theorem spe_n {P : Int → Bool} {W : Int → Int} {L p : Int} (h : ¬ (p < L ∧ P (W p) = true)) : spe P W L p = p := by
  unfold spe
  cases (L - p).toNat with
  | zero => rfl
  | succ k => rw [spn, if_neg h]
theorem spe_y {P : Int → Bool} {W : Int → Int} {L p : Int} (h : p < L) (h2 : P (W p) = true) : spe P W L p = spe P W L (p + 1) := by
  unfold spe
  obtain ⟨k, hk⟩ : ∃ k, (L - p).toNat = k + 1 := ⟨(L - p).toNat - 1, by omega⟩
  rw [hk, spn, if_pos ⟨h, h2⟩, show (L - (p + 1)).toNat = k by omega]
theorem spe_b {P : Int → Bool} {W : Int → Int} {L : Int} : ∀ (k : Nat) (p : Int), (L - p).toNat = k → p ≤ L → p ≤ spe P W L p ∧ spe P W L p ≤ L := by
  intro k
  induction k with
  | zero => intro p hk hp; rw [spe_n (by omega)]; omega
  | succ k ih =>
    intro p hk hp
    by_cases d : p < L ∧ P (W p) = true
    · rw [spe_y d.1 d.2]
      have := ih (p + 1) (by omega) (by omega)
      omega
    · rw [spe_n d]; omega
theorem spe_bd {P : Int → Bool} {W : Int → Int} {L p : Int} (h : p ≤ L) : p ≤ spe P W L p ∧ spe P W L p ≤ L := spe_b _ p rfl h
theorem spe_e {P : Int → Bool} {W : Int → Int} {L : Int} : ∀ (k : Nat) (p : Int), (L - p).toNat = k → p ≤ L → ¬ (spe P W L p < L ∧ P (W (spe P W L p)) = true) := by
  intro k
  induction k with
  | zero => intro p hk hp; rw [spe_n (by omega)]; omega
  | succ k ih =>
    intro p hk hp
    by_cases d : p < L ∧ P (W p) = true
    · rw [spe_y d.1 d.2]
      exact ih (p + 1) (by omega) (by omega)
    · rw [spe_n d]; exact d
def nmc : List Int → Int → Int
  | [], a => a
  | b :: r, a => nmc r (if 10000 < a * 10 + b - 48 then 10000 else a * 10 + b - 48)
def sgn (b : Int) : Int := if b = 60 then 30 else if b = 62 then 31 else if b = 61 then 32 else if b = 35 then 33 else if b = 43 then 34 else if b = 45 then 35 else if b = 42 then 36 else if b = 47 then 37 else if b = 40 then 38 else if b = 41 then 39 else if b = 59 then 40 else 45
abbrev dbl (W : Int → Int) (L p : Int) : Prop := (W p = 60 ∨ W p = 62) ∧ p + 1 < L ∧ W (p + 1) = 61
def lxb (W : Int → Int) (L p : Int) : Int := if bL (W p) = true then spe bL W L p else if bD (W p) = true then spe bD W L p else if dbl W L p then p + 2 else p + 1
def lxc (W : Int → Int) (L p : Int) : Int := if bL (W p) = true then wcd (tl W p (spe bL W L p - p)) else if bD (W p) = true then 100 + nmc (tl W p (spe bD W L p - p)) 0 else if dbl W L p then (if W p = 60 then 41 else 42) else sgn (W p)
def lxp (W : Int → Int) (L : Int) : Nat → Int
  | 0 => 0
  | j + 1 => if spe bS W L (lxp W L j) < L then lxb W L (spe bS W L (lxp W L j)) else spe bS W L (lxp W L j)
def lpl (W : Int → Int) (L : Int) (j : Nat) : Int := spe bS W L (lxp W L j)
def ltk (W : Int → Int) (L : Int) (j : Nat) : Int := if lpl W L j < L then lxc W L (lpl W L j) else 44
def lbh (W : Int → Int) (L : Int) (j : Nat) : Int := lxp W L (j + 1)
section LX
variable {W : Int → Int} {L : Int}
theorem lxb_b {p : Int} (h : p < L) : p + 1 ≤ lxb W L p ∧ lxb W L p ≤ L := by
  unfold lxb
  by_cases d1 : bL (W p) = true
  · rw [if_pos d1, spe_y h d1]; exact spe_bd (by omega)
  rw [if_neg d1]
  by_cases d2 : bD (W p) = true
  · rw [if_pos d2, spe_y h d2]; exact spe_bd (by omega)
  rw [if_neg d2]
  by_cases d3 : dbl W L p
  · rw [if_pos d3]; have := d3.2.1; omega
  · rw [if_neg d3]; omega
theorem lxp_b (hL : 0 ≤ L) : ∀ j : Nat, 0 ≤ lxp W L j ∧ lxp W L j ≤ L
  | 0 => ⟨by show (0 : Int) ≤ 0; omega, hL⟩
  | j + 1 => by
    have i := lxp_b hL j
    have s := spe_bd (P := bS) (W := W) i.2
    rw [lxp]
    by_cases d : spe bS W L (lxp W L j) < L
    · rw [if_pos d]; have := lxb_b (W := W) d; omega
    · rw [if_neg d]; omega
theorem lpl_b (hL : 0 ≤ L) (j : Nat) : lxp W L j ≤ lpl W L j ∧ lpl W L j ≤ L := spe_bd (lxp_b hL j).2
theorem lxp_s (hL : 0 ≤ L) (j : Nat) (h : lpl W L j < L) : lxp W L j + 1 ≤ lxp W L (j + 1) := by
  have := lpl_b (W := W) hL j
  have b := lxb_b (W := W) h
  show _ ≤ (if lpl W L j < L then lxb W L (lpl W L j) else lpl W L j)
  rw [if_pos h]; omega
theorem lex_n (hL : 0 ≤ L) : ∀ (n j : Nat), (L - lxp W L j).toNat ≤ n → (∀ i, i < j → lpl W L i < L) → (j : Int) ≤ lxp W L j → ∃ cn : Nat, (cn : Int) ≤ L ∧ lpl W L cn = L ∧ ∀ i, i < cn → lpl W L i < L := by
  intro n
  induction n with
  | zero =>
    intro j hn hj hl
    have b := lxp_b (W := W) hL j
    have p := lpl_b (W := W) hL j
    exact ⟨j, by omega, by omega, hj⟩
  | succ n ih =>
    intro j hn hj hl
    have b := lxp_b (W := W) hL j
    have p := lpl_b (W := W) hL j
    by_cases d : lpl W L j < L
    · have s := lxp_s hL j d
      exact ih (j + 1) (by omega) (fun i hi => by
        by_cases e : i = j
        · subst e; exact d
        · exact hj i (by omega)) (by omega)
    · exact ⟨j, by omega, by omega, hj⟩
theorem lex_cn (hL : 0 ≤ L) : ∃ cn : Nat, (cn : Int) ≤ L ∧ lpl W L cn = L ∧ ∀ i, i < cn → lpl W L i < L := lex_n hL _ 0 (Nat.le_refl _) (fun i hi => absurd hi (by omega)) (by show (0 : Int) ≤ 0; omega)
theorem nmc_b : ∀ (l : List Int) (a : Int), (∀ b, b ∈ l → bD b = true) → 0 ≤ a ∧ a ≤ 10000 → 0 ≤ nmc l a ∧ nmc l a ≤ 10000
  | [], a, _, h => h
  | b :: r, a, hd, h => by
    rw [nmc]
    have := hd b List.mem_cons_self
    unfold bD at this
    rw [decide_eq_true_eq] at this
    exact nmc_b r _ (fun c hc => hd c (List.mem_cons_of_mem _ hc)) (by split <;> omega)
theorem wcd_b (l : List Int) : (0 ≤ wcd l ∧ wcd l ≤ 28) ∨ wcd l = 45 := by
  unfold wcd
  cases e : wds.findIdx? (fun w => w == l) with
  | none => exact .inr rfl
  | some i =>
    have h := (List.findIdx?_eq_some_iff_getElem.1 e).1
    have : wds.length = 29 := rfl
    left
    simp only
    omega
theorem sgn_b (b : Int) : (30 ≤ sgn b ∧ sgn b ≤ 40) ∨ sgn b = 45 := by
  unfold sgn
  repeat' split
  all_goals omega
theorem spe_m {P : Int → Bool} : ∀ (k : Nat) (p : Int), (L - p).toNat = k → p ≤ L → ∀ b, b ∈ tl W p (spe P W L p - p) → P b = true := by
  intro k
  induction k with
  | zero =>
    intro p hk hp b hb
    rw [spe_n (by omega), Int.sub_self] at hb
    exact absurd hb (by simp [tl])
  | succ k ih =>
    intro p hk hp b hb
    by_cases d : p < L ∧ P (W p) = true
    · rw [spe_y d.1 d.2] at hb
      have s := spe_bd (P := P) (W := W) (L := L) (p := p + 1) (by omega)
      rw [show spe P W L (p + 1) - p = (spe P W L (p + 1) - (p + 1)) + 1 by omega, tl_cons (by omega)] at hb
      rcases List.mem_cons.1 hb with t | t
      · rw [t]; exact d.2
      · exact ih (p + 1) (by omega) (by omega) b t
    · rw [spe_n d, Int.sub_self] at hb
      exact absurd hb (by simp [tl])
theorem lxc_b {p : Int} (h : p < L) : (0 ≤ lxc W L p ∧ lxc W L p ≤ 10100) ∧ lxc W L p ≠ 44 := by
  unfold lxc
  by_cases d1 : bL (W p) = true
  · rw [if_pos d1]; have := wcd_b (tl W p (spe bL W L p - p)); omega
  rw [if_neg d1]
  by_cases d2 : bD (W p) = true
  · rw [if_pos d2]
    have := nmc_b (tl W p (spe bD W L p - p)) 0 (spe_m _ p rfl (by omega)) (by omega)
    omega
  rw [if_neg d2]
  by_cases d3 : dbl W L p
  · rw [if_pos d3]; split <;> omega
  · rw [if_neg d3]; have := sgn_b (W p); omega
theorem ltk_ok (hL : 0 ≤ L ∧ L ≤ 300) {cn : Nat} (hc : (cn : Int) ≤ L) (h1 : lpl W L cn = L) (h2 : ∀ i, i < cn → lpl W L i < L) : tkok (ltk W L) cn := by
  refine ⟨?_, by omega, fun i hi => ?_⟩
  · unfold ltk; rw [if_neg (by omega)]
  · unfold ltk
    by_cases d : lpl W L i < L
    · rw [if_pos d]; exact (lxc_b d).1
    · rw [if_neg d]; omega
end LX
