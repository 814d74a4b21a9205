-- ===== accounts =====
def rst (s p : Int) : Int := iAnd s (iXor p (-1))
def VP (s p : Int) : Prop := iAnd p (iXor s (-1)) = 0 ∧ iAnd p (iAnd s (-s)) ≠ 0
def sfl (A : Int → Int) (s : Int) : Nat → Int → Int
  | 0, _ => 0
  | k + 1, r => (if tb s r then A (61 + r) else 0) + sfl A s k (r + 1)
def sof (A : Int → Int) (s : Int) : Int := sfl A s 6 0
set_option maxRecDepth 20000 in
theorem vp_t1 : ∀ s : Nat, s < 64 → ∀ p : Nat, p < 64 → (iAnd (p : Int) (iXor (s : Int) (-1)) = 0 ↔ p &&& s = p) ∧ (-1 < iAnd (p : Int) (iXor (s : Int) (-1)) ∧ iAnd (p : Int) (iXor (s : Int) (-1)) < 64) ∧ (-1 < iAnd (p : Int) (iAnd (s : Int) (-(s : Int))) ∧ iAnd (p : Int) (iAnd (s : Int) (-(s : Int))) < 64) := by decide +kernel
set_option maxRecDepth 20000 in
theorem vp_t2 : ∀ s : Nat, s < 64 → ∀ p : Nat, p < s → 0 < p → p &&& s = p → 1 ≤ iAnd (s : Int) (iXor (p : Int) (-1)) ∧ iAnd (s : Int) (iXor (p : Int) (-1)) < s := by decide +kernel
set_option maxRecDepth 20000 in
theorem vp_t3 : ∀ s : Nat, s < 64 → 0 < s → (iAnd (s : Int) (iXor (s : Int) (-1)) = 0 ∧ iAnd (s : Int) (iAnd (s : Int) (-(s : Int))) ≠ 0) := by decide +kernel
set_option maxRecDepth 20000 in
theorem vp_t4c : ∀ s : Nat, s < 64 → ∀ q : Nat, q < 64 → ∀ p : Nat, p < q → q &&& s ≠ q ∨ p &&& s ≠ p ∨ p ≤ (q - 1) &&& s := by decide +kernel
theorem vp_t4 {s q : Nat} (hs : s < 64) (hq : q < 64) (h0 : 0 < q) (h : q &&& s = q) : ((q - 1) &&& s) &&& s = (q - 1) &&& s ∧ (q - 1) &&& s < q ∧ ∀ p : Nat, p < q → p &&& s = p → p ≤ (q - 1) &&& s := by
  refine ⟨by rw [Nat.and_assoc, Nat.and_self], ?_, fun p h1 h2 => ?_⟩
  · have := @Nat.and_le_left (q - 1) s
    omega
  · rcases vp_t4c s hs q hq p h1 with e | e | e
    · exact absurd h e
    · exact absurd h2 e
    · exact e
set_option maxRecDepth 20000 in
theorem vp_t5c : ∀ s : Nat, s < 64 → ∀ p : Nat, p < 64 → ∀ k : Nat, k < 6 → p &&& s ≠ p ∨ iAnd (p : Int) (iAnd (s : Int) (-(s : Int))) = 0 ∨ s % 2 ^ k ≠ 0 ∨ (iAnd (s : Int) (iXor (p : Int) (-1))).toNat % 2 ^ (k + 1) = 0 := by decide +kernel
theorem vp_t5 {s p : Nat} (hs : s < 64) (hp : p < 64) (h1 : p &&& s = p) (h2 : iAnd (p : Int) (iAnd (s : Int) (-(s : Int))) ≠ 0) {k : Nat} (hk : k < 6) (h3 : s % 2 ^ k = 0) : (iAnd (s : Int) (iXor (p : Int) (-1))).toNat % 2 ^ (k + 1) = 0 := by
  rcases vp_t5c s hs p hp k hk with e | e | e | e
  · exact absurd h1 e
  · exact absurd e h2
  · exact absurd h3 e
  · exact e
theorem sub_i {s p : Int} (hs : 0 ≤ s ∧ s < 64) (hp : 0 ≤ p ∧ p < 64) : iAnd p (iXor s (-1)) = 0 ↔ p.toNat &&& s.toNat = p.toNat := by
  have := (vp_t1 s.toNat (by omega) p.toNat (by omega)).1
  rw [Int.toNat_of_nonneg hs.1, Int.toNat_of_nonneg hp.1] at this
  exact this
theorem ib_b {s p : Int} (hs : 0 ≤ s ∧ s < 64) (hp : 0 ≤ p ∧ p < 64) : (-1 < iAnd p (iXor s (-1)) ∧ iAnd p (iXor s (-1)) < 64) ∧ (-1 < iAnd p (iAnd s (-s)) ∧ iAnd p (iAnd s (-s)) < 64) := by
  have := (vp_t1 s.toNat (by omega) p.toNat (by omega)).2
  rw [Int.toNat_of_nonneg hs.1, Int.toNat_of_nonneg hp.1] at this
  exact this
theorem rst_b {s p : Int} (hs : 0 ≤ s ∧ s < 64) (hp : 0 < p ∧ p < s) (h : iAnd p (iXor s (-1)) = 0) : 1 ≤ rst s p ∧ rst s p < s := by
  have := vp_t2 s.toNat (by omega) p.toNat (by omega) (by omega) ((sub_i hs (by omega)).mp h)
  rw [Int.toNat_of_nonneg hs.1, Int.toNat_of_nonneg (show 0 ≤ p by omega)] at this
  exact this
theorem rst_s {s : Int} (hs : 1 ≤ s ∧ s < 64) : rst s s = 0 ∧ VP s s := by
  have := vp_t3 s.toNat (by omega) (by omega)
  rw [Int.toNat_of_nonneg (show 0 ≤ s by omega)] at this
  exact ⟨this.1, this.1, this.2⟩
theorem rst_g {s p : Int} (hs : 0 ≤ s ∧ s < 64) (hp : 0 ≤ p ∧ p < 64) : 0 ≤ rst s p ∧ rst s p ≤ s := andn_b (by omega) (by omega)
theorem sfl_add {A : Int → Int} {s p q : Int} (h : ∀ r, 0 ≤ r → r < 6 → tb s r = (tb p r || tb q r) ∧ (tb p r && tb q r) = false) : ∀ (k : Nat) (r : Int), r + k = 6 → 0 ≤ r → sfl A s k r = sfl A p k r + sfl A q k r := by
  intro k
  induction k with
  | zero => intro r _ _; rfl
  | succ k ih =>
    intro r hr h0
    obtain ⟨h1, h2⟩ := h r h0 (by omega)
    rw [sfl, sfl, sfl, ih (r + 1) (by omega) (by omega), h1]
    cases hp : tb p r <;> cases hq : tb q r
    · simp only [Bool.or_false, Bool.false_eq_true, if_false]; omega
    · simp only [Bool.or_true, Bool.false_eq_true, if_false, if_true]; omega
    · simp only [Bool.or_false, Bool.false_eq_true, if_false, if_true]; omega
    · rw [hp, hq] at h2; cases h2
theorem tb_sub {s p r : Int} (h : p.toNat &&& s.toNat = p.toNat) (hp : tb p r = true) : tb s r = true := by
  unfold tb at hp ⊢
  rw [← h, Nat.testBit_and, Bool.and_eq_true] at hp
  exact hp.2
theorem sof_add {A : Int → Int} {s p : Int} (hs : 0 ≤ s ∧ s < 64) (hp : 0 ≤ p ∧ p < 64) (h : iAnd p (iXor s (-1)) = 0) : sof A s = sof A p + sof A (rst s p) := by
  refine sfl_add (fun r r0 r1 => ?_) 6 0 (by omega) (by omega)
  have e : tb (rst s p) r = (tb s r && !tb p r) := tb_andn (by omega) (by omega) (by omega)
  have k := @tb_sub s p r ((sub_i hs hp).mp h)
  rw [e]
  cases h1 : tb p r
  · cases tb s r <;> exact ⟨rfl, rfl⟩
  · rw [k h1]; exact ⟨rfl, rfl⟩
theorem sfl_b {A : Int → Int} {s m : Int} (hm : 0 ≤ m) (h : ∀ r, 0 ≤ r → r < 6 → -m ≤ A (61 + r) ∧ A (61 + r) ≤ m) : ∀ (k : Nat) (r : Int), r + k = 6 → 0 ≤ r → -(k * m) ≤ sfl A s k r ∧ sfl A s k r ≤ k * m := by
  intro k
  induction k with
  | zero => intro r _ _; rw [sfl]; simp
  | succ k ih =>
    intro r hr h0
    have a := ih (r + 1) (by omega) (by omega)
    have b := h r h0 (by omega)
    have e : ((k + 1 : Nat) : Int) * m = k * m + m := by rw [show ((k + 1 : Nat) : Int) = (k : Int) + 1 by omega, Int.add_mul, Int.one_mul]
    rw [sfl, e]
    generalize (k : Int) * m = z at a ⊢
    split <;> omega
def EqC (A m : Int → Int) (p : Int) : Prop := (-1 ≤ m p ∧ m p ≤ p) ∧ (sof A p ≠ 0 → m p = -1) ∧ (sof A p = 0 → 1 ≤ m p ∧ (m p = 1 ∨ ∃ q, (1 ≤ q ∧ q < p) ∧ VP p q ∧ sof A q = 0 ∧ m p = 1 + m (rst p q)) ∧ ∀ q, 1 ≤ q → q < p → VP p q → sof A q = 0 → 1 + m (rst p q) ≤ m p)
def EqM (A g : Int → Int) (p : Int) : Prop := (-1 ≤ g p ∧ g p ≤ p) ∧ (g p = -1 ∨ ∃ q, (1 ≤ q ∧ q ≤ p) ∧ VP p q ∧ sof A q = 0 ∧ g (rst p q) ≠ -1 ∧ g p = 1 + g (rst p q)) ∧ ∀ q, 1 ≤ q → q ≤ p → VP p q → sof A q = 0 → g (rst p q) ≠ -1 → 1 + g (rst p q) ≤ g p
theorem eqcm {A m g : Int → Int} (hm : ∀ p, 1 ≤ p → p < 64 → EqC A m p) (h0 : g 0 = 0) (hg : ∀ p, 1 ≤ p → p < 64 → EqM A g p) : ∀ (k : Nat) (p : Int), p = k → 1 ≤ p → p < 64 → m p = g p := by
  intro k
  induction k using Nat.strongRecOn with
  | ind k ih =>
    intro p hk p1 p2
    obtain ⟨c1, c2, c3⟩ := hm p p1 p2
    obtain ⟨g1, g2, g3⟩ := hg p p1 p2
    have sm : ∀ q, 1 ≤ q → q < p → VP p q → (1 ≤ rst p q ∧ rst p q < p) ∧ m (rst p q) = g (rst p q) ∧ sof A p = sof A q + sof A (rst p q) := fun q q1 q2 hv => by
      have b := rst_b (s := p) (p := q) (by omega) (by omega) hv.1
      exact ⟨b, ih (rst p q).toNat (by omega) _ (by omega) b.1 (by omega), sof_add (by omega) (by omega) hv.1⟩
    by_cases d : sof A p = 0
    · obtain ⟨e1, e2, e3⟩ := c3 d
      have rp := rst_s (s := p) (by omega)
      have a1 : m p ≤ g p := by
        rcases e2 with e | ⟨q, q1, q2, q3, q4⟩
        · have := g3 p p1 (by omega) rp.2 d (by rw [rp.1, h0]; decide)
          rw [rp.1, h0] at this
          omega
        · obtain ⟨s1, s2, s3⟩ := sm q q1.1 q1.2 q2
          have mr := (hm (rst p q) s1.1 (by omega)).2.2 (by omega)
          have := g3 q q1.1 (by omega) q2 q3 (by omega)
          omega
      have a2 : g p ≤ m p := by
        rcases g2 with e | ⟨q, q1, q2, q3, q4, q5⟩
        · omega
        · by_cases dq : q = p
          · subst dq
            rw [rp.1, h0] at q5
            omega
          · obtain ⟨s1, s2, s3⟩ := sm q q1.1 (by omega) q2
            have := e3 q q1.1 (by omega) q2 q3
            omega
      omega
    · rw [c2 d]
      rcases g2 with e | ⟨q, q1, q2, q3, q4, q5⟩
      · exact e.symm
      · exfalso
        have dq : q ≠ p := fun e => d (by rw [← e]; exact q3)
        obtain ⟨s1, s2, s3⟩ := sm q q1.1 (by omega) q2
        have := (hm (rst p q) s1.1 (by omega)).2.1 (by omega)
        omega
section AC
variable {n x1 x2 : Int} {F : hp} {v : Nat → Nat → Int} {N : Nat → Int → Int} {T : Nat → Int → Option Nat} {u : Nat → Int} {M : Nat → Int → Int}
theorem sum_c {A : Int → Int} {s : Int} (hs : 0 ≤ s ∧ s < 64) (hB : ∀ r, 0 ≤ r → r < 6 → N 20 r = A (61 + r)) {F : hp} {Q : Int → hp → Prop} : ∀ (k : Nat) (r a : Int), r + k = 6 → 0 ≤ r → Q (a + sfl A s k r) (kh F v N T) → mX0_sumOf_L4 Q (k + 1) s (some 20) a r (kh F v N T) := by
  intro k
  induction k with
  | zero =>
    intro r a hr h0 q
    rw [sfl, Int.add_zero] at q
    rw [mX0_sumOf_L4]
    simp (disch := first | omega | decide) only [w32_id, ↓kh_r20, ↓kh_w20, ↓kh_n20, ↓kh_cp20_41, ↓be_y, ↓be_n, ↓bf_y, ↓bf_n, ↓bl_y, ↓bl_n, ↓bm_y, ↓bm_n, ↓bg_y, ↓bg_n, ↓bs_y, ↓bs_n, ↓bo_y, ↓bo_n, ↓bp_y, ↓bp_n, ↓forall_eq, ↓within_y, ↓within_n, ↓isIn_y, ↓isIn_n, and_true, true_and, and_self, us_at, us_ne, w32_id, um_eq, um_ne, um_um, uu_eq, uu_ne, uu_uu, vv_eq, vv_ne, vv_vv, ne_eq, not_false_eq_true, not_true_eq_false, reduceCtorEq, Int.reduceAdd, Int.reduceSub, Int.reduceMul, Int.reduceNeg, Nat.reduceEqDiff, or_true, true_or, true_implies, false_implies, Int.reduceLT, Int.reduceLE, Int.reduceEq]
    exact q
  | succ k ih =>
    intro r a hr h0 q
    rw [sfl, ← Int.add_assoc] at q
    have e := hB r h0 (by omega)
    rw [mX0_sumOf_L4]
    cases hb : tb s r with
    | true =>
      rw [hb] at q
      simp only [if_true] at q
      have b1 := bit_y (x := s) (k := r) (by omega) (by omega) hb
      simp (disch := first | omega | decide) only [mX0_sumOf_J24, ↓kh_r20, ↓kh_w20, ↓kh_n20, ↓kh_cp20_41, ↓be_y, ↓be_n, ↓bf_y, ↓bf_n, ↓bl_y, ↓bl_n, ↓bm_y, ↓bm_n, ↓bg_y, ↓bg_n, ↓bs_y, ↓bs_n, ↓bo_y, ↓bo_n, ↓bp_y, ↓bp_n, ↓forall_eq, ↓within_y, ↓within_n, ↓isIn_y, ↓isIn_n, and_true, true_and, and_self, us_at, us_ne, w32_id, um_eq, um_ne, um_um, uu_eq, uu_ne, uu_uu, vv_eq, vv_ne, vv_vv, ne_eq, not_false_eq_true, not_true_eq_false, reduceCtorEq, Int.reduceAdd, Int.reduceSub, Int.reduceMul, Int.reduceNeg, Nat.reduceEqDiff, or_true, true_or, true_implies, false_implies, Int.reduceLT, Int.reduceLE, Int.reduceEq, b1, e]
      exact ih (r + 1) _ (by omega) (by omega) q
    | false =>
      rw [hb] at q
      simp only [Bool.false_eq_true, if_false, Int.add_zero] at q
      have b1 := bit_n (x := s) (k := r) (by omega) (by omega) hb
      simp (disch := first | omega | decide) only [mX0_sumOf_J24, ↓kh_r20, ↓kh_w20, ↓kh_n20, ↓kh_cp20_41, ↓be_y, ↓be_n, ↓bf_y, ↓bf_n, ↓bl_y, ↓bl_n, ↓bm_y, ↓bm_n, ↓bg_y, ↓bg_n, ↓bs_y, ↓bs_n, ↓bo_y, ↓bo_n, ↓bp_y, ↓bp_n, ↓forall_eq, ↓within_y, ↓within_n, ↓isIn_y, ↓isIn_n, and_true, true_and, and_self, us_at, us_ne, w32_id, um_eq, um_ne, um_um, uu_eq, uu_ne, uu_uu, vv_eq, vv_ne, vv_vv, ne_eq, not_false_eq_true, not_true_eq_false, reduceCtorEq, Int.reduceAdd, Int.reduceSub, Int.reduceMul, Int.reduceNeg, Nat.reduceEqDiff, or_true, true_or, true_implies, false_implies, Int.reduceLT, Int.reduceLE, Int.reduceEq, b1]
      exact ih (r + 1) _ (by omega) (by omega) q
theorem sum_r {s : Int} (hs : 0 ≤ s ∧ s < 64) {F : hp} {Q : Int → hp → Prop} : ∀ (k : Nat) (r a : Int), r + k = 6 → 0 ≤ r → Q (a + sfl (M 70) s k r) (rh F u M) → mX12_sumOf_L4 Q (k + 1) 69 s a r (rh F u M) := by
  intro k
  induction k with
  | zero =>
    intro r a hr h0 q
    rw [sfl, Int.add_zero] at q
    rw [mX12_sumOf_L4]
    simp (disch := first | omega | decide) only [w32_id, ↓rh_rcv, ↓rh_g0, ↓rh_r70, ↓rh_w70, ↓be_y, ↓be_n, ↓bf_y, ↓bf_n, ↓bl_y, ↓bl_n, ↓bm_y, ↓bm_n, ↓bg_y, ↓bg_n, ↓bs_y, ↓bs_n, ↓bo_y, ↓bo_n, ↓bp_y, ↓bp_n, ↓forall_eq, ↓within_y, ↓within_n, ↓isIn_y, ↓isIn_n, and_true, true_and, and_self, us_at, us_ne, w32_id, um_eq, um_ne, um_um, uu_eq, uu_ne, uu_uu, vv_eq, vv_ne, vv_vv, ne_eq, not_false_eq_true, not_true_eq_false, reduceCtorEq, Int.reduceAdd, Int.reduceSub, Int.reduceMul, Int.reduceNeg, Nat.reduceEqDiff, or_true, true_or, true_implies, false_implies, Int.reduceLT, Int.reduceLE, Int.reduceEq]
    exact q
  | succ k ih =>
    intro r a hr h0 q
    rw [sfl, ← Int.add_assoc] at q
    rw [mX12_sumOf_L4]
    cases hb : tb s r with
    | true =>
      rw [hb] at q
      simp only [if_true] at q
      simp (disch := first | omega | decide) only [mX12_sumOf_J32, ↓rh_rcv, ↓rh_g0, ↓rh_r70, ↓rh_w70, ↓be_y, ↓be_n, ↓bf_y, ↓bf_n, ↓bl_y, ↓bl_n, ↓bm_y, ↓bm_n, ↓bg_y, ↓bg_n, ↓bs_y, ↓bs_n, ↓bo_y, ↓bo_n, ↓bp_y, ↓bp_n, ↓forall_eq, ↓within_y, ↓within_n, ↓isIn_y, ↓isIn_n, and_true, true_and, and_self, us_at, us_ne, w32_id, um_eq, um_ne, um_um, uu_eq, uu_ne, uu_uu, vv_eq, vv_ne, vv_vv, ne_eq, not_false_eq_true, not_true_eq_false, reduceCtorEq, Int.reduceAdd, Int.reduceSub, Int.reduceMul, Int.reduceNeg, Nat.reduceEqDiff, or_true, true_or, true_implies, false_implies, Int.reduceLT, Int.reduceLE, Int.reduceEq, has_y (h0 := ⟨hs.1, by omega⟩) (hk := ⟨h0, by omega⟩) (hb := hb)]
      exact ih (r + 1) _ (by omega) (by omega) q
    | false =>
      rw [hb] at q
      simp only [Bool.false_eq_true, if_false] at q
      simp (disch := first | omega | decide) only [mX12_sumOf_J32, ↓rh_rcv, ↓rh_g0, ↓rh_r70, ↓rh_w70, ↓be_y, ↓be_n, ↓bf_y, ↓bf_n, ↓bl_y, ↓bl_n, ↓bm_y, ↓bm_n, ↓bg_y, ↓bg_n, ↓bs_y, ↓bs_n, ↓bo_y, ↓bo_n, ↓bp_y, ↓bp_n, ↓forall_eq, ↓within_y, ↓within_n, ↓isIn_y, ↓isIn_n, and_true, true_and, and_self, us_at, us_ne, w32_id, um_eq, um_ne, um_um, uu_eq, uu_ne, uu_uu, vv_eq, vv_ne, vv_vv, ne_eq, not_false_eq_true, not_true_eq_false, reduceCtorEq, Int.reduceAdd, Int.reduceSub, Int.reduceMul, Int.reduceNeg, Nat.reduceEqDiff, or_true, true_or, true_implies, false_implies, Int.reduceLT, Int.reduceLE, Int.reduceEq, has_n (h0 := ⟨hs.1, by omega⟩) (hk := ⟨h0, by omega⟩) (hb := hb)]
      exact ih (r + 1) _ (by omega) (by omega) q
theorem sums_c {A : Int → Int} {s : Int} (hs : 0 ≤ s ∧ s < 64) (hB : ∀ r, 0 ≤ r → r < 6 → N 20 r = A (61 + r)) {F : hp} {Q : Int → hp → Prop} (q : Q (sof A s) (kh F v N T)) : mX0_sumOf s (some 20) (kh F v N T) Q := ⟨7, sum_c hs hB 6 0 0 (by omega) (by omega) (by rw [Int.zero_add]; exact q)⟩
theorem sums_r {s : Int} (hs : 0 ≤ s ∧ s < 64) {F : hp} {Q : Int → hp → Prop} (q : Q (sof (M 70) s) (rh F u M)) : mX12_sumOf 69 s (rh F u M) Q := ⟨7, sum_r hs 6 0 0 (by omega) (by omega) (by rw [Int.zero_add]; exact q)⟩
theorem isg_y {Z : Int → Int} {s p : Int} (hs : 0 ≤ s ∧ s < 64) (hpp : 0 ≤ p ∧ p < 64) (hv : VP s p) (hz : Z p = 0) {F : hp} {Q : Int → hp → Prop} (q : Q 1 (kh F v (um N 65 Z) T)) : mX0_isGroupOf 64 s p (iAnd s (-s)) (kh F v (um N 65 Z) T) Q := by
  have b := ib_b hs hpp
  have v1 := hv.1
  have v2 := hv.2
  simp (disch := first | omega | decide) only [mX0_isGroupOf, ↓kh_c64, ↓kh_g64_0, ↓kh_g64_1, ↓kh_r65, ↓kh_w65, ↓kh_n65, ↓be_y, ↓be_n, ↓bf_y, ↓bf_n, ↓bl_y, ↓bl_n, ↓bm_y, ↓bm_n, ↓bg_y, ↓bg_n, ↓bs_y, ↓bs_n, ↓bo_y, ↓bo_n, ↓bp_y, ↓bp_n, ↓forall_eq, ↓within_y, ↓within_n, ↓isIn_y, ↓isIn_n, and_true, true_and, and_self, us_at, us_ne, w32_id, um_eq, um_ne, um_um, uu_eq, uu_ne, uu_uu, vv_eq, vv_ne, vv_vv, ne_eq, not_false_eq_true, not_true_eq_false, reduceCtorEq, Int.reduceAdd, Int.reduceSub, Int.reduceMul, Int.reduceNeg, Nat.reduceEqDiff, or_true, true_or, true_implies, false_implies, Int.reduceLT, Int.reduceLE, Int.reduceEq, hz]
  exact q
theorem isg_n {Z : Int → Int} {s p : Int} (hs : 0 ≤ s ∧ s < 64) (hpp : 0 ≤ p ∧ p < 64) (hb : -2147483648 ≤ Z p ∧ Z p ≤ 2147483647) (hv : ¬ (VP s p ∧ Z p = 0)) {F : hp} {Q : Int → hp → Prop} (q : Q 0 (kh F v (um N 65 Z) T)) : mX0_isGroupOf 64 s p (iAnd s (-s)) (kh F v (um N 65 Z) T) Q := by
  have b := ib_b hs hpp
  by_cases v1 : iAnd p (iXor s (-1)) = 0
  · by_cases v2 : iAnd p (iAnd s (-s)) = 0
    · simp (disch := first | omega | decide) only [mX0_isGroupOf, ↓kh_c64, ↓kh_g64_0, ↓kh_g64_1, ↓kh_r65, ↓kh_w65, ↓kh_n65, ↓be_y, ↓be_n, ↓bf_y, ↓bf_n, ↓bl_y, ↓bl_n, ↓bm_y, ↓bm_n, ↓bg_y, ↓bg_n, ↓bs_y, ↓bs_n, ↓bo_y, ↓bo_n, ↓bp_y, ↓bp_n, ↓forall_eq, ↓within_y, ↓within_n, ↓isIn_y, ↓isIn_n, and_true, true_and, and_self, us_at, us_ne, w32_id, um_eq, um_ne, um_um, uu_eq, uu_ne, uu_uu, vv_eq, vv_ne, vv_vv, ne_eq, not_false_eq_true, not_true_eq_false, reduceCtorEq, Int.reduceAdd, Int.reduceSub, Int.reduceMul, Int.reduceNeg, Nat.reduceEqDiff, or_true, true_or, true_implies, false_implies, Int.reduceLT, Int.reduceLE, Int.reduceEq]
      exact q
    · have v3 : ¬ Z p = 0 := fun e => hv ⟨⟨v1, v2⟩, e⟩
      simp (disch := first | omega | decide) only [mX0_isGroupOf, ↓kh_c64, ↓kh_g64_0, ↓kh_g64_1, ↓kh_r65, ↓kh_w65, ↓kh_n65, ↓be_y, ↓be_n, ↓bf_y, ↓bf_n, ↓bl_y, ↓bl_n, ↓bm_y, ↓bm_n, ↓bg_y, ↓bg_n, ↓bs_y, ↓bs_n, ↓bo_y, ↓bo_n, ↓bp_y, ↓bp_n, ↓forall_eq, ↓within_y, ↓within_n, ↓isIn_y, ↓isIn_n, and_true, true_and, and_self, us_at, us_ne, w32_id, um_eq, um_ne, um_um, uu_eq, uu_ne, uu_uu, vv_eq, vv_ne, vv_vv, ne_eq, not_false_eq_true, not_true_eq_false, reduceCtorEq, Int.reduceAdd, Int.reduceSub, Int.reduceMul, Int.reduceNeg, Nat.reduceEqDiff, or_true, true_or, true_implies, false_implies, Int.reduceLT, Int.reduceLE, Int.reduceEq]
      exact q
  · simp (disch := first | omega | decide) only [mX0_isGroupOf, ↓kh_c64, ↓kh_g64_0, ↓kh_g64_1, ↓kh_r65, ↓kh_w65, ↓kh_n65, ↓be_y, ↓be_n, ↓bf_y, ↓bf_n, ↓bl_y, ↓bl_n, ↓bm_y, ↓bm_n, ↓bg_y, ↓bg_n, ↓bs_y, ↓bs_n, ↓bo_y, ↓bo_n, ↓bp_y, ↓bp_n, ↓forall_eq, ↓within_y, ↓within_n, ↓isIn_y, ↓isIn_n, and_true, true_and, and_self, us_at, us_ne, w32_id, um_eq, um_ne, um_um, uu_eq, uu_ne, uu_uu, vv_eq, vv_ne, vv_vv, ne_eq, not_false_eq_true, not_true_eq_false, reduceCtorEq, Int.reduceAdd, Int.reduceSub, Int.reduceMul, Int.reduceNeg, Nat.reduceEqDiff, or_true, true_or, true_implies, false_implies, Int.reduceLT, Int.reduceLE, Int.reduceEq]
    exact q
end AC
