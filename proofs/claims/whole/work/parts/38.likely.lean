-- ===== likely =====
theorem cz {q : Int} (h : -1000000 ≤ q ∧ q ≤ 1000000) : (w32 (iCmp q 0) = 0) = (q = 0) := by
  rw [w32_cmp]
  exact propext (iCmp_lt (x := q) (y := 0) (by omega) (by omega)).2.2
theorem gcd_b : ∀ (m : Nat) (p q i : Int), 0 ≤ q → q ≤ p → 1 ≤ p → p ≤ 100000 → q < ((2 ^ m : Nat) : Int) → 0 ≤ i → i + 2 * (m : Int) < 1000 → ∃ r : Int, (1 ≤ r ∧ r ≤ 100000) ∧ (∀ (F : hp) (Q : Int → hp → Prop), Q r F → mX11_commonDivisor_L9 Q (2 * m + 1) p q i F) ∧ (∀ (F : hp) (Q : Int → hp → Prop), Q r F → mX12_divisor_L6 Q (2 * m + 1) p q F) := by
  intro m
  induction m with
  | zero =>
    intro p q i h0 h1 h2 h3 h4 h5 h6
    have h4 : q < 1 := h4
    obtain rfl : q = 0 := by omega
    refine ⟨p, by omega, fun F Q k => ?_, fun F Q k => ?_⟩
    · rw [mX11_commonDivisor_L9, cz (by omega), w32_id (by omega) (by omega)]
      exact ⟨fun _ => ⟨fun _ => k, fun c => absurd rfl c⟩, fun c => by omega⟩
    · rw [mX12_divisor_L6, cz (by omega)]
      exact ⟨fun _ => k, fun c => absurd rfl c⟩
  | succ m ih =>
    intro p q i h0 h1 h2 h3 h4 h5 h6
    by_cases d : q = 0
    · subst d
      refine ⟨p, by omega, fun F Q k => ?_, fun F Q k => ?_⟩
      · rw [show 2 * (m + 1) + 1 = (2 * m + 2) + 1 by omega, mX11_commonDivisor_L9, cz (by omega), w32_id (by omega) (by omega)]
        exact ⟨fun _ => ⟨fun _ => k, fun c => absurd rfl c⟩, fun c => by omega⟩
      · rw [show 2 * (m + 1) + 1 = (2 * m + 2) + 1 by omega, mX12_divisor_L6, cz (by omega)]
        exact ⟨fun _ => k, fun c => absurd rfl c⟩
    · have q0 : 0 ≤ p % q := Int.emod_nonneg _ d
      have q1 : p % q < q := Int.emod_lt_of_pos _ (by omega)
      have e1 : (w64 p).tmod (w64 q) = p % q := by rw [w64_id (by omega) (by omega), w64_id (by omega) (by omega), tm (by omega)]
      have n1 : w64 q ≠ 0 := by rw [w64_id (by omega) (by omega)]; exact d
      by_cases d2 : p % q = 0
      · refine ⟨q, by omega, fun F Q k => ?_, fun F Q k => ?_⟩
        · rw [show 2 * (m + 1) + 1 = (2 * m + 1 + 1) + 1 by omega, mX11_commonDivisor_L9, cz (by omega), w32_id (by omega) (by omega), e1]
          refine ⟨fun _ => ⟨fun c => absurd c d, fun _ => ⟨n1, fun z hz => ?_⟩⟩, fun c => by omega⟩
          subst hz
          rw [mX11_commonDivisor_L9, cz (by omega), w32_id (by omega) (by omega)]
          exact ⟨fun _ => ⟨fun _ => k, fun c => absurd d2 c⟩, fun c => by omega⟩
        · rw [show 2 * (m + 1) + 1 = (2 * m + 1 + 1) + 1 by omega, mX12_divisor_L6, cz (by omega), e1]
          refine ⟨fun c => absurd c d, fun _ => ⟨n1, fun z hz => ?_⟩⟩
          subst hz
          rw [mX12_divisor_L6, cz (by omega)]
          exact ⟨fun _ => k, fun c => absurd d2 c⟩
      · have r0 : 0 ≤ q % (p % q) := Int.emod_nonneg _ d2
        have r1 : q % (p % q) < p % q := Int.emod_lt_of_pos _ (by omega)
        have r2 : 2 * (q % (p % q)) < q := by
          have a := Int.emod_add_mul_ediv q (p % q)
          have b : 1 ≤ q / (p % q) := by
            rw [Int.le_ediv_iff_mul_le (by omega)]
            omega
          have c : p % q * 1 ≤ p % q * (q / (p % q)) := Int.mul_le_mul_of_nonneg_left b (by omega)
          omega
        have e2 : (w64 q).tmod (w64 (p % q)) = q % (p % q) := by rw [w64_id (by omega) (by omega), w64_id (by omega) (by omega), tm (by omega)]
        have n2 : w64 (p % q) ≠ 0 := by rw [w64_id (by omega) (by omega)]; exact d2
        have pw : ((2 ^ (m + 1) : Nat) : Int) = 2 * ((2 ^ m : Nat) : Int) := by rw [Nat.pow_succ]; omega
        obtain ⟨r, g0, g1, g2⟩ := ih (p % q) (q % (p % q)) (i + 1 + 1) r0 (by omega) (by omega) (by omega) (by omega) (by omega) (by omega)
        refine ⟨r, g0, fun F Q k => ?_, fun F Q k => ?_⟩
        · rw [show 2 * (m + 1) + 1 = (2 * m + 1 + 1) + 1 by omega, mX11_commonDivisor_L9, cz (by omega), w32_id (by omega) (by omega), e1]
          refine ⟨fun _ => ⟨fun c => absurd c d, fun _ => ⟨n1, fun z hz => ?_⟩⟩, fun c => by omega⟩
          subst hz
          rw [mX11_commonDivisor_L9, cz (by omega), w32_id (by omega) (by omega), e2]
          refine ⟨fun _ => ⟨fun c => absurd c d2, fun _ => ⟨n2, fun z hz => ?_⟩⟩, fun c => by omega⟩
          subst hz
          exact g1 F Q k
        · rw [show 2 * (m + 1) + 1 = (2 * m + 1 + 1) + 1 by omega, mX12_divisor_L6, cz (by omega), e1]
          refine ⟨fun c => absurd c d, fun _ => ⟨n1, fun z hz => ?_⟩⟩
          subst hz
          rw [mX12_divisor_L6, cz (by omega), e2]
          refine ⟨fun c => absurd c d2, fun _ => ⟨n2, fun z hz => ?_⟩⟩
          subst hz
          exact g2 F Q k
theorem gcd_o {a b : Int} (ha : 0 ≤ a ∧ a ≤ b) (hb : 1 ≤ b ∧ b ≤ 100000) : ∃ r : Int, (1 ≤ r ∧ r ≤ 100000) ∧ (∀ (F : hp) (Q : Int → hp → Prop), Q r F → mX11_commonDivisor a b F Q) ∧ (∀ (F : hp) (Q : Int → hp → Prop), Q r F → mX12_divisor a b F Q) := by
  obtain ⟨r, g0, g1, g2⟩ := gcd_b 17 b a 0 ha.1 ha.2 hb.1 hb.2 (by have p17 : (2 ^ 17 : Nat) = 131072 := (by decide); omega) (by omega) (by omega)
  refine ⟨r, g0, fun F Q k => ⟨35, g1 F Q k⟩, fun F Q k => ?_⟩
  have n1 : w64 b ≠ 0 := by rw [w64_id (by omega) (by omega)]; omega
  have e1 : (w64 a).tmod (w64 b) = a % b := by rw [w64_id (by omega) (by omega), w64_id (by omega) (by omega), tm (by omega)]
  by_cases d : a = b
  · refine ⟨2, ?_⟩
    have hr := g2 F Q k
    subst d
    rw [mX12_divisor_L6, cz (by omega), e1]
    refine ⟨fun c => by omega, fun _ => ⟨n1, fun z hz => ?_⟩⟩
    subst hz
    rw [mX12_divisor_L6, cz (by omega)] at hr
    have hr2 := (hr.2 (by omega)).2 _ rfl
    rw [e1, Int.emod_self, show 2 * 17 = 33 + 1 from rfl, mX12_divisor_L6, cz (by omega)] at hr2
    rw [Int.emod_self, mX12_divisor_L6, cz (by omega)]
    exact ⟨fun _ => hr2.1 rfl, fun c => absurd rfl c⟩
  · refine ⟨36, ?_⟩
    rw [mX12_divisor_L6, cz (by omega), e1]
    refine ⟨fun c => by omega, fun _ => ⟨n1, fun z hz => ?_⟩⟩
    subst hz
    rw [Int.emod_eq_of_lt ha.1 (by omega)]
    exact g2 F Q k
theorem tb_hi {x k : Int} (m : Nat) (h0 : 0 ≤ x) (h1 : x < ((2 ^ m : Nat) : Int)) (hk : (m : Int) ≤ k) : tb x k = false := by
  obtain ⟨a, rfl⟩ := Int.eq_ofNat_of_zero_le h0
  unfold tb
  simp only [Int.toNat_natCast]
  exact Nat.testBit_lt_two_pow (Nat.lt_of_lt_of_le (show a < 2 ^ m by omega) (Nat.pow_le_pow_right (by decide) (by omega)))
theorem shl_1 {j : Int} (hj : 0 ≤ j ∧ j < 31) : iShl 1 j = ((2 ^ j.toNat : Nat) : Int) := by
  obtain ⟨a, rfl⟩ := Int.eq_ofNat_of_zero_le hj.1
  have := @iShl_n 1 a (by omega) (by have := Nat.pow_lt_pow_right (a := 2) (by decide) (show a < 31 by omega); omega)
  simpa using this
section LK
variable {n x1 x2 : Int} {F : hp} {v : Nat → Nat → Int} {N : Nat → Int → Int} {T : Nat → Int → Option Nat} {u : Nat → Int} {M : Nat → Int → Int}
theorem has_y {x k : Int} {F : hp} {Q : Int → hp → Prop} (h0 : 0 ≤ x ∧ x ≤ 2147483647) (hk : 0 ≤ k ∧ k < 32) (hb : tb x k = true) : mX12_has x k F Q ↔ Q 1 F := by rw [has_s h0 hk, hb]; rfl
theorem has_n {x k : Int} {F : hp} {Q : Int → hp → Prop} (h0 : 0 ≤ x ∧ x ≤ 2147483647) (hk : 0 ≤ k ∧ k < 32) (hb : tb x k = false) : mX12_has x k F Q ↔ Q 0 F := by rw [has_s h0 hk, hb]; rfl
theorem bit_y {x k : Int} (h0 : 0 ≤ x ∧ x ≤ 2147483647) (hk : 0 ≤ k ∧ k < 32) (hb : tb x k = true) : iAnd (iShr x k) 1 = 1 := by rw [tb_has h0.1 h0.2 hk.1 hk.2, hb]; rfl
theorem bit_n {x k : Int} (h0 : 0 ≤ x ∧ x ≤ 2147483647) (hk : 0 ≤ k ∧ k < 32) (hb : tb x k = false) : iAnd (iShr x k) 1 = 0 := by rw [tb_has h0.1 h0.2 hk.1 hk.2, hb]; rfl
theorem lik_end (h2 : -2147483648 ≤ x2 ∧ x2 ≤ 2147483647) {a b : Int} (ha : 0 ≤ a ∧ a ≤ b) (hb : 1 ≤ b ∧ b ≤ 100000) : ∃ r : Int, (∀ (F : hp) (Q : Int → hp → Prop), Q r F → mX11_commonDivisor a b F (fun x7 F6 => (w32 (iCmp x7 0) = 0 → Q (-1) F6) ∧ (¬ w32 (iCmp x7 0) = 0 → (w32 x2 = 0 → w64 x7 ≠ 0 ∧ Q ((w64 a).tdiv (w64 x7)) F6) ∧ (¬ w32 x2 = 0 → w64 x7 ≠ 0 ∧ Q ((w64 b).tdiv (w64 x7)) F6)))) ∧ (∀ (F : hp) (Q : Int → hp → Prop), Q r F → (w32 x2 = 0 → mX12_likely_J94 Q a b a F) ∧ (¬ w32 x2 = 0 → mX12_likely_J94 Q a b b F)) := by
  obtain ⟨g, g0, g1, g2⟩ := gcd_o ha hb
  have n1 : w64 g ≠ 0 := by rw [w64_id (by omega) (by omega)]; omega
  rw [w32_id h2.1 h2.2]
  by_cases d : x2 = 0
  · refine ⟨(w64 a).tdiv (w64 g), fun F Q q => g1 F _ ?_, fun F Q q => ⟨fun _ => ?_, fun c => absurd d c⟩⟩
    · rw [cz (by omega)]
      exact ⟨fun c => by omega, fun _ => ⟨fun _ => ⟨n1, q⟩, fun c => absurd d c⟩⟩
    · unfold mX12_likely_J94
      exact g2 F _ ⟨n1, q⟩
  · refine ⟨(w64 b).tdiv (w64 g), fun F Q q => g1 F _ ?_, fun F Q q => ⟨fun c => absurd c d, fun _ => ?_⟩⟩
    · rw [cz (by omega)]
      exact ⟨fun c => by omega, fun _ => ⟨fun c => absurd c d, fun _ => ⟨n1, q⟩⟩⟩
    · unfold mX12_likely_J94
      exact g2 F _ ⟨n1, q⟩
theorem lik_t (h1 : 0 ≤ x1 ∧ x1 ≤ 31) {a b : Int} {Q : Int → hp → Prop} (q : mX11_commonDivisor a b (kh F v N T) (fun x7 F6 => (w32 (iCmp x7 0) = 0 → Q (-1) F6) ∧ (¬ w32 (iCmp x7 0) = 0 → (w32 x2 = 0 → w64 x7 ≠ 0 ∧ Q ((w64 a).tdiv (w64 x7)) F6) ∧ (¬ w32 x2 = 0 → w64 x7 ≠ 0 ∧ Q ((w64 b).tdiv (w64 x7)) F6)))) : ∀ (k : Nat) (c : Int), c + k = 5 → 0 ≤ c → (∀ j, c ≤ j → tb x1 j = false) → mX11_likely_L30 Q (k + 1) 8 x1 x2 a b c (kh F v N T) := by
  intro k
  induction k with
  | zero =>
    intro c hc h0 hb
    rw [mX11_likely_L30]
    refine ⟨fun d => by rw [w32_id (by omega) (by omega)] at d; omega, fun _ => q⟩
  | succ k ih =>
    intro c hc h0 hb
    have b1 := bit_n (x := x1) (k := c) (by omega) (by omega) (hb c (by omega))
    rw [mX11_likely_L30]
    simp (disch := first | omega | decide) only [mX11_likely_J70, ↓kh_c8, ↓kh_g8_0, ↓kh_g8_1, ↓kh_g8_2, ↓kh_g8_3, ↓kh_g8_4, ↓kh_g8_5, ↓kh_g8_6, ↓kh_g8_7, ↓kh_c10, ↓kh_g10_0, ↓kh_g10_1, ↓kh_g10_2, ↓kh_g10_3, ↓kh_g10_4, ↓kh_g10_5, ↓kh_g10_6, ↓kh_g10_7, ↓kh_g10_8, ↓kh_g10_9, ↓kh_g10_10, ↓kh_g10_11, ↓kh_g10_12, ↓kh_p10_12, ↓kh_g10_13, ↓kh_p10_13, ↓kh_g10_14, ↓kh_p10_14, ↓kh_g10_15, ↓kh_p10_15, ↓be_y, ↓be_n, ↓bf_y, ↓bf_n, ↓bl_y, ↓bl_n, ↓bm_y, ↓bm_n, ↓bg_y, ↓bg_n, ↓bs_y, ↓bs_n, ↓bo_y, ↓bo_n, ↓bp_y, ↓bp_n, ↓forall_eq, ↓within_y, ↓within_n, ↓isIn_y, ↓isIn_n, and_true, true_and, and_self, us_at, us_ne, w32_id, um_eq, um_ne, um_um, uu_eq, uu_ne, uu_uu, vv_eq, vv_ne, vv_vv, ne_eq, not_false_eq_true, not_true_eq_false, reduceCtorEq, Int.reduceAdd, Int.reduceSub, Int.reduceMul, Int.reduceNeg, Nat.reduceEqDiff, or_true, true_or, true_implies, false_implies, Int.reduceLT, Int.reduceLE, Int.reduceEq, b1]
    exact ih (c + 1) (by omega) (by omega) (fun j hj => hb j (by omega))
theorem lik_b (hc : 0 ≤ M 70 0 ∧ M 70 0 ≤ 5) (hC : jC (N 15) (N 16) (N 17) (N 18) (N 19) (M 70)) (h1 : 0 ≤ x1 ∧ x1 ≤ 31) (hx : ∀ j, M 70 0 ≤ j → tb x1 j = false) (h2 : -2147483648 ≤ x2 ∧ x2 ≤ 2147483647) : ∀ (k : Nat) (c a b : Int), c + k = M 70 0 → 0 ≤ c → 0 ≤ a ∧ a ≤ b → 1 ≤ b ∧ b ≤ ((10 ^ c.toNat : Nat) : Int) → ∃ r : Int, (∀ (F : hp) (Q : Int → hp → Prop), Q r (kh F v N T) → ∃ f, mX11_likely_L30 Q f 8 x1 x2 a b c (kh F v N T)) ∧ (∀ (F : hp) (Q : Int → hp → Prop), Q r (rh F u M) → mX12_likely_L30 Q (k + 1) 69 x1 x2 a b c (rh F u M)) := by
  intro k
  induction k with
  | zero =>
    intro c a b hk h0 ha hb
    have pw : 10 ^ c.toNat ≤ 10 ^ 5 := Nat.pow_le_pow_right (by decide) (by omega)
    have pw2 : (10 ^ 5 : Nat) = 100000 := by decide
    obtain ⟨r, g1, g2⟩ := lik_end h2 ha (b := b) (by omega)
    refine ⟨r, fun F Q q => ⟨(5 - c).toNat + 1, lik_t h1 (g1 _ Q q) (5 - c).toNat c (by omega) h0 (fun j hj => hx j (by omega))⟩, fun F Q q => ?_⟩
    rw [mX12_likely_L30]
    simp (disch := first | omega | decide) only [w32_id, ↓rh_rcv, ↓rh_g0, ↓rh_r70, ↓rh_w70, ↓be_y, ↓be_n, ↓bf_y, ↓bf_n, ↓bl_y, ↓bl_n, ↓bm_y, ↓bm_n, ↓bg_y, ↓bg_n, ↓bs_y, ↓bs_n, ↓bo_y, ↓bo_n, ↓bp_y, ↓bp_n, ↓forall_eq, ↓within_y, ↓within_n, ↓isIn_y, ↓isIn_n, and_true, true_and, and_self, us_at, us_ne, w32_id, um_eq, um_ne, um_um, uu_eq, uu_ne, uu_uu, vv_eq, vv_ne, vv_vv, ne_eq, not_false_eq_true, not_true_eq_false, reduceCtorEq, Int.reduceAdd, Int.reduceSub, Int.reduceMul, Int.reduceNeg, Nat.reduceEqDiff, or_true, true_or, true_implies, false_implies, Int.reduceLT, Int.reduceLE, Int.reduceEq]
    have := g2 _ Q q
    rw [w32_id h2.1 h2.2] at this
    exact this
  | succ k ih =>
    intro c a b hk h0 ha hb
    have o := hC c h0 (by omega)
    have o1 := (o.2.2.2.2.2.1 (by omega)).2.2
    have o2 := o.2.2.2.2.1
    have pw : 10 ^ (c + 1).toNat = 10 ^ c.toNat * 10 := by rw [show (c + 1).toNat = c.toNat + 1 by omega, Nat.pow_succ]
    cases hb' : tb x1 c with
    | false =>
      obtain ⟨r, g1, g2⟩ := ih (c + 1) a b (by omega) (by omega) ha (by rw [pw]; omega)
      have b1 := bit_n (x := x1) (k := c) (by omega) (by omega) hb'
      refine ⟨r, fun F Q q => ?_, fun F Q q => ?_⟩
      · obtain ⟨f, g⟩ := g1 F Q q
        refine ⟨f + 1, ?_⟩
        rw [mX11_likely_L30]
        simp (disch := first | omega | decide) only [mX11_likely_J70, ↓kh_c8, ↓kh_g8_0, ↓kh_g8_1, ↓kh_g8_2, ↓kh_g8_3, ↓kh_g8_4, ↓kh_g8_5, ↓kh_g8_6, ↓kh_g8_7, ↓kh_c10, ↓kh_g10_0, ↓kh_g10_1, ↓kh_g10_2, ↓kh_g10_3, ↓kh_g10_4, ↓kh_g10_5, ↓kh_g10_6, ↓kh_g10_7, ↓kh_g10_8, ↓kh_g10_9, ↓kh_g10_10, ↓kh_g10_11, ↓kh_g10_12, ↓kh_p10_12, ↓kh_g10_13, ↓kh_p10_13, ↓kh_g10_14, ↓kh_p10_14, ↓kh_g10_15, ↓kh_p10_15, ↓be_y, ↓be_n, ↓bf_y, ↓bf_n, ↓bl_y, ↓bl_n, ↓bm_y, ↓bm_n, ↓bg_y, ↓bg_n, ↓bs_y, ↓bs_n, ↓bo_y, ↓bo_n, ↓bp_y, ↓bp_n, ↓forall_eq, ↓within_y, ↓within_n, ↓isIn_y, ↓isIn_n, and_true, true_and, and_self, us_at, us_ne, w32_id, um_eq, um_ne, um_um, uu_eq, uu_ne, uu_uu, vv_eq, vv_ne, vv_vv, ne_eq, not_false_eq_true, not_true_eq_false, reduceCtorEq, Int.reduceAdd, Int.reduceSub, Int.reduceMul, Int.reduceNeg, Nat.reduceEqDiff, or_true, true_or, true_implies, false_implies, Int.reduceLT, Int.reduceLE, Int.reduceEq, b1]
        exact g
      · rw [mX12_likely_L30]
        simp (disch := first | omega | decide) only [mX12_likely_J78, ↓rh_rcv, ↓rh_g0, ↓rh_r70, ↓rh_w70, ↓be_y, ↓be_n, ↓bf_y, ↓bf_n, ↓bl_y, ↓bl_n, ↓bm_y, ↓bm_n, ↓bg_y, ↓bg_n, ↓bs_y, ↓bs_n, ↓bo_y, ↓bo_n, ↓bp_y, ↓bp_n, ↓forall_eq, ↓within_y, ↓within_n, ↓isIn_y, ↓isIn_n, and_true, true_and, and_self, us_at, us_ne, w32_id, um_eq, um_ne, um_um, uu_eq, uu_ne, uu_uu, vv_eq, vv_ne, vv_vv, ne_eq, not_false_eq_true, not_true_eq_false, reduceCtorEq, Int.reduceAdd, Int.reduceSub, Int.reduceMul, Int.reduceNeg, Nat.reduceEqDiff, or_true, true_or, true_implies, false_implies, Int.reduceLT, Int.reduceLE, Int.reduceEq, has_n (h0 := ⟨h1.1, Int.le_trans h1.2 (by decide)⟩) (hk := ⟨h0, by omega⟩) (hb := hb')]
        exact g2 F Q q
    | true =>
      have m1 : 0 ≤ a * (10 - M 70 (103 + c)) := Int.mul_nonneg ha.1 (by omega)
      have m2 : a * (10 - M 70 (103 + c)) ≤ b * 10 := by
        have x := Int.mul_le_mul_of_nonneg_left (a := 10 - M 70 (103 + c)) (b := 10) (c := a) (by omega) ha.1
        omega
      obtain ⟨r, g1, g2⟩ := ih (c + 1) (a * (10 - M 70 (103 + c))) (b * 10) (by omega) (by omega) ⟨m1, m2⟩ (by rw [pw]; omega)
      have b1 := bit_y (x := x1) (k := c) (by omega) (by omega) hb'
      refine ⟨r, fun F Q q => ?_, fun F Q q => ?_⟩
      · obtain ⟨f, g⟩ := g1 F Q q
        refine ⟨f + 1, ?_⟩
        rw [mX11_likely_L30]
        simp (disch := first | omega | decide) only [mX11_likely_J70, ↓kh_c8, ↓kh_g8_0, ↓kh_g8_1, ↓kh_g8_2, ↓kh_g8_3, ↓kh_g8_4, ↓kh_g8_5, ↓kh_g8_6, ↓kh_g8_7, ↓kh_c10, ↓kh_g10_0, ↓kh_g10_1, ↓kh_g10_2, ↓kh_g10_3, ↓kh_g10_4, ↓kh_g10_5, ↓kh_g10_6, ↓kh_g10_7, ↓kh_g10_8, ↓kh_g10_9, ↓kh_g10_10, ↓kh_g10_11, ↓kh_g10_12, ↓kh_p10_12, ↓kh_g10_13, ↓kh_p10_13, ↓kh_g10_14, ↓kh_p10_14, ↓kh_g10_15, ↓kh_p10_15, ↓kh_r19, ↓kh_w19, ↓kh_n19, ↓kh_cp19_40, ↓be_y, ↓be_n, ↓bf_y, ↓bf_n, ↓bl_y, ↓bl_n, ↓bm_y, ↓bm_n, ↓bg_y, ↓bg_n, ↓bs_y, ↓bs_n, ↓bo_y, ↓bo_n, ↓bp_y, ↓bp_n, ↓forall_eq, ↓within_y, ↓within_n, ↓isIn_y, ↓isIn_n, and_true, true_and, and_self, us_at, us_ne, w32_id, um_eq, um_ne, um_um, uu_eq, uu_ne, uu_uu, vv_eq, vv_ne, vv_vv, ne_eq, not_false_eq_true, not_true_eq_false, reduceCtorEq, Int.reduceAdd, Int.reduceSub, Int.reduceMul, Int.reduceNeg, Nat.reduceEqDiff, or_true, true_or, true_implies, false_implies, Int.reduceLT, Int.reduceLE, Int.reduceEq, b1, o1]
        exact g
      · rw [mX12_likely_L30]
        simp (disch := first | omega | decide) only [mX12_likely_J78, ↓rh_rcv, ↓rh_g0, ↓rh_r70, ↓rh_w70, ↓be_y, ↓be_n, ↓bf_y, ↓bf_n, ↓bl_y, ↓bl_n, ↓bm_y, ↓bm_n, ↓bg_y, ↓bg_n, ↓bs_y, ↓bs_n, ↓bo_y, ↓bo_n, ↓bp_y, ↓bp_n, ↓forall_eq, ↓within_y, ↓within_n, ↓isIn_y, ↓isIn_n, and_true, true_and, and_self, us_at, us_ne, w32_id, um_eq, um_ne, um_um, uu_eq, uu_ne, uu_uu, vv_eq, vv_ne, vv_vv, ne_eq, not_false_eq_true, not_true_eq_false, reduceCtorEq, Int.reduceAdd, Int.reduceSub, Int.reduceMul, Int.reduceNeg, Nat.reduceEqDiff, or_true, true_or, true_implies, false_implies, Int.reduceLT, Int.reduceLE, Int.reduceEq, has_y (h0 := ⟨h1.1, Int.le_trans h1.2 (by decide)⟩) (hk := ⟨h0, by omega⟩) (hb := hb')]
        exact g2 F Q q
set_option maxHeartbeats 4000000 in
theorem op_likely (h1 : -2147483648 ≤ x1 ∧ x1 ≤ 2147483647) (h2 : -2147483648 ≤ x2 ∧ x2 ≤ 2147483647) : OP n (mX11_likely 8 x1 x2) (mX12_likely 69 x1 x2) := by
  refine op_to (fun G v N T u M h => ?_)
  obtain ⟨⟨hY, hK, hC, hF, hB, hT, hS, hD, hX, hG⟩, hI, hM, hL, hW, hH, hN⟩ := id h
  have hc := jY_c hY
  have e4 := hc.1
  have s1 := shl1_b (j := M 70 0) (by omega)
  have s2 := shl_1 (j := M 70 0) (by omega)
  have s3 : 2 ^ (M 70 0).toNat ≤ 2 ^ 5 := Nat.pow_le_pow_right (by decide) (by omega)
  have s4 : (2 ^ 5 : Nat) = 32 := by decide
  by_cases c : 0 ≤ x1 ∧ x1 ≤ iShl 1 (M 70 0) - 1
  · obtain ⟨r, g1, g2⟩ := lik_b (v := v) (N := N) (T := T) (u := u) (M := M) (x1 := x1) (x2 := x2) hc.2 hC (by omega) (fun j hj => tb_hi (M 70 0).toNat c.1 (by omega) (by omega)) h2 (M 70 0).toNat 0 1 1 (by omega) (by omega) (by omega) (by have p10 : (10 ^ (0 : Int).toNat : Nat) = 1 := (by decide); omega)
    refine ⟨r, v, N, u, M, Rel_up h, fun F Q q => ?_, fun F Q q => ?_⟩
    · simp (disch := first | omega | decide) only [mX11_likely, mX10_toldCars, ↓kh_c8, ↓kh_g8_0, ↓kh_g8_1, ↓kh_g8_2, ↓kh_g8_3, ↓kh_g8_4, ↓kh_g8_5, ↓kh_g8_6, ↓kh_g8_7, ↓kh_c10, ↓kh_g10_0, ↓kh_g10_1, ↓kh_g10_2, ↓kh_g10_3, ↓kh_g10_4, ↓kh_g10_5, ↓kh_g10_6, ↓kh_g10_7, ↓kh_g10_8, ↓kh_g10_9, ↓kh_g10_10, ↓kh_g10_11, ↓kh_g10_12, ↓kh_p10_12, ↓kh_g10_13, ↓kh_p10_13, ↓kh_g10_14, ↓kh_p10_14, ↓kh_g10_15, ↓kh_p10_15, ↓kh_c11, ↓kh_g11_0, ↓kh_r12, ↓kh_w12, ↓kh_n12, ↓kh_cp12_33, ↓kh_cp12_68, ↓kh_cp12_12, ↓kh_cp12_14, ↓be_y, ↓be_n, ↓bf_y, ↓bf_n, ↓bl_y, ↓bl_n, ↓bm_y, ↓bm_n, ↓bg_y, ↓bg_n, ↓bs_y, ↓bs_n, ↓bo_y, ↓bo_n, ↓bp_y, ↓bp_n, ↓forall_eq, ↓within_y, ↓within_n, ↓isIn_y, ↓isIn_n, and_true, true_and, and_self, us_at, us_ne, w32_id, um_eq, um_ne, um_um, uu_eq, uu_ne, uu_uu, vv_eq, vv_ne, vv_vv, ne_eq, not_false_eq_true, not_true_eq_false, reduceCtorEq, Int.reduceAdd, Int.reduceSub, Int.reduceMul, Int.reduceNeg, Nat.reduceEqDiff, or_true, true_or, true_implies, false_implies, Int.reduceLT, Int.reduceLE, Int.reduceEq, e4]
      exact g1 F Q q
    · simp (disch := first | omega | decide) only [mX12_likely, ↓rh_rcv, ↓rh_g0, ↓rh_r70, ↓rh_w70, ↓be_y, ↓be_n, ↓bf_y, ↓bf_n, ↓bl_y, ↓bl_n, ↓bm_y, ↓bm_n, ↓bg_y, ↓bg_n, ↓bs_y, ↓bs_n, ↓bo_y, ↓bo_n, ↓bp_y, ↓bp_n, ↓forall_eq, ↓within_y, ↓within_n, ↓isIn_y, ↓isIn_n, and_true, true_and, and_self, us_at, us_ne, w32_id, um_eq, um_ne, um_um, uu_eq, uu_ne, uu_uu, vv_eq, vv_ne, vv_vv, ne_eq, not_false_eq_true, not_true_eq_false, reduceCtorEq, Int.reduceAdd, Int.reduceSub, Int.reduceMul, Int.reduceNeg, Nat.reduceEqDiff, or_true, true_or, true_implies, false_implies, Int.reduceLT, Int.reduceLE, Int.reduceEq]
      exact ⟨_, g2 F Q q⟩
  · refine ⟨-1, v, N, u, M, Rel_up h, fun F Q q => ?_, fun F Q q => ?_⟩
    · simp (disch := first | omega | decide) only [mX11_likely, mX10_toldCars, ↓kh_c8, ↓kh_g8_0, ↓kh_g8_1, ↓kh_g8_2, ↓kh_g8_3, ↓kh_g8_4, ↓kh_g8_5, ↓kh_g8_6, ↓kh_g8_7, ↓kh_c10, ↓kh_g10_0, ↓kh_g10_1, ↓kh_g10_2, ↓kh_g10_3, ↓kh_g10_4, ↓kh_g10_5, ↓kh_g10_6, ↓kh_g10_7, ↓kh_g10_8, ↓kh_g10_9, ↓kh_g10_10, ↓kh_g10_11, ↓kh_g10_12, ↓kh_p10_12, ↓kh_g10_13, ↓kh_p10_13, ↓kh_g10_14, ↓kh_p10_14, ↓kh_g10_15, ↓kh_p10_15, ↓kh_c11, ↓kh_g11_0, ↓kh_r12, ↓kh_w12, ↓kh_n12, ↓kh_cp12_33, ↓kh_cp12_68, ↓kh_cp12_12, ↓kh_cp12_14, ↓be_y, ↓be_n, ↓bf_y, ↓bf_n, ↓bl_y, ↓bl_n, ↓bm_y, ↓bm_n, ↓bg_y, ↓bg_n, ↓bs_y, ↓bs_n, ↓bo_y, ↓bo_n, ↓bp_y, ↓bp_n, ↓forall_eq, ↓within_y, ↓within_n, ↓isIn_y, ↓isIn_n, and_true, true_and, and_self, us_at, us_ne, w32_id, um_eq, um_ne, um_um, uu_eq, uu_ne, uu_uu, vv_eq, vv_ne, vv_vv, ne_eq, not_false_eq_true, not_true_eq_false, reduceCtorEq, Int.reduceAdd, Int.reduceSub, Int.reduceMul, Int.reduceNeg, Nat.reduceEqDiff, or_true, true_or, true_implies, false_implies, Int.reduceLT, Int.reduceLE, Int.reduceEq, e4]
      exact q
    · simp (disch := first | omega | decide) only [mX12_likely, ↓rh_rcv, ↓rh_g0, ↓rh_r70, ↓rh_w70, ↓be_y, ↓be_n, ↓bf_y, ↓bf_n, ↓bl_y, ↓bl_n, ↓bm_y, ↓bm_n, ↓bg_y, ↓bg_n, ↓bs_y, ↓bs_n, ↓bo_y, ↓bo_n, ↓bp_y, ↓bp_n, ↓forall_eq, ↓within_y, ↓within_n, ↓isIn_y, ↓isIn_n, and_true, true_and, and_self, us_at, us_ne, w32_id, um_eq, um_ne, um_um, uu_eq, uu_ne, uu_uu, vv_eq, vv_ne, vv_vv, ne_eq, not_false_eq_true, not_true_eq_false, reduceCtorEq, Int.reduceAdd, Int.reduceSub, Int.reduceMul, Int.reduceNeg, Nat.reduceEqDiff, or_true, true_or, true_implies, false_implies, Int.reduceLT, Int.reduceLE, Int.reduceEq]
      exact q
end LK
