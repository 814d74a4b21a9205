-- ===== the reference's next token =====
theorem i64_n (a : Nat) : (Int64.ofInt (a : Int)).toBitVec = BitVec.ofNat 64 a := by
  show BitVec.ofInt 64 (a : Int) = _
  exact BitVec.ofInt_ofNat 64 a
theorem toInt_n {x : BitVec 64} (h : x.toNat < 9223372036854775808) : x.toInt = (x.toNat : Int) := by
  rw [BitVec.toInt_eq_toNat_cond, if_pos (by omega)]
theorem lShl_8 {a : Nat} (h : a < 281474976710656) : lShl (a : Int) 8 = ((a * 256 : Nat) : Int) := by
  unfold lShl
  rw [← Int64.toInt_toBitVec, Int64.toBitVec_shiftLeft]
  have e : ((Int32.ofInt 8).toInt64 &&& 63).toBitVec.smod 64 = 8#64 := by decide
  rw [e, i64_n]
  have t : (BitVec.ofNat 64 a <<< 8#64).toNat = a * 256 := by
    rw [BitVec.shiftLeft_eq', BitVec.toNat_shiftLeft, BitVec.toNat_ofNat, Nat.shiftLeft_eq]
    have : (8#64).toNat = 8 := by decide
    rw [this]
    omega
  rw [toInt_n (by omega), t]
theorem lShr_48 {a : Nat} (h : a ≤ 1152921504606846976) : lShr (a : Int) 48 = ((a / 281474976710656 : Nat) : Int) := by
  unfold lShr
  rw [← Int64.toInt_toBitVec, Int64.toBitVec_shiftRight]
  have e : ((Int32.ofInt 48).toInt64 &&& 63).toBitVec.smod 64 = 48#64 := by decide
  rw [e, i64_n]
  have m : (BitVec.ofNat 64 a).msb = false := by
    rw [BitVec.msb_eq_decide, decide_eq_false_iff_not, BitVec.toNat_ofNat]
    omega
  have t : ((BitVec.ofNat 64 a).sshiftRight' 48#64).toNat = a / 281474976710656 := by
    show ((BitVec.ofNat 64 a).sshiftRight (48#64).toNat).toNat = _
    rw [BitVec.sshiftRight_eq_of_msb_false m, BitVec.toNat_ushiftRight, BitVec.toNat_ofNat, Nat.shiftRight_eq_div_pow]
    have : (48#64).toNat = 48 := by decide
    rw [this]
    omega
  rw [toInt_n (by omega), t]
theorem lOr_n {a b : Nat} (ha : a < 281474976710656) (hb : b < 256) : lOr ((a * 256 : Nat) : Int) (b : Int) = ((a * 256 + b : Nat) : Int) := by
  unfold lOr
  rw [← Int64.toInt_toBitVec, Int64.toBitVec_or, i64_n, i64_n]
  have t : (BitVec.ofNat 64 (a * 256) ||| BitVec.ofNat 64 b).toNat = a * 256 + b := by
    rw [BitVec.toNat_or, BitVec.toNat_ofNat, BitVec.toNat_ofNat, Nat.mod_eq_of_lt (by omega), Nat.mod_eq_of_lt (by omega)]
    exact or_add (k := 8) hb
  rw [toInt_n (by omega), t]
theorem wd_s {a b : Int} (ha : 0 ≤ a ∧ a < 281474976710656) (hb : 0 ≤ b ∧ b < 256) : lOr (lShl a 8) b = a * 256 + b := by
  obtain ⟨x, rfl⟩ := Int.eq_ofNat_of_zero_le ha.1
  obtain ⟨y, rfl⟩ := Int.eq_ofNat_of_zero_le hb.1
  rw [lShl_8 (by omega), lOr_n (by omega) (by omega)]
  rw [Int.natCast_add, Int.natCast_mul]; rfl
theorem wd_h {a : Int} (ha : 0 ≤ a ∧ a ≤ 1152921504606846976) : lShr a 48 = a / 281474976710656 := by
  obtain ⟨x, rfl⟩ := Int.eq_ofNat_of_zero_le ha.1
  rw [lShr_48 (by omega)]
  rfl
def tapok (W : Int → Int) (L : Int) : Prop := (0 ≤ L ∧ L ≤ 300) ∧ ∀ i, 0 ≤ i → i < L → 0 ≤ W i ∧ W i ≤ 255
section NT2
variable {W : Int → Int} {L : Int} {M : Nat → Int → Int}
theorem uu_id {u : Nat → Int} {k : Nat} {x : Int} (h : u k = x) : uu u k x = u := by
  funext j
  by_cases d : j = k
  · subst d; rw [uu_eq, h]
  · rw [uu_ne d]
theorem nt0 (hT : tapok W L) (hM : M 73 = W) {F : hp} {Q : hp → Prop} : ∀ (k : Nat) (p : Int) (u : Nat → Int), (L - p).toNat = k → 0 ≤ p → p ≤ L → u 7 = p → u 4 = L → mX12_nextToken_L0 Q 1 69 (rh F (uu u 7 (spe bS W L p)) M) → mX12_nextToken_L0 Q (k + 1) 69 (rh F u M) := by
  have hb := hT.1
  intro k
  induction k with
  | zero =>
    intro p u hk h0 h1 h7 h4 z
    have e : p = L := by omega
    rw [spe_n (by omega), uu_id h7] at z
    exact z
  | succ k ih =>
    intro p u hk h0 h1 h7 h4 z
    have pl : p < L := by omega
    have wb := hT.2 p h0 pl
    by_cases d : bS (W p) = true
    · rw [spe_y pl d] at z
      have g := ih (p + 1) (uu u 7 (p + 1)) (by omega) (by omega) (by omega) (by rw [uu_eq]) (by rw [uu_ne (by decide)]; exact h4) (by rw [uu_uu]; exact z)
      unfold bS at d
      rw [decide_eq_true_eq] at d
      rw [mX12_nextToken_L0]
      rcases d with d | d
      · simp (disch := first | omega | decide) only [mX12_byteAt, mX12_nextToken_J26, ↓rh_rcv, ↓rh_g3, ↓rh_g4, ↓rh_p4, ↓rh_g7, ↓rh_p7, ↓rh_r73, ↓rh_w73, ↓be_y, ↓be_n, ↓bf_y, ↓bf_n, ↓bl_y, ↓bl_n, ↓bm_y, ↓bm_n, ↓bg_y, ↓bg_n, ↓bs_y, ↓bs_n, ↓bo_y, ↓bo_n, ↓bp_y, ↓bp_n, ↓forall_eq, ↓within_y, ↓within_n, ↓isIn_y, ↓isIn_n, and_true, true_and, and_self, us_at, us_ne, w32_id, um_eq, um_ne, um_um, uu_eq, uu_ne, uu_uu, vv_eq, vv_ne, vv_vv, ne_eq, not_false_eq_true, not_true_eq_false, reduceCtorEq, Int.reduceAdd, Int.reduceSub, Int.reduceMul, Int.reduceNeg, Nat.reduceEqDiff, or_true, true_or, true_implies, false_implies, Int.reduceLT, Int.reduceLE, Int.reduceEq, h4, h7, hM, d]
        exact g
      · simp (disch := first | omega | decide) only [mX12_byteAt, mX12_nextToken_J26, ↓rh_rcv, ↓rh_g3, ↓rh_g4, ↓rh_p4, ↓rh_g7, ↓rh_p7, ↓rh_r73, ↓rh_w73, ↓be_y, ↓be_n, ↓bf_y, ↓bf_n, ↓bl_y, ↓bl_n, ↓bm_y, ↓bm_n, ↓bg_y, ↓bg_n, ↓bs_y, ↓bs_n, ↓bo_y, ↓bo_n, ↓bp_y, ↓bp_n, ↓forall_eq, ↓within_y, ↓within_n, ↓isIn_y, ↓isIn_n, and_true, true_and, and_self, us_at, us_ne, w32_id, um_eq, um_ne, um_um, uu_eq, uu_ne, uu_uu, vv_eq, vv_ne, vv_vv, ne_eq, not_false_eq_true, not_true_eq_false, reduceCtorEq, Int.reduceAdd, Int.reduceSub, Int.reduceMul, Int.reduceNeg, Nat.reduceEqDiff, or_true, true_or, true_implies, false_implies, Int.reduceLT, Int.reduceLE, Int.reduceEq, h4, h7, hM, d]
        exact g
    · rw [spe_n (fun t => d t.2), uu_id h7] at z
      have d' : ¬ (W p = 32 ∨ W p = 10) := by
        intro t
        apply d
        unfold bS
        rw [decide_eq_true_eq]
        exact t
      have d1 : ¬ W p = 32 := fun t => d' (.inl t)
      have d2 : ¬ W p = 10 := fun t => d' (.inr t)
      rw [mX12_nextToken_L0] at z ⊢
      simp (disch := first | omega | decide) only [mX12_byteAt, ↓rh_rcv, ↓rh_g3, ↓rh_g4, ↓rh_p4, ↓rh_g7, ↓rh_p7, ↓rh_g8, ↓rh_p8, ↓rh_r73, ↓rh_w73, ↓be_y, ↓be_n, ↓bf_y, ↓bf_n, ↓bl_y, ↓bl_n, ↓bm_y, ↓bm_n, ↓bg_y, ↓bg_n, ↓bs_y, ↓bs_n, ↓bo_y, ↓bo_n, ↓bp_y, ↓bp_n, ↓forall_eq, ↓within_y, ↓within_n, ↓isIn_y, ↓isIn_n, and_true, true_and, and_self, us_at, us_ne, w32_id, um_eq, um_ne, um_um, uu_eq, uu_ne, uu_uu, vv_eq, vv_ne, vv_vv, ne_eq, not_false_eq_true, not_true_eq_false, reduceCtorEq, Int.reduceAdd, Int.reduceSub, Int.reduceMul, Int.reduceNeg, Nat.reduceEqDiff, or_true, true_or, true_implies, false_implies, Int.reduceLT, Int.reduceLE, Int.reduceEq, h4, h7, hM] at z ⊢
      exact z
theorem nt85 (hT : tapok W L) (hM : M 73 = W) : ∀ (k : Nat) (p a : Int) (u : Nat → Int), (L - p).toNat = k → 0 ≤ p → p ≤ L → u 7 = p → u 4 = L → u 10 = a → 0 ≤ a ∧ a ≤ 1000000 → ∃ u', u' 7 = spe bD W L p ∧ u' 10 = nmr (tl W p (spe bD W L p - p)) a ∧ (∀ k, k ≠ 7 → k ≠ 10 → u' k = u k) ∧ ∀ (F : hp) (Q : hp → Prop), Q (rh F u' M) → mX12_nextToken_L85 Q (k + 1) 69 (rh F u M) := by
  have hb := hT.1
  intro k
  induction k with
  | zero =>
    intro p a u hk h0 h1 h7 h4 ha hab
    rw [spe_n (by omega), Int.sub_self]
    refine ⟨u, h7, ha, fun _ _ _ => rfl, fun F Q q => ?_⟩
    rw [mX12_nextToken_L85]
    simp (disch := first | omega | decide) only [mX12_byteAt, mX12_isFigure, ↓rh_rcv, ↓rh_g3, ↓rh_g4, ↓rh_p4, ↓rh_g7, ↓rh_p7, ↓rh_r73, ↓rh_w73, ↓be_y, ↓be_n, ↓bf_y, ↓bf_n, ↓bl_y, ↓bl_n, ↓bm_y, ↓bm_n, ↓bg_y, ↓bg_n, ↓bs_y, ↓bs_n, ↓bo_y, ↓bo_n, ↓bp_y, ↓bp_n, ↓forall_eq, ↓within_y, ↓within_n, ↓isIn_y, ↓isIn_n, and_true, true_and, and_self, us_at, us_ne, w32_id, um_eq, um_ne, um_um, uu_eq, uu_ne, uu_uu, vv_eq, vv_ne, vv_vv, ne_eq, not_false_eq_true, not_true_eq_false, reduceCtorEq, Int.reduceAdd, Int.reduceSub, Int.reduceMul, Int.reduceNeg, Nat.reduceEqDiff, or_true, true_or, true_implies, false_implies, Int.reduceLT, Int.reduceLE, Int.reduceEq, h4, h7, hM]
    exact q
  | succ k ih =>
    intro p a u hk h0 h1 h7 h4 ha hab
    have pl : p < L := by omega
    have wb := hT.2 p h0 pl
    by_cases d : bD (W p) = true
    · rw [spe_y pl d]
      have s := spe_bd (P := bD) (W := W) (L := L) (p := p + 1) (by omega)
      unfold bD at d
      rw [decide_eq_true_eq] at d
      rw [show spe bD W L (p + 1) - p = (spe bD W L (p + 1) - (p + 1)) + 1 by omega, tl_cons (by omega), nmr]
      by_cases e : 99999 < a
      · rw [if_pos e]
        obtain ⟨u', b1, b2, b3, b4⟩ := ih (p + 1) a (uu (uu u 10 a) 7 (p + 1)) (by omega) (by omega) (by omega) (by rw [uu_eq]) (by rw [uu_ne (by decide), uu_ne (by decide)]; exact h4) (by rw [uu_ne (by decide), uu_eq]) hab
        refine ⟨u', b1, b2, fun k k1 k2 => by rw [b3 k k1 k2, uu_ne k1, uu_ne k2], fun F Q q => ?_⟩
        have g := b4 F Q q
        rw [mX12_nextToken_L85]
        simp (disch := first | omega | decide) only [mX12_byteAt, mX12_isFigure, mX12_nextToken_J135, ↓rh_rcv, ↓rh_g3, ↓rh_g4, ↓rh_p4, ↓rh_g7, ↓rh_p7, ↓rh_g10, ↓rh_p10, ↓rh_r73, ↓rh_w73, ↓be_y, ↓be_n, ↓bf_y, ↓bf_n, ↓bl_y, ↓bl_n, ↓bm_y, ↓bm_n, ↓bg_y, ↓bg_n, ↓bs_y, ↓bs_n, ↓bo_y, ↓bo_n, ↓bp_y, ↓bp_n, ↓forall_eq, ↓within_y, ↓within_n, ↓isIn_y, ↓isIn_n, and_true, true_and, and_self, us_at, us_ne, w32_id, um_eq, um_ne, um_um, uu_eq, uu_ne, uu_uu, vv_eq, vv_ne, vv_vv, ne_eq, not_false_eq_true, not_true_eq_false, reduceCtorEq, Int.reduceAdd, Int.reduceSub, Int.reduceMul, Int.reduceNeg, Nat.reduceEqDiff, or_true, true_or, true_implies, false_implies, Int.reduceLT, Int.reduceLE, Int.reduceEq, h4, h7, hM, ha]
        exact g
      · rw [if_neg e]
        obtain ⟨u', b1, b2, b3, b4⟩ := ih (p + 1) (10 * a + W p - 48) (uu (uu u 10 (10 * a + W p - 48)) 7 (p + 1)) (by omega) (by omega) (by omega) (by rw [uu_eq]) (by rw [uu_ne (by decide), uu_ne (by decide)]; exact h4) (by rw [uu_ne (by decide), uu_eq]) (by omega)
        refine ⟨u', b1, b2, fun k k1 k2 => by rw [b3 k k1 k2, uu_ne k1, uu_ne k2], fun F Q q => ?_⟩
        have g := b4 F Q q
        rw [mX12_nextToken_L85]
        simp (disch := first | omega | decide) only [mX12_byteAt, mX12_isFigure, mX12_nextToken_J135, ↓rh_rcv, ↓rh_g3, ↓rh_g4, ↓rh_p4, ↓rh_g7, ↓rh_p7, ↓rh_g10, ↓rh_p10, ↓rh_r73, ↓rh_w73, ↓be_y, ↓be_n, ↓bf_y, ↓bf_n, ↓bl_y, ↓bl_n, ↓bm_y, ↓bm_n, ↓bg_y, ↓bg_n, ↓bs_y, ↓bs_n, ↓bo_y, ↓bo_n, ↓bp_y, ↓bp_n, ↓forall_eq, ↓within_y, ↓within_n, ↓isIn_y, ↓isIn_n, and_true, true_and, and_self, us_at, us_ne, w32_id, um_eq, um_ne, um_um, uu_eq, uu_ne, uu_uu, vv_eq, vv_ne, vv_vv, ne_eq, not_false_eq_true, not_true_eq_false, reduceCtorEq, Int.reduceAdd, Int.reduceSub, Int.reduceMul, Int.reduceNeg, Nat.reduceEqDiff, or_true, true_or, true_implies, false_implies, Int.reduceLT, Int.reduceLE, Int.reduceEq, h4, h7, hM, ha]
        exact g
    · rw [spe_n (fun t => d t.2), Int.sub_self]
      have d' : ¬ (48 ≤ W p ∧ W p ≤ 57) := by
        intro t
        apply d
        unfold bD
        rw [decide_eq_true_eq]
        exact t
      refine ⟨u, h7, ha, fun _ _ _ => rfl, fun F Q q => ?_⟩
      rw [mX12_nextToken_L85]
      by_cases d2 : W p < 48
      · simp (disch := first | omega | decide) only [mX12_byteAt, mX12_isFigure, ↓rh_rcv, ↓rh_g3, ↓rh_g4, ↓rh_p4, ↓rh_g7, ↓rh_p7, ↓rh_r73, ↓rh_w73, ↓be_y, ↓be_n, ↓bf_y, ↓bf_n, ↓bl_y, ↓bl_n, ↓bm_y, ↓bm_n, ↓bg_y, ↓bg_n, ↓bs_y, ↓bs_n, ↓bo_y, ↓bo_n, ↓bp_y, ↓bp_n, ↓forall_eq, ↓within_y, ↓within_n, ↓isIn_y, ↓isIn_n, and_true, true_and, and_self, us_at, us_ne, w32_id, um_eq, um_ne, um_um, uu_eq, uu_ne, uu_uu, vv_eq, vv_ne, vv_vv, ne_eq, not_false_eq_true, not_true_eq_false, reduceCtorEq, Int.reduceAdd, Int.reduceSub, Int.reduceMul, Int.reduceNeg, Nat.reduceEqDiff, or_true, true_or, true_implies, false_implies, Int.reduceLT, Int.reduceLE, Int.reduceEq, h4, h7, hM]
        exact q
      · simp (disch := first | omega | decide) only [mX12_byteAt, mX12_isFigure, ↓rh_rcv, ↓rh_g3, ↓rh_g4, ↓rh_p4, ↓rh_g7, ↓rh_p7, ↓rh_r73, ↓rh_w73, ↓be_y, ↓be_n, ↓bf_y, ↓bf_n, ↓bl_y, ↓bl_n, ↓bm_y, ↓bm_n, ↓bg_y, ↓bg_n, ↓bs_y, ↓bs_n, ↓bo_y, ↓bo_n, ↓bp_y, ↓bp_n, ↓forall_eq, ↓within_y, ↓within_n, ↓isIn_y, ↓isIn_n, and_true, true_and, and_self, us_at, us_ne, w32_id, um_eq, um_ne, um_um, uu_eq, uu_ne, uu_uu, vv_eq, vv_ne, vv_vv, ne_eq, not_false_eq_true, not_true_eq_false, reduceCtorEq, Int.reduceAdd, Int.reduceSub, Int.reduceMul, Int.reduceNeg, Nat.reduceEqDiff, or_true, true_or, true_implies, false_implies, Int.reduceLT, Int.reduceLE, Int.reduceEq, h4, h7, hM]
        exact q
theorem isl_y {b : Int} (h : bL b = true) {F : hp} {Q : Int → hp → Prop} : mX12_isLetterByte b F Q ↔ Q 1 F := by
  unfold bL at h
  rw [decide_eq_true_eq] at h
  by_cases d : b < 97
  · simp (disch := first | omega | decide) only [mX12_isLetterByte, mX12_isLetterByte_J12, mX12_isLetterByte_J24, ↓rh_rcv, ↓rh_g0, ↓be_y, ↓be_n, ↓bf_y, ↓bf_n, ↓bl_y, ↓bl_n, ↓bm_y, ↓bm_n, ↓bg_y, ↓bg_n, ↓bs_y, ↓bs_n, ↓bo_y, ↓bo_n, ↓bp_y, ↓bp_n, ↓forall_eq, ↓within_y, ↓within_n, ↓isIn_y, ↓isIn_n, and_true, true_and, and_self, us_at, us_ne, w32_id, um_eq, um_ne, um_um, uu_eq, uu_ne, uu_uu, vv_eq, vv_ne, vv_vv, ne_eq, not_false_eq_true, not_true_eq_false, reduceCtorEq, Int.reduceAdd, Int.reduceSub, Int.reduceMul, Int.reduceNeg, Nat.reduceEqDiff, or_true, true_or, true_implies, false_implies, Int.reduceLT, Int.reduceLE, Int.reduceEq]
  · simp (disch := first | omega | decide) only [mX12_isLetterByte, mX12_isLetterByte_J12, mX12_isLetterByte_J24, ↓rh_rcv, ↓rh_g0, ↓be_y, ↓be_n, ↓bf_y, ↓bf_n, ↓bl_y, ↓bl_n, ↓bm_y, ↓bm_n, ↓bg_y, ↓bg_n, ↓bs_y, ↓bs_n, ↓bo_y, ↓bo_n, ↓bp_y, ↓bp_n, ↓forall_eq, ↓within_y, ↓within_n, ↓isIn_y, ↓isIn_n, and_true, true_and, and_self, us_at, us_ne, w32_id, um_eq, um_ne, um_um, uu_eq, uu_ne, uu_uu, vv_eq, vv_ne, vv_vv, ne_eq, not_false_eq_true, not_true_eq_false, reduceCtorEq, Int.reduceAdd, Int.reduceSub, Int.reduceMul, Int.reduceNeg, Nat.reduceEqDiff, or_true, true_or, true_implies, false_implies, Int.reduceLT, Int.reduceLE, Int.reduceEq]
theorem isl_n {b : Int} (h : ¬ bL b = true) (hb : -1 ≤ b ∧ b ≤ 255) {F : hp} {Q : Int → hp → Prop} : mX12_isLetterByte b F Q ↔ Q 0 F := by
  have h' : ¬ ((97 ≤ b ∧ b ≤ 122) ∨ (65 ≤ b ∧ b ≤ 90)) := by
    intro t
    apply h
    unfold bL
    rw [decide_eq_true_eq]
    exact t
  have h1 : ¬ (97 ≤ b ∧ b ≤ 122) := fun t => h' (.inl t)
  have h2 : ¬ (65 ≤ b ∧ b ≤ 90) := fun t => h' (.inr t)
  clear h' h
  by_cases d : b < 65
  · simp (disch := first | omega | decide) only [mX12_isLetterByte, mX12_isLetterByte_J12, mX12_isLetterByte_J24, ↓rh_rcv, ↓rh_g0, ↓be_y, ↓be_n, ↓bf_y, ↓bf_n, ↓bl_y, ↓bl_n, ↓bm_y, ↓bm_n, ↓bg_y, ↓bg_n, ↓bs_y, ↓bs_n, ↓bo_y, ↓bo_n, ↓bp_y, ↓bp_n, ↓forall_eq, ↓within_y, ↓within_n, ↓isIn_y, ↓isIn_n, and_true, true_and, and_self, us_at, us_ne, w32_id, um_eq, um_ne, um_um, uu_eq, uu_ne, uu_uu, vv_eq, vv_ne, vv_vv, ne_eq, not_false_eq_true, not_true_eq_false, reduceCtorEq, Int.reduceAdd, Int.reduceSub, Int.reduceMul, Int.reduceNeg, Nat.reduceEqDiff, or_true, true_or, true_implies, false_implies, Int.reduceLT, Int.reduceLE, Int.reduceEq]
  · by_cases d2 : b < 97
    · simp (disch := first | omega | decide) only [mX12_isLetterByte, mX12_isLetterByte_J12, mX12_isLetterByte_J24, ↓rh_rcv, ↓rh_g0, ↓be_y, ↓be_n, ↓bf_y, ↓bf_n, ↓bl_y, ↓bl_n, ↓bm_y, ↓bm_n, ↓bg_y, ↓bg_n, ↓bs_y, ↓bs_n, ↓bo_y, ↓bo_n, ↓bp_y, ↓bp_n, ↓forall_eq, ↓within_y, ↓within_n, ↓isIn_y, ↓isIn_n, and_true, true_and, and_self, us_at, us_ne, w32_id, um_eq, um_ne, um_um, uu_eq, uu_ne, uu_uu, vv_eq, vv_ne, vv_vv, ne_eq, not_false_eq_true, not_true_eq_false, reduceCtorEq, Int.reduceAdd, Int.reduceSub, Int.reduceMul, Int.reduceNeg, Nat.reduceEqDiff, or_true, true_or, true_implies, false_implies, Int.reduceLT, Int.reduceLE, Int.reduceEq]
    · simp (disch := first | omega | decide) only [mX12_isLetterByte, mX12_isLetterByte_J12, mX12_isLetterByte_J24, ↓rh_rcv, ↓rh_g0, ↓be_y, ↓be_n, ↓bf_y, ↓bf_n, ↓bl_y, ↓bl_n, ↓bm_y, ↓bm_n, ↓bg_y, ↓bg_n, ↓bs_y, ↓bs_n, ↓bo_y, ↓bo_n, ↓bp_y, ↓bp_n, ↓forall_eq, ↓within_y, ↓within_n, ↓isIn_y, ↓isIn_n, and_true, true_and, and_self, us_at, us_ne, w32_id, um_eq, um_ne, um_um, uu_eq, uu_ne, uu_uu, vv_eq, vv_ne, vv_vv, ne_eq, not_false_eq_true, not_true_eq_false, reduceCtorEq, Int.reduceAdd, Int.reduceSub, Int.reduceMul, Int.reduceNeg, Nat.reduceEqDiff, or_true, true_or, true_implies, false_implies, Int.reduceLT, Int.reduceLE, Int.reduceEq]
theorem nt168 (hT : tapok W L) (hM : M 73 = W) : ∀ (k : Nat) (p a : Int) (u : Nat → Int), (L - p).toNat = k → 0 ≤ p → p ≤ L → u 7 = p → u 4 = L → u 11 = a → 0 ≤ a ∧ a ≤ 1152921504606846976 → ∃ u', u' 7 = spe bL W L p ∧ u' 11 = pks (tl W p (spe bL W L p - p)) a ∧ (∀ k, k ≠ 7 → k ≠ 11 → u' k = u k) ∧ ∀ (F : hp) (Q : hp → Prop), Q (rh F u' M) → mX12_nextToken_L168 Q (k + 1) 69 (rh F u M) := by
  have hb := hT.1
  intro k
  induction k with
  | zero =>
    intro p a u hk h0 h1 h7 h4 ha hab
    rw [spe_n (by omega), Int.sub_self]
    refine ⟨u, h7, ha, fun _ _ _ => rfl, fun F Q q => ?_⟩
    have n := fun F Q => isl_n (b := -1) (by decide) (by omega) (F := F) (Q := Q)
    rw [mX12_nextToken_L168]
    simp (disch := first | omega | decide) only [mX12_byteAt, n, ↓rh_rcv, ↓rh_g3, ↓rh_g4, ↓rh_p4, ↓rh_g7, ↓rh_p7, ↓rh_r73, ↓rh_w73, ↓be_y, ↓be_n, ↓bf_y, ↓bf_n, ↓bl_y, ↓bl_n, ↓bm_y, ↓bm_n, ↓bg_y, ↓bg_n, ↓bs_y, ↓bs_n, ↓bo_y, ↓bo_n, ↓bp_y, ↓bp_n, ↓forall_eq, ↓within_y, ↓within_n, ↓isIn_y, ↓isIn_n, and_true, true_and, and_self, us_at, us_ne, w32_id, um_eq, um_ne, um_um, uu_eq, uu_ne, uu_uu, vv_eq, vv_ne, vv_vv, ne_eq, not_false_eq_true, not_true_eq_false, reduceCtorEq, Int.reduceAdd, Int.reduceSub, Int.reduceMul, Int.reduceNeg, Nat.reduceEqDiff, or_true, true_or, true_implies, false_implies, Int.reduceLT, Int.reduceLE, Int.reduceEq, h4, h7, hM]
    exact q
  | succ k ih =>
    intro p a u hk h0 h1 h7 h4 ha hab
    have pl : p < L := by omega
    have wb := hT.2 p h0 pl
    by_cases d : bL (W p) = true
    · rw [spe_y pl d]
      have s := spe_bd (P := bL) (W := W) (L := L) (p := p + 1) (by omega)
      have n := fun F Q => isl_y d (F := F) (Q := Q)
      rw [show spe bL W L (p + 1) - p = (spe bL W L (p + 1) - (p + 1)) + 1 by omega, tl_cons (by omega), pks]
      have hh := wd_h hab
      have hd : 0 ≤ a / 281474976710656 ∧ a / 281474976710656 ≤ 4096 := by omega
      have w0 : w32 (W p) = W p := w32_id (by omega) (by omega)
      by_cases e : a / 281474976710656 ≠ 0
      · rw [if_pos e]
        obtain ⟨u', b1, b2, b3, b4⟩ := ih (p + 1) 1152921504606846976 (uu (uu u 11 1152921504606846976) 7 (p + 1)) (by omega) (by omega) (by omega) (by rw [uu_eq]) (by rw [uu_ne (by decide), uu_ne (by decide)]; exact h4) (by rw [uu_ne (by decide), uu_eq]) (by omega)
        refine ⟨u', b1, b2, fun k k1 k2 => by rw [b3 k k1 k2, uu_ne k1, uu_ne k2], fun F Q q => ?_⟩
        have g := b4 F Q q
        have ce : ¬ w32 (iCmp (a / 281474976710656) 0) = 0 := fun t => e ((cm_e (x := a / 281474976710656) (y := 0) (by omega)).mp t)
        rw [mX12_nextToken_L168]
        simp (disch := first | omega | decide) only [mX12_byteAt, n, mX12_nextToken_J218, ↓rh_rcv, ↓rh_g3, ↓rh_g4, ↓rh_p4, ↓rh_g7, ↓rh_p7, ↓rh_g11, ↓rh_p11, ↓rh_r73, ↓rh_w73, ↓be_y, ↓be_n, ↓bf_y, ↓bf_n, ↓bl_y, ↓bl_n, ↓bm_y, ↓bm_n, ↓bg_y, ↓bg_n, ↓bs_y, ↓bs_n, ↓bo_y, ↓bo_n, ↓bp_y, ↓bp_n, ↓forall_eq, ↓within_y, ↓within_n, ↓isIn_y, ↓isIn_n, and_true, true_and, and_self, us_at, us_ne, w32_id, um_eq, um_ne, um_um, uu_eq, uu_ne, uu_uu, vv_eq, vv_ne, vv_vv, ne_eq, not_false_eq_true, not_true_eq_false, reduceCtorEq, Int.reduceAdd, Int.reduceSub, Int.reduceMul, Int.reduceNeg, Nat.reduceEqDiff, or_true, true_or, true_implies, false_implies, Int.reduceLT, Int.reduceLE, Int.reduceEq, h4, h7, hM, ha, hh, ce]
        exact g
      · rw [if_neg e]
        have e0 : a / 281474976710656 = 0 := by omega
        have sh := wd_s (a := a) (b := W p) (by omega) (by omega)
        obtain ⟨u', b1, b2, b3, b4⟩ := ih (p + 1) (a * 256 + W p) (uu (uu u 11 (a * 256 + W p)) 7 (p + 1)) (by omega) (by omega) (by omega) (by rw [uu_eq]) (by rw [uu_ne (by decide), uu_ne (by decide)]; exact h4) (by rw [uu_ne (by decide), uu_eq]) (by omega)
        refine ⟨u', b1, b2, fun k k1 k2 => by rw [b3 k k1 k2, uu_ne k1, uu_ne k2], fun F Q q => ?_⟩
        have g := b4 F Q q
        have ce : w32 (iCmp (a / 281474976710656) 0) = 0 := (cm_e (x := a / 281474976710656) (y := 0) (by omega)).mpr e0
        rw [mX12_nextToken_L168]
        simp (disch := first | omega | decide) only [mX12_byteAt, n, mX12_nextToken_J218, ↓rh_rcv, ↓rh_g3, ↓rh_g4, ↓rh_p4, ↓rh_g7, ↓rh_p7, ↓rh_g11, ↓rh_p11, ↓rh_r73, ↓rh_w73, ↓be_y, ↓be_n, ↓bf_y, ↓bf_n, ↓bl_y, ↓bl_n, ↓bm_y, ↓bm_n, ↓bg_y, ↓bg_n, ↓bs_y, ↓bs_n, ↓bo_y, ↓bo_n, ↓bp_y, ↓bp_n, ↓forall_eq, ↓within_y, ↓within_n, ↓isIn_y, ↓isIn_n, and_true, true_and, and_self, us_at, us_ne, w32_id, um_eq, um_ne, um_um, uu_eq, uu_ne, uu_uu, vv_eq, vv_ne, vv_vv, ne_eq, not_false_eq_true, not_true_eq_false, reduceCtorEq, Int.reduceAdd, Int.reduceSub, Int.reduceMul, Int.reduceNeg, Nat.reduceEqDiff, or_true, true_or, true_implies, false_implies, Int.reduceLT, Int.reduceLE, Int.reduceEq, h4, h7, hM, ha, hh, ce, w0, sh]
        exact g
    · rw [spe_n (fun t => d t.2), Int.sub_self]
      have n := fun F Q => isl_n d (by omega) (F := F) (Q := Q)
      refine ⟨u, h7, ha, fun _ _ _ => rfl, fun F Q q => ?_⟩
      rw [mX12_nextToken_L168]
      simp (disch := first | omega | decide) only [mX12_byteAt, n, ↓rh_rcv, ↓rh_g3, ↓rh_g4, ↓rh_p4, ↓rh_g7, ↓rh_p7, ↓rh_r73, ↓rh_w73, ↓be_y, ↓be_n, ↓bf_y, ↓bf_n, ↓bl_y, ↓bl_n, ↓bm_y, ↓bm_n, ↓bg_y, ↓bg_n, ↓bs_y, ↓bs_n, ↓bo_y, ↓bo_n, ↓bp_y, ↓bp_n, ↓forall_eq, ↓within_y, ↓within_n, ↓isIn_y, ↓isIn_n, and_true, true_and, and_self, us_at, us_ne, w32_id, um_eq, um_ne, um_um, uu_eq, uu_ne, uu_uu, vv_eq, vv_ne, vv_vv, ne_eq, not_false_eq_true, not_true_eq_false, reduceCtorEq, Int.reduceAdd, Int.reduceSub, Int.reduceMul, Int.reduceNeg, Nat.reduceEqDiff, or_true, true_or, true_implies, false_implies, Int.reduceLT, Int.reduceLE, Int.reduceEq, h4, h7, hM]
      exact q
end NT2
