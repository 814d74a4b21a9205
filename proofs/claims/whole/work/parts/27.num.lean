-- ===== numbers: shifts, bits, quotients =====
theorem td {a b : Int} (h : 0 ≤ a) : a.tdiv b = a / b := Int.tdiv_eq_ediv_of_nonneg h
theorem tm {a b : Int} (h : 0 ≤ a) : a.tmod b = a % b := Int.tmod_eq_emod_of_nonneg h
theorem shr_p (k : Nat) (hk : k < 32) {x : Int} (h0 : 0 ≤ x) (h1 : x ≤ 2147483647) : iShr x (k : Int) = x / ((2 ^ k : Nat) : Int) := by
  obtain ⟨a, rfl⟩ := Int.eq_ofNat_of_zero_le h0
  rw [iShr_n hk (by omega)]
  rfl
theorem and_p (k : Nat) (hk : k < 31) {x : Int} (h0 : 0 ≤ x) (h1 : x ≤ 2147483647) : iAnd x ((2 ^ k - 1 : Nat) : Int) = x % ((2 ^ k : Nat) : Int) := by
  obtain ⟨a, rfl⟩ := Int.eq_ofNat_of_zero_le h0
  rw [iAnd_n (by omega), Nat.and_two_pow_sub_one_eq_mod]
  rfl
theorem shr_8 {x : Int} (h0 : 0 ≤ x) (h1 : x ≤ 2147483647) : iShr x 8 = x / 256 := shr_p 8 (by decide) h0 h1
theorem shr_5 {x : Int} (h0 : 0 ≤ x) (h1 : x ≤ 2147483647) : iShr x 5 = x / 32 := shr_p 5 (by decide) h0 h1
theorem shr_4 {x : Int} (h0 : 0 ≤ x) (h1 : x ≤ 2147483647) : iShr x 4 = x / 16 := shr_p 4 (by decide) h0 h1
theorem shr_2 {x : Int} (h0 : 0 ≤ x) (h1 : x ≤ 2147483647) : iShr x 2 = x / 4 := shr_p 2 (by decide) h0 h1
theorem and_15 {x : Int} (h0 : 0 ≤ x) (h1 : x ≤ 2147483647) : iAnd x 15 = x % 16 := and_p 4 (by decide) h0 h1
theorem and_3 {x : Int} (h0 : 0 ≤ x) (h1 : x ≤ 2147483647) : iAnd x 3 = x % 4 := and_p 2 (by decide) h0 h1
theorem and_7 {x : Int} (h0 : 0 ≤ x) (h1 : x ≤ 2147483647) : iAnd x 7 = x % 8 := and_p 3 (by decide) h0 h1
theorem and_31 {x : Int} (h0 : 0 ≤ x) (h1 : x ≤ 2147483647) : iAnd x 31 = x % 32 := and_p 5 (by decide) h0 h1
theorem and_63 {x : Int} (h0 : 0 ≤ x) (h1 : x ≤ 2147483647) : iAnd x 63 = x % 64 := and_p 6 (by decide) h0 h1
theorem pk_b {w : Int} (h0 : 0 ≤ w) (h1 : w < 540000) : 0 ≤ pk w ∧ pk w ≤ 2559999 := by unfold pk; omega
theorem pk_0 {w : Int} (h0 : 0 ≤ w) (h1 : w < 540000) : iShr (pk w) 8 = w / 54 := by
  have := pk_b h0 h1
  rw [shr_8 (by omega) (by omega)]
  unfold pk; omega
theorem pk_1 {w : Int} (h0 : 0 ≤ w) (h1 : w < 540000) : iAnd (iShr (pk w) 4) 15 = w / 9 % 6 := by
  have := pk_b h0 h1
  rw [shr_4 (by omega) (by omega), and_15 (by omega) (by omega)]
  unfold pk; omega
theorem pk_2 {w : Int} (h0 : 0 ≤ w) (h1 : w < 540000) : iAnd (iShr (pk w) 2) 3 = w / 3 % 3 := by
  have := pk_b h0 h1
  rw [shr_2 (by omega) (by omega), and_3 (by omega) (by omega)]
  unfold pk; omega
theorem pk_3 {w : Int} (h0 : 0 ≤ w) (h1 : w < 540000) : iAnd (pk w) 3 = w % 3 := by
  have := pk_b h0 h1
  rw [and_3 (by omega) (by omega)]
  unfold pk; omega
-- sums that are bits side by side
theorem or_add {a b k : Nat} (hb : b < 2 ^ k) : (a * 2 ^ k) ||| b = a * 2 ^ k + b := by
  rw [Nat.mul_comm, Nat.two_pow_add_eq_or_of_lt hb]
theorem iOr_add (k : Nat) {x y : Int} (hk : 2 ^ k ≤ 2147483648) (hx : 0 ≤ x) (hx2 : x * ((2 ^ k : Nat) : Int) < 2147483648) (hy : 0 ≤ y) (hy2 : y < ((2 ^ k : Nat) : Int)) : iOr (x * ((2 ^ k : Nat) : Int)) y = x * ((2 ^ k : Nat) : Int) + y := by
  obtain ⟨a, rfl⟩ := Int.eq_ofNat_of_zero_le hx
  obtain ⟨b, rfl⟩ := Int.eq_ofNat_of_zero_le hy
  have e : ((a : Int) * ((2 ^ k : Nat) : Int)) = ((a * 2 ^ k : Nat) : Int) := by push_cast; rfl
  rw [e] at hx2 ⊢
  rw [iOr_n (by omega) (by omega), or_add (by omega)]
  push_cast; rfl
theorem shl_p (k : Nat) (hk : k < 32) {x : Int} (h0 : 0 ≤ x) (h1 : x * ((2 ^ k : Nat) : Int) < 2147483648) : iShl x (k : Int) = x * ((2 ^ k : Nat) : Int) := by
  obtain ⟨a, rfl⟩ := Int.eq_ofNat_of_zero_le h0
  have e : ((a : Int) * ((2 ^ k : Nat) : Int)) = ((a * 2 ^ k : Nat) : Int) := by push_cast; rfl
  rw [e] at h1 ⊢
  rw [iShl_n hk (by omega)]
-- a line of the class's book
theorem pk_w {h c w x : Int} (hh : 0 ≤ h ∧ h ≤ 9999) (hc : 0 ≤ c ∧ c ≤ 5) (hw : 0 ≤ w ∧ w ≤ 2) (hx : 0 ≤ x ∧ x ≤ 2) : iOr (iOr (iOr (iShl h 8) (iShl c 4)) (iShl w 2)) x = pk (((h * 6 + c) * 3 + w) * 3 + x) := by
  have e1 : iShl h 8 = h * 256 := shl_p 8 (by decide) (by omega) (by show h * 256 < _; omega)
  have e2 : iShl c 4 = c * 16 := shl_p 4 (by decide) (by omega) (by show c * 16 < _; omega)
  have e3 : iShl w 2 = w * 4 := shl_p 2 (by decide) (by omega) (by show w * 4 < _; omega)
  have e4 : iOr (h * 256) (c * 16) = h * 256 + c * 16 := iOr_add 8 (by decide) (by omega) (by show h * 256 < _; omega) (by omega) (by show c * 16 < 256; omega)
  have e5 : iOr (h * 256 + c * 16) (w * 4) = h * 256 + c * 16 + w * 4 := by
    have e : h * 256 + c * 16 = (h * 16 + c) * 16 := by omega
    rw [e]
    exact iOr_add 4 (by decide) (by omega) (by show (h * 16 + c) * 16 < _; omega) (by omega) (by show w * 4 < 16; omega)
  have e6 : iOr (h * 256 + c * 16 + w * 4) x = h * 256 + c * 16 + w * 4 + x := by
    have e : h * 256 + c * 16 + w * 4 = (h * 64 + c * 4 + w) * 4 := by omega
    rw [e]
    exact iOr_add 2 (by decide) (by omega) (by show (h * 64 + c * 4 + w) * 4 < _; omega) (by omega) (by show x < 4; omega)
  rw [e1, e2, e3, e4, e5, e6]
  unfold pk
  omega
-- bits
theorem tb_nat (a b : Nat) : tb (a : Int) (b : Int) = a.testBit b := rfl
theorem tb_or {x y k : Int} (hx : 0 ≤ x ∧ x ≤ 2147483647) (hy : 0 ≤ y ∧ y ≤ 2147483647) (hk : 0 ≤ k) : tb (iOr x y) k = (tb x k || tb y k) := by
  obtain ⟨a, rfl⟩ := Int.eq_ofNat_of_zero_le hx.1
  obtain ⟨b, rfl⟩ := Int.eq_ofNat_of_zero_le hy.1
  obtain ⟨c, rfl⟩ := Int.eq_ofNat_of_zero_le hk
  rw [iOr_n (by omega) (by omega), tb_nat, tb_nat, tb_nat, Nat.testBit_or]
theorem tb_one {j k : Int} (hj : 0 ≤ j ∧ j < 31) (hk : 0 ≤ k) : tb (iShl 1 j) k = decide (j = k) := by
  obtain ⟨a, rfl⟩ := Int.eq_ofNat_of_zero_le hj.1
  obtain ⟨b, rfl⟩ := Int.eq_ofNat_of_zero_le hk
  have e : iShl 1 (a : Int) = ((2 ^ a : Nat) : Int) := by
    have := @iShl_n 1 a (by omega) (by have := Nat.pow_lt_pow_right (a := 2) (by decide) (show a < 31 by omega); omega)
    simpa using this
  rw [e, tb_nat, Nat.testBit_two_pow]
  simp only [Int.natCast_inj]
theorem shl1_b {j : Int} (hj : 0 ≤ j ∧ j < 31) : 0 ≤ iShl 1 j ∧ iShl 1 j ≤ 1073741824 := by
  obtain ⟨a, rfl⟩ := Int.eq_ofNat_of_zero_le hj.1
  have h2 : 2 ^ a ≤ 2 ^ 30 := Nat.pow_le_pow_right (by decide) (by omega)
  have e : iShl 1 (a : Int) = ((2 ^ a : Nat) : Int) := by
    have := @iShl_n 1 a (by omega) (by have := Nat.pow_lt_pow_right (a := 2) (by decide) (show a < 31 by omega); omega)
    simpa using this
  rw [e]
  have h3 : (2 : Nat) ^ 30 = 1073741824 := by decide
  rw [h3] at h2
  generalize 2 ^ a = z at h2 ⊢
  omega
theorem or_b {x y : Int} (k : Nat) (hk : k ≤ 31) (hx : 0 ≤ x ∧ x < ((2 ^ k : Nat) : Int)) (hy : 0 ≤ y ∧ y < ((2 ^ k : Nat) : Int)) : 0 ≤ iOr x y ∧ iOr x y < ((2 ^ k : Nat) : Int) := by
  obtain ⟨a, rfl⟩ := Int.eq_ofNat_of_zero_le hx.1
  obtain ⟨b, rfl⟩ := Int.eq_ofNat_of_zero_le hy.1
  have h2 : 2 ^ k ≤ 2 ^ 31 := Nat.pow_le_pow_right (by decide) (by omega)
  have h3 : (2 : Nat) ^ 31 = 2147483648 := by decide
  rw [iOr_n (by omega) (by omega)]
  have := Nat.or_lt_two_pow (x := a) (y := b) (n := k) (by omega) (by omega)
  omega
theorem xnot (x : Int) : iXor x (-1) = (~~~ (Int32.ofInt x)).toInt := by
  unfold iXor
  congr 1
  have : Int32.ofInt (-1) = -1 := by decide
  rw [this]
  apply Int32.toBitVec_inj.1
  simp
theorem andn {a b : Nat} (ha : a < 2147483648) (hb : b < 2147483648) : iAnd (a : Int) (iXor (b : Int) (-1)) = ((a &&& (4294967295 - b) : Nat) : Int) := by
  have e : iXor (b : Int) (-1) = Int32.toInt (nI (4294967295 - b)) := by
    rw [xnot, oi]
    congr 1
    apply Int32.toBitVec_inj.1
    show ~~~ (BitVec.ofNat 32 b) = BitVec.ofNat 32 (4294967295 - b)
    apply BitVec.eq_of_toNat_eq
    rw [BitVec.toNat_not, BitVec.toNat_ofNat, BitVec.toNat_ofNat]
    omega
  rw [e]
  unfold iAnd
  rw [oi, Int32.ofInt_toInt, nx_and]
  exact nI_toInt (Nat.lt_of_le_of_lt Nat.and_le_left (by omega))
theorem tb_andn {x y k : Int} (hx : 0 ≤ x ∧ x ≤ 2147483647) (hy : 0 ≤ y ∧ y ≤ 2147483647) (hk : 0 ≤ k ∧ k < 32) : tb (iAnd x (iXor y (-1))) k = (tb x k && !tb y k) := by
  obtain ⟨a, rfl⟩ := Int.eq_ofNat_of_zero_le hx.1
  obtain ⟨b, rfl⟩ := Int.eq_ofNat_of_zero_le hy.1
  obtain ⟨c, rfl⟩ := Int.eq_ofNat_of_zero_le hk.1
  rw [andn (by omega) (by omega), tb_nat, tb_nat, tb_nat, Nat.testBit_and]
  congr 1
  have e : 4294967295 - b = 2 ^ 32 - (b + 1) := by omega
  rw [e, Nat.testBit_two_pow_sub_succ (by omega)]
  simp [show c < 32 by omega]
theorem andn_b {x y : Int} (hx : 0 ≤ x ∧ x ≤ 2147483647) (hy : 0 ≤ y ∧ y ≤ 2147483647) : 0 ≤ iAnd x (iXor y (-1)) ∧ iAnd x (iXor y (-1)) ≤ x := by
  obtain ⟨a, rfl⟩ := Int.eq_ofNat_of_zero_le hx.1
  obtain ⟨b, rfl⟩ := Int.eq_ofNat_of_zero_le hy.1
  rw [andn (by omega) (by omega)]
  have := @Nat.and_le_left a (4294967295 - b)
  omega
theorem tb_ext {x y : Int} (n : Nat) (hn : n ≤ 31) (hx : 0 ≤ x ∧ x < ((2 ^ n : Nat) : Int)) (hy : 0 ≤ y ∧ y < ((2 ^ n : Nat) : Int)) (h : ∀ k : Int, 0 ≤ k → k < (n : Int) → tb x k = tb y k) : x = y := by
  obtain ⟨a, rfl⟩ := Int.eq_ofNat_of_zero_le hx.1
  obtain ⟨b, rfl⟩ := Int.eq_ofNat_of_zero_le hy.1
  have : a = b := by
    apply Nat.eq_of_testBit_eq
    intro i
    by_cases hi : i < n
    · exact h (i : Int) (by omega) (by omega)
    · rw [Nat.testBit_lt_two_pow (Nat.lt_of_lt_of_le (show a < 2 ^ n by omega) (Nat.pow_le_pow_right (by decide) (by omega))), Nat.testBit_lt_two_pow (Nat.lt_of_lt_of_le (show b < 2 ^ n by omega) (Nat.pow_le_pow_right (by decide) (by omega)))]
  rw [this]
