-- ===== pure rows: heaps =====
theorem hs_eq (F : hp) (h : Nat) (c : ac) : hs F h c h = some c := by simp [hs]
theorem hs_ne {F : hp} {h j : Nat} {c : ac} (hj : j ≠ h) : hs F h c j = F j := by simp [hs, hj]
theorem hs_hs (F : hp) (h : Nat) (c c' : ac) : hs (hs F h c) h c' = hs F h c' := by
  funext j
  by_cases hj : j = h <;> simp [hs, hj]
theorem us_eq {α : Type} (f : Int → α) (i : Int) (v : α) : us f i v i = v := by simp [us]
theorem us_ne {α : Type} {f : Int → α} {i j : Int} {v : α} (h : j ≠ i) : us f i v j = f j := by simp [us, h]
theorem gR_s {F : hp} {a c k : Nat} {fs : List av} {x : Option Nat} {K : Option Nat → Prop} (h : F a = some (cO c fs)) (h2 : fs[k]? = some (vr x)) : gR F (some a) c k K ↔ K x := by simp [gR, h, h2]
theorem gI_s {F : hp} {a c k : Nat} {fs : List av} {x : Int} {K : Int → Prop} (h : F a = some (cO c fs)) (h2 : fs[k]? = some (vi x)) : gI F (some a) c k K ↔ K x := by simp [gI, h, h2]
theorem gL_s {F : hp} {a c k : Nat} {fs : List av} {x : Int} {K : Int → Prop} (h : F a = some (cO c fs)) (h2 : fs[k]? = some (vl x)) : gL F (some a) c k K ↔ K x := by simp [gL, h, h2]
theorem pF_s {F : hp} {a c k : Nat} {fs : List av} {v : av} {K : hp → Prop} (h : F a = some (cO c fs)) (h2 : k < fs.length) : pF F (some a) c k v K ↔ K (hs F a (cO c (fs.set k v))) := by simp [pF, h, h2]
theorem rcv_s {F : hp} {a c : Nat} {fs : List av} {K : Nat → Prop} (h : F a = some (cO c fs)) : rcv F (some a) c K ↔ K a := by simp [rcv, h]
theorem aI_s {F : hp} {a k : Nat} {n i : Int} {f : Int → Int} {K : Int → Prop} (h : F a = some (cA k n f)) (hn : n ≤ 2147483647) (h0 : 0 ≤ i) (h1 : i < n) : aI F (some a) k i K ↔ K (f i) := by simp [aI, h, hn, h0, h1]
theorem sI_s {F : hp} {a k : Nat} {n i v : Int} {f : Int → Int} {K : hp → Prop} (h : F a = some (cA k n f)) (hn : n ≤ 2147483647) (h0 : 0 ≤ i) (h1 : i < n) : sI F (some a) k i v K ↔ K (hs F a (cA k n (us f i v))) := by simp [sI, h, hn, h0, h1]
theorem aN_s {F : hp} {a k : Nat} {n : Int} {f : Int → Int} {K : Int → Prop} (h : F a = some (cA k n f)) (hk : k < 4) (hn : n ≤ 2147483647) (h0 : 0 ≤ n) : aN F (some a) K ↔ K n := by simp [aN, h, hk, hn, h0]
theorem cpI_s {F : hp} {a b : Nat} {n0 n1 sp dp n : Int} {f g : Int → Int} {K : hp → Prop} (ha : F a = some (cA 0 n0 f)) (hb : F b = some (cA 0 n1 g)) (hn0 : n0 ≤ 2147483647) (hn1 : n1 ≤ 2147483647) (h1 : 0 ≤ sp) (h2 : 0 ≤ dp) (h3 : 0 ≤ n) (h4 : sp + n ≤ n0) (h5 : dp + n ≤ n1) : cpI F (some a) sp (some b) dp n K ↔ K (hs F b (cA 0 n1 (cpy f g sp dp n))) := by simp [cpI, ha, hb, hn0, hn1, h1, h2, h3, h4, h5]
-- ===== numbers =====
theorem iCmp_lt {x y : Int} (hx : -9223372036854775808 ≤ x ∧ x ≤ 9223372036854775807) (hy : -9223372036854775808 ≤ y ∧ y ≤ 9223372036854775807) : (iCmp x y < 0 ↔ x < y) ∧ (0 < iCmp x y ↔ y < x) ∧ (iCmp x y = 0 ↔ x = y) := by
  unfold iCmp
  rw [w64_id hx.1 hx.2, w64_id hy.1 hy.2]
  by_cases h1 : y < x
  · rw [if_pos h1]; omega
  · rw [if_neg h1]
    by_cases h2 : x = y
    · rw [if_pos h2]; omega
    · rw [if_neg h2]; omega
theorem iCmp_rng (x y : Int) : -1 ≤ iCmp x y ∧ iCmp x y ≤ 1 := by
  unfold iCmp
  split
  · omega
  · split <;> omega
theorem w32_cmp (x y : Int) : w32 (iCmp x y) = iCmp x y := w32_id (by have := iCmp_rng x y; omega) (by have := iCmp_rng x y; omega)
theorem nx_and (a b : Nat) : nI a &&& nI b = nI (a &&& b) := by
  apply Int32.toBitVec_inj.1
  show BitVec.ofNat 32 a &&& BitVec.ofNat 32 b = BitVec.ofNat 32 (a &&& b)
  apply BitVec.eq_of_getLsbD_eq
  intro i hi
  simp [hi]
theorem nx_or (a b : Nat) : nI a ||| nI b = nI (a ||| b) := by
  apply Int32.toBitVec_inj.1
  show BitVec.ofNat 32 a ||| BitVec.ofNat 32 b = BitVec.ofNat 32 (a ||| b)
  apply BitVec.eq_of_getLsbD_eq
  intro i hi
  simp [hi]
theorem nx_xor (a b : Nat) : nI a ^^^ nI b = nI (a ^^^ b) := by
  apply Int32.toBitVec_inj.1
  show BitVec.ofNat 32 a ^^^ BitVec.ofNat 32 b = BitVec.ofNat 32 (a ^^^ b)
  apply BitVec.eq_of_getLsbD_eq
  intro i hi
  simp [hi]
theorem s_l : ∀ n, n < 32 → ((nI n &&& 31).toBitVec.smod 32).toNat = n := by decide +kernel
theorem oi (a : Nat) : Int32.ofInt (a : Int) = nI a := by rw [Int32.ofInt_eq_ofNat]; rfl
theorem iAnd_n {a b : Nat} (ha : a < 2147483648) : iAnd (a : Int) (b : Int) = ((a &&& b : Nat) : Int) := by
  unfold iAnd
  rw [oi, oi, nx_and]
  exact nI_toInt (Nat.lt_of_le_of_lt Nat.and_le_left (by omega))
theorem iOr_n {a b : Nat} (ha : a < 2147483648) (hb : b < 2147483648) : iOr (a : Int) (b : Int) = ((a ||| b : Nat) : Int) := by
  unfold iOr
  rw [oi, oi, nx_or]
  exact nI_toInt (Nat.or_lt_two_pow (n := 31) ha hb)
theorem iXor_n {a b : Nat} (ha : a < 2147483648) (hb : b < 2147483648) : iXor (a : Int) (b : Int) = ((a ^^^ b : Nat) : Int) := by
  unfold iXor
  rw [oi, oi, nx_xor]
  exact nI_toInt (Nat.xor_lt_two_pow (n := 31) ha hb)
theorem iShl_n {a k : Nat} (hk : k < 32) (ha : a * 2 ^ k < 2147483648) : iShl (a : Int) (k : Int) = ((a * 2 ^ k : Nat) : Int) := by
  unfold iShl
  rw [oi, oi, pk_shlN (nI k &&& 31) k (s_l k hk) (by omega)]
  exact nI_toInt (by omega)
theorem iShr_n {a k : Nat} (hk : k < 32) (ha : a < 2147483648) : iShr (a : Int) (k : Int) = ((a / 2 ^ k : Nat) : Int) := by
  unfold iShr
  rw [oi, oi, pk_shrN (by omega) (nI k &&& 31) k (s_l k hk)]
  exact nI_toInt (Nat.lt_of_le_of_lt (Nat.div_le_self _ _) (by omega))
-- a bit of a whole number
def tb (x k : Int) : Bool := x.toNat.testBit k.toNat
theorem tb_has {x k : Int} (h0 : 0 ≤ x) (h1 : x ≤ 2147483647) (k0 : 0 ≤ k) (k1 : k < 32) : iAnd (iShr x k) 1 = if tb x k then 1 else 0 := by
  obtain ⟨a, rfl⟩ := Int.eq_ofNat_of_zero_le h0
  obtain ⟨b, rfl⟩ := Int.eq_ofNat_of_zero_le k0
  rw [iShr_n (by omega) (by omega)]
  have e1 : (1 : Int) = ((1 : Nat) : Int) := rfl
  rw [e1, iAnd_n (Nat.lt_of_le_of_lt (Nat.div_le_self _ _) (by omega))]
  unfold tb
  simp only [Int.toNat_natCast]
  simp only [Nat.testBit_eq_decide_div_mod_eq, Nat.and_one_is_mod]
  have h2 : a / 2 ^ b % 2 = 0 ∨ a / 2 ^ b % 2 = 1 := by omega
  rcases h2 with h2 | h2 <;> simp [h2]
-- ===== the reference: its row a =====
def RA (F : hp) (A : Int → Int) : Prop := (∃ fs, F 69 = some (cO 12 (vr (some 70) :: fs))) ∧ F 70 = some (cA 0 1954 A)
theorem RA.set {F : hp} {A A' : Int → Int} (h : RA F A) : RA (hs F 70 (cA 0 1954 A')) A' := ⟨by obtain ⟨⟨fs, h1⟩, _⟩ := h; exact ⟨fs, by rw [hs_ne (by decide), h1]⟩, hs_eq _ _ _⟩
theorem RA.g {F : hp} {A : Int → Int} (h : RA F A) {K : Option Nat → Prop} : gR F (some 69) 12 0 K ↔ K (some 70) := by obtain ⟨⟨fs, h1⟩, _⟩ := h; exact gR_s h1 rfl
theorem RA.c {F : hp} {A : Int → Int} (h : RA F A) {K : Nat → Prop} : rcv F (some 69) 12 K ↔ K 69 := by obtain ⟨⟨fs, h1⟩, _⟩ := h; exact rcv_s h1
theorem RA.r {F : hp} {A : Int → Int} (h : RA F A) {i : Int} {K : Int → Prop} (h0 : 0 ≤ i) (h1 : i < 1954) : aI F (some 70) 0 i K ↔ K (A i) := aI_s h.2 (by decide) h0 h1
theorem RA.w {F : hp} {A : Int → Int} (h : RA F A) {i v : Int} {K : hp → Prop} (h0 : 0 ≤ i) (h1 : i < 1954) : sI F (some 70) 0 i v K ↔ K (hs F 70 (cA 0 1954 (us A i v))) := sI_s h.2 (by decide) h0 h1
theorem RA.w2 {F : hp} {A A' : Int → Int} (h : RA F A) {i v : Int} {K : hp → Prop} (h0 : 0 ≤ i) (h1 : i < 1954) : sI (hs F 70 (cA 0 1954 A')) (some 70) 0 i v K ↔ K (hs F 70 (cA 0 1954 (us A' i v))) := by rw [h.set.w h0 h1, hs_hs]
-- small ones
theorem isIn_s {v lo hi : Int} {F : hp} {Q : Int → hp → Prop} (hv : -2147483648 ≤ v ∧ v ≤ 2147483647) (hl : -2147483648 ≤ lo ∧ lo ≤ 2147483647) (hh : -2147483648 ≤ hi ∧ hi ≤ 2147483647) : mX12_isIn v lo hi F Q ↔ Q (if lo ≤ v ∧ v ≤ hi then 1 else 0) F := by
  unfold mX12_isIn
  rw [w32_id hv.1 hv.2, w32_id hl.1 hl.2, w32_id hh.1 hh.2]
  by_cases h1 : v < lo
  · rw [if_neg (by omega)]
    simp [h1]
  · by_cases h2 : hi < v
    · rw [if_neg (by omega)]
      simp [h1, h2]
    · rw [if_pos (by omega)]
      simp [h1, h2]
theorem carOn_s {F : hp} {A : Int → Int} (h : RA F A) {t i : Int} {Q : Int → hp → Prop} (h0 : 0 ≤ 15 + 5 * t + i) (h1 : 15 + 5 * t + i < 1954) : mX12_carOn 69 t i F Q ↔ Q (A (15 + 5 * t + i)) F := by
  simp only [mX12_carOn, h.g, h.r h0 h1]
def zUp (A : Int → Int) (t : Int) : Int := if A (12 + t) = 0 then -1 else A (15 + 5 * t + (A (12 + t) - 1))
theorem uppermost_s {F : hp} {A : Int → Int} (h : RA F A) {t : Int} {Q : Int → hp → Prop} (ht : 0 ≤ t ∧ t ≤ 2) (hn : 0 ≤ A (12 + t) ∧ A (12 + t) ≤ 5) : mX12_uppermost 69 t F Q ↔ Q (zUp A t) F := by
  simp (disch := omega) only [mX12_uppermost, h.g, h.r, h.c, w32_id]
  unfold zUp
  by_cases h1 : A (12 + t) = 0
  · simp [h1]
  · simp (disch := omega) only [h1, carOn_s h]
    simp
theorem come_s {F : hp} {A : Int → Int} (h : RA F A) {t c : Int} {Q : hp → Prop} (ht : 0 ≤ t ∧ t ≤ 2) (hn : 0 ≤ A (12 + t) ∧ A (12 + t) ≤ 5) : mX12_come 69 t c F Q ↔ Q (hs F 70 (cA 0 1954 (us (us A (15 + 5 * t + A (12 + t)) c) (12 + t) (A (12 + t) + 1)))) := by
  have e : us A (15 + 5 * t + A (12 + t)) c (12 + t) = A (12 + t) := us_ne (by omega)
  simp (disch := omega) only [mX12_come, h.g, h.r, h.w, h.set.g, h.set.r, h.w2, e]
theorem isWide_s {F : hp} {A : Int → Int} (h : RA F A) {c : Int} {Q : Int → hp → Prop} (hc : 0 ≤ c ∧ c ≤ 4) (hf : 0 ≤ A 30 ∧ A 30 ≤ 31) : mX12_isWide 69 c F Q ↔ Q (if tb (A 30) c then 1 else 0) F := by
  simp (disch := omega) only [mX12_isWide, h.g, h.r, tb_has]
theorem has_s {x k : Int} {F : hp} {Q : Int → hp → Prop} (h0 : 0 ≤ x ∧ x ≤ 2147483647) (hk : 0 ≤ k ∧ k < 32) : mX12_has x k F Q ↔ Q (if tb x k then 1 else 0) F := by
  unfold mX12_has
  rw [tb_has h0.1 h0.2 hk.1 hk.2]
  cases tb x k <;> simp [w32_id]
def zForb (A : Int → Int) (c d : Int) : Bool := tb (A (56 + A (36 + c))) (A (36 + d))
theorem isForbidden_s {F : hp} {A : Int → Int} (h : RA F A) {c d : Int} {Q : Int → hp → Prop} (hc : 0 ≤ c ∧ c ≤ 4) (hd : 0 ≤ d ∧ d ≤ 4) (hk : 0 ≤ A (36 + c) ∧ A (36 + c) ≤ 3) (hk2 : 0 ≤ A (36 + d) ∧ A (36 + d) ≤ 3) (hf : 0 ≤ A (56 + A (36 + c)) ∧ A (56 + A (36 + c)) ≤ 15) : mX12_isForbidden 69 c d F Q ↔ Q (if zForb A c d then 1 else 0) F := by
  simp (disch := omega) only [mX12_isForbidden, h.g, h.r, has_s]
  unfold zForb
  cases tb (A (56 + A (36 + c))) (A (36 + d)) <;> simp
theorem isCar_s {F : hp} {A : Int → Int} (h : RA F A) {c : Int} {Q : Int → hp → Prop} (hc : -2147483648 ≤ c ∧ c ≤ 2147483647) (hn : 0 ≤ A 0 ∧ A 0 ≤ 5) : mX12_isCar 69 c F Q ↔ Q (if 0 ≤ c ∧ c < A 0 then 1 else 0) F := by
  simp (disch := omega) only [mX12_isCar, h.g, h.r, isIn_s]
  by_cases h1 : 0 ≤ c ∧ c < A 0
  · rw [if_pos h1, if_pos (by omega)]; simp
  · rw [if_neg h1, if_neg (by omega)]; simp
theorem isTrack_s {c : Int} {F : hp} {Q : Int → hp → Prop} (hc : -2147483648 ≤ c ∧ c ≤ 2147483647) : mX12_isTrack c F Q ↔ Q (if 0 ≤ c ∧ c ≤ 2 then 1 else 0) F := by
  simp (disch := omega) only [mX12_isTrack, isIn_s]
  by_cases h1 : 0 ≤ c ∧ c ≤ 2
  · rw [if_pos h1]; simp
  · rw [if_neg h1]; simp
theorem cut_s {v lo hi : Int} {F : hp} {Q : Int → hp → Prop} (hv : -2147483648 ≤ v ∧ v ≤ 2147483647) (hl : -2147483648 ≤ lo ∧ lo ≤ 2147483647) (hh : -2147483648 ≤ hi ∧ hi ≤ 2147483647) : mX12_cut v lo hi F Q ↔ Q (if v < lo then lo else if hi < v then hi else v) F := by
  unfold mX12_cut
  rw [w32_id hl.1 hl.2, w32_id hh.1 hh.2, w32_cmp, w32_cmp]
  have e1 := iCmp_lt (x := v) (y := lo) (by omega) (by omega)
  have e2 := iCmp_lt (x := v) (y := hi) (by omega) (by omega)
  rw [e1.1, e2.2.1]
  by_cases h1 : v < lo
  · simp [h1]
  · by_cases h2 : hi < v
    · simp [h1, h2]
    · simp [h1, h2]
