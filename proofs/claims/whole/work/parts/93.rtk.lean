-- ===== the reference's token =====
def wds : List (List Int) := [[104,111,117,114],[110,117,109,98,101,114],[108,111,97,100],[107,105,110,100],[119,105,100,101],[119,111,114,110],[102,114,111,109],[116,111],[109,97,110,121],[110,97,114,114,111,119],[98,114,111,97,100],[109,111,118,101,115],[99,104,97,110,103,101,115],[99,97,114],[102,111,114,98,105,100],[109,111,118,101],[99,104,97,110,103,101],[108,101,110,100],[98,121],[111,102],[111,100,100],[116,111,112],[105,102],[116,104,101,110],[101,108,115,101],[101,110,100],[111,114],[97,110,100],[110,111,116]]
def pks : List Int → Int → Int
  | [], a => a
  | b :: r, a => pks r (if a / 281474976710656 ≠ 0 then 1152921504606846976 else a * 256 + b)
def wcd (l : List Int) : Int := match wds.findIdx? (fun w => w == l) with
  | some i => (i : Int)
  | none => 45
def wrd (c : Int) : Int := pks (wds[c.toNat]?.getD []) 0
def sgt (c : Int) : Int := if c = 30 then 60 else if c = 31 then 62 else if c = 32 then 61 else if c = 33 then 35 else if c = 34 then 43 else if c = 35 then 45 else if c = 36 then 42 else if c = 37 then 47 else if c = 38 then 40 else if c = 39 then 41 else if c = 40 then 59 else if c = 41 then 4 else 5
def tkr (c t n w : Int) : Prop := (c = 44 ∧ t = 0) ∨ (100 ≤ c ∧ c ≤ 10100 ∧ t = 1 ∧ ((c ≤ 10099 ∧ n = c - 100) ∨ (c = 10100 ∧ 9999 < n ∧ n ≤ 1000000))) ∨ (0 ≤ c ∧ c ≤ 28 ∧ t = 2 ∧ w = wrd c) ∨ (c = 45 ∧ (t = 3 ∨ t = 58 ∨ (t = 2 ∧ (0 ≤ w ∧ w ≤ 1152921504606846976) ∧ ∀ c', 0 ≤ c' → c' ≤ 28 → w ≠ wrd c'))) ∨ (30 ≤ c ∧ c ≤ 42 ∧ t = sgt c)
set_option maxRecDepth 20000 in
theorem wrd_t : ∀ c : Nat, c < 29 → (0 ≤ wrd c ∧ wrd c ≤ 1152921504606846976) ∧ ∀ c' : Nat, c' < 29 → wrd c = wrd c' → c = c' := by decide +kernel
theorem wrd_b {c : Int} (h : 0 ≤ c ∧ c ≤ 28) : 0 ≤ wrd c ∧ wrd c ≤ 1152921504606846976 := by
  have := (wrd_t c.toNat (by omega)).1
  rw [Int.toNat_of_nonneg h.1] at this
  exact this
theorem wrd_i {c c' : Int} (h : 0 ≤ c ∧ c ≤ 28) (h' : 0 ≤ c' ∧ c' ≤ 28) (e : wrd c = wrd c') : c = c' := by
  have := (wrd_t c.toNat (by omega)).2 c'.toNat (by omega)
  rw [Int.toNat_of_nonneg h.1, Int.toNat_of_nonneg h'.1] at this
  have := this e
  omega
theorem sgt_t : ∀ c : Nat, c < 13 → (sgt ((c : Int) + 30) ≠ 0 ∧ sgt ((c : Int) + 30) ≠ 1 ∧ sgt ((c : Int) + 30) ≠ 2 ∧ sgt ((c : Int) + 30) ≠ 3 ∧ sgt ((c : Int) + 30) ≠ 58 ∧ 0 ≤ sgt ((c : Int) + 30) ∧ sgt ((c : Int) + 30) ≤ 62) ∧ ∀ c' : Nat, c' < 13 → sgt ((c : Int) + 30) = sgt ((c' : Int) + 30) → c = c' := by decide +kernel
theorem sgt_b {x : Int} (hx : 30 ≤ x ∧ x ≤ 42) : sgt x ≠ 0 ∧ sgt x ≠ 1 ∧ sgt x ≠ 2 ∧ sgt x ≠ 3 ∧ sgt x ≠ 58 ∧ 0 ≤ sgt x ∧ sgt x ≤ 62 := by
  have := (sgt_t (x - 30).toNat (by omega)).1
  rw [show (((x - 30).toNat : Nat) : Int) + 30 = x by omega] at this
  exact this
theorem sgt_i {x y : Int} (hx : 30 ≤ x ∧ x ≤ 42) (hy : 30 ≤ y ∧ y ≤ 42) (e : sgt x = sgt y) : x = y := by
  have := (sgt_t (x - 30).toNat (by omega)).2 (y - 30).toNat (by omega)
  rw [show (((x - 30).toNat : Nat) : Int) + 30 = x by omega, show (((y - 30).toNat : Nat) : Int) + 30 = y by omega] at this
  have := this e
  omega
theorem tkr_t {c t n w : Int} (h : tkr c t n w) : 0 ≤ t ∧ t ≤ 62 := by
  rcases h with h | h | h | ⟨-, h | h | h⟩ | ⟨h0, h1, h⟩
  all_goals first | omega | (have := sgt_b ⟨h0, h1⟩; omega)
-- which token stands for which sign
theorem tkr_s {c t n w : Int} (h : tkr c t n w) {x : Int} (hx : 30 ≤ x ∧ x ≤ 42) : t = sgt x ↔ c = x := by
  have xb := sgt_b hx
  rcases h with h | h | h | ⟨h0, h | h | h⟩ | ⟨h0, h1, h⟩
  · omega
  · omega
  · omega
  · omega
  · omega
  · omega
  · constructor
    · intro e; exact sgt_i ⟨h0, h1⟩ hx (by rw [← h, e])
    · intro e; rw [h, e]
theorem tkr_1 {c t n w : Int} (h : tkr c t n w) : t = 1 ↔ 100 ≤ c := by
  rcases h with h | h | h | ⟨h0, h | h | h⟩ | ⟨h0, h1, h⟩
  all_goals first | omega | (have := sgt_b ⟨h0, h1⟩; omega)
theorem tkr_0 {c t n w : Int} (h : tkr c t n w) : t = 0 ↔ c = 44 := by
  rcases h with h | h | h | ⟨h0, h | h | h⟩ | ⟨h0, h1, h⟩
  all_goals first | omega | (have := sgt_b ⟨h0, h1⟩; omega)
theorem tkr_n {c t n w : Int} (h : tkr c t n w) (hc : 100 ≤ c) : (c ≤ 10099 ∧ n = c - 100) ∨ (c = 10100 ∧ 9999 < n ∧ n ≤ 1000000) := by
  rcases h with h | h | h | ⟨h0, h | h | h⟩ | ⟨h0, h1, h⟩
  all_goals first | omega | exact h.2.2.2
theorem tkr_w {c t n w : Int} (h : tkr c t n w) {x : Int} (hx : 0 ≤ x ∧ x ≤ 28) : (t = 2 ∧ w = wrd x) ↔ c = x := by
  have xb := wrd_b hx
  rcases h with h | h | h | ⟨h0, h | h | h⟩ | ⟨h0, h1, h⟩
  · omega
  · omega
  · constructor
    · intro ⟨_, e⟩
      exact wrd_i ⟨h.1, h.2.1⟩ hx (by rw [← h.2.2.2, e])
    · intro e; subst e; exact ⟨h.2.2.1, h.2.2.2⟩
  · omega
  · omega
  · constructor
    · intro ⟨_, e⟩; exact absurd e (h.2.2 x hx.1 hx.2)
    · intro e; omega
  · constructor
    · intro ⟨e, _⟩
      exfalso
      have := sgt_b ⟨h0, h1⟩
      omega
    · intro e; omega
theorem tkr_wb {c t n w : Int} (h : tkr c t n w) (ht : t = 2) : 0 ≤ w ∧ w ≤ 1152921504606846976 := by
  rcases h with h | h | h | ⟨h0, h | h | h⟩ | ⟨h0, h1, h⟩
  · omega
  · omega
  · rw [h.2.2.2]; exact wrd_b ⟨h.1, h.2.1⟩
  · omega
  · omega
  · exact h.2.1
  · exfalso
    have := sgt_b ⟨h0, h1⟩
    omega
section RT
variable {u : Nat → Int} {M : Nat → Int → Int} {F : hp} {c : Int}
theorem isw_y {Q : Int → hp → Prop} (h : tkr c (u 9) (u 10) (u 11)) {x : Int} (hx : 0 ≤ x ∧ x ≤ 28) (e : c = x) : mX12_isWord 69 (wrd x) (rh F u M) Q ↔ Q 1 (rh F u M) := by
  obtain ⟨t2, tw⟩ := (tkr_w h hx).2 e
  have xb := wrd_b hx
  have ce : w32 (iCmp (wrd x) (wrd x)) = 0 := (cm_e (x := wrd x) (y := wrd x) (by omega)).mpr rfl
  simp (disch := first | omega | decide) only [mX12_isWord, ↓rh_rcv, ↓rh_g9, ↓rh_p9, ↓rh_g11, ↓rh_p11, ↓be_y, ↓be_n, ↓bf_y, ↓bf_n, ↓bl_y, ↓bl_n, ↓bm_y, ↓bm_n, ↓bg_y, ↓bg_n, ↓bs_y, ↓bs_n, ↓bo_y, ↓bo_n, ↓bp_y, ↓bp_n, ↓forall_eq, ↓within_y, ↓within_n, ↓isIn_y, ↓isIn_n, and_true, true_and, and_self, us_at, us_ne, w32_id, um_eq, um_ne, um_um, uu_eq, uu_ne, uu_uu, vv_eq, vv_ne, vv_vv, ne_eq, not_false_eq_true, not_true_eq_false, reduceCtorEq, Int.reduceAdd, Int.reduceSub, Int.reduceMul, Int.reduceNeg, Nat.reduceEqDiff, or_true, true_or, true_implies, false_implies, Int.reduceLT, Int.reduceLE, Int.reduceEq, t2, tw, ce]
theorem isw_n {Q : Int → hp → Prop} (h : tkr c (u 9) (u 10) (u 11)) {x : Int} (hx : 0 ≤ x ∧ x ≤ 28) (e : ¬ c = x) : mX12_isWord 69 (wrd x) (rh F u M) Q ↔ Q 0 (rh F u M) := by
  have tb := tkr_t h
  have xb := wrd_b hx
  by_cases t2 : u 9 = 2
  · have wb := tkr_wb h t2
    have ne : ¬ u 11 = wrd x := fun t => e ((tkr_w h hx).1 ⟨t2, t⟩)
    have ce : ¬ w32 (iCmp (u 11) (wrd x)) = 0 := fun t => ne ((cm_e (x := u 11) (y := wrd x) (by omega)).mp t)
    simp (disch := first | omega | decide) only [mX12_isWord, ↓rh_rcv, ↓rh_g9, ↓rh_p9, ↓rh_g11, ↓rh_p11, ↓be_y, ↓be_n, ↓bf_y, ↓bf_n, ↓bl_y, ↓bl_n, ↓bm_y, ↓bm_n, ↓bg_y, ↓bg_n, ↓bs_y, ↓bs_n, ↓bo_y, ↓bo_n, ↓bp_y, ↓bp_n, ↓forall_eq, ↓within_y, ↓within_n, ↓isIn_y, ↓isIn_n, and_true, true_and, and_self, us_at, us_ne, w32_id, um_eq, um_ne, um_um, uu_eq, uu_ne, uu_uu, vv_eq, vv_ne, vv_vv, ne_eq, not_false_eq_true, not_true_eq_false, reduceCtorEq, Int.reduceAdd, Int.reduceSub, Int.reduceMul, Int.reduceNeg, Nat.reduceEqDiff, or_true, true_or, true_implies, false_implies, Int.reduceLT, Int.reduceLE, Int.reduceEq, t2, ce]
  · simp (disch := first | omega | decide) only [mX12_isWord, ↓rh_rcv, ↓rh_g9, ↓rh_p9, ↓rh_g11, ↓rh_p11, ↓be_y, ↓be_n, ↓bf_y, ↓bf_n, ↓bl_y, ↓bl_n, ↓bm_y, ↓bm_n, ↓bg_y, ↓bg_n, ↓bs_y, ↓bs_n, ↓bo_y, ↓bo_n, ↓bp_y, ↓bp_n, ↓forall_eq, ↓within_y, ↓within_n, ↓isIn_y, ↓isIn_n, and_true, true_and, and_self, us_at, us_ne, w32_id, um_eq, um_ne, um_um, uu_eq, uu_ne, uu_uu, vv_eq, vv_ne, vv_vv, ne_eq, not_false_eq_true, not_true_eq_false, reduceCtorEq, Int.reduceAdd, Int.reduceSub, Int.reduceMul, Int.reduceNeg, Nat.reduceEqDiff, or_true, true_or, true_implies, false_implies, Int.reduceLT, Int.reduceLE, Int.reduceEq]
theorem w_odd {Q : Int → hp → Prop} : mX12_w3 111 100 100 F Q ↔ Q (wrd 20) F := by
  rw [show wrd 20 = lOr (lShl (lOr (lShl (w32 111) 8) (w32 100)) 8) (w32 100) by decide +kernel]; exact Iff.rfl
theorem w_top {Q : Int → hp → Prop} : mX12_w3 116 111 112 F Q ↔ Q (wrd 21) F := by
  rw [show wrd 21 = lOr (lShl (lOr (lShl (w32 116) 8) (w32 111)) 8) (w32 112) by decide +kernel]; exact Iff.rfl
theorem w_not {Q : Int → hp → Prop} : mX12_w3 110 111 116 F Q ↔ Q (wrd 28) F := by
  rw [show wrd 28 = lOr (lShl (lOr (lShl (w32 110) 8) (w32 111)) 8) (w32 116) by decide +kernel]; exact Iff.rfl
theorem w_and {Q : Int → hp → Prop} : mX12_w3 97 110 100 F Q ↔ Q (wrd 27) F := by
  rw [show wrd 27 = lOr (lShl (lOr (lShl (w32 97) 8) (w32 110)) 8) (w32 100) by decide +kernel]; exact Iff.rfl
theorem w_end {Q : Int → hp → Prop} : mX12_w3 101 110 100 F Q ↔ Q (wrd 25) F := by
  rw [show wrd 25 = lOr (lShl (lOr (lShl (w32 101) 8) (w32 110)) 8) (w32 100) by decide +kernel]; exact Iff.rfl
theorem w_car {Q : Int → hp → Prop} : mX12_w3 99 97 114 F Q ↔ Q (wrd 13) F := by
  rw [show wrd 13 = lOr (lShl (lOr (lShl (w32 99) 8) (w32 97)) 8) (w32 114) by decide +kernel]; exact Iff.rfl
theorem w_if {Q : Int → hp → Prop} : mX12_w2 105 102 F Q ↔ Q (wrd 22) F := by
  rw [show wrd 22 = lOr (lShl (w32 105) 8) (w32 102) by decide +kernel]; exact Iff.rfl
theorem w_or {Q : Int → hp → Prop} : mX12_w2 111 114 F Q ↔ Q (wrd 26) F := by
  rw [show wrd 26 = lOr (lShl (w32 111) 8) (w32 114) by decide +kernel]; exact Iff.rfl
theorem w_by {Q : Int → hp → Prop} : mX12_w2 98 121 F Q ↔ Q (wrd 18) F := by
  rw [show wrd 18 = lOr (lShl (w32 98) 8) (w32 121) by decide +kernel]; exact Iff.rfl
theorem w_of {Q : Int → hp → Prop} : mX12_w2 111 102 F Q ↔ Q (wrd 19) F := by
  rw [show wrd 19 = lOr (lShl (w32 111) 8) (w32 102) by decide +kernel]; exact Iff.rfl
theorem w_to {Q : Int → hp → Prop} : mX12_w2 116 111 F Q ↔ Q (wrd 7) F := by
  rw [show wrd 7 = lOr (lShl (w32 116) 8) (w32 111) by decide +kernel]; exact Iff.rfl
theorem w_then {Q : Int → hp → Prop} : mX12_w4 116 104 101 110 F Q ↔ Q (wrd 23) F := by
  rw [show wrd 23 = lOr (lShl (lOr (lShl (lOr (lShl (w32 116) 8) (w32 104)) 8) (w32 101)) 8) (w32 110) by decide +kernel]; exact Iff.rfl
theorem w_else {Q : Int → hp → Prop} : mX12_w4 101 108 115 101 F Q ↔ Q (wrd 24) F := by
  rw [show wrd 24 = lOr (lShl (lOr (lShl (lOr (lShl (w32 101) 8) (w32 108)) 8) (w32 115)) 8) (w32 101) by decide +kernel]; exact Iff.rfl
theorem w_hour {Q : Int → hp → Prop} : mX12_w4 104 111 117 114 F Q ↔ Q (wrd 0) F := by
  rw [show wrd 0 = lOr (lShl (lOr (lShl (lOr (lShl (w32 104) 8) (w32 111)) 8) (w32 117)) 8) (w32 114) by decide +kernel]; exact Iff.rfl
theorem w_load {Q : Int → hp → Prop} : mX12_w4 108 111 97 100 F Q ↔ Q (wrd 2) F := by
  rw [show wrd 2 = lOr (lShl (lOr (lShl (lOr (lShl (w32 108) 8) (w32 111)) 8) (w32 97)) 8) (w32 100) by decide +kernel]; exact Iff.rfl
theorem w_kind {Q : Int → hp → Prop} : mX12_w4 107 105 110 100 F Q ↔ Q (wrd 3) F := by
  rw [show wrd 3 = lOr (lShl (lOr (lShl (lOr (lShl (w32 107) 8) (w32 105)) 8) (w32 110)) 8) (w32 100) by decide +kernel]; exact Iff.rfl
theorem w_wide {Q : Int → hp → Prop} : mX12_w4 119 105 100 101 F Q ↔ Q (wrd 4) F := by
  rw [show wrd 4 = lOr (lShl (lOr (lShl (lOr (lShl (w32 119) 8) (w32 105)) 8) (w32 100)) 8) (w32 101) by decide +kernel]; exact Iff.rfl
theorem w_worn {Q : Int → hp → Prop} : mX12_w4 119 111 114 110 F Q ↔ Q (wrd 5) F := by
  rw [show wrd 5 = lOr (lShl (lOr (lShl (lOr (lShl (w32 119) 8) (w32 111)) 8) (w32 114)) 8) (w32 110) by decide +kernel]; exact Iff.rfl
theorem w_from {Q : Int → hp → Prop} : mX12_w4 102 114 111 109 F Q ↔ Q (wrd 6) F := by
  rw [show wrd 6 = lOr (lShl (lOr (lShl (lOr (lShl (w32 102) 8) (w32 114)) 8) (w32 111)) 8) (w32 109) by decide +kernel]; exact Iff.rfl
theorem w_many {Q : Int → hp → Prop} : mX12_w4 109 97 110 121 F Q ↔ Q (wrd 8) F := by
  rw [show wrd 8 = lOr (lShl (lOr (lShl (lOr (lShl (w32 109) 8) (w32 97)) 8) (w32 110)) 8) (w32 121) by decide +kernel]; exact Iff.rfl
theorem w_move {Q : Int → hp → Prop} : mX12_w4 109 111 118 101 F Q ↔ Q (wrd 15) F := by
  rw [show wrd 15 = lOr (lShl (lOr (lShl (lOr (lShl (w32 109) 8) (w32 111)) 8) (w32 118)) 8) (w32 101) by decide +kernel]; exact Iff.rfl
theorem w_lend {Q : Int → hp → Prop} : mX12_w4 108 101 110 100 F Q ↔ Q (wrd 17) F := by
  rw [show wrd 17 = lOr (lShl (lOr (lShl (lOr (lShl (w32 108) 8) (w32 101)) 8) (w32 110)) 8) (w32 100) by decide +kernel]; exact Iff.rfl
theorem w_broad {Q : Int → hp → Prop} : mX12_w5 98 114 111 97 100 F Q ↔ Q (wrd 10) F := by
  rw [show wrd 10 = lOr (lShl (lOr (lShl (lOr (lShl (lOr (lShl (w32 98) 8) (w32 114)) 8) (w32 111)) 8) (w32 97)) 8) (w32 100) by decide +kernel]; exact Iff.rfl
theorem w_moves {Q : Int → hp → Prop} : mX12_w5 109 111 118 101 115 F Q ↔ Q (wrd 11) F := by
  rw [show wrd 11 = lOr (lShl (lOr (lShl (lOr (lShl (lOr (lShl (w32 109) 8) (w32 111)) 8) (w32 118)) 8) (w32 101)) 8) (w32 115) by decide +kernel]; exact Iff.rfl
theorem w_number {Q : Int → hp → Prop} : mX12_w6 110 117 109 98 101 114 F Q ↔ Q (wrd 1) F := by
  rw [show wrd 1 = lOr (lShl (lOr (lShl (lOr (lShl (lOr (lShl (lOr (lShl (w32 110) 8) (w32 117)) 8) (w32 109)) 8) (w32 98)) 8) (w32 101)) 8) (w32 114) by decide +kernel]; exact Iff.rfl
theorem w_narrow {Q : Int → hp → Prop} : mX12_w6 110 97 114 114 111 119 F Q ↔ Q (wrd 9) F := by
  rw [show wrd 9 = lOr (lShl (lOr (lShl (lOr (lShl (lOr (lShl (lOr (lShl (w32 110) 8) (w32 97)) 8) (w32 114)) 8) (w32 114)) 8) (w32 111)) 8) (w32 119) by decide +kernel]; exact Iff.rfl
theorem w_forbid {Q : Int → hp → Prop} : mX12_w6 102 111 114 98 105 100 F Q ↔ Q (wrd 14) F := by
  rw [show wrd 14 = lOr (lShl (lOr (lShl (lOr (lShl (lOr (lShl (lOr (lShl (w32 102) 8) (w32 111)) 8) (w32 114)) 8) (w32 98)) 8) (w32 105)) 8) (w32 100) by decide +kernel]; exact Iff.rfl
theorem w_change {Q : Int → hp → Prop} : mX12_w6 99 104 97 110 103 101 F Q ↔ Q (wrd 16) F := by
  rw [show wrd 16 = lOr (lShl (lOr (lShl (lOr (lShl (lOr (lShl (lOr (lShl (w32 99) 8) (w32 104)) 8) (w32 97)) 8) (w32 110)) 8) (w32 103)) 8) (w32 101) by decide +kernel]; exact Iff.rfl
-- one word of the eleven names
theorem nm_y {A B : Prop} (h : tkr c (u 9) (u 10) (u 11)) (t2 : u 9 = 2) {x : Int} (hx : 0 ≤ x ∧ x ≤ 28) (e : c = x) : ((w32 (iCmp (u 11) (wrd x)) = 0 → A) ∧ (¬ w32 (iCmp (u 11) (wrd x)) = 0 → B)) ↔ A := by
  obtain ⟨-, tw⟩ := (tkr_w h hx).2 e
  have xb := wrd_b hx
  have ce : w32 (iCmp (u 11) (wrd x)) = 0 := by rw [tw]; exact (cm_e (x := wrd x) (y := wrd x) (by omega)).mpr rfl
  exact ⟨fun t => t.1 ce, fun t => ⟨fun _ => t, fun n => absurd ce n⟩⟩
theorem nm_n {A B : Prop} (h : tkr c (u 9) (u 10) (u 11)) (t2 : u 9 = 2) {x : Int} (hx : 0 ≤ x ∧ x ≤ 28) (e : ¬ c = x) : ((w32 (iCmp (u 11) (wrd x)) = 0 → A) ∧ (¬ w32 (iCmp (u 11) (wrd x)) = 0 → B)) ↔ B := by
  have xb := wrd_b hx
  have wb := tkr_wb h t2
  have ne : ¬ u 11 = wrd x := fun t => e ((tkr_w h hx).1 ⟨t2, t⟩)
  have ce : ¬ w32 (iCmp (u 11) (wrd x)) = 0 := fun t => ne ((cm_e (x := u 11) (y := wrd x) (by omega)).mp t)
  exact ⟨fun t => t.2 ce, fun t => ⟨fun n => absurd n ce, fun _ => t⟩⟩
theorem nameo_r {Q : Int → hp → Prop} (h : tkr c (u 9) (u 10) (u 11)) (q : Q (if 0 ≤ c ∧ c ≤ 10 then c else -1) (rh F u M)) : mX12_nameOf 69 (rh F u M) Q := by
  have tb := tkr_t h
  by_cases t2 : u 9 = 2
  · simp (disch := first | omega | decide) only [mX12_nameOf, ↓rh_rcv, ↓rh_g9, ↓rh_p9, ↓rh_g11, ↓rh_p11, ↓be_y, ↓be_n, ↓bf_y, ↓bf_n, ↓bl_y, ↓bl_n, ↓bm_y, ↓bm_n, ↓bg_y, ↓bg_n, ↓bs_y, ↓bs_n, ↓bo_y, ↓bo_n, ↓bp_y, ↓bp_n, ↓forall_eq, ↓within_y, ↓within_n, ↓isIn_y, ↓isIn_n, and_true, true_and, and_self, us_at, us_ne, w32_id, um_eq, um_ne, um_um, uu_eq, uu_ne, uu_uu, vv_eq, vv_ne, vv_vv, ne_eq, not_false_eq_true, not_true_eq_false, reduceCtorEq, Int.reduceAdd, Int.reduceSub, Int.reduceMul, Int.reduceNeg, Nat.reduceEqDiff, or_true, true_or, true_implies, false_implies, Int.reduceLT, Int.reduceLE, Int.reduceEq, t2, w_hour, w_number, w_load, w_kind, w_wide, w_worn, w_from, w_to, w_many, w_narrow, w_broad]
    by_cases d0 : c = 0
    · rw [nm_y h t2 (by omega) d0]; rw [if_pos (by omega), d0] at q; exact q
    rw [nm_n h t2 (by omega) d0]
    by_cases d1 : c = 1
    · rw [nm_y h t2 (by omega) d1]; rw [if_pos (by omega), d1] at q; exact q
    rw [nm_n h t2 (by omega) d1]
    by_cases d2 : c = 2
    · rw [nm_y h t2 (by omega) d2]; rw [if_pos (by omega), d2] at q; exact q
    rw [nm_n h t2 (by omega) d2]
    by_cases d3 : c = 3
    · rw [nm_y h t2 (by omega) d3]; rw [if_pos (by omega), d3] at q; exact q
    rw [nm_n h t2 (by omega) d3]
    by_cases d4 : c = 4
    · rw [nm_y h t2 (by omega) d4]; rw [if_pos (by omega), d4] at q; exact q
    rw [nm_n h t2 (by omega) d4]
    by_cases d5 : c = 5
    · rw [nm_y h t2 (by omega) d5]; rw [if_pos (by omega), d5] at q; exact q
    rw [nm_n h t2 (by omega) d5]
    by_cases d6 : c = 6
    · rw [nm_y h t2 (by omega) d6]; rw [if_pos (by omega), d6] at q; exact q
    rw [nm_n h t2 (by omega) d6]
    by_cases d7 : c = 7
    · rw [nm_y h t2 (by omega) d7]; rw [if_pos (by omega), d7] at q; exact q
    rw [nm_n h t2 (by omega) d7]
    by_cases d8 : c = 8
    · rw [nm_y h t2 (by omega) d8]; rw [if_pos (by omega), d8] at q; exact q
    rw [nm_n h t2 (by omega) d8]
    by_cases d9 : c = 9
    · rw [nm_y h t2 (by omega) d9]; rw [if_pos (by omega), d9] at q; exact q
    rw [nm_n h t2 (by omega) d9]
    by_cases d10 : c = 10
    · rw [nm_y h t2 (by omega) d10]; rw [if_pos (by omega), d10] at q; exact q
    rw [nm_n h t2 (by omega) d10]
    rw [if_neg (by omega)] at q; exact q
  · have : ¬ (0 ≤ c ∧ c ≤ 10) := fun t => t2 ((tkr_w h (x := c) (by omega)).2 rfl).1
    rw [if_neg this] at q
    simp (disch := first | omega | decide) only [mX12_nameOf, ↓rh_rcv, ↓rh_g9, ↓rh_p9, ↓be_y, ↓be_n, ↓bf_y, ↓bf_n, ↓bl_y, ↓bl_n, ↓bm_y, ↓bm_n, ↓bg_y, ↓bg_n, ↓bs_y, ↓bs_n, ↓bo_y, ↓bo_n, ↓bp_y, ↓bp_n, ↓forall_eq, ↓within_y, ↓within_n, ↓isIn_y, ↓isIn_n, and_true, true_and, and_self, us_at, us_ne, w32_id, um_eq, um_ne, um_um, uu_eq, uu_ne, uu_uu, vv_eq, vv_ne, vv_vv, ne_eq, not_false_eq_true, not_true_eq_false, reduceCtorEq, Int.reduceAdd, Int.reduceSub, Int.reduceMul, Int.reduceNeg, Nat.reduceEqDiff, or_true, true_or, true_implies, false_implies, Int.reduceLT, Int.reduceLE, Int.reduceEq]
    exact q
end RT
