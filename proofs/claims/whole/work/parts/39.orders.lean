-- ===== orders: rows of cars =====
def cbf (l w : Int) : Nat → Int → Int → Int
  | 0, _, _ => 0
  | k + 1, p, c => if c < 5 then (if tb l c then (if p = w then c else cbf l w k (p + 1) (c + 1)) else cbf l w k p (c + 1)) else 0
def clr (l c : Int) : Int := if tb l c then l - ((2 ^ c.toNat : Nat) : Int) else l
def pst (o : Int) : Nat → Int × Int
  | 0 => (o, 31)
  | p + 1 => match pst o p with
    | (r, l) => (r % rowsI p, clr l (cbf l (r / rowsI p) 6 0 0))
def prc (o : Int) (p : Nat) : Int := match pst o p with
  | (r, l) => cbf l (r / rowsI p) 6 0 0
theorem pst_s (o : Int) (p : Nat) : pst o (p + 1) = ((pst o p).1 % rowsI p, clr (pst o p).2 (prc o p)) := rfl
theorem prc_e (o : Int) (p : Nat) : prc o p = cbf (pst o p).2 ((pst o p).1 / rowsI p) 6 0 0 := rfl
set_option maxRecDepth 20000 in
theorem clr_e : ∀ l : Nat, l < 32 → ∀ c : Nat, c < 5 → iAnd (l : Int) (iXor (iShl 1 (c : Int)) (-1)) = clr l c := by decide +kernel
set_option maxRecDepth 20000 in
theorem pst_ok : ∀ o : Nat, o < 120 → ∀ p : Nat, p < 5 → ((0 ≤ (pst o p).1 ∧ (pst o p).1 ≤ 119) ∧ 0 ≤ (pst o p).2 ∧ (pst o p).2 ≤ 31) ∧ 0 ≤ prc o p ∧ prc o p ≤ 4 := by decide +kernel
theorem rowsI_b {p : Int} : 1 ≤ rowsI p ∧ rowsI p ≤ 24 := by
  unfold rowsI
  repeat' split
  all_goals omega
-- the row of an order without all but some
def frl (o m : Int) (p : Nat) : List Int := ((List.range p).map (fun i => prc o i)).filter (fun c => tb m c)
theorem frl_s (o m : Int) (p : Nat) : frl o m (p + 1) = frl o m p ++ (if tb m (prc o p) then [prc o p] else []) := by
  unfold frl
  rw [List.range_succ, List.map_append, List.filter_append]
  cases h : tb m (prc o p) <;> simp [h]
theorem frl_len (o m : Int) (p : Nat) : (frl o m p).length ≤ p := by
  unfold frl
  have := List.length_filter_le (fun c => tb m c) ((List.range p).map (fun i => prc o i))
  simpa using this
theorem tl_get {f : Int → Int} {b n i : Int} {L : List Int} (h : tl f b n = L) (h0 : 0 ≤ i) (h1 : i < n) : L[i.toNat]? = some (f (b + i)) := by
  rw [← h]
  unfold tl
  rw [List.getElem?_map, List.getElem?_range (by omega)]
  simp only [Option.map_some, Option.some.injEq]
  congr 1
  omega
theorem tl_put {f : Int → Int} {L : List Int} {c : Int} (h : tl f 0 L.length = L) : tl (us f L.length c) 0 (L ++ [c]).length = L ++ [c] := by
  have e : ((L ++ [c]).length : Int) = (L.length : Int) + 1 := by simp
  rw [e, tl_snoc (by omega), tl_congr (f := us f L.length c) (g := f) (fun i h0 h1 => us_ne (by omega)), h, us_at (by omega)]
section OD
variable {n x1 x2 : Int} {F : hp} {v : Nat → Nat → Int} {N : Nat → Int → Int} {T : Nat → Int → Option Nat} {u : Nat → Int} {M : Nat → Int → Int}
theorem cb_c {l w : Int} (hl : 0 ≤ l ∧ l ≤ 31) (hw : 0 ≤ w ∧ w ≤ 119) {F : hp} {Q : Int → hp → Prop} : ∀ (k : Nat) (p c : Int), c + k = 5 → 0 ≤ c → 0 ≤ p ∧ p ≤ c → Q (cbf l w (k + 1) p c) F → mX1_carBehind_L4 Q (k + 1) l w p c F := by
  intro k
  induction k with
  | zero =>
    intro p c hk h0 hp q
    rw [cbf, if_neg (by omega)] at q
    rw [mX1_carBehind_L4, w32_id (x := c) (by omega) (by omega)]
    exact ⟨fun d => by omega, fun _ => q⟩
  | succ k ih =>
    intro p c hk h0 hp q
    rw [cbf, if_pos (by omega)] at q
    rw [mX1_carBehind_L4, w32_id (x := c) (by omega) (by omega), w32_id (x := p) (by omega) (by omega), w32_id (x := w) (by omega) (by omega)]
    refine ⟨fun _ => ?_, fun d => by omega⟩
    cases hb : tb l c with
    | false =>
      rw [bit_n (by omega) (by omega) hb]
      simp only [hb, Bool.false_eq_true, if_false] at q
      exact ⟨fun _ => ih p (c + 1) (by omega) (by omega) (by omega) q, fun d => absurd (w32_id (x := 0) (by decide) (by decide)) d⟩
    | true =>
      rw [bit_y (by omega) (by omega) hb, w32_id (x := 1) (by decide) (by decide)]
      simp only [hb, if_true] at q
      refine ⟨fun d => by omega, fun _ => ⟨fun d => ?_, fun d => ?_⟩⟩
      · rw [if_pos d] at q
        exact q
      · rw [if_neg d] at q
        exact ih (p + 1) (c + 1) (by omega) (by omega) (by omega) q
theorem fill_l {o m : Int} (ho : 0 ≤ o ∧ o < 120) (hm : 0 ≤ m ∧ m ≤ 31) : ∀ (k : Nat) (p : Nat) (R : Int → Int), p + k = 5 → tl R 0 (frl o m p).length = frl o m p → ∃ R', tl R' 0 (frl o m 5).length = frl o m 5 ∧ (∀ (F : hp) (Q : Int → hp → Prop), Q (frl o m 5).length (kh F v (um N 63 R') T) → mX1_fillRow_L12 Q (k + 1) 62 m (pst o p).1 (pst o p).2 (frl o m p).length p (kh F v (um N 63 R) T)) := by
  obtain ⟨o, rfl⟩ := Int.eq_ofNat_of_zero_le ho.1
  intro k
  induction k with
  | zero =>
    intro p R hp hR
    obtain rfl : p = 5 := by omega
    refine ⟨R, hR, fun F Q q => ?_⟩
    rw [mX1_fillRow_L12]
    exact ⟨fun d => by rw [w32_id (by decide) (by decide)] at d; exact absurd d (by decide), fun _ => q⟩
  | succ k ih =>
    intro p R hp hR
    obtain ⟨⟨⟨a1, a2⟩, a3, a4⟩, a5, a6⟩ := pst_ok o (by omega) p (by omega)
    have rb := rowsI_b (p := p)
    have ll := frl_len o m p
    have d1 : 0 ≤ (pst o p).1 / rowsI p := Int.ediv_nonneg a1 (by omega)
    have d2 : (pst o p).1 / rowsI p ≤ (pst o p).1 := Int.ediv_le_self _ a1
    have e1 : (w32 (pst o p).1).tdiv (w32 (rowsI p)) = (pst o p).1 / rowsI p := by rw [w32_id (by omega) (by omega), w32_id (by omega) (by omega), td a1]
    have e2 : (w32 (pst o p).1).tmod (w32 (rowsI p)) = (pst o p).1 % rowsI p := by rw [w32_id (by omega) (by omega), w32_id (by omega) (by omega), tm a1]
    have n1 : w32 (rowsI p) ≠ 0 := by rw [w32_id (by omega) (by omega)]; omega
    have e3 : iAnd (pst o p).2 (iXor (iShl 1 (prc o p)) (-1)) = clr (pst o p).2 (prc o p) := by
      have := clr_e (pst o p).2.toNat (by omega) (prc o p).toNat (by omega)
      rw [Int.toNat_of_nonneg a3, Int.toNat_of_nonneg a5] at this
      exact this
    have pe : w32 (p : Int) = p := w32_id (by omega) (by omega)
    have fs := frl_s o m p
    cases hb : tb m (prc o p) with
    | false =>
      rw [hb] at fs
      simp only [Bool.false_eq_true, if_false, List.append_nil] at fs
      obtain ⟨R', g1, g2⟩ := ih (p + 1) R (by omega) (by rw [fs]; exact hR)
      refine ⟨R', g1, fun F Q q => ?_⟩
      have g := g2 F Q q
      rw [fs, pst_s] at g
      rw [mX1_fillRow_L12, pe, e1, e2]
      refine ⟨fun _ => ⟨by omega, n1, ⟨6, cb_c ⟨a3, a4⟩ (by omega) 5 0 0 (by omega) (by omega) (by omega) ?_⟩⟩, fun d => by omega⟩
      refine ⟨by omega, n1, fun z hz y hy => ?_⟩
      rw [← prc_e] at hy ⊢
      rw [bit_n (by omega) (by omega) hb]
      rw [e3] at hy
      subst hz hy
      refine ⟨fun _ => ?_, fun d => absurd (w32_id (x := 0) (by decide) (by decide)) d⟩
      unfold mX1_fillRow_J74
      rw [show ((p + 1 : Nat) : Int) = (p : Int) + 1 by omega] at g
      exact g
    | true =>
      rw [hb] at fs
      simp only [if_true] at fs
      obtain ⟨R', g1, g2⟩ := ih (p + 1) (us R (frl o m p).length (prc o p)) (by omega) (by rw [fs]; exact tl_put hR)
      refine ⟨R', g1, fun F Q q => ?_⟩
      have g := g2 F Q q
      rw [fs, pst_s] at g
      rw [mX1_fillRow_L12, pe, e1, e2]
      refine ⟨fun _ => ⟨by omega, n1, ⟨6, cb_c ⟨a3, a4⟩ (by omega) 5 0 0 (by omega) (by omega) (by omega) ?_⟩⟩, fun d => by omega⟩
      refine ⟨by omega, n1, fun z hz y hy => ?_⟩
      rw [← prc_e] at hy ⊢
      rw [bit_y (by omega) (by omega) hb]
      rw [e3] at hy
      subst hz hy
      refine ⟨fun d => by rw [w32_id (by decide) (by decide)] at d; omega, fun _ => ?_⟩
      simp (disch := first | omega | decide) only [mX1_fillRow_J74, ↓kh_c62, ↓kh_g62_0, ↓kh_r63, ↓kh_w63, ↓kh_n63, ↓be_y, ↓be_n, ↓bf_y, ↓bf_n, ↓bl_y, ↓bl_n, ↓bm_y, ↓bm_n, ↓bg_y, ↓bg_n, ↓bs_y, ↓bs_n, ↓bo_y, ↓bo_n, ↓bp_y, ↓bp_n, ↓forall_eq, ↓within_y, ↓within_n, ↓isIn_y, ↓isIn_n, and_true, true_and, and_self, us_at, us_ne, w32_id, um_eq, um_ne, um_um, uu_eq, uu_ne, uu_uu, vv_eq, vv_ne, vv_vv, ne_eq, not_false_eq_true, not_true_eq_false, reduceCtorEq, Int.reduceAdd, Int.reduceSub, Int.reduceMul, Int.reduceNeg, Nat.reduceEqDiff, or_true, true_or, true_implies, false_implies, Int.reduceLT, Int.reduceLE, Int.reduceEq]
      rw [show ((p + 1 : Nat) : Int) = (p : Int) + 1 by omega, show (((frl o m p ++ [prc o p]).length : Nat) : Int) = ((frl o m p).length : Int) + 1 by simp] at g
      exact g
theorem fill_c {o m : Int} (ho : 0 ≤ o ∧ o < 120) (hm : 0 ≤ m ∧ m ≤ 31) (R : Int → Int) : ∃ R', tl R' 0 (frl o m 5).length = frl o m 5 ∧ (∀ (F : hp) (Q : Int → hp → Prop), Q (frl o m 5).length (kh F v (um N 63 R') T) → mX1_fillRow 62 o m (kh F v (um N 63 R) T) Q) := by
  obtain ⟨R', g1, g2⟩ := fill_l (v := v) (N := N) (T := T) ho hm 5 0 R (by omega) rfl
  exact ⟨R', g1, fun F Q q => ⟨6, g2 F Q q⟩⟩
-- the reference's
theorem fact_s {a : Int} (h : 0 ≤ a ∧ a ≤ 5) {F : hp} {Q : Int → hp → Prop} (q : Q (if a = 5 then 120 else rowsI (4 - a)) F) : mX12_factorial a F Q := by
  obtain rfl | rfl | rfl | rfl | rfl | rfl : a = 0 ∨ a = 1 ∨ a = 2 ∨ a = 3 ∨ a = 4 ∨ a = 5 := by omega
  all_goals
    refine ⟨6, ?_⟩
    simp (disch := decide) [mX12_factorial_L4, w32_id, rowsI] at q ⊢
    exact q
theorem crows_s {a : Int} (h : 0 ≤ a ∧ a ≤ 5) {F : hp} {Q : Int → hp → Prop} (q : Q (if a = 5 then 120 else rowsI (4 - a)) F) : mX1_countRows a F Q := by
  obtain rfl | rfl | rfl | rfl | rfl | rfl : a = 0 ∨ a = 1 ∨ a = 2 ∨ a = 3 ∨ a = 4 ∨ a = 5 := by omega
  all_goals
    refine ⟨6, ?_⟩
    simp (disch := decide) [mX1_countRows_L4, w32_id, rowsI] at q ⊢
    exact q
end OD
def lwf (s : Int) : Nat → Int → Int → Option Int
  | 0, _, _ => none
  | k + 1, w, c => if tb s c then lwf s k w (c + 1) else if 0 < w then lwf s k (w - 1) (c + 1) else some c
def mst (o : Int) : Nat → Int × Int
  | 0 => (o, 0)
  | p + 1 => match mst o p with
    | (r, s) => (r % rowsI p, s + ((2 ^ (prc o p).toNat : Nat) : Int))
set_option maxRecDepth 20000 in
theorem mst_ok : ∀ o : Nat, o < 120 → ∀ p : Nat, p < 5 → ((0 ≤ (mst o p).1 ∧ (mst o p).1 ≤ 119) ∧ 0 ≤ (mst o p).2 ∧ (mst o p).2 ≤ 31) ∧ lwf (mst o p).2 6 ((mst o p).1 / rowsI p) 0 = some (prc o p) ∧ iOr (mst o p).2 (iShl 1 (prc o p)) = (mst o (p + 1)).2 := by decide +kernel
set_option maxRecDepth 20000 in
theorem told_ok : ∀ n : Nat, n < 6 → (0 ≤ iShl 1 (n : Int) - 1 ∧ iShl 1 (n : Int) - 1 ≤ 31) ∧ ∀ c : Nat, c < 5 → tb (iShl 1 (n : Int) - 1) (c : Int) = decide (c < n) := by decide +kernel
set_option maxRecDepth 20000 in
theorem ord_len : ∀ o : Nat, o < 120 → ∀ n : Nat, n < 6 → (frl o (iShl 1 (n : Int) - 1) 5).length = n := by decide +kernel
section OE
variable {n x1 x2 : Int} {F : hp} {v : Nat → Nat → Int} {N : Nat → Int → Int} {T : Nat → Int → Option Nat} {u : Nat → Int} {M : Nat → Int → Int}
theorem lay_i {X : Nat → Int → Int → Int → Int → hp → Prop} {Q : hp → Prop} {r s m k5 c' : Int} (hs : 0 ≤ s ∧ s ≤ 31) (q : ∀ v3, v3 = iOr s (iShl 1 c') → gR (rh F u M) (some 69) 12 0 (fun x4 => aI (rh F u M) x4 0 0 (fun x5 => (w32 c' < w32 x5 → gR (rh F u M) (some 69) 12 26 (fun x6 => sI (rh F u M) x6 0 m c' (fun F7 => mX12_layRow_J107 X Q 69 r v3 (m + 1) k5 F7))) ∧ (¬ w32 c' < w32 x5 → mX12_layRow_J107 X Q 69 r v3 m k5 (rh F u M))))) : ∀ (k : Nat) (w c : Int), lwf s k w c = some c' → 0 ≤ c ∧ c + k ≤ 8 → 0 ≤ w ∧ w ≤ 119 → mX12_layRow_L35 X Q k 69 r s m k5 w c (rh F u M) := by
  intro k
  induction k with
  | zero =>
    intro w c h
    rw [lwf] at h
    cases h
  | succ k ih =>
    intro w c h hc hw
    rw [lwf] at h
    rw [mX12_layRow_L35]
    cases hb : tb s c with
    | true =>
      simp only [hb, if_true] at h
      rw [has_y (by omega) (by omega) hb, w32_id (x := 1) (by decide) (by decide)]
      refine ⟨fun d => by omega, fun _ => ?_⟩
      unfold mX12_layRow_J49
      rw [has_y (by omega) (by omega) hb, w32_id (x := 1) (by decide) (by decide)]
      refine ⟨fun d => by omega, fun _ z hz => ?_⟩
      subst hz
      rw [Int.sub_zero]
      exact ih w (c + 1) h (by omega) hw
    | false =>
      simp only [hb, Bool.false_eq_true, if_false] at h
      rw [has_n (by omega) (by omega) hb, w32_id (x := 0) (by decide) (by decide), w32_id (x := w) (by omega) (by omega)]
      refine ⟨fun _ => ⟨fun d => ?_, fun d => ?_⟩, fun d => absurd rfl d⟩
      · rw [if_pos d] at h
        unfold mX12_layRow_J49
        rw [has_n (by omega) (by omega) hb, w32_id (x := 0) (by decide) (by decide)]
        refine ⟨fun _ z hz => ?_, fun d => absurd rfl d⟩
        subst hz
        exact ih (w - 1) (c + 1) h (by omega) (by omega)
      · rw [if_neg d] at h
        cases h
        exact q
theorem lay_l {o : Int} (ho : 0 ≤ o ∧ o < 120) (hn : 0 ≤ M 70 0 ∧ M 70 0 ≤ 5) : ∀ (k : Nat) (p : Nat) (R : Int → Int), p + k = 5 → tl R 0 (frl o (iShl 1 (M 70 0) - 1) p).length = frl o (iShl 1 (M 70 0) - 1) p → ∃ R', tl R' 0 (frl o (iShl 1 (M 70 0) - 1) 5).length = frl o (iShl 1 (M 70 0) - 1) 5 ∧ (∀ (F : hp) (Q : hp → Prop), Q (rh F u (um M 79 R')) → mX12_layRow_L10 Q (k + 1) 69 (mst o p).1 (mst o p).2 (frl o (iShl 1 (M 70 0) - 1) p).length (4 - p) (rh F u (um M 79 R))) := by
  obtain ⟨o, rfl⟩ := Int.eq_ofNat_of_zero_le ho.1
  have told := told_ok (M 70 0).toNat (by omega)
  rw [Int.toNat_of_nonneg hn.1] at told
  generalize hm : iShl 1 (M 70 0) - 1 = m at told
  intro k
  induction k with
  | zero =>
    intro p R hp hR
    obtain rfl : p = 5 := by omega
    refine ⟨R, hR, fun F Q q => ?_⟩
    rw [mX12_layRow_L10]
    exact ⟨fun _ => q, fun d => by rw [w32_id (by decide) (by decide)] at d; exact absurd d (by decide)⟩
  | succ k ih =>
    intro p R hp hR
    obtain ⟨⟨⟨a1, a2⟩, a3, a4⟩, a5, a6⟩ := mst_ok o (by omega) p (by omega)
    obtain ⟨-, b5, b6⟩ := pst_ok o (by omega) p (by omega)
    have rb := rowsI_b (p := p)
    have ll := frl_len o m p
    have d1 : 0 ≤ (mst o p).1 / rowsI p := Int.ediv_nonneg a1 (by omega)
    have d2 : (mst o p).1 / rowsI p ≤ (mst o p).1 := Int.ediv_le_self _ a1
    have e1 : (w32 (mst o p).1).tdiv (w32 (rowsI p)) = (mst o p).1 / rowsI p := by rw [w32_id (by omega) (by omega), w32_id (by omega) (by omega), td a1]
    have e2 : (w32 (mst o p).1).tmod (w32 (rowsI p)) = (mst o (p + 1)).1 := by rw [w32_id (by omega) (by omega), w32_id (by omega) (by omega), tm a1]; rfl
    have n1 : w32 (rowsI p) ≠ 0 := by rw [w32_id (by omega) (by omega)]; omega
    have f1 : (if (4 - (p : Int)) = 5 then 120 else rowsI (4 - (4 - (p : Int)))) = rowsI p := by rw [if_neg (by omega), show 4 - (4 - (p : Int)) = p by omega]
    have fs := frl_s o m p
    have bt := told.2 (prc o p).toNat (by omega)
    rw [Int.toNat_of_nonneg b5] at bt
    by_cases hb : prc o p < M 70 0
    · have bt2 : tb m (prc o p) = true := by rw [bt]; exact decide_eq_true (by omega)
      rw [bt2] at fs
      simp only [if_true] at fs
      obtain ⟨R', g1, g2⟩ := ih (p + 1) (us R (frl o m p).length (prc o p)) (by omega) (by rw [fs]; exact tl_put hR)
      refine ⟨R', g1, fun F Q q => ?_⟩
      have g := g2 F Q q
      rw [fs, show (((frl o m p ++ [prc o p]).length : Nat) : Int) = ((frl o m p).length : Int) + 1 by simp, show 4 - ((p + 1 : Nat) : Int) = 4 - (p : Int) + -1 by omega] at g
      rw [mX12_layRow_L10, w32_id (x := 4 - (p : Int)) (by omega) (by omega)]
      refine ⟨fun d => by omega, fun _ => fact_s (by omega) ?_⟩
      rw [f1]
      refine ⟨n1, fun z hz => fact_s (by omega) ?_⟩
      rw [f1]
      refine ⟨n1, fun y hy => ⟨6, lay_i ⟨a3, a4⟩ (fun v3 h3 => ?_) 6 z 0 (by rw [hz, e1]; exact a5) (by omega) (by rw [hz, e1]; omega)⟩⟩
      rw [a6] at h3
      rw [e2] at hy
      subst h3 hy
      simp (disch := first | omega | decide) only [mX12_layRow_J107, ↓rh_rcv, ↓rh_g0, ↓rh_g26, ↓rh_r70, ↓rh_w70, ↓rh_r79, ↓rh_w79, ↓be_y, ↓be_n, ↓bf_y, ↓bf_n, ↓bl_y, ↓bl_n, ↓bm_y, ↓bm_n, ↓bg_y, ↓bg_n, ↓bs_y, ↓bs_n, ↓bo_y, ↓bo_n, ↓bp_y, ↓bp_n, ↓forall_eq, ↓within_y, ↓within_n, ↓isIn_y, ↓isIn_n, and_true, true_and, and_self, us_at, us_ne, w32_id, um_eq, um_ne, um_um, uu_eq, uu_ne, uu_uu, vv_eq, vv_ne, vv_vv, ne_eq, not_false_eq_true, not_true_eq_false, reduceCtorEq, Int.reduceAdd, Int.reduceSub, Int.reduceMul, Int.reduceNeg, Nat.reduceEqDiff, or_true, true_or, true_implies, false_implies, Int.reduceLT, Int.reduceLE, Int.reduceEq]
      exact g
    · have bt2 : tb m (prc o p) = false := by rw [bt]; exact decide_eq_false (by omega)
      rw [bt2] at fs
      simp only [Bool.false_eq_true, if_false, List.append_nil] at fs
      obtain ⟨R', g1, g2⟩ := ih (p + 1) R (by omega) (by rw [fs]; exact hR)
      refine ⟨R', g1, fun F Q q => ?_⟩
      have g := g2 F Q q
      rw [fs, show 4 - ((p + 1 : Nat) : Int) = 4 - (p : Int) + -1 by omega] at g
      rw [mX12_layRow_L10, w32_id (x := 4 - (p : Int)) (by omega) (by omega)]
      refine ⟨fun d => by omega, fun _ => fact_s (by omega) ?_⟩
      rw [f1]
      refine ⟨n1, fun z hz => fact_s (by omega) ?_⟩
      rw [f1]
      refine ⟨n1, fun y hy => ⟨6, lay_i ⟨a3, a4⟩ (fun v3 h3 => ?_) 6 z 0 (by rw [hz, e1]; exact a5) (by omega) (by rw [hz, e1]; omega)⟩⟩
      rw [a6] at h3
      rw [e2] at hy
      subst h3 hy
      simp (disch := first | omega | decide) only [mX12_layRow_J107, ↓rh_rcv, ↓rh_g0, ↓rh_g26, ↓rh_r70, ↓rh_w70, ↓rh_r79, ↓rh_w79, ↓be_y, ↓be_n, ↓bf_y, ↓bf_n, ↓bl_y, ↓bl_n, ↓bm_y, ↓bm_n, ↓bg_y, ↓bg_n, ↓bs_y, ↓bs_n, ↓bo_y, ↓bo_n, ↓bp_y, ↓bp_n, ↓forall_eq, ↓within_y, ↓within_n, ↓isIn_y, ↓isIn_n, and_true, true_and, and_self, us_at, us_ne, w32_id, um_eq, um_ne, um_um, uu_eq, uu_ne, uu_uu, vv_eq, vv_ne, vv_vv, ne_eq, not_false_eq_true, not_true_eq_false, reduceCtorEq, Int.reduceAdd, Int.reduceSub, Int.reduceMul, Int.reduceNeg, Nat.reduceEqDiff, or_true, true_or, true_implies, false_implies, Int.reduceLT, Int.reduceLE, Int.reduceEq]
      exact g
theorem lay_r {o : Int} (ho : 0 ≤ o ∧ o < 120) (hn : 0 ≤ M 70 0 ∧ M 70 0 ≤ 5) (R : Int → Int) : ∃ R', tl R' 0 (frl o (iShl 1 (M 70 0) - 1) 5).length = frl o (iShl 1 (M 70 0) - 1) 5 ∧ (∀ (F : hp) (Q : hp → Prop), Q (rh F u (um M 79 R')) → mX12_layRow 69 o (rh F u (um M 79 R)) Q) := by
  obtain ⟨R', g1, g2⟩ := lay_l (u := u) (M := M) ho hn 5 0 R (by omega) rfl
  exact ⟨R', g1, fun F Q q => ⟨6, g2 F Q q⟩⟩
theorem ord_n {o : Int} (ho : 0 ≤ o ∧ o < 120) {m : Int} (hm : 0 ≤ m ∧ m ≤ 5) : ((frl o (iShl 1 m - 1) 5).length : Int) = m := by
  have := ord_len o.toNat (by omega) m.toNat (by omega)
  rw [Int.toNat_of_nonneg ho.1, Int.toNat_of_nonneg hm.1] at this
  omega
theorem frl_mem {o m c : Int} (ho : 0 ≤ o ∧ o < 120) (h : c ∈ frl o m 5) : (0 ≤ c ∧ c ≤ 4) ∧ tb m c = true := by
  unfold frl at h
  rw [List.mem_filter, List.mem_map] at h
  obtain ⟨⟨i, h1, h2⟩, h3⟩ := h
  rw [List.mem_range] at h1
  obtain ⟨-, b5, b6⟩ := pst_ok o.toNat (by omega) i h1
  rw [Int.toNat_of_nonneg ho.1] at b5 b6
  subst h2
  exact ⟨⟨b5, b6⟩, h3⟩
theorem told_s {m : Int} (hm : 0 ≤ m ∧ m ≤ 5) : (0 ≤ iShl 1 m - 1 ∧ iShl 1 m - 1 ≤ 31) ∧ ∀ c, 0 ≤ c → c ≤ 4 → tb (iShl 1 m - 1) c = decide (c < m) := by
  have := told_ok m.toNat (by omega)
  rw [Int.toNat_of_nonneg hm.1] at this
  refine ⟨this.1, fun c h0 h1 => ?_⟩
  have b := this.2 c.toNat (by omega)
  rw [Int.toNat_of_nonneg h0] at b
  rw [b]
  congr 1
  exact propext (by omega)
set_option maxHeartbeats 4000000 in
theorem op_order (h1 : -2147483648 ≤ x1 ∧ x1 ≤ 2147483647) (h2 : -2147483648 ≤ x2 ∧ x2 ≤ 2147483647) : OP n (mX11_order 8 x1 x2) (mX12_order 69 x1 x2) := by
  refine op_to (fun G v N T u M h => ?_)
  obtain ⟨⟨hY, hK, hC, hF, hB, hT, hS, hD, hX, hG⟩, hI, hM, hL, hW, hH, hN⟩ := id h
  have hc := jY_c hY
  have e4 := hc.1
  by_cases c : 0 ≤ x1 ∧ x1 ≤ 119
  · obtain ⟨R1, a1, a2⟩ := fill_c (v := v) (N := N) (T := T) (o := x1) (m := iShl 1 (M 70 0) - 1) (by omega) (told_s hc.2).1 (N 63)
    rw [um_self] at a2
    rw [ord_n (by omega) hc.2] at a1 a2
    by_cases d : 0 ≤ x2 ∧ x2 < M 70 0
    · obtain ⟨R2, b1, b2⟩ := lay_r (u := u) (M := M) (o := x1) (by omega) hc.2 (M 79)
      rw [um_self] at b2
      rw [ord_n (by omega) hc.2] at b1
      have g1 := tl_get a1 d.1 d.2
      have g2 := tl_get b1 d.1 d.2
      rw [g1, Int.zero_add] at g2
      have g3 : R1 x2 = R2 x2 := Option.some.inj g2
      refine ⟨R2 x2, v, um N 63 R1, u, um M 79 R2, Rel_up h, fun F Q q => ?_, fun F Q q => ?_⟩
      · simp (disch := first | omega | decide) only [mX11_order, mX10_toldCars, ↓kh_c8, ↓kh_g8_0, ↓kh_g8_1, ↓kh_g8_2, ↓kh_g8_3, ↓kh_g8_4, ↓kh_g8_5, ↓kh_g8_6, ↓kh_g8_7, ↓kh_c10, ↓kh_g10_0, ↓kh_g10_1, ↓kh_g10_2, ↓kh_g10_3, ↓kh_g10_4, ↓kh_g10_5, ↓kh_g10_6, ↓kh_g10_7, ↓kh_g10_8, ↓kh_g10_9, ↓kh_g10_10, ↓kh_g10_11, ↓kh_g10_12, ↓kh_p10_12, ↓kh_g10_13, ↓kh_p10_13, ↓kh_g10_14, ↓kh_p10_14, ↓kh_g10_15, ↓kh_p10_15, ↓kh_c11, ↓kh_g11_0, ↓kh_r12, ↓kh_w12, ↓kh_n12, ↓kh_c62, ↓kh_g62_0, ↓kh_r63, ↓kh_w63, ↓kh_n63, ↓kh_cp12_33, ↓kh_cp12_68, ↓kh_cp12_12, ↓kh_cp12_14, ↓be_y, ↓be_n, ↓bf_y, ↓bf_n, ↓bl_y, ↓bl_n, ↓bm_y, ↓bm_n, ↓bg_y, ↓bg_n, ↓bs_y, ↓bs_n, ↓bo_y, ↓bo_n, ↓bp_y, ↓bp_n, ↓forall_eq, ↓within_y, ↓within_n, ↓isIn_y, ↓isIn_n, and_true, true_and, and_self, us_at, us_ne, w32_id, um_eq, um_ne, um_um, uu_eq, uu_ne, uu_uu, vv_eq, vv_ne, vv_vv, ne_eq, not_false_eq_true, not_true_eq_false, reduceCtorEq, Int.reduceAdd, Int.reduceSub, Int.reduceMul, Int.reduceNeg, Nat.reduceEqDiff, or_true, true_or, true_implies, false_implies, Int.reduceLT, Int.reduceLE, Int.reduceEq, e4]
        refine a2 _ _ ?_
        simp (disch := first | omega | decide) only [w32_id, ↓kh_c8, ↓kh_g8_0, ↓kh_g8_1, ↓kh_g8_2, ↓kh_g8_3, ↓kh_g8_4, ↓kh_g8_5, ↓kh_g8_6, ↓kh_g8_7, ↓kh_c62, ↓kh_g62_0, ↓kh_r63, ↓kh_w63, ↓kh_n63, ↓be_y, ↓be_n, ↓bf_y, ↓bf_n, ↓bl_y, ↓bl_n, ↓bm_y, ↓bm_n, ↓bg_y, ↓bg_n, ↓bs_y, ↓bs_n, ↓bo_y, ↓bo_n, ↓bp_y, ↓bp_n, ↓forall_eq, ↓within_y, ↓within_n, ↓isIn_y, ↓isIn_n, and_true, true_and, and_self, us_at, us_ne, w32_id, um_eq, um_ne, um_um, uu_eq, uu_ne, uu_uu, vv_eq, vv_ne, vv_vv, ne_eq, not_false_eq_true, not_true_eq_false, reduceCtorEq, Int.reduceAdd, Int.reduceSub, Int.reduceMul, Int.reduceNeg, Nat.reduceEqDiff, or_true, true_or, true_implies, false_implies, Int.reduceLT, Int.reduceLE, Int.reduceEq, g3]
        exact q
      · simp (disch := first | omega | decide) only [mX12_order, mX12_isOrder, ↓rh_rcv, ↓rh_g0, ↓rh_r70, ↓rh_w70, ↓be_y, ↓be_n, ↓bf_y, ↓bf_n, ↓bl_y, ↓bl_n, ↓bm_y, ↓bm_n, ↓bg_y, ↓bg_n, ↓bs_y, ↓bs_n, ↓bo_y, ↓bo_n, ↓bp_y, ↓bp_n, ↓forall_eq, ↓within_y, ↓within_n, ↓isIn_y, ↓isIn_n, and_true, true_and, and_self, us_at, us_ne, w32_id, um_eq, um_ne, um_um, uu_eq, uu_ne, uu_uu, vv_eq, vv_ne, vv_vv, ne_eq, not_false_eq_true, not_true_eq_false, reduceCtorEq, Int.reduceAdd, Int.reduceSub, Int.reduceMul, Int.reduceNeg, Nat.reduceEqDiff, or_true, true_or, true_implies, false_implies, Int.reduceLT, Int.reduceLE, Int.reduceEq]
        refine b2 _ _ ?_
        simp (disch := first | omega | decide) only [w32_id, ↓rh_rcv, ↓rh_g0, ↓rh_g26, ↓rh_r79, ↓rh_w79, ↓be_y, ↓be_n, ↓bf_y, ↓bf_n, ↓bl_y, ↓bl_n, ↓bm_y, ↓bm_n, ↓bg_y, ↓bg_n, ↓bs_y, ↓bs_n, ↓bo_y, ↓bo_n, ↓bp_y, ↓bp_n, ↓forall_eq, ↓within_y, ↓within_n, ↓isIn_y, ↓isIn_n, and_true, true_and, and_self, us_at, us_ne, w32_id, um_eq, um_ne, um_um, uu_eq, uu_ne, uu_uu, vv_eq, vv_ne, vv_vv, ne_eq, not_false_eq_true, not_true_eq_false, reduceCtorEq, Int.reduceAdd, Int.reduceSub, Int.reduceMul, Int.reduceNeg, Nat.reduceEqDiff, or_true, true_or, true_implies, false_implies, Int.reduceLT, Int.reduceLE, Int.reduceEq]
        exact q
    · refine ⟨-2, v, um N 63 R1, u, M, Rel_up h, fun F Q q => ?_, fun F Q q => ?_⟩
      · simp (disch := first | omega | decide) only [mX11_order, mX10_toldCars, ↓kh_c8, ↓kh_g8_0, ↓kh_g8_1, ↓kh_g8_2, ↓kh_g8_3, ↓kh_g8_4, ↓kh_g8_5, ↓kh_g8_6, ↓kh_g8_7, ↓kh_c10, ↓kh_g10_0, ↓kh_g10_1, ↓kh_g10_2, ↓kh_g10_3, ↓kh_g10_4, ↓kh_g10_5, ↓kh_g10_6, ↓kh_g10_7, ↓kh_g10_8, ↓kh_g10_9, ↓kh_g10_10, ↓kh_g10_11, ↓kh_g10_12, ↓kh_p10_12, ↓kh_g10_13, ↓kh_p10_13, ↓kh_g10_14, ↓kh_p10_14, ↓kh_g10_15, ↓kh_p10_15, ↓kh_c11, ↓kh_g11_0, ↓kh_r12, ↓kh_w12, ↓kh_n12, ↓kh_c62, ↓kh_g62_0, ↓kh_r63, ↓kh_w63, ↓kh_n63, ↓kh_cp12_33, ↓kh_cp12_68, ↓kh_cp12_12, ↓kh_cp12_14, ↓be_y, ↓be_n, ↓bf_y, ↓bf_n, ↓bl_y, ↓bl_n, ↓bm_y, ↓bm_n, ↓bg_y, ↓bg_n, ↓bs_y, ↓bs_n, ↓bo_y, ↓bo_n, ↓bp_y, ↓bp_n, ↓forall_eq, ↓within_y, ↓within_n, ↓isIn_y, ↓isIn_n, and_true, true_and, and_self, us_at, us_ne, w32_id, um_eq, um_ne, um_um, uu_eq, uu_ne, uu_uu, vv_eq, vv_ne, vv_vv, ne_eq, not_false_eq_true, not_true_eq_false, reduceCtorEq, Int.reduceAdd, Int.reduceSub, Int.reduceMul, Int.reduceNeg, Nat.reduceEqDiff, or_true, true_or, true_implies, false_implies, Int.reduceLT, Int.reduceLE, Int.reduceEq, e4]
        refine a2 _ _ ?_
        simp (disch := first | omega | decide) only [w32_id, ↓kh_c8, ↓kh_g8_0, ↓kh_g8_1, ↓kh_g8_2, ↓kh_g8_3, ↓kh_g8_4, ↓kh_g8_5, ↓kh_g8_6, ↓kh_g8_7, ↓kh_c62, ↓kh_g62_0, ↓kh_r63, ↓kh_w63, ↓kh_n63, ↓be_y, ↓be_n, ↓bf_y, ↓bf_n, ↓bl_y, ↓bl_n, ↓bm_y, ↓bm_n, ↓bg_y, ↓bg_n, ↓bs_y, ↓bs_n, ↓bo_y, ↓bo_n, ↓bp_y, ↓bp_n, ↓forall_eq, ↓within_y, ↓within_n, ↓isIn_y, ↓isIn_n, and_true, true_and, and_self, us_at, us_ne, w32_id, um_eq, um_ne, um_um, uu_eq, uu_ne, uu_uu, vv_eq, vv_ne, vv_vv, ne_eq, not_false_eq_true, not_true_eq_false, reduceCtorEq, Int.reduceAdd, Int.reduceSub, Int.reduceMul, Int.reduceNeg, Nat.reduceEqDiff, or_true, true_or, true_implies, false_implies, Int.reduceLT, Int.reduceLE, Int.reduceEq]
        exact q
      · simp (disch := first | omega | decide) only [mX12_order, mX12_isOrder, ↓rh_rcv, ↓rh_g0, ↓rh_r70, ↓rh_w70, ↓be_y, ↓be_n, ↓bf_y, ↓bf_n, ↓bl_y, ↓bl_n, ↓bm_y, ↓bm_n, ↓bg_y, ↓bg_n, ↓bs_y, ↓bs_n, ↓bo_y, ↓bo_n, ↓bp_y, ↓bp_n, ↓forall_eq, ↓within_y, ↓within_n, ↓isIn_y, ↓isIn_n, and_true, true_and, and_self, us_at, us_ne, w32_id, um_eq, um_ne, um_um, uu_eq, uu_ne, uu_uu, vv_eq, vv_ne, vv_vv, ne_eq, not_false_eq_true, not_true_eq_false, reduceCtorEq, Int.reduceAdd, Int.reduceSub, Int.reduceMul, Int.reduceNeg, Nat.reduceEqDiff, or_true, true_or, true_implies, false_implies, Int.reduceLT, Int.reduceLE, Int.reduceEq]
        exact q
  · refine ⟨-2, v, N, u, M, Rel_up h, fun F Q q => ?_, fun F Q q => ?_⟩
    · by_cases d0 : 0 ≤ x1 ∧ x1 ≤ 119 <;> first | (exfalso; omega) | (simp (disch := omega) only [mX11_order, kh_c8, kh_g8_0, kh_g8_1, kh_g8_2, kh_g8_3, kh_g8_4, kh_g8_5, kh_g8_6, kh_g8_7, ↓i_pos, ↓i_neg, and_true, true_and, and_self, w32_id, us_at, us_ne, um_eq, um_ne, um_um, uu_eq, uu_ne, uu_uu, vv_eq, vv_ne, vv_vv, forall_eq, within_y, within_n, isIn_y, isIn_n, ne_eq, not_false_eq_true, not_true_eq_false, reduceCtorEq, Int.reduceAdd, Int.reduceSub, Int.reduceMul, Int.reduceNeg, Nat.reduceEqDiff, or_true, true_or, true_implies, false_implies, Int.reduceLT, Int.reduceLE, Int.reduceEq, iMax_l, iMax_r, iMin_l, iMin_r]; first | done | exact q)
    · by_cases d0 : 0 ≤ x1 ∧ x1 ≤ 119 <;> first | (exfalso; omega) | (simp (disch := omega) only [mX12_order, mX12_isOrder, rh_rcv, rh_g0, rh_r70, rh_w70, ↓i_pos, ↓i_neg, and_true, true_and, and_self, w32_id, us_at, us_ne, um_eq, um_ne, um_um, uu_eq, uu_ne, uu_uu, vv_eq, vv_ne, vv_vv, forall_eq, within_y, within_n, isIn_y, isIn_n, ne_eq, not_false_eq_true, not_true_eq_false, reduceCtorEq, Int.reduceAdd, Int.reduceSub, Int.reduceMul, Int.reduceNeg, Nat.reduceEqDiff, or_true, true_or, true_implies, false_implies, Int.reduceLT, Int.reduceLE, Int.reduceEq, iMax_l, iMax_r, iMin_l, iMin_r]; first | done | exact q)
end OE
