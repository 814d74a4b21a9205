-- ===== what a law says =====
theorem cm_l {x y : Int} (h : (-9223372036854775808 ≤ x ∧ x ≤ 9223372036854775807) ∧ -9223372036854775808 ≤ y ∧ y ≤ 9223372036854775807) : (w32 (iCmp x y) < 0) = (x < y) := by
  rw [w32_cmp]
  exact propext (iCmp_lt h.1 h.2).1
theorem cm_g {x y : Int} (h : (-9223372036854775808 ≤ x ∧ x ≤ 9223372036854775807) ∧ -9223372036854775808 ≤ y ∧ y ≤ 9223372036854775807) : (0 < w32 (iCmp x y)) = (y < x) := by
  rw [w32_cmp]
  exact propext (iCmp_lt h.1 h.2).2.1
theorem cm_e {x y : Int} (h : (-9223372036854775808 ≤ x ∧ x ≤ 9223372036854775807) ∧ -9223372036854775808 ≤ y ∧ y ≤ 9223372036854775807) : (w32 (iCmp x y) = 0) = (x = y) := by
  rw [w32_cmp]
  exact propext (iCmp_lt h.1 h.2).2.2
def clp (x : Int) : Int := if 1000000 < x then 1000000 else if x < -1000000 then -1000000 else x
theorem clp_b (x : Int) : -1000000 ≤ clp x ∧ clp x ≤ 1000000 := by unfold clp; split <;> (try split) <;> omega
theorem clp_i {x : Int} (h : -1000000 ≤ x ∧ x ≤ 1000000) : clp x = x := by unfold clp; rw [if_neg (by omega), if_neg (by omega)]
theorem clip_s {x : Int} (h : -9223372036854775808 ≤ x ∧ x ≤ 9223372036854775807) {F : hp} {Q : Int → hp → Prop} (q : Q (clp x) F) : mX12_clip x F Q := by
  unfold clp at q
  unfold mX12_clip
  rw [cm_g (by omega), cm_l (by omega)]
  refine ⟨fun d => ?_, fun d => ⟨fun e => ?_, fun e => ?_⟩⟩
  · rw [if_pos d] at q; exact q
  · rw [if_neg d, if_pos e] at q; exact q
  · rw [if_neg d, if_neg e] at q; exact q
def arr (f : Int → Int) (L : List Int) : Prop := tl f 0 L.length = L.reverse
theorem arr_push {f : Int → Int} {L : List Int} {x : Int} (h : arr f L) : arr (us f L.length x) (x :: L) := by
  unfold arr at h ⊢
  rw [List.length_cons, show ((L.length + 1 : Nat) : Int) = (L.length : Int) + 1 by omega, tl_snoc (by omega), List.reverse_cons, tl_congr (g := f) (fun i i0 i1 => us_ne (by omega)), h, us_at (by omega)]
theorem arr_pop {f : Int → Int} {L : List Int} {x : Int} (h : arr f (x :: L)) : f L.length = x ∧ arr f L := by
  unfold arr at h ⊢
  rw [List.length_cons, show ((L.length + 1 : Nat) : Int) = (L.length : Int) + 1 by omega, tl_snoc (by omega), List.reverse_cons] at h
  obtain ⟨h1, h2⟩ := List.append_inj' h rfl
  rw [Int.zero_add] at h2
  exact ⟨List.cons.inj h2 |>.1, h1⟩
def vas (s : List (Bool × Int)) : List Int := s.map (fun x => x.2)
def nus (s : List (Bool × Int)) : List Int := (s.filter (fun x => x.1)).map (fun x => x.2)
def trs (s : List (Bool × Int)) : List Int := (s.filter (fun x => !x.1)).map (fun x => x.2)
def sok (s : List (Bool × Int)) : Prop := ∀ x ∈ s, (x.1 = true → -1000000 ≤ x.2 ∧ x.2 ≤ 1000000) ∧ (x.1 = false → x.2 = 0 ∨ x.2 = 1)
theorem nus_l (s : List (Bool × Int)) : (nus s).length + (trs s).length = s.length := by
  unfold nus trs
  induction s with
  | nil => rfl
  | cons a s ih =>
    rcases a with ⟨a, b⟩
    cases a
    · simp at ih ⊢; omega
    · simp at ih ⊢; omega
theorem vas_l (s : List (Bool × Int)) : (vas s).length = s.length := by unfold vas; rw [List.length_map]
section EV
variable {n x1 x2 : Int} {F : hp} {v : Nat → Nat → Int} {N : Nat → Int → Int} {T : Nat → Int → Option Nat} {u : Nat → Int} {M : Nat → Int → Int}
-- a pile's top: pushed and popped
theorem push_c {P : Int → Int} {h x : Int} (hh : 0 ≤ h ∧ h < 300) (hx : -9223372036854775808 ≤ x ∧ x ≤ 9223372036854775807) {Q : hp → Prop} (q : Q (kh F (vv v 28 2 (h + 1)) (um N 30 (us P h (clp x))) T)) : mX3_push 28 x (kh F (vv v 28 2 h) (um N 30 P) T) Q := by
  unfold clp at q
  have c1 : (0 < w32 (iCmp x 1000000)) = (1000000 < x) := cm_g (by omega)
  have c2 : (w32 (iCmp x (-1000000)) < 0) = (x < -1000000) := cm_l (by omega)
  have c3 : (w32 (iCmp 1000000 (-1000000)) < 0) = ((1000000 : Int) < -1000000) := cm_l (by omega)
  by_cases d : 1000000 < x
  · rw [if_pos d] at q
    simp (disch := first | omega | decide) only [mX3_push, mX3_push_J27, mX3_push_J51, c1, c3, ↓kh_c28, ↓kh_g28_0, ↓kh_g28_1, ↓kh_g28_2, ↓kh_p28_2, ↓kh_r30, ↓kh_w30, ↓kh_n30, ↓be_y, ↓be_n, ↓bf_y, ↓bf_n, ↓bl_y, ↓bl_n, ↓bm_y, ↓bm_n, ↓bg_y, ↓bg_n, ↓bs_y, ↓bs_n, ↓bo_y, ↓bo_n, ↓bp_y, ↓bp_n, ↓forall_eq, ↓within_y, ↓within_n, ↓isIn_y, ↓isIn_n, and_true, true_and, and_self, us_at, us_ne, w32_id, um_eq, um_ne, um_um, uu_eq, uu_ne, uu_uu, vv_eq, vv_ne, vv_vv, ne_eq, not_false_eq_true, not_true_eq_false, reduceCtorEq, Int.reduceAdd, Int.reduceSub, Int.reduceMul, Int.reduceNeg, Nat.reduceEqDiff, or_true, true_or, true_implies, false_implies, Int.reduceLT, Int.reduceLE, Int.reduceEq]
    exact q
  · rw [if_neg d] at q
    by_cases e : x < -1000000
    · rw [if_pos e] at q
      simp (disch := first | omega | decide) only [mX3_push, mX3_push_J27, mX3_push_J51, c1, c2, ↓kh_c28, ↓kh_g28_0, ↓kh_g28_1, ↓kh_g28_2, ↓kh_p28_2, ↓kh_r30, ↓kh_w30, ↓kh_n30, ↓be_y, ↓be_n, ↓bf_y, ↓bf_n, ↓bl_y, ↓bl_n, ↓bm_y, ↓bm_n, ↓bg_y, ↓bg_n, ↓bs_y, ↓bs_n, ↓bo_y, ↓bo_n, ↓bp_y, ↓bp_n, ↓forall_eq, ↓within_y, ↓within_n, ↓isIn_y, ↓isIn_n, and_true, true_and, and_self, us_at, us_ne, w32_id, um_eq, um_ne, um_um, uu_eq, uu_ne, uu_uu, vv_eq, vv_ne, vv_vv, ne_eq, not_false_eq_true, not_true_eq_false, reduceCtorEq, Int.reduceAdd, Int.reduceSub, Int.reduceMul, Int.reduceNeg, Nat.reduceEqDiff, or_true, true_or, true_implies, false_implies, Int.reduceLT, Int.reduceLE, Int.reduceEq]
      exact q
    · rw [if_neg e] at q
      simp (disch := first | omega | decide) only [mX3_push, mX3_push_J27, mX3_push_J51, c1, c2, ↓kh_c28, ↓kh_g28_0, ↓kh_g28_1, ↓kh_g28_2, ↓kh_p28_2, ↓kh_r30, ↓kh_w30, ↓kh_n30, ↓be_y, ↓be_n, ↓bf_y, ↓bf_n, ↓bl_y, ↓bl_n, ↓bm_y, ↓bm_n, ↓bg_y, ↓bg_n, ↓bs_y, ↓bs_n, ↓bo_y, ↓bo_n, ↓bp_y, ↓bp_n, ↓forall_eq, ↓within_y, ↓within_n, ↓isIn_y, ↓isIn_n, and_true, true_and, and_self, us_at, us_ne, w32_id, um_eq, um_ne, um_um, uu_eq, uu_ne, uu_uu, vv_eq, vv_ne, vv_vv, ne_eq, not_false_eq_true, not_true_eq_false, reduceCtorEq, Int.reduceAdd, Int.reduceSub, Int.reduceMul, Int.reduceNeg, Nat.reduceEqDiff, or_true, true_or, true_implies, false_implies, Int.reduceLT, Int.reduceLE, Int.reduceEq]
      exact q
theorem pop_c {P : Int → Int} {h : Int} (hh : 0 ≤ h ∧ h < 300) {Q : Int → hp → Prop} (q : Q (P h) (kh F (vv v 28 2 h) (um N 30 P) T)) : mX3_pop 28 (kh F (vv v 28 2 (h + 1)) (um N 30 P) T) Q := by
  have e : h + 1 - 1 = h := by omega
  simp (disch := first | omega | decide) only [mX3_pop, ↓kh_c28, ↓kh_g28_0, ↓kh_g28_1, ↓kh_g28_2, ↓kh_p28_2, ↓kh_r30, ↓kh_w30, ↓kh_n30, ↓be_y, ↓be_n, ↓bf_y, ↓bf_n, ↓bl_y, ↓bl_n, ↓bm_y, ↓bm_n, ↓bg_y, ↓bg_n, ↓bs_y, ↓bs_n, ↓bo_y, ↓bo_n, ↓bp_y, ↓bp_n, ↓forall_eq, ↓within_y, ↓within_n, ↓isIn_y, ↓isIn_n, and_true, true_and, and_self, us_at, us_ne, w32_id, um_eq, um_ne, um_um, uu_eq, uu_ne, uu_uu, vv_eq, vv_ne, vv_vv, ne_eq, not_false_eq_true, not_true_eq_false, reduceCtorEq, Int.reduceAdd, Int.reduceSub, Int.reduceMul, Int.reduceNeg, Nat.reduceEqDiff, or_true, true_or, true_implies, false_implies, Int.reduceLT, Int.reduceLE, Int.reduceEq, e]
  exact q
end EV
-- one sign of the code, on a pile of numbers and answers
def unf (Tp : Int → Int) (o a : Int) : Int := if o = 5 then -a else if o = 4 then a % 2 else Tp a
def b2f (o a b : Int) : Int := if o = 6 then clp (a + b) else if o = 7 then clp (a - b) else if o = 8 then clp (a * b) else if b = 0 then 0 else clp (a.tdiv b)
def askf (o a b : Int) : Int := if o = 10 then (if a < b then 1 else 0) else if o = 11 then (if a ≤ b then 1 else 0) else if o = 12 then (if b < a then 1 else 0) else if o = 13 then (if b ≤ a then 1 else 0) else if o = 14 then (if a = b then 1 else 0) else (if ¬ a = b then 1 else 0)
theorem askf_b {o a b : Int} : askf o a b = 0 ∨ askf o a b = 1 := by
  unfold askf
  repeat' split
  all_goals simp
def jof (o a b : Int) : Int := if o = 21 then (if a = 1 ∧ b = 1 then 1 else 0) else (if a = 0 ∧ b = 0 then 0 else 1)
def evo (E Tp : Int → Int) (o w : Int) (s : List (Bool × Int)) : List (Bool × Int) :=
  if o = 0 then (true, w) :: s
  else if o = 1 then (true, E w) :: s
  else if o = 3 then (match s with
    | (_, b) :: (_, a) :: (_, c) :: r => (true, if c = 0 then b else a) :: r
    | _ => s)
  else if o < 6 then (match s with
    | (_, a) :: r => (true, unf Tp o a) :: r
    | _ => s)
  else if o < 10 then (match s with
    | (_, b) :: (_, a) :: r => (true, b2f o a b) :: r
    | _ => s)
  else if o < 20 then (match s with
    | (_, b) :: (_, a) :: r => (false, askf o a b) :: r
    | _ => s)
  else if o = 20 then (match s with
    | (_, a) :: r => (false, 1 - a) :: r
    | _ => s)
  else (match s with
    | (_, b) :: (_, a) :: r => (false, jof o a b) :: r
    | _ => s)
-- what a sign finds, by its kind
theorem shp {o w : Int} {x : Int} {s : List (Bool × Int)} {t : List Bool} (hx : cxp x o w) (ht : tyo o (s.map (fun x => x.1)) = some t) :
    (o = 0 ∧ x = w ∧ (0 ≤ w ∧ w ≤ 9999) ∧ t = true :: s.map (fun x => x.1)) ∨
    (o = 1 ∧ x = 10000 + w ∧ (0 ≤ w ∧ w ≤ 10) ∧ t = true :: s.map (fun x => x.1)) ∨
    (o = 3 ∧ x = 20022 ∧ ∃ b a c r, s = (true, b) :: (true, a) :: (false, c) :: r ∧ t = true :: r.map (fun x => x.1)) ∨
    (((o = 2 ∧ x = 20021) ∨ (o = 4 ∧ x = 20020) ∨ (o = 5 ∧ x = 20043)) ∧ ∃ a r, s = (true, a) :: r ∧ t = true :: r.map (fun x => x.1)) ∨
    ((6 ≤ o ∧ o ≤ 9 ∧ x = 20028 + o) ∧ ∃ b a r, s = (true, b) :: (true, a) :: r ∧ t = true :: r.map (fun x => x.1)) ∨
    (((o = 10 ∧ x = 20030) ∨ (o = 11 ∧ x = 20041) ∨ (o = 12 ∧ x = 20031) ∨ (o = 13 ∧ x = 20042) ∨ (o = 14 ∧ x = 20032) ∨ (o = 15 ∧ x = 20033)) ∧ ∃ b a r, s = (true, b) :: (true, a) :: r ∧ t = false :: r.map (fun x => x.1)) ∨
    (o = 20 ∧ x = 20028 ∧ ∃ a r, s = (false, a) :: r ∧ t = false :: r.map (fun x => x.1)) ∨
    (((o = 21 ∧ x = 20027) ∨ (o = 22 ∧ x = 20026)) ∧ ∃ b a r, s = (false, b) :: (false, a) :: r ∧ t = false :: r.map (fun x => x.1)) := by
  have two : ∀ (p q : Bool), (∃ r, s.map (fun x => x.1) = p :: q :: r) → ∃ b a r, s = (p, b) :: (q, a) :: r := by
    rintro p q ⟨r, hr⟩
    rcases s with _ | ⟨⟨p', b⟩, _ | ⟨⟨q', a⟩, s⟩⟩
    · cases hr
    · cases hr
    · simp only [List.map_cons, List.cons.injEq] at hr
      exact ⟨b, a, s, by rw [hr.1, hr.2.1]⟩
  rcases hx with ⟨h1, h2, h3, h4⟩ | ⟨h1, h2, h3, h4⟩ | ⟨h1, h2⟩
  · subst h1
    simp only [tyo, true_or, if_true, Option.some.injEq] at ht
    exact .inl ⟨rfl, h2, ⟨h3, h4⟩, ht.symm⟩
  · subst h1
    simp only [tyo, or_true, if_true, Option.some.injEq] at ht
    exact .inr (.inl ⟨rfl, h2, ⟨h3, h4⟩, ht.symm⟩)
  · right; right
    unfold tyo at ht
    rw [if_neg (by omega)] at ht
    by_cases d3 : o = 3
    · rw [if_pos d3] at ht
      left
      refine ⟨d3, by rw [h2, d3]; rfl, ?_⟩
      rcases s with _ | ⟨⟨_ | _, b⟩, _ | ⟨⟨_ | _, a⟩, _ | ⟨⟨_ | _, c⟩, r⟩⟩⟩ <;> simp at ht
      exact ⟨b, a, c, r, rfl, ht.symm⟩
    · rw [if_neg d3] at ht
      right
      by_cases d6 : o < 6
      · rw [if_pos d6] at ht
        left
        refine ⟨?_, ?_⟩
        · obtain d | d | d : o = 2 ∨ o = 4 ∨ o = 5 := by omega
          · exact .inl ⟨d, by rw [h2, d]; rfl⟩
          · exact .inr (.inl ⟨d, by rw [h2, d]; rfl⟩)
          · exact .inr (.inr ⟨d, by rw [h2, d]; rfl⟩)
        · rcases s with _ | ⟨⟨_ | _, a⟩, r⟩ <;> simp at ht
          exact ⟨a, r, rfl, ht.symm⟩
      · rw [if_neg d6] at ht
        right
        by_cases d10 : o < 10
        · rw [if_pos d10] at ht
          left
          refine ⟨⟨by omega, by omega, ?_⟩, ?_⟩
          · rw [h2]
            unfold cxo
            rw [if_neg (by omega), if_neg (by omega), if_neg (by omega), if_neg (by omega), if_pos d10]
            omega
          · rcases s with _ | ⟨⟨_ | _, b⟩, _ | ⟨⟨_ | _, a⟩, r⟩⟩ <;> simp at ht
            exact ⟨b, a, r, rfl, ht.symm⟩
        · rw [if_neg d10] at ht
          right
          by_cases d20 : o < 20
          · rw [if_pos d20] at ht
            left
            refine ⟨?_, ?_⟩
            · obtain d | d | d | d | d | d : o = 10 ∨ o = 11 ∨ o = 12 ∨ o = 13 ∨ o = 14 ∨ o = 15 := by omega
              · exact .inl ⟨d, by rw [h2, d]; rfl⟩
              · exact .inr (.inl ⟨d, by rw [h2, d]; rfl⟩)
              · exact .inr (.inr (.inl ⟨d, by rw [h2, d]; rfl⟩))
              · exact .inr (.inr (.inr (.inl ⟨d, by rw [h2, d]; rfl⟩)))
              · exact .inr (.inr (.inr (.inr (.inl ⟨d, by rw [h2, d]; rfl⟩))))
              · exact .inr (.inr (.inr (.inr (.inr ⟨d, by rw [h2, d]; rfl⟩))))
            · rcases s with _ | ⟨⟨_ | _, b⟩, _ | ⟨⟨_ | _, a⟩, r⟩⟩ <;> simp at ht
              exact ⟨b, a, r, rfl, ht.symm⟩
          · rw [if_neg d20] at ht
            right
            by_cases d : o = 20
            · rw [if_pos d] at ht
              left
              refine ⟨d, by rw [h2, d]; rfl, ?_⟩
              rcases s with _ | ⟨⟨_ | _, a⟩, r⟩ <;> simp at ht
              exact ⟨a, r, rfl, ht.symm⟩
            · rw [if_neg d] at ht
              right
              refine ⟨?_, ?_⟩
              · obtain d | d : o = 21 ∨ o = 22 := by omega
                · exact .inl ⟨d, by rw [h2, d]; rfl⟩
                · exact .inr ⟨d, by rw [h2, d]; rfl⟩
              · rcases s with _ | ⟨⟨_ | _, b⟩, _ | ⟨⟨_ | _, a⟩, r⟩⟩ <;> simp at ht
                exact ⟨b, a, r, rfl, ht.symm⟩
theorem sok_c {b : Bool} {a : Int} {s : List (Bool × Int)} (h : sok ((b, a) :: s)) : ((b = true → -1000000 ≤ a ∧ a ≤ 1000000) ∧ (b = false → a = 0 ∨ a = 1)) ∧ sok s := ⟨h (b, a) List.mem_cons_self, fun x hx => h x (List.mem_cons_of_mem _ hx)⟩
theorem sok_t {a : Int} {s : List (Bool × Int)} (h : sok s) (ha : -1000000 ≤ a ∧ a ≤ 1000000) : sok ((true, a) :: s) := fun x hx => by
  rcases List.mem_cons.mp hx with rfl | hx
  · exact ⟨fun _ => ha, fun e => by cases e⟩
  · exact h x hx
theorem sok_f {a : Int} {s : List (Bool × Int)} (h : sok s) (ha : a = 0 ∨ a = 1) : sok ((false, a) :: s) := fun x hx => by
  rcases List.mem_cons.mp hx with rfl | hx
  · exact ⟨fun e => (by cases e), fun _ => ha⟩
  · exact h x hx
theorem mul_b {a b : Int} (ha : -1000000 ≤ a ∧ a ≤ 1000000) (hb : -1000000 ≤ b ∧ b ≤ 1000000) : -1000000000000 ≤ a * b ∧ a * b ≤ 1000000000000 := by
  have h1 : (1000000 - a) * (1000000 - b) ≥ 0 := Int.mul_nonneg (by omega) (by omega)
  have h2 : (1000000 + a) * (1000000 + b) ≥ 0 := Int.mul_nonneg (by omega) (by omega)
  have h3 : (1000000 - a) * (1000000 + b) ≥ 0 := Int.mul_nonneg (by omega) (by omega)
  have h4 : (1000000 + a) * (1000000 - b) ≥ 0 := Int.mul_nonneg (by omega) (by omega)
  have e1 : (1000000 - a) * (1000000 - b) = 1000000000000 - 1000000 * b - 1000000 * a + a * b := by rw [Int.sub_mul, Int.mul_sub, Int.mul_sub, Int.mul_comm a 1000000]; omega
  have e2 : (1000000 + a) * (1000000 + b) = 1000000000000 + 1000000 * b + 1000000 * a + a * b := by rw [Int.add_mul, Int.mul_add, Int.mul_add, Int.mul_comm a 1000000]; omega
  have e3 : (1000000 - a) * (1000000 + b) = 1000000000000 + 1000000 * b - 1000000 * a - a * b := by rw [Int.sub_mul, Int.mul_add, Int.mul_add, Int.mul_comm a 1000000]; omega
  have e4 : (1000000 + a) * (1000000 - b) = 1000000000000 - 1000000 * b + 1000000 * a - a * b := by rw [Int.add_mul, Int.mul_sub, Int.mul_sub, Int.mul_comm a 1000000]; omega
  omega
theorem tdiv_b {a b : Int} (ha : -1000000 ≤ a ∧ a ≤ 1000000) : -1000000 ≤ a.tdiv b ∧ a.tdiv b ≤ 1000000 := by
  have h := Int.natAbs_tdiv_le_natAbs a b
  omega
theorem b2f_b {o a b : Int} : -1000000 ≤ b2f o a b ∧ b2f o a b ≤ 1000000 := by
  unfold b2f
  have := clp_b (a + b)
  have := clp_b (a - b)
  have := clp_b (a * b)
  have := clp_b (a.tdiv b)
  repeat' split
  all_goals omega
theorem evo_ok {E Tp : Int → Int} {o w x : Int} {s : List (Bool × Int)} {t : List Bool} (hx : cxp x o w) (ht : tyo o (s.map (fun x => x.1)) = some t) (hs : sok s) (hE : o = 1 → -1000000 ≤ E w ∧ E w ≤ 1000000) (hT : ∀ a, -1000000 ≤ Tp a ∧ Tp a ≤ 1000000) : sok (evo E Tp o w s) ∧ (evo E Tp o w s).map (fun x => x.1) = t ∧ (evo E Tp o w s).length ≤ s.length + 1 := by
  rcases shp hx ht with ⟨rfl, h1, h2, h3⟩ | ⟨rfl, h1, h2, h3⟩ | ⟨rfl, h1, b, a, c, r, rfl, h3⟩ | ⟨h1, a, r, rfl, h3⟩ | ⟨h1, b, a, r, rfl, h3⟩ | ⟨h1, b, a, r, rfl, h3⟩ | ⟨rfl, h1, a, r, rfl, h3⟩ | ⟨h1, b, a, r, rfl, h3⟩
  · exact ⟨sok_t hs (by omega), h3.symm, Nat.le_refl _⟩
  · exact ⟨sok_t hs (hE rfl), h3.symm, Nat.le_refl _⟩
  · obtain ⟨s1, hs⟩ := sok_c hs
    obtain ⟨s2, hs⟩ := sok_c hs
    obtain ⟨s3, hs⟩ := sok_c hs
    refine ⟨sok_t hs ?_, h3.symm, by simp [evo]⟩
    have := s1.1 rfl
    have := s2.1 rfl
    split <;> assumption
  · obtain ⟨s1, hs⟩ := sok_c hs
    have s1 := s1.1 rfl
    have e : evo E Tp o w ((true, a) :: r) = (true, unf Tp o a) :: r := by unfold evo; rw [if_neg (by omega), if_neg (by omega), if_neg (by omega), if_pos (by omega)]
    rw [e]
    refine ⟨sok_t hs ?_, h3.symm, by simp⟩
    unfold unf
    have := hT a
    split
    · omega
    · split <;> omega
  · have e : evo E Tp o w ((true, b) :: (true, a) :: r) = (true, b2f o a b) :: r := by unfold evo; rw [if_neg (by omega), if_neg (by omega), if_neg (by omega), if_neg (by omega), if_pos (by omega)]
    rw [e]
    exact ⟨sok_t (sok_c (sok_c hs).2).2 b2f_b, h3.symm, by simp⟩
  · have e : evo E Tp o w ((true, b) :: (true, a) :: r) = (false, askf o a b) :: r := by unfold evo; rw [if_neg (by omega), if_neg (by omega), if_neg (by omega), if_neg (by omega), if_neg (by omega), if_pos (by omega)]
    rw [e]
    refine ⟨sok_f (sok_c (sok_c hs).2).2 ?_, h3.symm, by simp⟩
    exact askf_b
  · obtain ⟨s1, hs⟩ := sok_c hs
    have s1 := s1.2 rfl
    exact ⟨sok_f hs (by omega), h3.symm, by simp [evo]⟩
  · have e : evo E Tp o w ((false, b) :: (false, a) :: r) = (false, jof o a b) :: r := by unfold evo; rw [if_neg (by omega), if_neg (by omega), if_neg (by omega), if_neg (by omega), if_neg (by omega), if_neg (by omega), if_neg (by omega)]
    rw [e]
    refine ⟨sok_f (sok_c (sok_c hs).2).2 ?_, h3.symm, by simp⟩
    unfold jof
    repeat' split
    all_goals simp
