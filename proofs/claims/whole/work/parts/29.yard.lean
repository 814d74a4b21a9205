-- ===== yards =====
theorem us_comm {α : Type} {f : Int → α} {i j : Int} {x y : α} (h : i ≠ j) : us (us f i x) j y = us (us f j y) i x := by
  funext k
  by_cases h1 : k = i
  · subst h1
    rw [us_ne h, us_eq, us_eq]
  · by_cases h2 : k = j
    · subst h2
      rw [us_eq, us_ne h1, us_eq]
    · rw [us_ne h2, us_ne h1, us_ne h1, us_ne h2]
theorem us_us {α : Type} (f : Int → α) (i : Int) (x y : α) : us (us f i x) i y = us f i y := by
  funext k
  by_cases h1 : k = i
  · subst h1; rw [us_eq, us_eq]
  · rw [us_ne h1, us_ne h1, us_ne h1]
theorem us_self {α : Type} (f : Int → α) (i : Int) : us f i (f i) = f := by
  funext k
  by_cases h1 : k = i
  · subst h1; rw [us_eq]
  · rw [us_ne h1]
theorem cpy_in {α : Type} {f g : Int → α} {sp dp n j : Int} (h : dp ≤ j ∧ j < dp + n) : cpy f g sp dp n j = f (sp + (j - dp)) := by unfold cpy; rw [if_pos h]
theorem cpy_out {α : Type} {f g : Int → α} {sp dp n j : Int} (h : j < dp ∨ dp + n ≤ j) : cpy f g sp dp n j = g j := by unfold cpy; rw [if_neg (by omega)]
theorem cpy_0 {α : Type} (f g : Int → α) (sp dp : Int) : cpy f g sp dp 0 = g := by
  funext j
  rw [cpy_out (by omega)]
theorem cpy_step {α : Type} {f g : Int → α} {sp dp i : Int} (hi : 0 ≤ i) : us (cpy f g sp dp i) (dp + i) (f (sp + i)) = cpy f g sp dp (i + 1) := by
  funext j
  by_cases h1 : j = dp + i
  · subst h1
    rw [us_eq, cpy_in (by omega)]
    congr 1
    omega
  · rw [us_ne h1]
    by_cases h2 : dp ≤ j ∧ j < dp + i
    · rw [cpy_in h2, cpy_in (by omega)]
    · rw [cpy_out (by omega), cpy_out (by omega)]
-- lists of cells
theorem tl_congr {f g : Int → Int} {b n : Int} (h : ∀ i, 0 ≤ i → i < n → f (b + i) = g (b + i)) : tl f b n = tl g b n := by
  unfold tl
  apply List.map_congr_left
  intro i hi
  rw [List.mem_range] at hi
  exact h i (by omega) (by omega)
theorem tl_snoc {f : Int → Int} {b n : Int} (h : 0 ≤ n) : tl f b (n + 1) = tl f b n ++ [f (b + n)] := by
  obtain ⟨m, rfl⟩ := Int.eq_ofNat_of_zero_le h
  unfold tl
  rw [show ((m : Int) + 1).toNat = m + 1 by omega, List.range_succ, List.map_append, Int.toNat_natCast]
  rfl
theorem tl_nil (f : Int → Int) (b : Int) {n : Int} (h : n ≤ 0) : tl f b n = [] := by
  unfold tl
  rw [show n.toNat = 0 by omega]
  rfl
theorem tl_len (f : Int → Int) (b : Int) {n : Int} (h : 0 ≤ n) : ((tl f b n).length : Int) = n := by
  unfold tl
  rw [List.length_map, List.length_range]
  omega
theorem tl_mem {f : Int → Int} {b n x : Int} : x ∈ tl f b n ↔ ∃ i, (0 ≤ i ∧ i < n) ∧ x = f (b + i) := by
  unfold tl
  rw [List.mem_map]
  constructor
  · rintro ⟨i, h1, h2⟩
    rw [List.mem_range] at h1
    exact ⟨i, by omega, h2.symm⟩
  · rintro ⟨i, h1, h2⟩
    obtain ⟨m, rfl⟩ := Int.eq_ofNat_of_zero_le h1.1
    exact ⟨m, by rw [List.mem_range]; omega, h2.symm⟩
theorem ran_snoc {n : Int} (h : 0 ≤ n) : ran (n + 1) = ran n ++ [n] := by
  have := tl_snoc (f := fun i => i) (b := 0) h
  unfold tl at this
  unfold ran
  simpa using this
theorem ran_len {n : Int} (h : 0 ≤ n) : ((ran n).length : Int) = n := by
  unfold ran
  rw [List.length_map, List.length_range]
  omega
theorem ran_mem {n x : Int} : x ∈ ran n ↔ 0 ≤ x ∧ x < n := by
  unfold ran
  rw [List.mem_map]
  constructor
  · rintro ⟨i, h1, h2⟩
    rw [List.mem_range] at h1
    omega
  · rintro h
    obtain ⟨m, rfl⟩ := Int.eq_ofNat_of_zero_le h.1
    exact ⟨m, by rw [List.mem_range]; omega, rfl⟩
theorem ran_nodup (n : Int) : (ran n).Nodup := by
  unfold ran
  exact List.Pairwise.map _ (fun a b h e => h (by omega)) List.nodup_range
-- how many stand
theorem yok_sum {Y : Int → Int} (h : yok Y) : Y 11 + Y 12 + Y 13 = Y 4 := by
  obtain ⟨_, _, _, _, h4, _, _, _, h8, h9⟩ := h
  have a := h8 0 (by omega) (by omega)
  have b := h8 1 (by omega) (by omega)
  have c := h8 2 (by omega) (by omega)
  have l := h9.length_eq
  rw [List.length_append, List.length_append] at l
  have l1 := tl_len Y 14 a.1
  have l2 := tl_len Y 19 b.1
  have l3 := tl_len Y 24 c.1
  have l4 := ran_len h4.1
  simp only [Int.reduceAdd] at l1 l2 l3
  omega
theorem yok_in {Y : Int → Int} (h : yok Y) {t i : Int} (ht : 0 ≤ t ∧ t < 3) (hi : 0 ≤ i ∧ i < Y (11 + t)) : 0 ≤ Y (14 + 5 * t + i) ∧ Y (14 + 5 * t + i) < Y 4 := by
  obtain ⟨_, _, _, _, h4, _, _, _, h8, h9⟩ := h
  rw [← ran_mem, ← h9.mem_iff, List.mem_append, List.mem_append, tl_mem, tl_mem, tl_mem]
  obtain d | d | d : t = 0 ∨ t = 1 ∨ t = 2 := by omega
  · subst d
    exact .inl (.inl ⟨i, hi, by congr 1⟩)
  · subst d
    exact .inl (.inr ⟨i, hi, by congr 1⟩)
  · subst d
    exact .inr ⟨i, hi, by congr 1⟩
theorem yok_mk {Y Y' : Int → Int} (h : yok Y) (e : ∀ k, (11 ≤ k ∧ k < 29) ∨ k = 4 → Y' k = Y k) (h0 : 0 ≤ Y' 0 ∧ Y' 0 ≤ 9999) (h1 : 0 ≤ Y' 1 ∧ Y' 1 ≤ 30850) (h2 : 0 ≤ Y' 2 ∧ Y' 2 ≤ 9) (h3 : 0 ≤ Y' 3 ∧ Y' 3 ≤ 9) (h5 : 0 ≤ Y' 5 ∧ Y' 5 ≤ 31) (h6 : 0 ≤ Y' 29 ∧ Y' 29 ≤ 30) (h7 : ∀ c, 0 ≤ c → c < 5 → 0 ≤ Y' (6 + c) ∧ Y' (6 + c) ≤ 9) : yok Y' := by
  have b8 := h.2.2.2.2.2.2.2.2.1
  refine ⟨h0, h1, h2, h3, by rw [e 4 (by omega)]; exact h.2.2.2.2.1, h5, h6, h7, fun t g0 g1 => by rw [e (11 + t) (by omega)]; exact b8 t g0 g1, ?_⟩
  have a := b8 0 (by omega) (by omega)
  have b := b8 1 (by omega) (by omega)
  have c := b8 2 (by omega) (by omega)
  simp only [Int.reduceAdd] at a b c
  rw [e 11 (by omega), e 12 (by omega), e 13 (by omega), e 4 (by omega)]
  rw [tl_congr (f := Y') (g := Y) (b := 14) (fun i g0 g1 => e _ (by omega)), tl_congr (f := Y') (g := Y) (b := 19) (fun i g0 g1 => e _ (by omega)), tl_congr (f := Y') (g := Y) (b := 24) (fun i g0 g1 => e _ (by omega))]
  exact h.2.2.2.2.2.2.2.2.2
theorem yok_add {Y : Int → Int} (h : yok Y) (hc : Y 4 < 5) : yok (us (us (us Y 4 (Y 4 + 1)) (14 + Y 11) (Y 4)) 11 (Y 11 + 1)) := by
  have s := yok_sum h
  obtain ⟨h0, h1, h2, h3, h4, h5, h6, h7, h8, h9⟩ := h
  have a := h8 0 (by omega) (by omega)
  have b := h8 1 (by omega) (by omega)
  have c := h8 2 (by omega) (by omega)
  simp only [Int.reduceAdd] at a b c
  refine ⟨?_, ?_, ?_, ?_, ?_, ?_, ?_, fun i g0 g1 => ?_, fun i g0 g1 => ?_, ?_⟩
  iterate 7
    simp (disch := omega) only [us_at, us_ne]
    first | assumption | omega
  · simp (disch := omega) only [us_at, us_ne]
    exact h7 i g0 g1
  · have := h8 i g0 g1
    by_cases d : i = 0
    · subst d
      simp (disch := omega) only [us_at, us_ne]
      omega
    · simp (disch := omega) only [us_at, us_ne]
      exact this
  · have e1 : us (us (us Y 4 (Y 4 + 1)) (14 + Y 11) (Y 4)) 11 (Y 11 + 1) 11 = Y 11 + 1 := us_eq _ _ _
    have e2 : us (us (us Y 4 (Y 4 + 1)) (14 + Y 11) (Y 4)) 11 (Y 11 + 1) 12 = Y 12 := by simp (disch := omega) only [us_ne]
    have e3 : us (us (us Y 4 (Y 4 + 1)) (14 + Y 11) (Y 4)) 11 (Y 11 + 1) 13 = Y 13 := by simp (disch := omega) only [us_ne]
    have e4 : us (us (us Y 4 (Y 4 + 1)) (14 + Y 11) (Y 4)) 11 (Y 11 + 1) 4 = Y 4 + 1 := by simp (disch := omega) only [us_ne, us_at]
    rw [e1, e2, e3, e4, tl_snoc a.1, ran_snoc h4.1]
    rw [tl_congr (g := Y) (b := 14) (fun i g0 g1 => by simp (disch := omega) only [us_ne]), tl_congr (g := Y) (b := 19) (fun i g0 g1 => by simp (disch := omega) only [us_ne]), tl_congr (g := Y) (b := 24) (fun i g0 g1 => by simp (disch := omega) only [us_ne])]
    have e5 : us (us (us Y 4 (Y 4 + 1)) (14 + Y 11) (Y 4)) 11 (Y 11 + 1) (14 + Y 11) = Y 4 := by simp (disch := omega) only [us_ne, us_at]
    rw [e5]
    rw [List.perm_iff_count] at h9 ⊢
    intro x
    have := h9 x
    simp only [List.count_append] at this ⊢
    omega
theorem yok_mv {Y : Int → Int} (h : yok Y) {f t : Int} (hf : 0 ≤ f ∧ f < 3) (ht : 0 ≤ t ∧ t < 3) (hn : f ≠ t) (hp : 0 < Y (11 + f)) : Y (11 + t) < 5 ∧ yok (us (us (us Y (11 + f) (Y (11 + f) - 1)) (14 + 5 * t + Y (11 + t)) (Y (14 + 5 * f + Y (11 + f) - 1))) (11 + t) (Y (11 + t) + 1)) := by
  have s := yok_sum h
  obtain ⟨h0, h1, h2, h3, h4, h5, h6, h7, h8, h9⟩ := h
  have a := h8 0 (by omega) (by omega)
  have b := h8 1 (by omega) (by omega)
  have c := h8 2 (by omega) (by omega)
  simp only [Int.reduceAdd] at a b c
  have nt : Y (11 + t) < 5 := by
    obtain d | d | d : t = 0 ∨ t = 1 ∨ t = 2 := by omega
    all_goals
      obtain d' | d' | d' : f = 0 ∨ f = 1 ∨ f = 2 := by omega
      all_goals
        subst d; subst d'
        simp only [Int.reduceAdd] at hp ⊢
        omega
  have bt := h8 t (by omega) (by omega)
  have bf := h8 f (by omega) (by omega)
  generalize hx : Y (14 + 5 * f + Y (11 + f) - 1) = x
  refine ⟨nt, ?_, ?_, ?_, ?_, ?_, ?_, ?_, fun i g0 g1 => ?_, fun i g0 g1 => ?_, ?_⟩
  iterate 7
    simp (disch := omega) only [us_at, us_ne]
    first | assumption | omega
  · simp (disch := omega) only [us_at, us_ne]
    exact h7 i g0 g1
  · have := h8 i g0 g1
    by_cases d : i = t
    · subst d
      simp (disch := omega) only [us_at, us_ne]
      omega
    · by_cases d : i = f
      · subst d
        simp (disch := omega) only [us_at, us_ne]
        omega
      · simp (disch := omega) only [us_at, us_ne]
        exact this
  · generalize hZ : us (us (us Y (11 + f) (Y (11 + f) - 1)) (14 + 5 * t + Y (11 + t)) x) (11 + t) (Y (11 + t) + 1) = Z
    have lf : tl Y (14 + 5 * f) (Y (11 + f)) = tl Z (14 + 5 * f) (Z (11 + f)) ++ [x] := by
      have e1 : Z (11 + f) = Y (11 + f) - 1 := by rw [← hZ]; simp (disch := omega) only [us_at, us_ne]
      rw [e1]
      have e2 := tl_snoc (f := Y) (b := 14 + 5 * f) (n := Y (11 + f) - 1) (by omega)
      rw [show Y (11 + f) - 1 + 1 = Y (11 + f) by omega, show 14 + 5 * f + (Y (11 + f) - 1) = 14 + 5 * f + Y (11 + f) - 1 by omega, hx] at e2
      rw [e2, tl_congr (f := Y) (g := Z)]
      intro i g0 g1
      rw [← hZ]
      simp (disch := omega) only [us_ne]
    have lt : tl Z (14 + 5 * t) (Z (11 + t)) = tl Y (14 + 5 * t) (Y (11 + t)) ++ [x] := by
      have e1 : Z (11 + t) = Y (11 + t) + 1 := by rw [← hZ]; simp (disch := omega) only [us_at]
      have e2 := tl_snoc (f := Z) (b := 14 + 5 * t) (n := Y (11 + t)) (by omega)
      have e3 : Z (14 + 5 * t + Y (11 + t)) = x := by rw [← hZ]; simp (disch := omega) only [us_at, us_ne]
      rw [e1, e2, e3, tl_congr (f := Z) (g := Y)]
      intro i g0 g1
      rw [← hZ]
      simp (disch := omega) only [us_ne]
    have lo : ∀ o, 0 ≤ o → o < 3 → o ≠ f → o ≠ t → tl Z (14 + 5 * o) (Z (11 + o)) = tl Y (14 + 5 * o) (Y (11 + o)) := by
      intro o g0 g1 g2 g3
      have bo := h8 o g0 g1
      have e1 : Z (11 + o) = Y (11 + o) := by rw [← hZ]; simp (disch := omega) only [us_ne]
      rw [e1]
      apply tl_congr
      intro i g4 g5
      rw [← hZ]
      simp (disch := omega) only [us_ne]
    have l4 : Z 4 = Y 4 := by rw [← hZ]; simp (disch := omega) only [us_ne]
    rw [l4]
    rw [List.perm_iff_count] at h9 ⊢
    intro y
    have g := h9 y
    simp only [List.count_append] at g ⊢
    obtain d | d | d : t = 0 ∨ t = 1 ∨ t = 2 := by omega
    all_goals
      obtain d' | d' | d' : f = 0 ∨ f = 1 ∨ f = 2 := by omega
      all_goals first
        | (exfalso; omega)
        | (subst d; subst d'
           have k0 := lo 0 (by omega) (by omega)
           have k1 := lo 1 (by omega) (by omega)
           have k2 := lo 2 (by omega) (by omega)
           simp only [Int.reduceAdd, Int.reduceMul] at lf lt k0 k1 k2
           have q1 := congrArg (List.count y) lf
           have q2 := congrArg (List.count y) lt
           simp only [List.count_append] at q1 q2
           first
             | rw [k0 (by decide) (by decide)]
             | rw [k1 (by decide) (by decide)]
             | rw [k2 (by decide) (by decide)]
           omega)
-- the two rows, cell by cell
def pR (Y A : Int → Int) : Prop := (∀ k, 0 ≤ k → k < 60 → Y k = zp k (A (za (zs k)))) ∧ (∀ i, 30 ≤ i → i < 60 → 0 ≤ A (za i) ∧ A (za i) < 540000)
theorem jY_mk {Y A : Int → Int} (h : pR Y A) (h2 : yok Y) : jY Y A := ⟨h.1, h2, h.2⟩
theorem jY_p {Y A : Int → Int} (h : jY Y A) : pR Y A := ⟨h.1, h.2.2⟩
theorem jY_k {Y A : Int → Int} (h : jY Y A) : yok Y := h.2.1
theorem zaz_inj {k l : Int} (h0 : 0 ≤ k ∧ k < 60) (h1 : 0 ≤ l ∧ l < 60) (h : za (zs k) = za (zs l)) : k = l := by
  unfold za zs at h
  repeat' (split at h)
  all_goals omega
theorem pR_set {Y A : Int → Int} {k i x x' : Int} (h : pR Y A) (hk : 0 ≤ k ∧ k < 60) (hi : i = za (zs k)) (hx : x' = zp k x) (hb : 30 ≤ k → 0 ≤ x ∧ x < 540000) : pR (us Y k x') (us A i x) := by
  refine ⟨fun l g0 g1 => ?_, fun l g0 g1 => ?_⟩
  · by_cases d : l = k
    · subst d
      rw [us_eq, ← hi, us_eq, hx]
    · rw [us_ne d, us_ne (fun e => d (zaz_inj ⟨g0, g1⟩ hk (by rw [e, hi]))), h.1 l g0 g1]
  · by_cases d : za l = i
    · have e : zs l = l := by unfold zs; repeat' (split <;> try omega)
      rw [d, us_eq]
      have := zaz_inj (k := l) (l := k) (by omega) hk (by rw [e, d, hi])
      exact hb (by omega)
    · rw [us_ne d]
      exact h.2 l g0 g1
theorem pR_s0 {Y A : Int → Int} {k i x : Int} (h : pR Y A) (hk : 0 ≤ k ∧ k < 30) (hi : i = za (zs k)) : pR (us Y k x) (us A i x) := pR_set h (by omega) hi (by unfold zp; rw [if_pos hk.2]) (by omega)
theorem pR_h {Y A : Int → Int} {x : Int} (h : pR Y A) : pR (us Y 0 x) (us A 7 x) := pR_s0 h (by omega) (by decide)
theorem pR_x {Y A : Int → Int} {x : Int} (h : pR Y A) : pR (us Y 1 x) (us A 8 x) := pR_s0 h (by omega) (by decide)
theorem pR_w {Y A : Int → Int} {w x : Int} (h : pR Y A) (hw : 0 ≤ w ∧ w ≤ 1) : pR (us Y (2 + w) x) (us A (9 + w) x) := pR_s0 h (by omega) (by unfold za zs; repeat' (split <;> try omega))
theorem pR_c {Y A : Int → Int} {x : Int} (h : pR Y A) : pR (us Y 4 x) (us A 0 x) := pR_s0 h (by omega) (by decide)
theorem pR_f {Y A : Int → Int} {x : Int} (h : pR Y A) : pR (us Y 5 x) (us A 30 x) := pR_s0 h (by omega) (by decide)
theorem pR_o {Y A : Int → Int} {c x : Int} (h : pR Y A) (hc : 0 ≤ c ∧ c ≤ 4) : pR (us Y (6 + c) x) (us A (31 + c) x) := pR_s0 h (by omega) (by unfold za zs; repeat' (split <;> try omega))
theorem pR_n {Y A : Int → Int} {t x : Int} (h : pR Y A) (ht : 0 ≤ t ∧ t ≤ 2) : pR (us Y (11 + t) x) (us A (12 + t) x) := pR_s0 h (by omega) (by unfold za zs; repeat' (split <;> try omega))
theorem pR_t {Y A : Int → Int} {t i x : Int} (h : pR Y A) (ht : 0 ≤ t ∧ t ≤ 2) (hi : 0 ≤ i ∧ i ≤ 4) : pR (us Y (14 + 5 * t + i) x) (us A (15 + 5 * t + i) x) := pR_s0 h (by omega) (by unfold za zs; repeat' (split <;> try omega))
theorem pR_l {Y A : Int → Int} {x : Int} (h : pR Y A) : pR (us Y 29 x) (us A 11 x) := pR_s0 h (by omega) (by decide)
theorem pR_b {Y A : Int → Int} {i x : Int} (h : pR Y A) (hi : 0 ≤ i ∧ i < 30) (hx : 0 ≤ x ∧ x < 540000) : pR (us Y (30 + i) (pk x)) (us A (1924 + i) x) := pR_set h (by omega) (by unfold za zs; repeat' (split <;> try omega)) (by unfold zp; rw [if_neg (by omega)]) (fun _ => hx)
theorem pR_sh {Y A : Int → Int} (h : pR Y A) : pR (cpy Y Y 31 30 29) (cpy A A 1925 1924 29) := by
  refine ⟨fun k g0 g1 => ?_, fun k g0 g1 => ?_⟩
  · by_cases d : 30 ≤ k ∧ k < 59
    · have e1 : zs k = k := by unfold zs; repeat' (split <;> try omega)
      have e2 : za k = k + 1894 := by unfold za; repeat' (split <;> try omega)
      have e3 : zs (31 + (k - 30)) = 31 + (k - 30) := by unfold zs; repeat' (split <;> try omega)
      have e4 : za (31 + (k - 30)) = 1925 + (k + 1894 - 1924) := by unfold za; repeat' (split <;> try omega)
      rw [cpy_in (by omega), h.1 _ (by omega) (by omega), e1, e2, cpy_in (by omega), e3, e4]
      unfold zp
      rw [if_neg (by omega), if_neg (by omega)]
    · have e : za (zs k) < 1924 ∨ 1953 ≤ za (zs k) := by unfold za zs; repeat' (split <;> try omega)
      rw [cpy_out (by omega), cpy_out (by omega)]
      exact h.1 k g0 g1
  · by_cases d : k < 59
    · have e2 : za k = k + 1894 := by unfold za; repeat' (split <;> try omega)
      have e4 : za (k + 1) = 1925 + (k + 1894 - 1924) := by unfold za; repeat' (split <;> try omega)
      rw [e2, cpy_in (by omega), ← e4]
      exact h.2 (k + 1) (by omega) (by omega)
    · have e2 : za k = k + 1894 := by unfold za; repeat' (split <;> try omega)
      rw [e2, cpy_out (by omega), ← e2]
      exact h.2 k g0 g1
