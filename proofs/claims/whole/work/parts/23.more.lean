-- what a condition that is known leaves
theorem i_pos {c X : Prop} (h : c) : (c → X) ↔ X := ⟨fun k => k h, fun k _ => k⟩
theorem i_neg {c X : Prop} (h : ¬ c) : (c → X) ↔ True := ⟨fun _ => trivial, fun _ k => absurd k h⟩
theorem us_at {α : Type} {f : Int → α} {i j : Int} {v : α} (h : j = i) : us f i v j = v := by simp [us, h]
theorem vv_vv (v : Nat → Nat → Int) (h k : Nat) (x y : Int) : vv (vv v h k x) h k y = vv v h k y := by
  funext j
  by_cases hj : j = h
  · subst hj; rw [vv_eq, vv_eq, vv_eq, uu_uu]
  · rw [vv_ne hj, vv_ne hj, vv_ne hj]
theorem within_y {a lo hi : Int} {F : hp} {Q : Int → hp → Prop} (h : -2147483648 ≤ lo ∧ lo ≤ a ∧ a ≤ hi ∧ hi ≤ 2147483647) : mX11_within a lo hi F Q ↔ Q 1 F := by
  unfold mX11_within
  rw [w32_id (by omega) (by omega), w32_id (by omega) (by omega), w32_id (by omega) (by omega)]
  simp only [show ¬ a < lo by omega, show ¬ hi < a by omega, false_implies, not_false_eq_true, true_implies, true_and]
theorem within_n {a lo hi : Int} {F : hp} {Q : Int → hp → Prop} (h : (a < lo ∨ hi < a) ∧ -2147483648 ≤ a ∧ a ≤ 2147483647 ∧ -2147483648 ≤ lo ∧ lo ≤ 2147483647 ∧ -2147483648 ≤ hi ∧ hi ≤ 2147483647) : mX11_within a lo hi F Q ↔ Q 0 F := by
  unfold mX11_within
  rw [w32_id (by omega) (by omega), w32_id (by omega) (by omega), w32_id (by omega) (by omega)]
  by_cases h1 : a < lo
  · simp only [h1, true_implies, not_true_eq_false, false_implies, and_true]
  · simp only [h1, show hi < a by omega, true_implies, not_true_eq_false, false_implies, and_true, not_false_eq_true, true_and]
theorem isIn_y {a lo hi : Int} {F : hp} {Q : Int → hp → Prop} (h : -2147483648 ≤ lo ∧ lo ≤ a ∧ a ≤ hi ∧ hi ≤ 2147483647) : mX12_isIn a lo hi F Q ↔ Q 1 F := by
  rw [isIn_s (by omega) (by omega) (by omega), if_pos (by omega)]
theorem isIn_n {a lo hi : Int} {F : hp} {Q : Int → hp → Prop} (h : (a < lo ∨ hi < a) ∧ -2147483648 ≤ a ∧ a ≤ 2147483647 ∧ -2147483648 ≤ lo ∧ lo ≤ 2147483647 ∧ -2147483648 ≤ hi ∧ hi ≤ 2147483647) : mX12_isIn a lo hi F Q ↔ Q 0 F := by
  rw [isIn_s (by omega) (by omega) (by omega), if_neg (by omega)]

theorem iMax_l {x y : Int} (h : y ≤ x ∧ -2147483648 ≤ y ∧ x ≤ 2147483647) : iMax x y = x := by
  unfold iMax
  rw [w32_id (by omega) (by omega), w32_id (by omega) (by omega), if_neg (by omega)]
theorem iMax_r {x y : Int} (h : x ≤ y ∧ -2147483648 ≤ x ∧ y ≤ 2147483647) : iMax x y = y := by
  unfold iMax
  rw [w32_id (by omega) (by omega), w32_id (by omega) (by omega)]
  by_cases c : x < y
  · rw [if_pos c]
  · rw [if_neg c]; omega
theorem iMin_l {x y : Int} (h : x ≤ y ∧ -2147483648 ≤ x ∧ y ≤ 2147483647) : iMin x y = x := by
  unfold iMin
  rw [w32_id (by omega) (by omega), w32_id (by omega) (by omega), if_neg (by omega)]
theorem iMin_r {x y : Int} (h : y ≤ x ∧ -2147483648 ≤ y ∧ x ≤ 2147483647) : iMin x y = y := by
  unfold iMin
  rw [w32_id (by omega) (by omega), w32_id (by omega) (by omega)]
  by_cases c : y < x
  · rw [if_pos c]
  · rw [if_neg c]; omega

section KM
variable {F : hp} {v : Nat → Nat → Int} {N : Nat → Int → Int} {T : Nat → Int → Option Nat}
theorem kh_cp12_33 {sp dp n : Int} {K : hp → Prop} (h1 : 0 ≤ sp) (h2 : 0 ≤ dp) (h3 : 0 ≤ n) (h4 : sp + n ≤ 60) (h5 : dp + n ≤ 60) : cpI (kh F v N T) (some 12) sp (some 33) dp n K ↔ K (kh F v (um N 33 (cpy (N 12) (N 33) sp dp n)) T) := by
  rw [cpI_s (n0 := 60) (n1 := 60) (f := N 12) (g := N 33) (by rw [kh_in (by decide) (by decide)]; rfl) (by rw [kh_in (by decide) (by decide)]; rfl) (by decide) (by decide) h1 h2 h3 h4 h5, kh_set (v' := v) (N' := um N 33 (cpy (N 12) (N 33) sp dp n)) (T' := T) (by decide) (by decide) (by rfl) (fun j hj => kcell_n hj)]
theorem kh_cp33_12 {sp dp n : Int} {K : hp → Prop} (h1 : 0 ≤ sp) (h2 : 0 ≤ dp) (h3 : 0 ≤ n) (h4 : sp + n ≤ 60) (h5 : dp + n ≤ 60) : cpI (kh F v N T) (some 33) sp (some 12) dp n K ↔ K (kh F v (um N 12 (cpy (N 33) (N 12) sp dp n)) T) := by
  rw [cpI_s (n0 := 60) (n1 := 60) (f := N 33) (g := N 12) (by rw [kh_in (by decide) (by decide)]; rfl) (by rw [kh_in (by decide) (by decide)]; rfl) (by decide) (by decide) h1 h2 h3 h4 h5, kh_set (v' := v) (N' := um N 12 (cpy (N 33) (N 12) sp dp n)) (T' := T) (by decide) (by decide) (by rfl) (fun j hj => kcell_n hj)]
theorem kh_cp12_68 {sp dp n : Int} {K : hp → Prop} (h1 : 0 ≤ sp) (h2 : 0 ≤ dp) (h3 : 0 ≤ n) (h4 : sp + n ≤ 60) (h5 : dp + n ≤ 60) : cpI (kh F v N T) (some 12) sp (some 68) dp n K ↔ K (kh F v (um N 68 (cpy (N 12) (N 68) sp dp n)) T) := by
  rw [cpI_s (n0 := 60) (n1 := 60) (f := N 12) (g := N 68) (by rw [kh_in (by decide) (by decide)]; rfl) (by rw [kh_in (by decide) (by decide)]; rfl) (by decide) (by decide) h1 h2 h3 h4 h5, kh_set (v' := v) (N' := um N 68 (cpy (N 12) (N 68) sp dp n)) (T' := T) (by decide) (by decide) (by rfl) (fun j hj => kcell_n hj)]
theorem kh_cp12_12 {sp dp n : Int} {K : hp → Prop} (h1 : 0 ≤ sp) (h2 : 0 ≤ dp) (h3 : 0 ≤ n) (h4 : sp + n ≤ 60) (h5 : dp + n ≤ 60) : cpI (kh F v N T) (some 12) sp (some 12) dp n K ↔ K (kh F v (um N 12 (cpy (N 12) (N 12) sp dp n)) T) := by
  rw [cpI_s (n0 := 60) (n1 := 60) (f := N 12) (g := N 12) (by rw [kh_in (by decide) (by decide)]; rfl) (by rw [kh_in (by decide) (by decide)]; rfl) (by decide) (by decide) h1 h2 h3 h4 h5, kh_set (v' := v) (N' := um N 12 (cpy (N 12) (N 12) sp dp n)) (T' := T) (by decide) (by decide) (by rfl) (fun j hj => kcell_n hj)]
theorem kh_cp12_14 {sp dp n : Int} {K : hp → Prop} (h1 : 0 ≤ sp) (h2 : 0 ≤ dp) (h3 : 0 ≤ n) (h4 : sp + n ≤ 60) (h5 : dp + n ≤ 1800) : cpI (kh F v N T) (some 12) sp (some 14) dp n K ↔ K (kh F v (um N 14 (cpy (N 12) (N 14) sp dp n)) T) := by
  rw [cpI_s (n0 := 60) (n1 := 1800) (f := N 12) (g := N 14) (by rw [kh_in (by decide) (by decide)]; rfl) (by rw [kh_in (by decide) (by decide)]; rfl) (by decide) (by decide) h1 h2 h3 h4 h5, kh_set (v' := v) (N' := um N 14 (cpy (N 12) (N 14) sp dp n)) (T' := T) (by decide) (by decide) (by rfl) (fun j hj => kcell_n hj)]
theorem kh_cp14_12 {sp dp n : Int} {K : hp → Prop} (h1 : 0 ≤ sp) (h2 : 0 ≤ dp) (h3 : 0 ≤ n) (h4 : sp + n ≤ 1800) (h5 : dp + n ≤ 60) : cpI (kh F v N T) (some 14) sp (some 12) dp n K ↔ K (kh F v (um N 12 (cpy (N 14) (N 12) sp dp n)) T) := by
  rw [cpI_s (n0 := 1800) (n1 := 60) (f := N 14) (g := N 12) (by rw [kh_in (by decide) (by decide)]; rfl) (by rw [kh_in (by decide) (by decide)]; rfl) (by decide) (by decide) h1 h2 h3 h4 h5, kh_set (v' := v) (N' := um N 12 (cpy (N 14) (N 12) sp dp n)) (T' := T) (by decide) (by decide) (by rfl) (fun j hj => kcell_n hj)]
theorem kh_cp14_35 {sp dp n : Int} {K : hp → Prop} (h1 : 0 ≤ sp) (h2 : 0 ≤ dp) (h3 : 0 ≤ n) (h4 : sp + n ≤ 1800) (h5 : dp + n ≤ 1800) : cpI (kh F v N T) (some 14) sp (some 35) dp n K ↔ K (kh F v (um N 35 (cpy (N 14) (N 35) sp dp n)) T) := by
  rw [cpI_s (n0 := 1800) (n1 := 1800) (f := N 14) (g := N 35) (by rw [kh_in (by decide) (by decide)]; rfl) (by rw [kh_in (by decide) (by decide)]; rfl) (by decide) (by decide) h1 h2 h3 h4 h5, kh_set (v' := v) (N' := um N 35 (cpy (N 14) (N 35) sp dp n)) (T' := T) (by decide) (by decide) (by rfl) (fun j hj => kcell_n hj)]
theorem kh_cp35_14 {sp dp n : Int} {K : hp → Prop} (h1 : 0 ≤ sp) (h2 : 0 ≤ dp) (h3 : 0 ≤ n) (h4 : sp + n ≤ 1800) (h5 : dp + n ≤ 1800) : cpI (kh F v N T) (some 35) sp (some 14) dp n K ↔ K (kh F v (um N 14 (cpy (N 35) (N 14) sp dp n)) T) := by
  rw [cpI_s (n0 := 1800) (n1 := 1800) (f := N 35) (g := N 14) (by rw [kh_in (by decide) (by decide)]; rfl) (by rw [kh_in (by decide) (by decide)]; rfl) (by decide) (by decide) h1 h2 h3 h4 h5, kh_set (v' := v) (N' := um N 14 (cpy (N 35) (N 14) sp dp n)) (T' := T) (by decide) (by decide) (by rfl) (fun j hj => kcell_n hj)]
theorem kh_cp15_36 {sp dp n : Int} {K : hp → Prop} (h1 : 0 ≤ sp) (h2 : 0 ≤ dp) (h3 : 0 ≤ n) (h4 : sp + n ≤ 5) (h5 : dp + n ≤ 5) : cpI (kh F v N T) (some 15) sp (some 36) dp n K ↔ K (kh F v (um N 36 (cpy (N 15) (N 36) sp dp n)) T) := by
  rw [cpI_s (n0 := 5) (n1 := 5) (f := N 15) (g := N 36) (by rw [kh_in (by decide) (by decide)]; rfl) (by rw [kh_in (by decide) (by decide)]; rfl) (by decide) (by decide) h1 h2 h3 h4 h5, kh_set (v' := v) (N' := um N 36 (cpy (N 15) (N 36) sp dp n)) (T' := T) (by decide) (by decide) (by rfl) (fun j hj => kcell_n hj)]
theorem kh_cp36_15 {sp dp n : Int} {K : hp → Prop} (h1 : 0 ≤ sp) (h2 : 0 ≤ dp) (h3 : 0 ≤ n) (h4 : sp + n ≤ 5) (h5 : dp + n ≤ 5) : cpI (kh F v N T) (some 36) sp (some 15) dp n K ↔ K (kh F v (um N 15 (cpy (N 36) (N 15) sp dp n)) T) := by
  rw [cpI_s (n0 := 5) (n1 := 5) (f := N 36) (g := N 15) (by rw [kh_in (by decide) (by decide)]; rfl) (by rw [kh_in (by decide) (by decide)]; rfl) (by decide) (by decide) h1 h2 h3 h4 h5, kh_set (v' := v) (N' := um N 15 (cpy (N 36) (N 15) sp dp n)) (T' := T) (by decide) (by decide) (by rfl) (fun j hj => kcell_n hj)]
theorem kh_cp16_37 {sp dp n : Int} {K : hp → Prop} (h1 : 0 ≤ sp) (h2 : 0 ≤ dp) (h3 : 0 ≤ n) (h4 : sp + n ≤ 5) (h5 : dp + n ≤ 5) : cpI (kh F v N T) (some 16) sp (some 37) dp n K ↔ K (kh F v (um N 37 (cpy (N 16) (N 37) sp dp n)) T) := by
  rw [cpI_s (n0 := 5) (n1 := 5) (f := N 16) (g := N 37) (by rw [kh_in (by decide) (by decide)]; rfl) (by rw [kh_in (by decide) (by decide)]; rfl) (by decide) (by decide) h1 h2 h3 h4 h5, kh_set (v' := v) (N' := um N 37 (cpy (N 16) (N 37) sp dp n)) (T' := T) (by decide) (by decide) (by rfl) (fun j hj => kcell_n hj)]
theorem kh_cp37_16 {sp dp n : Int} {K : hp → Prop} (h1 : 0 ≤ sp) (h2 : 0 ≤ dp) (h3 : 0 ≤ n) (h4 : sp + n ≤ 5) (h5 : dp + n ≤ 5) : cpI (kh F v N T) (some 37) sp (some 16) dp n K ↔ K (kh F v (um N 16 (cpy (N 37) (N 16) sp dp n)) T) := by
  rw [cpI_s (n0 := 5) (n1 := 5) (f := N 37) (g := N 16) (by rw [kh_in (by decide) (by decide)]; rfl) (by rw [kh_in (by decide) (by decide)]; rfl) (by decide) (by decide) h1 h2 h3 h4 h5, kh_set (v' := v) (N' := um N 16 (cpy (N 37) (N 16) sp dp n)) (T' := T) (by decide) (by decide) (by rfl) (fun j hj => kcell_n hj)]
theorem kh_cp17_38 {sp dp n : Int} {K : hp → Prop} (h1 : 0 ≤ sp) (h2 : 0 ≤ dp) (h3 : 0 ≤ n) (h4 : sp + n ≤ 5) (h5 : dp + n ≤ 5) : cpI (kh F v N T) (some 17) sp (some 38) dp n K ↔ K (kh F v (um N 38 (cpy (N 17) (N 38) sp dp n)) T) := by
  rw [cpI_s (n0 := 5) (n1 := 5) (f := N 17) (g := N 38) (by rw [kh_in (by decide) (by decide)]; rfl) (by rw [kh_in (by decide) (by decide)]; rfl) (by decide) (by decide) h1 h2 h3 h4 h5, kh_set (v' := v) (N' := um N 38 (cpy (N 17) (N 38) sp dp n)) (T' := T) (by decide) (by decide) (by rfl) (fun j hj => kcell_n hj)]
theorem kh_cp38_17 {sp dp n : Int} {K : hp → Prop} (h1 : 0 ≤ sp) (h2 : 0 ≤ dp) (h3 : 0 ≤ n) (h4 : sp + n ≤ 5) (h5 : dp + n ≤ 5) : cpI (kh F v N T) (some 38) sp (some 17) dp n K ↔ K (kh F v (um N 17 (cpy (N 38) (N 17) sp dp n)) T) := by
  rw [cpI_s (n0 := 5) (n1 := 5) (f := N 38) (g := N 17) (by rw [kh_in (by decide) (by decide)]; rfl) (by rw [kh_in (by decide) (by decide)]; rfl) (by decide) (by decide) h1 h2 h3 h4 h5, kh_set (v' := v) (N' := um N 17 (cpy (N 38) (N 17) sp dp n)) (T' := T) (by decide) (by decide) (by rfl) (fun j hj => kcell_n hj)]
theorem kh_cp18_39 {sp dp n : Int} {K : hp → Prop} (h1 : 0 ≤ sp) (h2 : 0 ≤ dp) (h3 : 0 ≤ n) (h4 : sp + n ≤ 5) (h5 : dp + n ≤ 5) : cpI (kh F v N T) (some 18) sp (some 39) dp n K ↔ K (kh F v (um N 39 (cpy (N 18) (N 39) sp dp n)) T) := by
  rw [cpI_s (n0 := 5) (n1 := 5) (f := N 18) (g := N 39) (by rw [kh_in (by decide) (by decide)]; rfl) (by rw [kh_in (by decide) (by decide)]; rfl) (by decide) (by decide) h1 h2 h3 h4 h5, kh_set (v' := v) (N' := um N 39 (cpy (N 18) (N 39) sp dp n)) (T' := T) (by decide) (by decide) (by rfl) (fun j hj => kcell_n hj)]
theorem kh_cp39_18 {sp dp n : Int} {K : hp → Prop} (h1 : 0 ≤ sp) (h2 : 0 ≤ dp) (h3 : 0 ≤ n) (h4 : sp + n ≤ 5) (h5 : dp + n ≤ 5) : cpI (kh F v N T) (some 39) sp (some 18) dp n K ↔ K (kh F v (um N 18 (cpy (N 39) (N 18) sp dp n)) T) := by
  rw [cpI_s (n0 := 5) (n1 := 5) (f := N 39) (g := N 18) (by rw [kh_in (by decide) (by decide)]; rfl) (by rw [kh_in (by decide) (by decide)]; rfl) (by decide) (by decide) h1 h2 h3 h4 h5, kh_set (v' := v) (N' := um N 18 (cpy (N 39) (N 18) sp dp n)) (T' := T) (by decide) (by decide) (by rfl) (fun j hj => kcell_n hj)]
theorem kh_cp19_40 {sp dp n : Int} {K : hp → Prop} (h1 : 0 ≤ sp) (h2 : 0 ≤ dp) (h3 : 0 ≤ n) (h4 : sp + n ≤ 5) (h5 : dp + n ≤ 5) : cpI (kh F v N T) (some 19) sp (some 40) dp n K ↔ K (kh F v (um N 40 (cpy (N 19) (N 40) sp dp n)) T) := by
  rw [cpI_s (n0 := 5) (n1 := 5) (f := N 19) (g := N 40) (by rw [kh_in (by decide) (by decide)]; rfl) (by rw [kh_in (by decide) (by decide)]; rfl) (by decide) (by decide) h1 h2 h3 h4 h5, kh_set (v' := v) (N' := um N 40 (cpy (N 19) (N 40) sp dp n)) (T' := T) (by decide) (by decide) (by rfl) (fun j hj => kcell_n hj)]
theorem kh_cp40_19 {sp dp n : Int} {K : hp → Prop} (h1 : 0 ≤ sp) (h2 : 0 ≤ dp) (h3 : 0 ≤ n) (h4 : sp + n ≤ 5) (h5 : dp + n ≤ 5) : cpI (kh F v N T) (some 40) sp (some 19) dp n K ↔ K (kh F v (um N 19 (cpy (N 40) (N 19) sp dp n)) T) := by
  rw [cpI_s (n0 := 5) (n1 := 5) (f := N 40) (g := N 19) (by rw [kh_in (by decide) (by decide)]; rfl) (by rw [kh_in (by decide) (by decide)]; rfl) (by decide) (by decide) h1 h2 h3 h4 h5, kh_set (v' := v) (N' := um N 19 (cpy (N 40) (N 19) sp dp n)) (T' := T) (by decide) (by decide) (by rfl) (fun j hj => kcell_n hj)]
theorem kh_cp20_41 {sp dp n : Int} {K : hp → Prop} (h1 : 0 ≤ sp) (h2 : 0 ≤ dp) (h3 : 0 ≤ n) (h4 : sp + n ≤ 6) (h5 : dp + n ≤ 6) : cpI (kh F v N T) (some 20) sp (some 41) dp n K ↔ K (kh F v (um N 41 (cpy (N 20) (N 41) sp dp n)) T) := by
  rw [cpI_s (n0 := 6) (n1 := 6) (f := N 20) (g := N 41) (by rw [kh_in (by decide) (by decide)]; rfl) (by rw [kh_in (by decide) (by decide)]; rfl) (by decide) (by decide) h1 h2 h3 h4 h5, kh_set (v' := v) (N' := um N 41 (cpy (N 20) (N 41) sp dp n)) (T' := T) (by decide) (by decide) (by rfl) (fun j hj => kcell_n hj)]
theorem kh_cp41_20 {sp dp n : Int} {K : hp → Prop} (h1 : 0 ≤ sp) (h2 : 0 ≤ dp) (h3 : 0 ≤ n) (h4 : sp + n ≤ 6) (h5 : dp + n ≤ 6) : cpI (kh F v N T) (some 41) sp (some 20) dp n K ↔ K (kh F v (um N 20 (cpy (N 41) (N 20) sp dp n)) T) := by
  rw [cpI_s (n0 := 6) (n1 := 6) (f := N 41) (g := N 20) (by rw [kh_in (by decide) (by decide)]; rfl) (by rw [kh_in (by decide) (by decide)]; rfl) (by decide) (by decide) h1 h2 h3 h4 h5, kh_set (v' := v) (N' := um N 20 (cpy (N 41) (N 20) sp dp n)) (T' := T) (by decide) (by decide) (by rfl) (fun j hj => kcell_n hj)]
theorem kh_cp22_43 {sp dp n : Int} {K : hp → Prop} (h1 : 0 ≤ sp) (h2 : 0 ≤ dp) (h3 : 0 ≤ n) (h4 : sp + n ≤ 24) (h5 : dp + n ≤ 24) : cpI (kh F v N T) (some 22) sp (some 43) dp n K ↔ K (kh F v (um N 43 (cpy (N 22) (N 43) sp dp n)) T) := by
  rw [cpI_s (n0 := 24) (n1 := 24) (f := N 22) (g := N 43) (by rw [kh_in (by decide) (by decide)]; rfl) (by rw [kh_in (by decide) (by decide)]; rfl) (by decide) (by decide) h1 h2 h3 h4 h5, kh_set (v' := v) (N' := um N 43 (cpy (N 22) (N 43) sp dp n)) (T' := T) (by decide) (by decide) (by rfl) (fun j hj => kcell_n hj)]
theorem kh_cp43_22 {sp dp n : Int} {K : hp → Prop} (h1 : 0 ≤ sp) (h2 : 0 ≤ dp) (h3 : 0 ≤ n) (h4 : sp + n ≤ 24) (h5 : dp + n ≤ 24) : cpI (kh F v N T) (some 43) sp (some 22) dp n K ↔ K (kh F v (um N 22 (cpy (N 43) (N 22) sp dp n)) T) := by
  rw [cpI_s (n0 := 24) (n1 := 24) (f := N 43) (g := N 22) (by rw [kh_in (by decide) (by decide)]; rfl) (by rw [kh_in (by decide) (by decide)]; rfl) (by decide) (by decide) h1 h2 h3 h4 h5, kh_set (v' := v) (N' := um N 22 (cpy (N 43) (N 22) sp dp n)) (T' := T) (by decide) (by decide) (by rfl) (fun j hj => kcell_n hj)]
theorem kh_cp24_45 {sp dp n : Int} {K : hp → Prop} (h1 : 0 ≤ sp) (h2 : 0 ≤ dp) (h3 : 0 ≤ n) (h4 : sp + n ≤ 12) (h5 : dp + n ≤ 12) : cpI (kh F v N T) (some 24) sp (some 45) dp n K ↔ K (kh F v (um N 45 (cpy (N 24) (N 45) sp dp n)) T) := by
  rw [cpI_s (n0 := 12) (n1 := 12) (f := N 24) (g := N 45) (by rw [kh_in (by decide) (by decide)]; rfl) (by rw [kh_in (by decide) (by decide)]; rfl) (by decide) (by decide) h1 h2 h3 h4 h5, kh_set (v' := v) (N' := um N 45 (cpy (N 24) (N 45) sp dp n)) (T' := T) (by decide) (by decide) (by rfl) (fun j hj => kcell_n hj)]
theorem kh_cp45_24 {sp dp n : Int} {K : hp → Prop} (h1 : 0 ≤ sp) (h2 : 0 ≤ dp) (h3 : 0 ≤ n) (h4 : sp + n ≤ 12) (h5 : dp + n ≤ 12) : cpI (kh F v N T) (some 45) sp (some 24) dp n K ↔ K (kh F v (um N 24 (cpy (N 45) (N 24) sp dp n)) T) := by
  rw [cpI_s (n0 := 12) (n1 := 12) (f := N 45) (g := N 24) (by rw [kh_in (by decide) (by decide)]; rfl) (by rw [kh_in (by decide) (by decide)]; rfl) (by decide) (by decide) h1 h2 h3 h4 h5, kh_set (v' := v) (N' := um N 24 (cpy (N 45) (N 24) sp dp n)) (T' := T) (by decide) (by decide) (by rfl) (fun j hj => kcell_n hj)]
theorem kh_cp26_47 {sp dp n : Int} {K : hp → Prop} (h1 : 0 ≤ sp) (h2 : 0 ≤ dp) (h3 : 0 ≤ n) (h4 : sp + n ≤ 24) (h5 : dp + n ≤ 24) : cpI (kh F v N T) (some 26) sp (some 47) dp n K ↔ K (kh F v (um N 47 (cpy (N 26) (N 47) sp dp n)) T) := by
  rw [cpI_s (n0 := 24) (n1 := 24) (f := N 26) (g := N 47) (by rw [kh_in (by decide) (by decide)]; rfl) (by rw [kh_in (by decide) (by decide)]; rfl) (by decide) (by decide) h1 h2 h3 h4 h5, kh_set (v' := v) (N' := um N 47 (cpy (N 26) (N 47) sp dp n)) (T' := T) (by decide) (by decide) (by rfl) (fun j hj => kcell_n hj)]
theorem kh_cp47_26 {sp dp n : Int} {K : hp → Prop} (h1 : 0 ≤ sp) (h2 : 0 ≤ dp) (h3 : 0 ≤ n) (h4 : sp + n ≤ 24) (h5 : dp + n ≤ 24) : cpI (kh F v N T) (some 47) sp (some 26) dp n K ↔ K (kh F v (um N 26 (cpy (N 47) (N 26) sp dp n)) T) := by
  rw [cpI_s (n0 := 24) (n1 := 24) (f := N 47) (g := N 26) (by rw [kh_in (by decide) (by decide)]; rfl) (by rw [kh_in (by decide) (by decide)]; rfl) (by decide) (by decide) h1 h2 h3 h4 h5, kh_set (v' := v) (N' := um N 26 (cpy (N 47) (N 26) sp dp n)) (T' := T) (by decide) (by decide) (by rfl) (fun j hj => kcell_n hj)]
theorem kh_ar27 {i : Int} {K : Option Nat → Prop} (h0 : 0 ≤ i) (h1 : i < 4) : aR (kh F v N T) (some 27) i K ↔ K (T 27 i) := by
  simp only [aR, kh_in (show 8 ≤ 27 by decide) (show 27 ≤ 68 by decide), kcell, cT]
  simp [h0, h1]
theorem kh_sr27 {i : Int} {x : Option Nat} {K : hp → Prop} (h0 : 0 ≤ i) (h1 : i < 4) (h2 : ∀ b, x = some b → ∃ fs, kh F v N T b = some (cO 8 fs)) : sR (kh F v N T) (some 27) i x K ↔ K (kh F v N (ut T 27 (us (T 27) i x))) := by
  simp only [sR]
  simp only [kh_in (show 8 ≤ 27 by decide) (show 27 ≤ 68 by decide), kcell, cT]
  rw [show (hs (kh F v N T) 27 (Sum.inr (Sum.inl (4, us (T 27) i x)))) = kh F v N (ut T 27 (us (T 27) i x)) from kh_set (by decide) (by decide) (by rfl) (fun j hj => kcell_t hj)]
  exact ⟨fun k => k.2.2, fun k => ⟨h2, ⟨h0, h1, by decide⟩, k⟩⟩
theorem kh_ar48 {i : Int} {K : Option Nat → Prop} (h0 : 0 ≤ i) (h1 : i < 4) : aR (kh F v N T) (some 48) i K ↔ K (T 48 i) := by
  simp only [aR, kh_in (show 8 ≤ 48 by decide) (show 48 ≤ 68 by decide), kcell, cT]
  simp [h0, h1]
theorem kh_sr48 {i : Int} {x : Option Nat} {K : hp → Prop} (h0 : 0 ≤ i) (h1 : i < 4) (h2 : ∀ b, x = some b → ∃ fs, kh F v N T b = some (cO 8 fs)) : sR (kh F v N T) (some 48) i x K ↔ K (kh F v N (ut T 48 (us (T 48) i x))) := by
  simp only [sR]
  simp only [kh_in (show 8 ≤ 48 by decide) (show 48 ≤ 68 by decide), kcell, cT]
  rw [show (hs (kh F v N T) 48 (Sum.inr (Sum.inl (4, us (T 48) i x)))) = kh F v N (ut T 48 (us (T 48) i x)) from kh_set (by decide) (by decide) (by rfl) (fun j hj => kcell_t hj)]
  exact ⟨fun k => k.2.2, fun k => ⟨h2, ⟨h0, h1, by decide⟩, k⟩⟩
end KM
