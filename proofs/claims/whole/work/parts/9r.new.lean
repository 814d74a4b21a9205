section NW
variable {G : hp} {v : Nat → Nat → Int} {N : Nat → Int → Int} {T : Nat → Int → Option Nat} {u : Nat → Int} {M : Nat → Int → Int}
-- the next handle is a
def fre (G : hp) (a : Nat) : Prop := 87 ≤ a ∧ ∀ h, h < 8 ∨ 87 ≤ h → (G h = none ↔ h < 8 ∨ a ≤ h)
theorem kr_g {h : Nat} (hh : h < 8 ∨ 87 ≤ h) : kh (rh G u M) v N T h = G h := by rw [kh_out (by omega), rh_out (by omega)]
theorem hs_kr {a : Nat} {c : ac} (ha : 87 ≤ a) : hs (kh (rh G u M) v N T) a c = kh (rh (hs G a c) u M) v N T := by
  funext j
  by_cases d : j = a
  · subst d
    rw [hs_eq, kr_g (.inr ha), hs_eq]
  · rw [hs_ne d]
    by_cases e : 8 ≤ j ∧ j ≤ 68
    · rw [kh_in e.1 e.2, kh_in e.1 e.2]
    · rw [kh_out (by omega), kh_out (by omega)]
      by_cases f : 69 ≤ j ∧ j ≤ 86
      · rw [rh_in f.1 f.2, rh_in f.1 f.2]
      · rw [rh_out (by omega), rh_out (by omega), hs_ne d]
theorem nx_fre {a b : Nat} (h : fre G a) (hb : nx (kh (rh G u M) v N T) b) : b = a := by
  obtain ⟨h1, h2⟩ := h
  obtain ⟨b1, b2⟩ := hb
  have k1 : kh (rh G u M) v N T a = none := by rw [kr_g (.inr h1)]; exact (h2 a (.inr h1)).2 (.inr (Nat.le_refl _))
  have k2 := (b2 a).1 k1
  have k3 : kh (rh G u M) v N T b = none := (b2 b).2 (.inr (Nat.le_refl _))
  have b87 : 87 ≤ b := by
    by_cases e : 87 ≤ b
    · exact e
    · exfalso
      by_cases f : b ≤ 68
      · rw [kh_in b1 f] at k3; exact absurd k3 (by simp)
      · rw [kh_out (by omega), rh_in (by omega) (by omega)] at k3; exact absurd k3 (by simp)
  rw [kr_g (.inr b87)] at k3
  have := (h2 b (.inr b87)).1 k3
  omega
theorem fre_s {a : Nat} {c : ac} (h : fre G a) : fre (hs G a c) (a + 1) := by
  obtain ⟨h1, h2⟩ := h
  refine ⟨by omega, fun k hk => ?_⟩
  by_cases d : k = a
  · subst d; rw [hs_eq]; simp; omega
  · rw [hs_ne d, h2 k hk]; omega
theorem fre_o {a b : Nat} {c : ac} (h : fre G a) (hb : 87 ≤ b ∧ b < a) : fre (hs G b c) a := by
  obtain ⟨h1, h2⟩ := h
  refine ⟨h1, fun k hk => ?_⟩
  by_cases d : k = b
  · subst d; rw [hs_eq]; simp; omega
  · rw [hs_ne d, h2 k hk]
theorem nwc_c {a : Nat} (h : fre G a) {c : ac} {K : Nat → hp → Prop} (k : K a (kh (rh (hs G a c) u M) v N T)) : nwc (kh (rh G u M) v N T) c K := fun b hb => by
  have := nx_fre h hb
  subst this
  rw [hs_kr h.1]
  exact k
theorem copy_54 {a : Nat} (h : fre G a) {m : Int} (hm : 0 ≤ m ∧ m ≤ 72) : ∃ f : Int → Int, (∀ i, 0 ≤ i → i < m → f i = N 54 i) ∧ ∀ (Q : Option Nat → hp → Prop), Q (some a) (kh (rh (hs G a (cA 0 m f)) u M) v N T) → mJ7_copyOf_59c91 72 (some 54) m (kh (rh G u M) v N T) Q := by
  by_cases e : m = 72
  · subst e
    refine ⟨N 54, fun _ _ _ => rfl, fun Q q => ?_⟩
    unfold mJ7_copyOf_59c91
    rw [kh_n54]
    refine ⟨fun _ => ⟨54, 72, N 54, rfl, by rw [kh_in (by decide) (by decide)]; rfl, by decide, nwc_c h ⟨⟨a, 72, N 54, rfl, ?_⟩, q⟩⟩, fun n => absurd rfl n⟩
    rw [kr_g (.inr h.1), hs_eq]
  · refine ⟨cpy (N 54) (fun _ => 0) 0 0 m, fun i i0 i1 => ?_, fun Q q => ?_⟩
    · unfold cpy; rw [if_pos (by omega)]; congr 1; omega
    · unfold mJ7_copyOf_59c91
      rw [kh_n54]
      refine ⟨fun t => absurd (by rw [w32_id (by omega) (by omega), w32_id (by decide) (by decide)] at t; exact t) e, fun _ => ⟨⟨hm.1, by omega, by omega⟩, nwc_c h ?_⟩⟩
      rw [kh_n54, iMin_r (by omega)]
      have c54 : ∀ G' : hp, kh (rh G' u M) v N T 54 = some (cA 0 72 (N 54)) := fun G' => by rw [kh_in (by decide) (by decide)]; rfl
      have ca : kh (rh (hs G a (cA 0 m (fun _ => 0))) u M) v N T a = some (cA 0 m (fun _ => 0)) := by rw [kr_g (.inr h.1), hs_eq]
      unfold cpI
      simp only [c54, ca]
      refine ⟨⟨trivial, trivial, by omega, by omega⟩, ⟨by omega, by omega, by omega, by omega, by omega⟩, ?_⟩
      rw [hs_kr h.1, hs_hs]
      exact q
theorem copy_53 {a : Nat} (h : fre G a) {m : Int} (hm : 0 ≤ m ∧ m ≤ 300) : ∃ f : Int → Int, (∀ i, 0 ≤ i → i < m → f i = N 53 i) ∧ ∀ (Q : Option Nat → hp → Prop), Q (some a) (kh (rh (hs G a (cA 0 m f)) u M) v N T) → mJ7_copyOf_59c91 300 (some 53) m (kh (rh G u M) v N T) Q := by
  by_cases e : m = 300
  · subst e
    refine ⟨N 53, fun _ _ _ => rfl, fun Q q => ?_⟩
    unfold mJ7_copyOf_59c91
    rw [kh_n53]
    refine ⟨fun _ => ⟨53, 300, N 53, rfl, by rw [kh_in (by decide) (by decide)]; rfl, by decide, nwc_c h ⟨⟨a, 300, N 53, rfl, ?_⟩, q⟩⟩, fun n => absurd rfl n⟩
    rw [kr_g (.inr h.1), hs_eq]
  · refine ⟨cpy (N 53) (fun _ => 0) 0 0 m, fun i i0 i1 => ?_, fun Q q => ?_⟩
    · unfold cpy; rw [if_pos (by omega)]; congr 1; omega
    · unfold mJ7_copyOf_59c91
      rw [kh_n53]
      refine ⟨fun t => absurd (by rw [w32_id (by omega) (by omega), w32_id (by decide) (by decide)] at t; exact t) e, fun _ => ⟨⟨hm.1, by omega, by omega⟩, nwc_c h ?_⟩⟩
      rw [kh_n53, iMin_r (by omega)]
      have c53 : ∀ G' : hp, kh (rh G' u M) v N T 53 = some (cA 0 300 (N 53)) := fun G' => by rw [kh_in (by decide) (by decide)]; rfl
      have ca : kh (rh (hs G a (cA 0 m (fun _ => 0))) u M) v N T a = some (cA 0 m (fun _ => 0)) := by rw [kr_g (.inr h.1), hs_eq]
      unfold cpI
      simp only [c53, ca]
      refine ⟨⟨trivial, trivial, by omega, by omega⟩, ⟨by omega, by omega, by omega, by omega, by omega⟩, ?_⟩
      rw [hs_kr h.1, hs_hs]
      exact q
theorem hs_cm {a b : Nat} {c c' : ac} (d : a ≠ b) : hs (hs G a c) b c' = hs (hs G b c') a c := by
  funext j
  by_cases e : j = b
  · subst e; rw [hs_eq, hs_ne (fun t => d t.symm), hs_eq]
  · rw [hs_ne e]
    by_cases f : j = a
    · subst f; rw [hs_eq, hs_eq]
    · rw [hs_ne f, hs_ne f, hs_ne e]
-- the text itself
theorem txt_c {a : Nat} (h : fre G a) {m n : Int} (hm : 0 ≤ m ∧ m ≤ 24) (hn : 0 ≤ n ∧ n ≤ 300) (f0 : v 49 7 = 0) (f12 : v 49 12 = n) (f13 : v 49 13 = m) : ∃ (fc fo : Int → Int), (∀ i, 0 ≤ i → i < 3 * m → fc i = N 54 i) ∧ (∀ i, 0 ≤ i → i < n → fo i = N 53 i) ∧ ∀ (Q : Option Nat → hp → Prop), Q (some a) (kh (rh (hs (hs (hs (hs G a (cO 8 [vr (some (a + 1)), vr (some (a + 2)), vr (some (a + 3))])) (a + 1) (cA 0 (3 * m) fc)) (a + 2) (cA 0 n fo)) (a + 3) (cA 0 4 (N 55))) u M) v N T) → mX2_readTape_J86 Q 49 (kh (rh G u M) v N T) := by
  have h1 : fre (hs G a (cO 8 [vr none, vr none, vr none])) (a + 1) := fre_s h
  obtain ⟨fc, c1, c2⟩ := copy_54 (v := v) (N := N) (T := T) (u := u) (M := M) h1 (m := 3 * m) (by omega)
  have h2 := fre_s (c := cA 0 (3 * m) fc) h1
  obtain ⟨fo, d1, d2⟩ := copy_53 (v := v) (N := N) (T := T) (u := u) (M := M) h2 (m := n) hn
  have h3 := fre_s (c := cA 0 n fo) h2
  refine ⟨fc, fo, c1, d1, fun Q q => ?_⟩
  unfold mX2_readTape_J86
  simp (disch := first | omega | decide) only [w32_id, ↓kh_c49, ↓kh_g49_0, ↓kh_g49_1, ↓kh_g49_2, ↓kh_g49_3, ↓kh_g49_4, ↓kh_g49_5, ↓kh_g49_6, ↓kh_p49_6, ↓kh_g49_7, ↓kh_p49_7, ↓kh_g49_8, ↓kh_p49_8, ↓kh_g49_9, ↓kh_p49_9, ↓kh_g49_10, ↓kh_p49_10, ↓kh_g49_11, ↓kh_p49_11, ↓kh_g49_12, ↓kh_p49_12, ↓kh_g49_13, ↓kh_p49_13, ↓kh_g49_14, ↓kh_p49_14, ↓be_y, ↓be_n, ↓bf_y, ↓bf_n, ↓bl_y, ↓bl_n, ↓bm_y, ↓bm_n, ↓bg_y, ↓bg_n, ↓bs_y, ↓bs_n, ↓bo_y, ↓bo_n, ↓bp_y, ↓bp_n, ↓forall_eq, ↓within_y, ↓within_n, ↓isIn_y, ↓isIn_n, and_true, true_and, and_self, us_at, us_ne, w32_id, um_eq, um_ne, um_um, uu_eq, uu_ne, uu_uu, vv_eq, vv_ne, vv_vv, ne_eq, not_false_eq_true, not_true_eq_false, reduceCtorEq, Int.reduceAdd, Int.reduceSub, Int.reduceMul, Int.reduceNeg, Nat.reduceEqDiff, or_true, true_or, true_implies, false_implies, Int.reduceLT, Int.reduceLE, Int.reduceEq, f0]
  refine nwc_c h ?_
  simp (disch := first | omega | decide) only [w32_id, ↓kh_c49, ↓kh_g49_0, ↓kh_g49_1, ↓kh_g49_2, ↓kh_g49_3, ↓kh_g49_4, ↓kh_g49_5, ↓kh_g49_6, ↓kh_p49_6, ↓kh_g49_7, ↓kh_p49_7, ↓kh_g49_8, ↓kh_p49_8, ↓kh_g49_9, ↓kh_p49_9, ↓kh_g49_10, ↓kh_p49_10, ↓kh_g49_11, ↓kh_p49_11, ↓kh_g49_12, ↓kh_p49_12, ↓kh_g49_13, ↓kh_p49_13, ↓kh_g49_14, ↓kh_p49_14, ↓be_y, ↓be_n, ↓bf_y, ↓bf_n, ↓bl_y, ↓bl_n, ↓bm_y, ↓bm_n, ↓bg_y, ↓bg_n, ↓bs_y, ↓bs_n, ↓bo_y, ↓bo_n, ↓bp_y, ↓bp_n, ↓forall_eq, ↓within_y, ↓within_n, ↓isIn_y, ↓isIn_n, and_true, true_and, and_self, us_at, us_ne, w32_id, um_eq, um_ne, um_um, uu_eq, uu_ne, uu_uu, vv_eq, vv_ne, vv_vv, ne_eq, not_false_eq_true, not_true_eq_false, reduceCtorEq, Int.reduceAdd, Int.reduceSub, Int.reduceMul, Int.reduceNeg, Nat.reduceEqDiff, or_true, true_or, true_implies, false_implies, Int.reduceLT, Int.reduceLE, Int.reduceEq, f13]
  refine c2 _ ?_
  simp (disch := first | omega | decide) only [w32_id, ↓kh_c49, ↓kh_g49_0, ↓kh_g49_1, ↓kh_g49_2, ↓kh_g49_3, ↓kh_g49_4, ↓kh_g49_5, ↓kh_g49_6, ↓kh_p49_6, ↓kh_g49_7, ↓kh_p49_7, ↓kh_g49_8, ↓kh_p49_8, ↓kh_g49_9, ↓kh_p49_9, ↓kh_g49_10, ↓kh_p49_10, ↓kh_g49_11, ↓kh_p49_11, ↓kh_g49_12, ↓kh_p49_12, ↓kh_g49_13, ↓kh_p49_13, ↓kh_g49_14, ↓kh_p49_14, ↓be_y, ↓be_n, ↓bf_y, ↓bf_n, ↓bl_y, ↓bl_n, ↓bm_y, ↓bm_n, ↓bg_y, ↓bg_n, ↓bs_y, ↓bs_n, ↓bo_y, ↓bo_n, ↓bp_y, ↓bp_n, ↓forall_eq, ↓within_y, ↓within_n, ↓isIn_y, ↓isIn_n, and_true, true_and, and_self, us_at, us_ne, w32_id, um_eq, um_ne, um_um, uu_eq, uu_ne, uu_uu, vv_eq, vv_ne, vv_vv, ne_eq, not_false_eq_true, not_true_eq_false, reduceCtorEq, Int.reduceAdd, Int.reduceSub, Int.reduceMul, Int.reduceNeg, Nat.reduceEqDiff, or_true, true_or, true_implies, false_implies, Int.reduceLT, Int.reduceLE, Int.reduceEq, f12]
  refine d2 _ ?_
  simp (disch := first | omega | decide) only [w32_id, ↓kh_c49, ↓kh_g49_0, ↓kh_g49_1, ↓kh_g49_2, ↓kh_g49_3, ↓kh_g49_4, ↓kh_g49_5, ↓kh_g49_6, ↓kh_p49_6, ↓kh_g49_7, ↓kh_p49_7, ↓kh_g49_8, ↓kh_p49_8, ↓kh_g49_9, ↓kh_p49_9, ↓kh_g49_10, ↓kh_p49_10, ↓kh_g49_11, ↓kh_p49_11, ↓kh_g49_12, ↓kh_p49_12, ↓kh_g49_13, ↓kh_p49_13, ↓kh_g49_14, ↓kh_p49_14, ↓be_y, ↓be_n, ↓bf_y, ↓bf_n, ↓bl_y, ↓bl_n, ↓bm_y, ↓bm_n, ↓bg_y, ↓bg_n, ↓bs_y, ↓bs_n, ↓bo_y, ↓bo_n, ↓bp_y, ↓bp_n, ↓forall_eq, ↓within_y, ↓within_n, ↓isIn_y, ↓isIn_n, and_true, true_and, and_self, us_at, us_ne, w32_id, um_eq, um_ne, um_um, uu_eq, uu_ne, uu_uu, vv_eq, vv_ne, vv_vv, ne_eq, not_false_eq_true, not_true_eq_false, reduceCtorEq, Int.reduceAdd, Int.reduceSub, Int.reduceMul, Int.reduceNeg, Nat.reduceEqDiff, or_true, true_or, true_implies, false_implies, Int.reduceLT, Int.reduceLE, Int.reduceEq]
  refine ⟨55, 4, N 55, rfl, by rw [kh_in (by decide) (by decide)]; rfl, by decide, nwc_c h3 ⟨⟨a + 1 + 1 + 1, 4, N 55, rfl, by rw [kr_g (.inr h3.1), hs_eq]⟩, ?_⟩⟩
  unfold mX8_init
  have h87 := h.1
  have g0 : ∀ fs c1 c2 c3, (hs (hs (hs (hs G a (cO 8 fs)) (a + 1) c1) (a + 1 + 1) c2) (a + 1 + 1 + 1) c3) a = some (cO 8 fs) := fun fs c1 c2 c3 => by rw [hs_ne (by omega), hs_ne (by omega), hs_ne (by omega), hs_eq]
  have g1 : ∀ fs fs' c1 c2 c3, hs (hs (hs (hs (hs G a (cO 8 fs)) (a + 1) c1) (a + 1 + 1) c2) (a + 1 + 1 + 1) c3) a (cO 8 fs') = hs (hs (hs (hs G a (cO 8 fs')) (a + 1) c1) (a + 1 + 1) c2) (a + 1 + 1 + 1) c3 := fun fs fs' c1 c2 c3 => by
    rw [hs_cm (a := a + 1 + 1 + 1) (b := a) (by omega), hs_cm (a := a + 1 + 1) (b := a) (by omega), hs_cm (a := a + 1) (b := a) (by omega), hs_hs]
  rw [pF_s (fs := [vr none, vr none, vr none]) (by rw [kr_g (.inr h87)]; exact g0 _ _ _ _) (by simp), hs_kr h87, g1]
  rw [pF_s (fs := [vr (some (a + 1)), vr none, vr none]) (by rw [kr_g (.inr h87)]; exact g0 _ _ _ _) (by simp), hs_kr h87, g1]
  rw [pF_s (fs := [vr (some (a + 1)), vr (some (a + 1 + 1)), vr none]) (by rw [kr_g (.inr h87)]; exact g0 _ _ _ _) (by simp), hs_kr h87, g1]
  exact q
end NW
