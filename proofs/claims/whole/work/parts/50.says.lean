-- ===== what a law says: a text =====
theorem opl_cons {X : Int → Int} {k i q : Int} (h : i < q) : opl X k i q = X (681 * k + 73 + 2 * i) :: opl X k (i + 1) q := by
  unfold opl
  rw [show (q - i).toNat = (q - (i + 1)).toNat + 1 by omega, List.range_succ_eq_map, List.map_cons, List.map_map]
  congr 1
  · congr 1
    omega
  · apply List.map_congr_left
    intro j _
    show X (681 * k + 73 + 2 * (i + ((j + 1 : Nat) : Int))) = X (681 * k + 73 + 2 * (i + 1 + (j : Int)))
    congr 1
    omega
theorem opl_nil {X : Int → Int} {k q : Int} : opl X k q q = [] := by
  unfold opl
  rw [show (q - q).toNat = 0 by omega]
  rfl
section SY
variable {n x1 x2 : Int} {F G : hp} {v : Nat → Nat → Int} {N : Nat → Int → Int} {T : Nat → Int → Option Nat} {u : Nat → Int} {M : Nat → Int → Int}
theorem kt_c {h : Nat} {fs : List av} {K : Nat → Prop} (e : F h = some (cO 8 fs)) (hh : 87 ≤ h) : rcv (kh F v N T) (some h) 8 K ↔ K h := rcv_s (fs := fs) (by rw [kh_out (by omega), e])
theorem kt_g {h k : Nat} {fs : List av} {x : Option Nat} {K : Option Nat → Prop} (e : F h = some (cO 8 fs)) (hh : 87 ≤ h) (hk : fs[k]? = some (vr x)) : gR (kh F v N T) (some h) 8 k K ↔ K x := gR_s (fs := fs) (by rw [kh_out (by omega), e]) hk
theorem kt_r {a : Nat} {m i : Int} {f : Int → Int} {K : Int → Prop} (e : F a = some (cA 0 m f)) (ha : 87 ≤ a) (hm : m ≤ 2147483647) (h0 : 0 ≤ i) (h1 : i < m) : aI (kh F v N T) (some a) 0 i K ↔ K (f i) := aI_s (n := m) (by rw [kh_out (by omega), e]) hm h0 h1
theorem kt_n {a : Nat} {m : Int} {f : Int → Int} {K : Int → Prop} (e : F a = some (cA 0 m f)) (ha : 87 ≤ a) (hm : m ≤ 2147483647) (h0 : 0 ≤ m) : aN (kh F v N T) (some a) K ↔ K m := aN_s (k := 0) (n := m) (f := f) (by rw [kh_out (by omega), e]) (by decide) hm h0
theorem ev_l (hY : jY (N 12) (M 70)) (hC : jC (N 15) (N 16) (N 17) (N 18) (N 19) (M 70)) {h ho : Nat} {fs : List av} {m q k0 j0 : Int} {fo : Int → Int} (hG : G h = some (cO 8 fs) ∧ 87 ≤ h ∧ fs[1]? = some (vr (some ho)) ∧ G ho = some (cA 0 m fo) ∧ 87 ≤ ho) (hm : 0 ≤ m ∧ m ≤ 300) (hq : q ≤ m) (hk0 : 0 ≤ k0 ∧ k0 < 4) (hj0 : 0 ≤ j0 ∧ j0 < 24) (ex : M 72 (681 * k0 + 1 + 3 * j0 + 2) = q) (hT : ∀ t, 0 ≤ t → t < 3 → N 29 (11 + t) = topf (M 70) t) {p0 : Int} (hp0 : 0 ≤ p0) (hcx : ∀ i, p0 ≤ i → i < q → cxp (fo i) (M 72 (681 * k0 + 73 + 2 * i)) (M 72 (681 * k0 + 73 + 2 * i + 1)) ∧ (M 72 (681 * k0 + 73 + 2 * i) = 1 → N 29 (M 72 (681 * k0 + 73 + 2 * i + 1)) = M 75 (M 72 (681 * k0 + 73 + 2 * i + 1)) ∧ -1000000 ≤ M 75 (M 72 (681 * k0 + 73 + 2 * i + 1)) ∧ M 75 (M 72 (681 * k0 + 73 + 2 * i + 1)) ≤ 1000000)) : ∀ (k : Nat) (i : Int) (s : List (Bool × Int)) (P V B : Int → Int), i + k = q → p0 ≤ i → (s.length : Int) ≤ i → sok s → tyl (opl (M 72) k0 i q) (s.map (fun x => x.1)) = some [true] → arr P (vas s) → arr V (nus s) → arr B (trs s) → ∃ r h' P' V' B', (-1000000 ≤ r ∧ r ≤ 1000000) ∧ (∀ (F : hp) (Q : Int → hp → Prop), (∀ h, 87 ≤ h → F h = G h) → Q (iMax (-99) (iMin 99 r)) (kh F (vv v 28 2 h') (um N 30 P') T) → mX3_weigh_L30 Q (k + 1) 28 (some h) q i (kh F (vv v 28 2 s.length) (um N 30 P) T)) ∧ (∀ (F : hp) (Q : Int → hp → Prop), Q r (rh F u (um (um M 76 V') 77 B')) → mX12_summedUp_L38 Q (k + 1) 69 (681 * k0 + 1 + 3 * j0) (681 * k0 + 73) (nus s).length (trs s).length i (rh F u (um (um M 76 V) 77 B))) := by
  obtain ⟨G1, G2, G3, G4, G5⟩ := hG
  intro k
  induction k with
  | zero =>
    intro i s P V B hi hp hl hs ht aP aV aB
    obtain rfl : i = q := by omega
    rw [opl_nil, tyl, Option.some.injEq] at ht
    obtain ⟨r, rfl⟩ : ∃ r, s = [(true, r)] := by
      rcases s with _ | ⟨⟨b, r⟩, _ | ⟨c, s⟩⟩
      · cases ht
      · simp only [List.map_cons, List.map_nil, List.cons.injEq, and_true] at ht
        exact ⟨r, by rw [ht]⟩
      · simp at ht
    have rb := (hs (true, r) List.mem_cons_self).1 rfl
    have p1 := (arr_pop (x := r) (L := []) aP).1
    have p2 := (arr_pop (x := r) (L := []) aV).1
    refine ⟨r, 0, P, V, B, rb, fun F Q hF z => ?_, fun F Q z => ?_⟩
    · rw [mX3_weigh_L30]
      simp (disch := first | omega | decide) only [w32_id, ↓kh_c28, ↓kh_g28_0, ↓kh_g28_1, ↓kh_g28_2, ↓kh_p28_2, ↓be_y, ↓be_n, ↓bf_y, ↓bf_n, ↓bl_y, ↓bl_n, ↓bm_y, ↓bm_n, ↓bg_y, ↓bg_n, ↓bs_y, ↓bs_n, ↓bo_y, ↓bo_n, ↓bp_y, ↓bp_n, ↓forall_eq, ↓within_y, ↓within_n, ↓isIn_y, ↓isIn_n, and_true, true_and, and_self, us_at, us_ne, w32_id, um_eq, um_ne, um_um, uu_eq, uu_ne, uu_uu, vv_eq, vv_ne, vv_vv, ne_eq, not_false_eq_true, not_true_eq_false, reduceCtorEq, Int.reduceAdd, Int.reduceSub, Int.reduceMul, Int.reduceNeg, Nat.reduceEqDiff, or_true, true_or, true_implies, false_implies, Int.reduceLT, Int.reduceLE, Int.reduceEq]
      refine pop_c (h := 0) (by omega) ?_
      have p1 : P 0 = r := p1
      rw [p1]
      exact z
    · have p2 : V 0 = r := p2
      rw [mX12_summedUp_L38]
      simp (disch := first | omega | decide) only [w32_id, ↓rh_rcv, ↓rh_g2, ↓rh_g21, ↓rh_r72, ↓rh_w72, ↓rh_r76, ↓rh_w76, ↓be_y, ↓be_n, ↓bf_y, ↓bf_n, ↓bl_y, ↓bl_n, ↓bm_y, ↓bm_n, ↓bg_y, ↓bg_n, ↓bs_y, ↓bs_n, ↓bo_y, ↓bo_n, ↓bp_y, ↓bp_n, ↓forall_eq, ↓within_y, ↓within_n, ↓isIn_y, ↓isIn_n, and_true, true_and, and_self, us_at, us_ne, w32_id, um_eq, um_ne, um_um, uu_eq, uu_ne, uu_uu, vv_eq, vv_ne, vv_vv, ne_eq, not_false_eq_true, not_true_eq_false, reduceCtorEq, Int.reduceAdd, Int.reduceSub, Int.reduceMul, Int.reduceNeg, Nat.reduceEqDiff, or_true, true_or, true_implies, false_implies, Int.reduceLT, Int.reduceLE, Int.reduceEq, ex, p2]
      exact z
  | succ k ih =>
    intro i s P V B hi hp hl hs ht aP aV aB
    rw [opl_cons (by omega), tyl] at ht
    obtain ⟨t, t1, t2⟩ := Option.bind_eq_some_iff.mp ht
    obtain ⟨c1, c2⟩ := hcx i hp (by omega)
    have tb : ∀ a, -1000000 ≤ topf (M 70) a ∧ topf (M 70) a ≤ 1000000 := fun a => by have := topf_b hY hC a; omega
    obtain ⟨e1, e2, e3⟩ := evo_ok (E := M 75) (Tp := topf (M 70)) c1 t1 hs (fun e => (c2 e).2) tb
    obtain ⟨P1, a1, a2⟩ := step_c (v := v) (N := N) (T := T) (E := M 75) (Tp := topf (M 70)) c1 t1 hs (by omega) aP c2 hT (fun a ha => topf_0 ha) tb
    obtain ⟨V1, B1, b1, b2, b3⟩ := step_r (u := u) (a3 := 681 * k0 + 1 + 3 * j0) (a4 := 681 * k0 + 73) (m := q) hY hC (i := i) (by omega) (by omega) (by omega) ex rfl rfl c1 t1 hs (by omega) aV aB (fun e => (c2 e).2)
    obtain ⟨r, h', P', V', B', r0, r1, r2⟩ := ih (i + 1) _ P1 V1 B1 (by omega) (by omega) (by omega) e1 (by rw [e2]; exact t2) a1 b1 b2
    refine ⟨r, h', P', V', B', r0, fun F Q hF z => ?_, fun F Q z => ?_⟩
    · have g := r1 F Q hF z
      rw [mX3_weigh_L30]
      refine ⟨fun _ => ?_, fun d => by rw [w32_id (by omega) (by omega), w32_id (by omega) (by omega)] at d; omega⟩
      rw [kt_g (fs := fs) (x := some ho) (by rw [hF h G2]; exact G1) G2 G3, kt_r (m := m) (f := fo) (by rw [hF ho G5]; exact G4) G5 (by omega) (by omega) (by omega)]
      exact a2 F (fun F3 => mX3_weigh_J99 (fun o' a1' a3' a4' F' => mX3_weigh_L30 Q (k + 1) o' a1' a3' a4' F') Q 28 (some h) q i F3) g
    · exact b3 F _ Q (r2 F Q z)
end SY
