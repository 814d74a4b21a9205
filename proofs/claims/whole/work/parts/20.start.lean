def R_law : String := "RailsGrowWiderLaw"
def lw_P (b : Addr) (xs : List Int32) (args : Array Value) (s : State) : Prop := args = #[.ref b] ∧ s.IntsAt b xs ∧ xs.length ≤ 384 ∧ (Jvm.Cond.and given_1 narrow_1).before args s = true
def lw_Q (_ : Array Value) (s : State) (o : Outcome) (t : State) : Prop := o = .returned (some (.int 1)) ∧ Framed s o t [] 600000 7302250
def lw_Z (below : List Frame) (a : Array Value) (s : State) : State → Prop := fun t => ∃ o, t.status = .running ∧ Ended t below o ∧ lw_Q a s o t
theorem lw_ret {p : Program} {l : Launch} {e : Env} {s : State} {m : MethodId} {below : List Frame} {meth : Method} {c : Code} {b : Nat} (hx : p.tables.exec = Jvm.exec) (hb : c.code = code) (hr : meth.sig.returnType = ret) (hlocks : meth.locks = false) {pc : Nat} {H : Heap} {ls : Array Slot} (hdg : decode code pc = .ok (.ireturn, 1)) : W p l e room_1 s m #[Value.ref b] below meth c H [] 600000 7302250 (lw_Z below #[Value.ref b] s) (F0 m pc ls [.int 1]) := by
  intro T hT X
  obtain ⟨fs, hret, hrun, hended, hW, hframe⟩ := X.leave (v := some (.int 1)) (hlocks := hlocks) (fun h => by rw [hr] at h; cases h)
  have hmeth' : T.vm.method? m = some meth := X.method'
  refine ⟨T.setFrames fs, ?_, .returned (some (.int 1)), hrun, hended, rfl, ⟨_, rfl⟩, hW, hframe⟩
  jvm_step X.here [X.here.top, hx, hb, hdg, hmeth', hr, ret, narrow_b1]
  (try refine ⟨rfl, ?_⟩); (try refine ⟨rfl, ?_⟩)
  first | (intro acts; rw [hret _ acts rfl rfl rfl]) | rw [hret _ _ rfl rfl rfl]
  exact Steps.refl _
def lw_At (p : Program) (s : State) (m : MethodId) (meth : Method) (c : Code) (b L : Nat) (xs : Nat → Int32) : Prop :=
  p.tables.exec = Jvm.exec ∧ c.code = code ∧ meth.sig.returnType = ret ∧ c.maxLocals = 4 ∧ s.vm.findClass R_law = some m.cls ∧ (∀ w ∈ lw_tbl, w.before #[Value.ref b] s = true) ∧ va_X b L xs s s.heap ∧ b < s.heap.size ∧ meth.locks = false ∧ (Jvm.Cond.and given_1 narrow_1).before #[Value.ref b] s = true
theorem W_mono {p : Program} {l : Launch} {e : Env} {R : Room} {s : State} {m : MethodId} {args : Array Value} {below : List Frame} {meth : Method} {c : Code} {H : Heap} {locs : List Loc} {cells slots : Nat} {Q Q' : State → Prop} {g : JFrame} (h : ∀ t, Q t → Q' t) (k : W p l e R s m args below meth c H locs cells slots Q g) : W p l e R s m args below meth c H locs cells slots Q' g := by
  intro T hT X
  obtain ⟨t, a, b⟩ := k T hT X
  exact ⟨t, a, h t b⟩
theorem hts_g {args : Array Value} {s : State} (hts : ∀ w ∈ lw_tbl, w.before args s = true) : ∀ w ∈ lw_g, w.before args s = true := fun w h => hts w (List.mem_filter.mp h).1
theorem arrT {s : State} {cA : ClassId} {ty : FieldType} {k : Class} {comp : ClassId} (h1 : s.vm.classes[cA]? = some k) (h2 : k.kind = .array comp ty) : ArrOfT s cA ty := fun N z => ⟨(fun k h => by cases h), k, h1, comp, h2⟩
set_option maxRecDepth 20000 in
theorem lw_K {args : Array Value} {s : State} (hts : ∀ w ∈ lw_tbl, w.before args s = true) : ∃ (D : va_G) (ca : Nat → ClassId), va_K D vwCl (tys ca) s := by
  have hg := hts_g hts
  obtain ⟨c0, i0, k0⟩ := u_known (n := 2) hg us_X0 (hg _ qT_X0)
  obtain ⟨c1, i1, k1⟩ := u_known (n := 1) hg us_X1 (hg _ qT_X1)
  obtain ⟨c2, i2, k2⟩ := u_known (n := 15) hg us_X2 (hg _ qT_X2)
  obtain ⟨c3, i3, k3⟩ := u_known (n := 3) hg us_X3 (hg _ qT_X3)
  obtain ⟨c4, i4, k4⟩ := u_known (n := 8) hg us_X4 (hg _ qT_X4)
  obtain ⟨c5, i5, k5⟩ := u_known (n := 16) hg us_X5 (hg _ qT_X5)
  obtain ⟨c6, i6, k6⟩ := u_known (n := 3) hg us_X6 (hg _ qT_X6)
  obtain ⟨c7, i7, k7⟩ := u_known (n := 3) hg us_X7 (hg _ qT_X7)
  obtain ⟨c8, i8, k8⟩ := u_known (n := 3) hg us_X8 (hg _ qT_X8)
  obtain ⟨c9, i9, k9⟩ := u_known (n := 2) hg us_X9 (hg _ qT_X9)
  obtain ⟨c10, i10, k10⟩ := u_known (n := 1) hg us_X10 (hg _ qT_X10)
  obtain ⟨c11, i11, k11⟩ := u_known (n := 8) hg us_X11 (hg _ qT_X11)
  obtain ⟨c12, i12, k12⟩ := u_known (n := 35) hg us_X12 (hg _ qT_X12)
  obtain ⟨d_int, e_int, f_int, a_int, b_int, g_int⟩ := Cond.arrayClass_spec (hg _ qY_int)
  obtain ⟨d_byte, e_byte, f_byte, a_byte, b_byte, g_byte⟩ := Cond.arrayClass_spec (hg _ qY_byte)
  obtain ⟨d_boolean, e_boolean, f_boolean, a_boolean, b_boolean, g_boolean⟩ := Cond.arrayClass_spec (hg _ qY_boolean)
  obtain ⟨d_long, e_long, f_long, a_long, b_long, g_long⟩ := Cond.arrayClass_spec (hg _ qY_long)
  obtain ⟨cm, cT, kT, t1, -, t2, t3, t4⟩ := Cond.arrayOver_spec (n := "RailsGrowWider$Text") (hts _ (List.mem_of_getElem? (i := 223) (by decide +kernel)))
  refine ⟨(fun k => [c0, c1, c2, c3, c4, c5, c6, c7, c8, c9, c10, c11, c12].getD k c0, fun k => [i0, i1, i2, i3, i4, i5, i6, i7, i8, i9, i10, i11, i12].getD k i0), fun k => [d_int, d_byte, d_boolean, d_long, cT].getD k d_int, ?_, ?_⟩
  · intro c q hq
    match c, hq with
    | 0, hq => cases hq; exact k0
    | 1, hq => cases hq; exact k1
    | 2, hq => cases hq; exact k2
    | 3, hq => cases hq; exact k3
    | 4, hq => cases hq; exact k4
    | 5, hq => cases hq; exact k5
    | 6, hq => cases hq; exact k6
    | 7, hq => cases hq; exact k7
    | 8, hq => cases hq; exact k8
    | 9, hq => cases hq; exact k9
    | 10, hq => cases hq; exact k10
    | 11, hq => cases hq; exact k11
    | 12, hq => cases hq; exact k12
    | n + 13, hq => simp at hq
  · intro k q hq
    match k, hq with
    | 0, hq => cases hq; exact ⟨arrT b_int g_int, a_int⟩
    | 1, hq => cases hq; exact ⟨arrT b_byte g_byte, a_byte⟩
    | 2, hq => cases hq; exact ⟨arrT b_boolean g_boolean, a_boolean⟩
    | 3, hq => cases hq; exact ⟨arrT b_long g_long, a_long⟩
    | 4, hq => cases hq; exact ⟨arrT t2 t3, kT, cm, t2, t3, t1, t4⟩
    | n + 5, hq => simp at hq
theorem eqv {args : Array Value} {s : State} {a : Term} {v : Int32} (h : (Cond.eq a (.int v)).before args s = true) : a.eval args s none [] s = some (.int v) := by
  obtain ⟨y, h1, h2⟩ := Cond.eq_one h
  rw [h1, ← h2]
  rfl
def tmS (i : Nat) : Term := .string "RailsGrowWider$Reader" (if i = 0 then 118 else 132)
def nwf (j : Nat) : Bool := decide (Cond.eq (.elem (.field (.string "RailsGrowWider$Reader" 118) "java/lang/String" "value" "[B") (.int (Int32.ofNat j))) (.int (wordsB.getD j 0)) ∈ flatC (Jvm.Cond.and given_1 narrow_1))
set_option maxRecDepth 100000 in
theorem nw_w0 : (List.range' 0 18).all nwf = true := by decide +kernel
set_option maxRecDepth 100000 in
theorem nw_w1 : (List.range' 18 18).all nwf = true := by decide +kernel
set_option maxRecDepth 100000 in
theorem nw_w2 : (List.range' 36 18).all nwf = true := by decide +kernel
set_option maxRecDepth 100000 in
theorem nw_w3 : (List.range' 54 18).all nwf = true := by decide +kernel
set_option maxRecDepth 100000 in
theorem nw_w4 : (List.range' 72 18).all nwf = true := by decide +kernel
set_option maxRecDepth 100000 in
theorem nw_w5 : (List.range' 90 18).all nwf = true := by decide +kernel
set_option maxRecDepth 100000 in
theorem nw_w6 : (List.range' 108 18).all nwf = true := by decide +kernel
set_option maxRecDepth 100000 in
theorem nw_w7 : (List.range' 126 16).all nwf = true := by decide +kernel
theorem nw_w : ((List.range 142).all nwf) = true := by
  rw [show List.range 142 = List.range' 0 18 ++ (List.range' 18 18 ++ (List.range' 36 18 ++ (List.range' 54 18 ++ (List.range' 72 18 ++ (List.range' 90 18 ++ (List.range' 108 18 ++ (List.range' 126 16))))))) from rfl]
  simp only [List.all_append, nw_w0, nw_w1, nw_w2, nw_w3, nw_w4, nw_w5, nw_w6, nw_w7, Bool.and_self]
set_option maxRecDepth 100000 in
theorem nw_s : ((List.range 11).all fun j => decide (Cond.eq (.elem (.field (.string "RailsGrowWider$Reader" 132) "java/lang/String" "value" "[B") (.int (Int32.ofNat j))) (.int (signsB.getD j 0)) ∈ flatC (Jvm.Cond.and given_1 narrow_1))) = true := by decide +kernel
theorem nest_in : ∀ q ∈ nestL, Cond.methodLinkNest q.1 q.2.1 q.2.2.1 q.2.2.2 ∈ lw_tbl := by decide +kernel
set_option maxRecDepth 20000 in
set_option maxHeartbeats 4000000 in
theorem lw_stt {args : Array Value} {s : State} (b : Nat) (hts : ∀ w ∈ lw_tbl, w.before args s = true) (hgv : (Jvm.Cond.and given_1 narrow_1).before args s = true) : ∃ sa : Nat → Nat, stt sa s.heap.size s ∧ sa 6 = b := by
  have hs := flat_of_before _ hgv
  have hA : ∀ a : Nat, a < s.heap.size → ¬ bs s.heap.size a := fun a h h2 => Nat.lt_irrefl _ (Nat.lt_of_lt_of_le h h2)
  have hcs := va_Zof (C := "java/lang/String") (n := "COMPACT_STRINGS") (d := "Z") (hts _ (List.mem_of_getElem? (i := 550) (by decide +kernel))) (hts _ (List.mem_of_getElem? (i := 143) (by decide +kernel))) (eqv (hs (.eq (.static "java/lang/String" "COMPACT_STRINGS" "Z") (.int 1)) (by decide +kernel))) hA
  obtain ⟨t0, ht0, hT0⟩ := va_Tof (tm := .static "RailsGrowWider$Orders" "ROWS_BEHIND" "[I") (ty := .int) (N := 5) (f := fun j => .int (rowsB.getD j 0)) (by decide) (hs _ (by decide +kernel)) (eqv (v := Int32.ofNat 5) (hs (.eq (.length (.static "RailsGrowWider$Orders" "ROWS_BEHIND" "[I")) (.int 5)) (by decide +kernel))) (fun j hj => by
    have hh : j = 0 ∨ j = 1 ∨ j = 2 ∨ j = 3 ∨ j = 4 := by omega
    rcases hh with rfl | rfl | rfl | rfl | rfl
    · exact eqv (hs (.eq (.elem (.static "RailsGrowWider$Orders" "ROWS_BEHIND" "[I") (.int 0)) (.int 24)) (by decide +kernel))
    · exact eqv (hs (.eq (.elem (.static "RailsGrowWider$Orders" "ROWS_BEHIND" "[I") (.int 1)) (.int 6)) (by decide +kernel))
    · exact eqv (hs (.eq (.elem (.static "RailsGrowWider$Orders" "ROWS_BEHIND" "[I") (.int 2)) (.int 2)) (by decide +kernel))
    · exact eqv (hs (.eq (.elem (.static "RailsGrowWider$Orders" "ROWS_BEHIND" "[I") (.int 3)) (.int 1)) (by decide +kernel))
    · exact eqv (hs (.eq (.elem (.static "RailsGrowWider$Orders" "ROWS_BEHIND" "[I") (.int 4)) (.int 1)) (by decide +kernel))) hA
  have hz0 := va_Zof (C := RX1) (n := "ROWS_BEHIND") (d := "[I") (hts _ (List.mem_of_getElem? (i := 1130) (by decide +kernel))) (hts _ (List.mem_of_getElem? (i := 140) (by decide +kernel))) ht0 hA
  have hsi := va_Zqof (C := "jdk/internal/util/Preconditions") (n := "SIOOBE_FORMATTER") (d := "Ljava/util/function/BiFunction;") (hts _ (List.mem_of_getElem? (i := 566) (by decide +kernel))) (hts _ (List.mem_of_getElem? (i := 145) (by decide +kernel))) (hs _ (by decide +kernel)) hA
  have two : ∀ {P : Nat → Prop}, P 0 → P 1 → ∀ i, i < 2 → P i := fun h0 h1 i hi => by
    have hh : i = 0 ∨ i = 1 := by omega
    rcases hh with rfl | rfl
    · exact h0
    · exact h1
  obtain ⟨aK, aV, hS, hE⟩ := vk_Sof (args := args) (s := s) (N := 2) (tm := tmS) (len := [142, 11]) (byt := [wordsB, signsB]) (A := bs s.heap.size) (two (by decide) (by decide)) (two (hs _ (by decide +kernel)) (hs _ (by decide +kernel))) (two (hs _ (by decide +kernel)) (hs _ (by decide +kernel))) (two (hs _ (by decide +kernel)) (hs _ (by decide +kernel))) (two (hs _ (by decide +kernel)) (hs _ (by decide +kernel)))
    (two (fun j hj => hs _ (of_decide_eq_true (List.all_eq_true.mp nw_w j (List.mem_range.mpr hj)))) (fun j hj => hs _ (of_decide_eq_true (List.all_eq_true.mp nw_s j (List.mem_range.mpr hj)))))
    (fun i j hi hj hne => by
      have hh : (i = 0 ∧ j = 1) ∨ (i = 1 ∧ j = 0) := by omega
      rcases hh with ⟨rfl, rfl⟩ | ⟨rfl, rfl⟩
      · exact Or.inl (hs _ (by decide +kernel))
      · exact Or.inr (hs _ (by decide +kernel))) hA
  obtain ⟨t5, h5⟩ : ∃ t5, va_Z "jdk/internal/util/Preconditions" "SIOOBE_FORMATTER" "Ljava/util/function/BiFunction;" .null (bs s.heap.size) s s.heap ∨ va_Z "jdk/internal/util/Preconditions" "SIOOBE_FORMATTER" "Ljava/util/function/BiFunction;" (.ref t5) (bs s.heap.size) s s.heap := by
    rcases hsi with h | ⟨t, h⟩
    · exact ⟨0, Or.inl h⟩
    · exact ⟨t, Or.inr h⟩
  refine ⟨fun k => [t0, aK 0, aK 1, aV 0, aV 1, t5, b].getD k 0, ⟨hz0, hT0, ?_, ?_, ?_, hcs, h5, va_AO.of (hts _ (List.mem_of_getElem? (i := 223) (by decide +kernel))), va_Nw.of rfl (hts _ (List.mem_of_getElem? (i := 753) (by decide +kernel))), fun q hq => va_Nw.of rfl (hts _ (nest_in q hq))⟩, rfl⟩
  · refine ⟨fun i hi => ?_, fun i j hi hj he => ?_⟩
    · have hh : i = 0 ∨ i = 1 := by omega
      rcases hh with rfl | rfl
      · exact hS.1 0 hi
      · exact hS.1 1 hi
    · have h1 : i = 0 ∨ i = 1 := by omega
      have h2 : j = 0 ∨ j = 1 := by omega
      rcases h1 with rfl | rfl <;> rcases h2 with rfl | rfl <;> exact hS.2 _ _ hi hj he
  · exact vk_R.of (hts _ (List.mem_of_getElem? (i := 540) (by decide +kernel))) (hE 0 (by omega))
  · exact vk_R.of (hts _ (List.mem_of_getElem? (i := 611) (by decide +kernel))) (hE 1 (by omega))
set_option maxHeartbeats 4000000 in
theorem whole_open {p : Program} {e : Env} {s : State} {m : MethodId} {below : List Frame} {meth : Method} {c : Code} (l : Launch) {b L : Nat} {xs : Nat → Int32} (hL : L ≤ 384) (C0 : lw_At p s m meth c b L xs) (hm : mL_law L xs (fun _ => none) (fun r _ => r = 1)) : W p l e room_1 s m #[Value.ref b] below meth c s.heap [] 0 0 (lw_Z below #[Value.ref b] s) (entryFrame m ([Value.ref b] : List Value).toArray 4) := by
  obtain ⟨hx, hb, hr, hml, hown, hts, hX, hbl, hlk, hgv⟩ := C0
  obtain ⟨D, ca, hK⟩ := lw_K hts
  obtain ⟨sa, hst, h6⟩ := lw_stt b hts hgv
  have hnm : meth.name = "law" ∨ True := Or.inr trivial
  rw [lg_entry_eq]
  refine W_mono ?_ (tL_law (b := b) hL hm l p e room_1 s m #[Value.ref b] below meth c s.heap [] 0 0 sa s.heap.size ca D 0 _ 600000 7302250 ⟨⟨hx, hb, hml, hr, hown, hlk, ?_, hts_g hts, by decide, by decide⟩, hst, Nat.le_refl _, va_S.rf, by omega, ⟨?_, ?_, hK⟩, ?_, by decide, by decide, by decide, by decide, hX, hbl, rfl, h6⟩)
  · intro t ht
    obtain ⟨o, h1, h2, ⟨⟨r, F', N', ho, hq, -⟩, -⟩, L', hF, hLb⟩ := ht
    obtain ⟨y, rfl, rfl⟩ := hq
    subst ho
    refine ⟨_, h1, h2, rfl, hF.1, hF.2.1, hF.2.2.weaken (fun q hq hlt => absurd (hLb q hq) (Nat.not_le.mpr hlt)) (Nat.le_refl _) (Nat.le_refl _)⟩
  · intro h; exact absurd h (by decide)
  · intro h
    constructor
    · intro _; omega
    · intro _; rfl
  · intro k q hk
    rw [ch_get, if_neg (by omega)] at hk
    cases hk
  · have := lv_entry [Value.ref b] (n := 4) (Nat.le_of_ble_eq_true rfl)
    have e6 : cv (ad sa s.heap.size) (vr (some 6)) = .ref b := by show Value.ref (ad sa s.heap.size 6) = _; unfold ad; rw [if_pos (by decide), h6]
    show lv_has _ 4 [(0, cv (ad sa s.heap.size) (vr (some 6)))]
    rw [e6]
    exact this
