-- links: what the tables say of an entry
def fl (own : String) (idx ci k : Nat) : Prop := ∃ (C : String) (T : u_T) (N : Nat), vwCl[ci]? = some (C, T, N) ∧ k < N ∧ (∀ w ∈ u_ws C T N, w ∈ lw_g) ∧ Cond.fieldLink own idx (T k).1 (T k).2.1 (T k).2.2.1 ∈ lw_g
-- what a field takes
def ft (ci k : Nat) (fin : Bool) (ty : FieldType) : Prop := ∃ (C : String) (T : u_T) (N : Nat) (ty0 : Nat → FieldType), vwCl[ci]? = some (C, T, N) ∧ (∀ k, k < N → parseFieldDescriptor (T k).2.2.1 = some (ty0 k)) ∧ (∀ a, a < N → ∀ b, b < N → a ≠ b → (T a).2.1 ≠ (T b).2.1) ∧ (T k).2.2.2 = fin ∧ ty0 k = ty ∧ (T k).1 = C
def okty (g : Nat → Nat) (ty : FieldType) (v : av) : Prop := narrow ty (cv g v) = cv g v ∧ fits ty (cv g v) = true
section AH
variable {ex : State → (Nat → Nat) → Nat → Prop} {M : mi} {d kc ks pc : Nat} {lo : List (Option av)} {st : List av} {F : hp} {Q : Option av → hp → Prop}
theorem wx_F {F' : hp} {p : Program} {R : Room} {s : State} {m : MethodId} {args : Array Value} {meth : Method} {c : Code} {H H' : Heap} {locs locs' : List Loc} {cells slots : Nat} {sa : Nat → Nat} {base : Nat} {ca : Nat → ClassId} {D : va_G} {N : Nat} {ls : Array Slot} {k0 n0 : Nat}
    (X : wx ex M d kc ks lo F p R s m args meth c H locs cells slots sa base ca D N ls k0 n0) (hS : va_S (bs base) s.heap H' locs') (hN : sz F' N) (hP : va_P D vwCl (ch (ad sa base) ca N F') H') : wx ex M d kc ks lo F' p R s m args meth c H' locs' cells slots sa base ca D N ls k0 n0 := by
  obtain ⟨h1, h2, h3, h4, h5, h6, h7, h8⟩ := X
  exact ⟨h1, h2, h3, hS, h5, ⟨hN, hP, h6.2.2⟩, h7, h8⟩
theorem aw_get {idx ci k a : Nat} {fs : List av} {v : av} (L : fl M.1.cls idx ci k) (he : F a = some (cO ci fs)) (hv : fs[k]? = some v) (hd : decode M.2.1 pc = .ok (.getfield idx, 3)) (kk : awx ex M d kc ks (pc + 3) lo (v :: st) F Q) : awx ex M d kc ks pc lo (vr (some a) :: st) F Q := by
  intro l p e R s m args below meth c H locs cells slots sa base ca D N ls k0 n0 X
  obtain ⟨C, T, n, h1, h2, h3, h4⟩ := L
  have hts := X.1.2.2.2.2.2.2.2.1
  have hW := X.2.2.2.2.2.1
  refine va_get (D := D) (ci := ci) (C := C) (T := T) (N := n) X.1.1 X.1.2.1 hts h3 X.1.2.2.2.2.1 hW.2.2 hW.2.1 (a - 8) (ch_at hW.1 he) h1 k h2 (hts _ h4) (fun _ h => h) (v := cv (ad sa base) v) ?_ hd (kk l p e R s m args below meth c H locs cells slots sa base ca D N ls k0 n0 X)
  show (fs.map (cv (ad sa base)))[k]? = _
  rw [List.getElem?_map, hv]
  rfl
theorem set_map {g : Nat → Nat} (fs : List av) (k : Nat) (v : av) : (fs.map (cv g)).set k (cv g v) = (fs.set k v).map (cv g) := by rw [List.map_set]
theorem aw_put {idx ci k a : Nat} {fs : List av} {v : av} {ty : FieldType} (L : fl M.1.cls idx ci k) (L2 : ft ci k false ty) (he : F a = some (cO ci fs)) (hk : k < fs.length) (hv : ∀ g, okty g ty v) (hd : decode M.2.1 pc = .ok (.putfield idx, 3)) (kk : awx ex M d kc ks (pc + 3) lo st (hs F a (cO ci (fs.set k v))) Q) : awx ex M d kc ks pc lo (v :: vr (some a) :: st) F Q := by
  intro l p e R s m args below meth c H locs cells slots sa base ca D N ls k0 n0 X
  obtain ⟨C, T, n, h1, h2, h3, h4⟩ := L
  obtain ⟨C', T', n', ty0, g1, g2, g3, g4, g5, g6⟩ := L2
  cases h1.symm.trans g1
  have hts := X.1.2.2.2.2.2.2.2.1
  have hW := X.2.2.2.2.2.1
  refine va_put (D := D) (ci := ci) (C := C) (T := T) (N := n) (v := cv (ad sa base) v) (ty := ty) X.1.1 X.1.2.1 hts h3 ty0 g2 g3 X.1.2.2.2.2.1 hW.2.2 hW.2.1 (ch_D sa base ca N F) X.2.2.2.1 (a - 8) (ch_at hW.1 he) h1 k h2 (hts _ h4) (fun _ h => h) g4 (by rw [g2 k h2, g5]) (hv _).1 (hv _).2 (by simpa using hk) hd (fun H1 locs1 hP _ hS => ?_)
  refine kk l p e R s m args below meth c H1 locs1 cells slots sa base ca D N ls k0 n0 (wx_F X hS (hs_sz hW.1 he) ?_)
  rw [set_map] at hP
  have e2 := ch_set (g := ad sa base) (ca := ca) (c' := cO ci (fs.set k v)) hW.1 he
  rw [← e2]
  exact hP
theorem aw_putF {idx ci k a : Nat} {fs : List av} {v : av} {ty : FieldType} (L : fl M.1.cls idx ci k) (L2 : ft ci k true ty) (hC : (vwCl[ci]?).map (fun q => q.1) = some M.1.cls) (hn : M.1.name = "<init>") (he : F a = some (cO ci fs)) (hk : k < fs.length) (hv : ∀ g, okty g ty v) (hd : decode M.2.1 pc = .ok (.putfield idx, 3)) (kk : awx ex M d kc ks (pc + 3) lo st (hs F a (cO ci (fs.set k v))) Q) : awx ex M d kc ks pc lo (v :: vr (some a) :: st) F Q := by
  intro l p e R s m args below meth c H locs cells slots sa base ca D N ls k0 n0 X
  obtain ⟨C, T, n, h1, h2, h3, h4⟩ := L
  obtain ⟨C', T', n', ty0, g1, g2, g3, g4, g5, g6⟩ := L2
  cases h1.symm.trans g1
  have hts := X.1.2.2.2.2.2.2.2.1
  have hW := X.2.2.2.2.2.1
  rw [h1] at hC
  have hC : C = M.1.cls := by simpa using hC
  refine va_putF (D := D) (ci := ci) (C := C) (T := T) (N := n) (v := cv (ad sa base) v) (ty := ty) X.1.1 X.1.2.1 hts h3 ty0 g2 g3 X.1.2.2.2.2.1 hW.2.2 hW.2.1 (ch_D sa base ca N F) X.2.2.2.1 (a - 8) (ch_at hW.1 he) h1 k h2 (hts _ h4) (fun _ h => h) g4 (X.1.2.2.2.2.2.2.1 hn) (g6.trans hC) (by rw [g2 k h2, g5]) (hv _).1 (hv _).2 (by simpa using hk) hd (fun H1 locs1 hP _ hS => ?_)
  refine kk l p e R s m args below meth c H1 locs1 cells slots sa base ca D N ls k0 n0 (wx_F X hS (hs_sz hW.1 he) ?_)
  rw [set_map] at hP
  have e2 := ch_set (g := ad sa base) (ca := ca) (c' := cO ci (fs.set k v)) hW.1 he
  rw [← e2]
  exact hP
-- arrays
theorem ce_i (g : Nat → Nat) (ca : Nat → ClassId) {k : Nat} (h : k ≠ 3) (n : Int) (f : Int → Int) : ce g ca (cA k n f) = .inl (ca k, n.toNat, .inl (fun j => Int32.ofInt (f j))) := by
  show (if k = 3 then _ else _) = _
  rw [if_neg h]
theorem ce_l (g : Nat → Nat) (ca : Nat → ClassId) (n : Int) (f : Int → Int) : ce g ca (cA 3 n f) = .inl (ca 3, n.toNat, .inr (.inl (fun j => Int64.ofInt (f j)))) := rfl
theorem toN {i : Int} (h : 0 ≤ i) : ((i.toNat : Nat) : Int) = i := Int.toNat_of_nonneg h
theorem us_i (f : Int → Int) {i : Int} (h : 0 ≤ i) (v : Int) : (fun j : Nat => Int32.ofInt (us f i v j)) = upd (fun j : Nat => Int32.ofInt (f j)) i.toNat (Int32.ofInt v) := by
  funext j
  unfold us upd
  by_cases hj : j = i.toNat
  · rw [if_pos hj, if_pos (by omega)]
  · rw [if_neg hj, if_neg (by omega)]
theorem us_l (f : Int → Int) {i : Int} (h : 0 ≤ i) (v : Int) : (fun j : Nat => Int64.ofInt (us f i v j)) = vp_updL (fun j : Nat => Int64.ofInt (f j)) i.toNat (Int64.ofInt v) := by
  funext j
  unfold us vp_updL
  by_cases hj : j = i.toNat
  · rw [if_pos hj, if_pos (by omega)]
  · rw [if_neg hj, if_neg (by omega)]
theorem us_q (g : Nat → Nat) (f : Int → Option Nat) {i : Int} (h : 0 ≤ i) (v : Nat) : (fun j : Nat => (us f i (some v) j).map g) = va_up (fun j : Nat => (f j).map g) i.toNat (some (g v)) := by
  funext j
  unfold us va_up
  by_cases hj : j = i.toNat
  · rw [if_pos hj, if_pos (by omega)]; rfl
  · rw [if_neg hj, if_neg (by omega)]
theorem aw_iald {a : Nat} {n i : Int} {f : Int → Int} (he : F a = some (cA 0 n f)) (hn : n ≤ 2147483647) (h0 : 0 ≤ i) (h1 : i < n) (hd : decode M.2.1 pc = .ok (.iaload, 1)) (kk : awx ex M d kc ks (pc + 1) lo (vi (f i) :: st) F Q) : awx ex M d kc ks pc lo (vi i :: vr (some a) :: st) F Q := by
  intro l p e R s m args below meth c H locs cells slots sa base ca D N ls k0 n0 X
  have hW := X.2.2.2.2.2.1
  refine va_iald X.1.1 X.1.2.1 hW.2.2 hW.2.1 (a - 8) 0 (by rw [ch_at hW.1 he, ce_i _ _ (by decide)]) rfl (ix_in h0 h1 hn) hd ?_
  rw [ix_cl h0 (by omega), toN h0]
  exact kk l p e R s m args below meth c H locs cells slots sa base ca D N ls k0 n0 X
theorem aw_bald {a : Nat} {n i : Int} {f : Int → Int} (he : F a = some (cA 1 n f)) (hn : n ≤ 2147483647) (h0 : 0 ≤ i) (h1 : i < n) (hd : decode M.2.1 pc = .ok (.baload, 1)) (kk : awx ex M d kc ks (pc + 1) lo (vi (f i) :: st) F Q) : awx ex M d kc ks pc lo (vi i :: vr (some a) :: st) F Q := by
  intro l p e R s m args below meth c H locs cells slots sa base ca D N ls k0 n0 X
  have hW := X.2.2.2.2.2.1
  refine va_bald X.1.1 X.1.2.1 hW.2.2 hW.2.1 (a - 8) 1 (by rw [ch_at hW.1 he, ce_i _ _ (by decide)]) rfl (ix_in h0 h1 hn) hd ?_
  rw [ix_cl h0 (by omega), toN h0]
  exact kk l p e R s m args below meth c H locs cells slots sa base ca D N ls k0 n0 X
theorem aw_zald {a : Nat} {n i : Int} {f : Int → Int} (he : F a = some (cA 2 n f)) (hn : n ≤ 2147483647) (h0 : 0 ≤ i) (h1 : i < n) (hd : decode M.2.1 pc = .ok (.baload, 1)) (kk : awx ex M d kc ks (pc + 1) lo (vi (f i) :: st) F Q) : awx ex M d kc ks pc lo (vi i :: vr (some a) :: st) F Q := by
  intro l p e R s m args below meth c H locs cells slots sa base ca D N ls k0 n0 X
  have hW := X.2.2.2.2.2.1
  refine va_zald X.1.1 X.1.2.1 hW.2.2 hW.2.1 (a - 8) 2 (by rw [ch_at hW.1 he, ce_i _ _ (by decide)]) rfl (ix_in h0 h1 hn) hd ?_
  rw [ix_cl h0 (by omega), toN h0]
  exact kk l p e R s m args below meth c H locs cells slots sa base ca D N ls k0 n0 X
theorem aw_lald {a : Nat} {n i : Int} {f : Int → Int} (he : F a = some (cA 3 n f)) (hn : n ≤ 2147483647) (h0 : 0 ≤ i) (h1 : i < n) (hd : decode M.2.1 pc = .ok (.laload, 1)) (kk : awx ex M d kc ks (pc + 1) lo (vl (f i) :: st) F Q) : awx ex M d kc ks pc lo (vi i :: vr (some a) :: st) F Q := by
  intro l p e R s m args below meth c H locs cells slots sa base ca D N ls k0 n0 X
  have hW := X.2.2.2.2.2.1
  refine va_lald X.1.1 X.1.2.1 hW.2.2 hW.2.1 (a - 8) 3 (by rw [ch_at hW.1 he, ce_l]) rfl (ix_in h0 h1 hn) hd ?_
  rw [ix_cl h0 (by omega), toN h0]
  exact kk l p e R s m args below meth c H locs cells slots sa base ca D N ls k0 n0 X
theorem aw_aald {a : Nat} {n i : Int} {f : Int → Option Nat} (he : F a = some (cT n f)) (hn : n ≤ 2147483647) (h0 : 0 ≤ i) (h1 : i < n) (hd : decode M.2.1 pc = .ok (.aaload, 1)) (kk : awx ex M d kc ks (pc + 1) lo (vr (f i) :: st) F Q) : awx ex M d kc ks pc lo (vi i :: vr (some a) :: st) F Q := by
  intro l p e R s m args below meth c H locs cells slots sa base ca D N ls k0 n0 X
  have hW := X.2.2.2.2.2.1
  refine va_aldq X.1.1 X.1.2.1 hW.2.2 hW.2.1 (a - 8) 4 (ch_at hW.1 he) rfl (ix_in h0 h1 hn) hd ?_
  rw [ix_cl h0 (by omega), toN h0]
  exact kk l p e R s m args below meth c H locs cells slots sa base ca D N ls k0 n0 X
theorem aw_iast {a : Nat} {n i v : Int} {f : Int → Int} (he : F a = some (cA 0 n f)) (hn : n ≤ 2147483647) (h0 : 0 ≤ i) (h1 : i < n) (hd : decode M.2.1 pc = .ok (.iastore, 1)) (kk : awx ex M d kc ks (pc + 1) lo st (hs F a (cA 0 n (us f i v))) Q) : awx ex M d kc ks pc lo (vi v :: vi i :: vr (some a) :: st) F Q := by
  intro l p e R s m args below meth c H locs cells slots sa base ca D N ls k0 n0 X
  have hW := X.2.2.2.2.2.1
  refine va_iast X.1.1 X.1.2.1 hW.2.2 hW.2.1 (ch_D sa base ca N F) X.2.2.2.1 (a - 8) 0 (by rw [ch_at hW.1 he, ce_i _ _ (by decide)]) rfl (ix_in h0 h1 hn) hd (fun H1 locs1 hP _ hS => ?_)
  refine kk l p e R s m args below meth c H1 locs1 cells slots sa base ca D N ls k0 n0 (wx_F X hS (hs_sz hW.1 he) ?_)
  have e2 := ch_set (g := ad sa base) (ca := ca) (c' := cA 0 n (us f i v)) hW.1 he
  rw [← e2, ce_i _ _ (by decide), us_i f h0 v]
  rw [ix_cl h0 (by omega)] at hP
  exact hP
theorem aw_bast {a : Nat} {n i v : Int} {f : Int → Int} (he : F a = some (cA 1 n f)) (hn : n ≤ 2147483647) (h0 : 0 ≤ i) (h1 : i < n) (hd : decode M.2.1 pc = .ok (.bastore, 1)) (kk : awx ex M d kc ks (pc + 1) lo st (hs F a (cA 1 n (us f i (iB v)))) Q) : awx ex M d kc ks pc lo (vi v :: vi i :: vr (some a) :: st) F Q := by
  intro l p e R s m args below meth c H locs cells slots sa base ca D N ls k0 n0 X
  have hW := X.2.2.2.2.2.1
  refine va_bast X.1.1 X.1.2.1 hW.2.2 hW.2.1 (ch_D sa base ca N F) X.2.2.2.1 (a - 8) 1 (by rw [ch_at hW.1 he, ce_i _ _ (by decide)]) rfl (ix_in h0 h1 hn) hd (fun H1 locs1 hP _ hS => ?_)
  refine kk l p e R s m args below meth c H1 locs1 cells slots sa base ca D N ls k0 n0 (wx_F X hS (hs_sz hW.1 he) ?_)
  have e2 := ch_set (g := ad sa base) (ca := ca) (c' := cA 1 n (us f i (iB v))) hW.1 he
  rw [← e2, ce_i _ _ (by decide), us_i f h0, iB, Int32.ofInt_toInt]
  rw [ix_cl h0 (by omega), vp_nar_byte] at hP
  exact hP
theorem aw_zast {a : Nat} {n i v : Int} {f : Int → Int} (he : F a = some (cA 2 n f)) (hn : n ≤ 2147483647) (h0 : 0 ≤ i) (h1 : i < n) (hv : v = 0 ∨ v = 1) (hd : decode M.2.1 pc = .ok (.bastore, 1)) (kk : awx ex M d kc ks (pc + 1) lo st (hs F a (cA 2 n (us f i v))) Q) : awx ex M d kc ks pc lo (vi v :: vi i :: vr (some a) :: st) F Q := by
  intro l p e R s m args below meth c H locs cells slots sa base ca D N ls k0 n0 X
  have hW := X.2.2.2.2.2.1
  refine va_zast X.1.1 X.1.2.1 hW.2.2 hW.2.1 (ch_D sa base ca N F) X.2.2.2.1 (a - 8) 2 (by rw [ch_at hW.1 he, ce_i _ _ (by decide)]) rfl (ix_in h0 h1 hn) hd (fun H1 locs1 hP _ hS => ?_)
  refine kk l p e R s m args below meth c H1 locs1 cells slots sa base ca D N ls k0 n0 (wx_F X hS (hs_sz hW.1 he) ?_)
  have e2 := ch_set (g := ad sa base) (ca := ca) (c' := cA 2 n (us f i v)) hW.1 he
  rw [← e2, ce_i _ _ (by decide), us_i f h0]
  have e3 : vp_nar .boolean (Int32.ofInt v) = Int32.ofInt v := by rcases hv with rfl | rfl <;> decide
  rw [ix_cl h0 (by omega), e3] at hP
  exact hP
theorem aw_last {a : Nat} {n i v : Int} {f : Int → Int} (he : F a = some (cA 3 n f)) (hn : n ≤ 2147483647) (h0 : 0 ≤ i) (h1 : i < n) (hd : decode M.2.1 pc = .ok (.lastore, 1)) (kk : awx ex M d kc ks (pc + 1) lo st (hs F a (cA 3 n (us f i v))) Q) : awx ex M d kc ks pc lo (vl v :: vi i :: vr (some a) :: st) F Q := by
  intro l p e R s m args below meth c H locs cells slots sa base ca D N ls k0 n0 X
  have hW := X.2.2.2.2.2.1
  refine va_last X.1.1 X.1.2.1 hW.2.2 hW.2.1 (ch_D sa base ca N F) X.2.2.2.1 (a - 8) 3 (by rw [ch_at hW.1 he, ce_l]) rfl (ix_in h0 h1 hn) hd (fun H1 locs1 hP _ hS => ?_)
  refine kk l p e R s m args below meth c H1 locs1 cells slots sa base ca D N ls k0 n0 (wx_F X hS (hs_sz hW.1 he) ?_)
  have e2 := ch_set (g := ad sa base) (ca := ca) (c' := cA 3 n (us f i v)) hW.1 he
  rw [← e2, ce_l, us_l f h0]
  rw [ix_cl h0 (by omega)] at hP
  exact hP
theorem aw_aast {a b : Nat} {n i : Int} {f : Int → Option Nat} {fs : List av} (he : F a = some (cT n f)) (hb : F b = some (cO 8 fs)) (hn : n ≤ 2147483647) (h0 : 0 ≤ i) (h1 : i < n) (hd : decode M.2.1 pc = .ok (.aastore, 1)) (kk : awx ex M d kc ks (pc + 1) lo st (hs F a (cT n (us f i (some b)))) Q) : awx ex M d kc ks pc lo (vr (some b) :: vi i :: vr (some a) :: st) F Q := by
  intro l p e R s m args below meth c H locs cells slots sa base ca D N ls k0 n0 X
  have hW := X.2.2.2.2.2.1
  refine va_astq (r := (RX8, TX8, 3)) X.1.1 X.1.2.1 hW.2.2 hW.2.1 (ch_D sa base ca N F) X.2.2.2.1 (a - 8) 4 (b - 8) 8 (ch_at hW.1 he) rfl (ch_at hW.1 hb) rfl (ix_in h0 h1 hn) hd (fun H1 locs1 hP _ hS => ?_)
  refine kk l p e R s m args below meth c H1 locs1 cells slots sa base ca D N ls k0 n0 (wx_F X hS (hs_sz hW.1 he) ?_)
  have e2 := ch_set (g := ad sa base) (ca := ca) (c' := cT n (us f i (some b))) hW.1 he
  rw [← e2]
  show va_P D vwCl ((ch (ad sa base) ca N F).set (a - 8) (ad sa base a, .inl (ca 4, n.toNat, .inr (.inr (.inr (.inr (fun j => (us f i (some b) j).map (ad sa base)))))))) H1
  rw [us_q _ f h0]
  rw [ix_cl h0 (by omega)] at hP
  exact hP
theorem aw_alen {a k : Nat} {n : Int} {f : Int → Int} (he : F a = some (cA k n f)) (hk : k < 4) (h0 : 0 ≤ n) (hn : n ≤ 2147483647) (hd : decode M.2.1 pc = .ok (.arraylength, 1)) (kk : awx ex M d kc ks (pc + 1) lo (vi n :: st) F Q) : awx ex M d kc ks pc lo (vr (some a) :: st) F Q := by
  intro l p e R s m args below meth c H locs cells slots sa base ca D N ls k0 n0 X
  have hW := X.2.2.2.2.2.1
  have e1 : Int32.ofNat n.toNat = Int32.ofInt n := by rw [← Int32.ofInt_eq_ofNat, toN h0]
  have hk4 : k = 0 ∨ k = 1 ∨ k = 2 ∨ k = 3 := by omega
  rcases hk4 with rfl | rfl | rfl | rfl
  · exact va_alen X.1.1 X.1.2.1 hW.2.2 hW.2.1 (a - 8) 0 (by rw [ch_at hW.1 he, ce_i _ _ (by decide)]) (ty := .int) rfl e1 hd (kk l p e R s m args below meth c H locs cells slots sa base ca D N ls k0 n0 X)
  · exact va_alen X.1.1 X.1.2.1 hW.2.2 hW.2.1 (a - 8) 1 (by rw [ch_at hW.1 he, ce_i _ _ (by decide)]) (ty := .byte) rfl e1 hd (kk l p e R s m args below meth c H locs cells slots sa base ca D N ls k0 n0 X)
  · exact va_alen X.1.1 X.1.2.1 hW.2.2 hW.2.1 (a - 8) 2 (by rw [ch_at hW.1 he, ce_i _ _ (by decide)]) (ty := .boolean) rfl e1 hd (kk l p e R s m args below meth c H locs cells slots sa base ca D N ls k0 n0 X)
  · exact va_alen X.1.1 X.1.2.1 hW.2.2 hW.2.1 (a - 8) 3 (by rw [ch_at hW.1 he, ce_l]) (ty := .long) rfl e1 hd (kk l p e R s m args below meth c H locs cells slots sa base ca D N ls k0 n0 X)
end AH
