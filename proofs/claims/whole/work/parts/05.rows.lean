-- ----- numbers -----
def w32 (x : Int) : Int := (Int32.ofInt x).toInt
def w64 (x : Int) : Int := (Int64.ofInt x).toInt
theorem of_w32 (x : Int) : Int32.ofInt (w32 x) = Int32.ofInt x := Int32.ofInt_toInt _
theorem of_w64 (x : Int) : Int64.ofInt (w64 x) = Int64.ofInt x := Int64.ofInt_toInt _
theorem w32_id {x : Int} (h1 : -2147483648 ≤ x) (h2 : x ≤ 2147483647) : w32 x = x := Int32.toInt_ofInt_of_le (by omega) (by omega)
theorem w64_id {x : Int} (h1 : -9223372036854775808 ≤ x) (h2 : x ≤ 9223372036854775807) : w64 x = x := Int64.toInt_ofInt_of_le (by omega) (by omega)
theorem w32_lo (x : Int) : -2147483648 ≤ w32 x := by have := Int32.le_toInt (Int32.ofInt x); unfold w32; omega
theorem w32_hi (x : Int) : w32 x ≤ 2147483647 := by have := Int32.toInt_lt (Int32.ofInt x); unfold w32; omega
theorem w64_lo (x : Int) : -9223372036854775808 ≤ w64 x := by have := Int64.le_toInt (Int64.ofInt x); unfold w64; omega
theorem w64_hi (x : Int) : w64 x ≤ 9223372036854775807 := by have := Int64.toInt_lt (Int64.ofInt x); unfold w64; omega
def iAnd (x y : Int) : Int := (Int32.ofInt x &&& Int32.ofInt y).toInt
def iOr (x y : Int) : Int := (Int32.ofInt x ||| Int32.ofInt y).toInt
def iXor (x y : Int) : Int := (Int32.ofInt x ^^^ Int32.ofInt y).toInt
def iShl (x y : Int) : Int := (Int32.ofInt x <<< (Int32.ofInt y &&& 31)).toInt
def iShr (x y : Int) : Int := (Int32.ofInt x >>> (Int32.ofInt y &&& 31)).toInt
def iUshr (x y : Int) : Int := ((Int32.ofInt x).toUInt32 >>> ((Int32.ofInt y).toUInt32 &&& Int32.toUInt32 31)).toInt32.toInt
def lOr (x y : Int) : Int := (Int64.ofInt x ||| Int64.ofInt y).toInt
def lShl (x y : Int) : Int := (Int64.ofInt x <<< ((Int32.ofInt y).toInt64 &&& 63)).toInt
def lShr (x y : Int) : Int := (Int64.ofInt x >>> ((Int32.ofInt y).toInt64 &&& 63)).toInt
def iB (x : Int) : Int := (Int32.ofInt x).toInt8.toInt32.toInt
def iC (x : Int) : Int := ((Int32.ofInt x).toUInt32 % 65536).toInt32.toInt
def iCmp (x y : Int) : Int := if w64 y < w64 x then 1 else if w64 x = w64 y then 0 else -1
theorem lt32 (x y : Int) : Int32.ofInt x < Int32.ofInt y ↔ w32 x < w32 y := Int32.lt_iff_toInt_lt
theorem le32 (x y : Int) : Int32.ofInt x ≤ Int32.ofInt y ↔ w32 x ≤ w32 y := Int32.le_iff_toInt_le
theorem eq32 (x y : Int) : Int32.ofInt x = Int32.ofInt y ↔ w32 x = w32 y := Int32.toInt_inj.symm
theorem lt64 (x y : Int) : Int64.ofInt x < Int64.ofInt y ↔ w64 x < w64 y := Int64.lt_iff_toInt_lt
theorem eq64 (x y : Int) : Int64.ofInt x = Int64.ofInt y ↔ w64 x = w64 y := Int64.toInt_inj.symm
theorem of0 : Int32.ofInt 0 = 0 := by decide
theorem w320 : w32 0 = 0 := by decide
theorem eq320 (x : Int) : Int32.ofInt x = 0 ↔ w32 x = 0 := by rw [← of0, eq32, w320]
theorem lt320 (x : Int) : Int32.ofInt x < 0 ↔ w32 x < 0 := by rw [← of0, lt32, w320]
theorem gt320 (x : Int) : 0 < Int32.ofInt x ↔ 0 < w32 x := by rw [← of0, lt32, w320]
theorem le320 (x : Int) : Int32.ofInt x ≤ 0 ↔ ¬ 0 < w32 x := by rw [← of0, le32, w320]; omega
theorem ge320 (x : Int) : 0 ≤ Int32.ofInt x ↔ ¬ w32 x < 0 := by rw [← of0, le32, w320]; omega
theorem le32n (x y : Int) : Int32.ofInt x ≤ Int32.ofInt y ↔ ¬ w32 y < w32 x := by rw [le32]; omega
theorem div32 (x y : Int) : Int32.ofInt x / Int32.ofInt y = Int32.ofInt ((w32 x).tdiv (w32 y)) := by
  apply Int32.toInt_inj.mp
  have e : (Int32.ofInt x / Int32.ofInt y).toInt = ((w32 x).tdiv (w32 y)).bmod (2 ^ 32) := Int32.toInt_div _ _
  rw [e, Int32.toInt_ofInt]
theorem rem32 (x y : Int) : Int32.ofInt x - Int32.ofInt x / Int32.ofInt y * Int32.ofInt y = Int32.ofInt ((w32 x).tmod (w32 y)) := by
  rw [div32]
  have e : Int32.ofInt x - Int32.ofInt ((w32 x).tdiv (w32 y)) * Int32.ofInt y = Int32.ofInt (w32 x) - Int32.ofInt ((w32 x).tdiv (w32 y)) * Int32.ofInt (w32 y) := by rw [of_w32 x, of_w32 y]
  rw [e, ← Int32.ofInt_mul, ← Int32.ofInt_sub]
  congr 1
  rw [Int.tmod_def, Int.mul_comm]
theorem div64 (x y : Int) : Int64.ofInt x / Int64.ofInt y = Int64.ofInt ((w64 x).tdiv (w64 y)) := by
  apply Int64.toInt_inj.mp
  have e : (Int64.ofInt x / Int64.ofInt y).toInt = ((w64 x).tdiv (w64 y)).bmod (2 ^ 64) := Int64.toInt_div _ _
  rw [e, Int64.toInt_ofInt]
theorem rem64 (x y : Int) : Int64.ofInt x - Int64.ofInt x / Int64.ofInt y * Int64.ofInt y = Int64.ofInt ((w64 x).tmod (w64 y)) := by
  rw [div64]
  have e : Int64.ofInt x - Int64.ofInt ((w64 x).tdiv (w64 y)) * Int64.ofInt y = Int64.ofInt (w64 x) - Int64.ofInt ((w64 x).tdiv (w64 y)) * Int64.ofInt (w64 y) := by rw [of_w64 x, of_w64 y]
  rw [e, ← Int64.ofInt_mul, ← Int64.ofInt_sub]
  congr 1
  rw [Int.tmod_def, Int.mul_comm]
theorem ix_nn {i : Int} (h0 : 0 ≤ i) (h1 : i ≤ 2147483647) : ¬ Int32.ofInt i < 0 := by
  intro h
  have h2 : w32 i < 0 := (lt320 i).mp h
  rw [w32_id (by omega) h1] at h2
  omega
theorem ix_cl {i : Int} (h0 : 0 ≤ i) (h1 : i ≤ 2147483647) : (Int32.ofInt i).toNatClampNeg = i.toNat := by
  show (Int32.ofInt i).toInt.toNat = i.toNat
  rw [show (Int32.ofInt i).toInt = i from w32_id (by omega) h1]
theorem ix_in {i n : Int} (h0 : 0 ≤ i) (h1 : i < n) (hn : n ≤ 2147483647) : vp_in (Int32.ofInt i) n.toNat := by
  intro h
  rcases h with h | h
  · exact ix_nn h0 (by omega) h
  · rw [ix_cl h0 (by omega)] at h
    omega
theorem i2l_eq (x : Int) : (Int32.ofInt x).toInt64 = Int64.ofInt (w32 x) := by
  apply Int64.toInt_inj.mp
  rw [Int32.toInt_toInt64]
  exact (w64_id (x := w32 x) (by have := w32_lo x; omega) (by have := w32_hi x; omega)).symm
section AW
variable {ex : State → (Nat → Nat) → Nat → Prop} {M : mi} {d kc ks pc : Nat} {lo : List (Option av)} {st : List av} {F : hp} {Q : Option av → hp → Prop}
theorem aw_go {pc' : Nat} {st' : List av} (h : ∀ {l : Launch} {p : Program} {e : Env} {R : Room} {s : State} {m : MethodId} {args : Array Value} {below : List Frame} {meth : Method} {c : Code} {H : Heap} {locs : List Loc} {cells slots : Nat} {Z : State → Prop} {ls : Array Slot} (g : Nat → Nat), p.tables.exec = Jvm.exec → c.code = M.2.1 → lv_has ls M.2.2.1 (lc g 0 lo) → s.vm.findClass M.1.cls = some m.cls → (∀ w ∈ lw_g, w.before args s = true) → W p l e R s m args below meth c H locs cells slots Z (F0 m pc' ls (st'.map (cv g))) → W p l e R s m args below meth c H locs cells slots Z (F0 m pc ls (st.map (cv g)))) (k : awx ex M d kc ks pc' lo st' F Q) : awx ex M d kc ks pc lo st F Q := by
  intro l p e R s m args below meth c H locs cells slots sa base ca D N ls k0 n0 X
  exact h (ad sa base) X.1.1 X.1.2.1 X.2.2.2.2.2.2.1 X.1.2.2.2.2.1 X.1.2.2.2.2.2.2.2.1 (k l p e R s m args below meth c H locs cells slots sa base ca D N ls k0 n0 X)
theorem aw_iconst {n : Int} (hd : decode M.2.1 pc = .ok (.iconst n, 1)) (k : awx ex M d kc ks (pc + 1) lo (vi n :: st) F Q) : awx ex M d kc ks pc lo st F Q := aw_go (fun g hx hb _ _ _ z => lv_iconst hx hb hd rfl z) k
theorem aw_bipush {n : Int} (hd : decode M.2.1 pc = .ok (.bipush n, 2)) (hv : (Int8.ofInt n).toInt32 = Int32.ofInt n) (k : awx ex M d kc ks (pc + 2) lo (vi n :: st) F Q) : awx ex M d kc ks pc lo st F Q := aw_go (fun g hx hb _ _ _ z => lv_bipush hx hb hd hv z) k
theorem aw_sipush {n : Int} (hd : decode M.2.1 pc = .ok (.sipush n, 3)) (hv : (Int16.ofInt n).toInt32 = Int32.ofInt n) (k : awx ex M d kc ks (pc + 3) lo (vi n :: st) F Q) : awx ex M d kc ks pc lo st F Q := aw_go (fun g hx hb _ _ _ z => lv_sipush hx hb hd hv z) k
theorem aw_ldc {i : Nat} {n : Int} (hd : decode M.2.1 pc = .ok (.ldc i, 2)) (hv : Cond.constant M.1.cls i (Int32.ofInt n) ∈ lw_g) (k : awx ex M d kc ks (pc + 2) lo (vi n :: st) F Q) : awx ex M d kc ks pc lo st F Q := aw_go (fun g hx hb _ ho ht z => lv_ldc hx hb ho (ht _ hv) hd z) k
theorem aw_ldcw {i : Nat} {n : Int} (hd : decode M.2.1 pc = .ok (.ldc_w i, 3)) (hv : Cond.constant M.1.cls i (Int32.ofInt n) ∈ lw_g) (k : awx ex M d kc ks (pc + 3) lo (vi n :: st) F Q) : awx ex M d kc ks pc lo st F Q := aw_go (fun g hx hb _ ho ht z => lv_ldcw hx hb ho (ht _ hv) hd z) k
theorem aw_ldc2 {i : Nat} {n : Int} (hd : decode M.2.1 pc = .ok (.ldc2_w i, 3)) (hv : Cond.constantLong M.1.cls i (Int64.ofInt n) ∈ lw_g) (k : awx ex M d kc ks (pc + 3) lo (vl n :: st) F Q) : awx ex M d kc ks pc lo st F Q := aw_go (fun g hx hb _ ho ht z => lv_ldc2 hx hb ho (ht _ hv) hd z) k
theorem aw_lconst {n : Fin 2} {v : Int} (hd : decode M.2.1 pc = .ok (.lconst n, 1)) (hv : Int64.ofNat (n : Nat) = Int64.ofInt v) (k : awx ex M d kc ks (pc + 1) lo (vl v :: st) F Q) : awx ex M d kc ks pc lo st F Q := aw_go (fun g hx hb _ _ _ z => lv_lconst hx hb hd hv z) k
theorem aw_null (hd : decode M.2.1 pc = .ok (.aconst_null, 1)) (k : awx ex M d kc ks (pc + 1) lo (vr none :: st) F Q) : awx ex M d kc ks pc lo st F Q := aw_go (fun g hx hb _ _ _ z => lv_null hx hb hd z) k
theorem aw_iload_n {j : Fin 4} {i : Nat} {x : Int} (hd : decode M.2.1 pc = .ok (.iload_n j, 1)) (hi : (j : Nat) = i) (hl : lo[i]? = some (some (vi x))) (k : awx ex M d kc ks (pc + 1) lo (vi x :: st) F Q) : awx ex M d kc ks pc lo st F Q := aw_go (fun g hx hb hlv _ _ z => lv_iload_n hx hb hd hi (lo_at hlv hl) z) k
theorem aw_iload {i : Nat} {x : Int} (hd : decode M.2.1 pc = .ok (.iload i, 2)) (hl : lo[i]? = some (some (vi x))) (k : awx ex M d kc ks (pc + 2) lo (vi x :: st) F Q) : awx ex M d kc ks pc lo st F Q := aw_go (fun g hx hb hlv _ _ z => lv_iload hx hb hd (lo_at hlv hl) z) k
theorem aw_lload_n {j : Fin 4} {i : Nat} {x : Int} (hd : decode M.2.1 pc = .ok (.lload_n j, 1)) (hi : (j : Nat) = i) (hl : lo[i]? = some (some (vl x))) (k : awx ex M d kc ks (pc + 1) lo (vl x :: st) F Q) : awx ex M d kc ks pc lo st F Q := aw_go (fun g hx hb hlv _ _ z => lv_lload_n hx hb hd hi (lo_at hlv hl) z) k
theorem aw_lload {i : Nat} {x : Int} (hd : decode M.2.1 pc = .ok (.lload i, 2)) (hl : lo[i]? = some (some (vl x))) (k : awx ex M d kc ks (pc + 2) lo (vl x :: st) F Q) : awx ex M d kc ks pc lo st F Q := aw_go (fun g hx hb hlv _ _ z => lv_lload hx hb hd (lo_at hlv hl) z) k
theorem aw_aload_n {j : Fin 4} {i : Nat} {x : Option Nat} (hd : decode M.2.1 pc = .ok (.aload_n j, 1)) (hi : (j : Nat) = i) (hl : lo[i]? = some (some (vr x))) (k : awx ex M d kc ks (pc + 1) lo (vr x :: st) F Q) : awx ex M d kc ks pc lo st F Q := by
  cases x with
  | none => exact aw_go (fun g hx hb hlv _ _ z => lv_aload_nN hx hb hd hi (lo_at hlv hl) z) k
  | some x => exact aw_go (fun g hx hb hlv _ _ z => lv_aload_n hx hb hd hi (lo_at hlv hl) z) k
theorem aw_aload {i : Nat} {x : Option Nat} (hd : decode M.2.1 pc = .ok (.aload i, 2)) (hl : lo[i]? = some (some (vr x))) (k : awx ex M d kc ks (pc + 2) lo (vr x :: st) F Q) : awx ex M d kc ks pc lo st F Q := by
  cases x with
  | none => exact aw_go (fun g hx hb hlv _ _ z => lv_aloadN hx hb hd (lo_at hlv hl) z) k
  | some x => exact aw_go (fun g hx hb hlv _ _ z => lv_aload hx hb hd (lo_at hlv hl) z) k
-- stores into locals
theorem wx_lo {lo' : List (Option av)} {p : Program} {R : Room} {s : State} {m : MethodId} {args : Array Value} {meth : Method} {c : Code} {H : Heap} {locs : List Loc} {cells slots : Nat} {sa : Nat → Nat} {base : Nat} {ca : Nat → ClassId} {D : va_G} {N : Nat} {ls ls' : Array Slot} {k0 n0 : Nat}
    (X : wx ex M d kc ks lo F p R s m args meth c H locs cells slots sa base ca D N ls k0 n0) (h : lv_has ls' M.2.2.1 (lc (ad sa base) 0 lo')) : wx ex M d kc ks lo' F p R s m args meth c H locs cells slots sa base ca D N ls' k0 n0 := by
  obtain ⟨h1, h2, h3, h4, h5, h6, -, h8⟩ := X
  exact ⟨h1, h2, h3, h4, h5, h6, h, h8⟩
theorem aw_istore_n {j : Fin 4} {i : Nat} {x : Int} (hd : decode M.2.1 pc = .ok (.istore_n j, 1)) (hi : (j : Nat) = i) (hn : i < M.2.2.1) (k : awx ex M d kc ks (pc + 1) (st1 lo i (vi x)) st F Q) : awx ex M d kc ks pc lo (vi x :: st) F Q := by
  intro l p e R s m args below meth c H locs cells slots sa base ca D N ls k0 n0 X
  exact lv_istore_n X.1.1 X.1.2.1 hd hi X.2.2.2.2.2.2.1 hn rfl (fun ls' h => k l p e R s m args below meth c H locs cells slots sa base ca D N ls' k0 n0 (wx_lo X (lo_st1 (v := vi x) h)))
theorem aw_istore {i : Nat} {x : Int} (hd : decode M.2.1 pc = .ok (.istore i, 2)) (hn : i < M.2.2.1) (k : awx ex M d kc ks (pc + 2) (st1 lo i (vi x)) st F Q) : awx ex M d kc ks pc lo (vi x :: st) F Q := by
  intro l p e R s m args below meth c H locs cells slots sa base ca D N ls k0 n0 X
  exact lv_istore X.1.1 X.1.2.1 hd X.2.2.2.2.2.2.1 hn rfl (fun ls' h => k l p e R s m args below meth c H locs cells slots sa base ca D N ls' k0 n0 (wx_lo X (lo_st1 (v := vi x) h)))
theorem aw_lstore_n {j : Fin 4} {i : Nat} {x : Int} (hd : decode M.2.1 pc = .ok (.lstore_n j, 1)) (hi : (j : Nat) = i) (hn : i + 1 < M.2.2.1) (k : awx ex M d kc ks (pc + 1) (st2 lo i (vl x)) st F Q) : awx ex M d kc ks pc lo (vl x :: st) F Q := by
  intro l p e R s m args below meth c H locs cells slots sa base ca D N ls k0 n0 X
  exact lv_lstore_n X.1.1 X.1.2.1 hd hi X.2.2.2.2.2.2.1 hn rfl (fun ls' h => k l p e R s m args below meth c H locs cells slots sa base ca D N ls' k0 n0 (wx_lo X (lo_st2 (v := vl x) h)))
theorem aw_lstore {i : Nat} {x : Int} (hd : decode M.2.1 pc = .ok (.lstore i, 2)) (hn : i + 1 < M.2.2.1) (k : awx ex M d kc ks (pc + 2) (st2 lo i (vl x)) st F Q) : awx ex M d kc ks pc lo (vl x :: st) F Q := by
  intro l p e R s m args below meth c H locs cells slots sa base ca D N ls k0 n0 X
  exact lv_lstore X.1.1 X.1.2.1 hd X.2.2.2.2.2.2.1 hn rfl (fun ls' h => k l p e R s m args below meth c H locs cells slots sa base ca D N ls' k0 n0 (wx_lo X (lo_st2 (v := vl x) h)))
theorem aw_astore_n {j : Fin 4} {i : Nat} {x : Option Nat} (hd : decode M.2.1 pc = .ok (.astore_n j, 1)) (hi : (j : Nat) = i) (hn : i < M.2.2.1) (k : awx ex M d kc ks (pc + 1) (st1 lo i (vr x)) st F Q) : awx ex M d kc ks pc lo (vr x :: st) F Q := by
  intro l p e R s m args below meth c H locs cells slots sa base ca D N ls k0 n0 X
  cases x with
  | none => exact lv_astore_nN X.1.1 X.1.2.1 hd hi X.2.2.2.2.2.2.1 hn rfl (fun ls' h => k l p e R s m args below meth c H locs cells slots sa base ca D N ls' k0 n0 (wx_lo X (lo_st1 (v := vr none) h)))
  | some x => exact lv_astore_n X.1.1 X.1.2.1 hd hi X.2.2.2.2.2.2.1 hn rfl (fun ls' h => k l p e R s m args below meth c H locs cells slots sa base ca D N ls' k0 n0 (wx_lo X (lo_st1 (v := vr (some x)) h)))
theorem aw_astore {i : Nat} {x : Option Nat} (hd : decode M.2.1 pc = .ok (.astore i, 2)) (hn : i < M.2.2.1) (k : awx ex M d kc ks (pc + 2) (st1 lo i (vr x)) st F Q) : awx ex M d kc ks pc lo (vr x :: st) F Q := by
  intro l p e R s m args below meth c H locs cells slots sa base ca D N ls k0 n0 X
  cases x with
  | none => exact lv_astoreN X.1.1 X.1.2.1 hd X.2.2.2.2.2.2.1 hn rfl (fun ls' h => k l p e R s m args below meth c H locs cells slots sa base ca D N ls' k0 n0 (wx_lo X (lo_st1 (v := vr none) h)))
  | some x => exact lv_astore X.1.1 X.1.2.1 hd X.2.2.2.2.2.2.1 hn rfl (fun ls' h => k l p e R s m args below meth c H locs cells slots sa base ca D N ls' k0 n0 (wx_lo X (lo_st1 (v := vr (some x)) h)))
theorem aw_iinc {i : Nat} {n x : Int} (hd : decode M.2.1 pc = .ok (.iinc i n, 3)) (hl : lo[i]? = some (some (vi x))) (hn : i < M.2.2.1) (k : awx ex M d kc ks (pc + 3) (st1 lo i (vi (x + n))) st F Q) : awx ex M d kc ks pc lo st F Q := by
  intro l p e R s m args below meth c H locs cells slots sa base ca D N ls k0 n0 X
  obtain ⟨q, hq⟩ := List.getElem?_of_mem ((lc_mem (ad sa base) lo 0 (i, cv (ad sa base) (vi x))).mpr ⟨i, vi x, hl, by simp⟩)
  exact lv_iinc X.1.1 X.1.2.1 hd X.2.2.2.2.2.2.1 hq rfl hn rfl (fun ls' h => k l p e R s m args below meth c H locs cells slots sa base ca D N ls' k0 n0 (wx_lo X (lo_st1 (v := vi (x + n)) (by rw [show cv (ad sa base) (vi (x + n)) = .int (Int32.ofInt x + Int32.ofInt n) by show Value.int _ = _; rw [Int32.ofInt_add]]; exact h))))
-- fewer locals
def lsub : List (Option av) → List (Option av) → Prop
  | [], _ => True
  | none :: a, [] => lsub a []
  | none :: a, _ :: b => lsub a b
  | some _ :: _, [] => False
  | some v :: a, w :: b => w = some v ∧ lsub a b
theorem lsub_get : ∀ (a b : List (Option av)), lsub a b → ∀ (i : Nat) (v : av), a[i]? = some (some v) → b[i]? = some (some v) := by
  intro a
  induction a with
  | nil => intro b _ i v h; simp at h
  | cons x a ih =>
    intro b hb i v h
    cases x with
    | none =>
      cases b with
      | nil =>
        cases i with
        | zero => simp at h
        | succ i => exact absurd (ih [] hb i v (by simpa using h)) (by simp)
      | cons y b =>
        cases i with
        | zero => simp at h
        | succ i => simpa using ih b hb i v (by simpa using h)
    | some x =>
      cases b with
      | nil => exact hb.elim
      | cons y b =>
        obtain ⟨h1, h2⟩ := hb
        cases i with
        | zero => simp at h; subst h; simp [h1]
        | succ i => simpa using ih b h2 i v (by simpa using h)
theorem aw_loc (lo' : List (Option av)) (h : lsub lo' lo) (k : awx ex M d kc ks pc lo' st F Q) : awx ex M d kc ks pc lo st F Q := by
  intro l p e R s m args below meth c H locs cells slots sa base ca D N ls k0 n0 X
  refine k l p e R s m args below meth c H locs cells slots sa base ca D N ls k0 n0 (wx_lo X ?_)
  have hl := X.2.2.2.2.2.2.1
  refine ⟨hl.1, hl.2.1, fun q hq => ?_⟩
  obtain ⟨i, v, h1, rfl⟩ := (lc_mem _ _ 0 q).mp hq
  exact hl.2.2 _ ((lc_mem _ _ 0 _).mpr ⟨i, v, lsub_get _ _ h i v h1, rfl⟩)
-- arithmetic
theorem aw_iadd {x y : Int} (hd : decode M.2.1 pc = .ok (.iadd, 1)) (k : awx ex M d kc ks (pc + 1) lo (vi (x + y) :: st) F Q) : awx ex M d kc ks pc lo (vi y :: vi x :: st) F Q := aw_go (fun g hx hb _ _ _ z => lv_iadd hx hb hd (by rw [← Int32.ofInt_add]; exact z)) k
theorem aw_isub {x y : Int} (hd : decode M.2.1 pc = .ok (.isub, 1)) (k : awx ex M d kc ks (pc + 1) lo (vi (x - y) :: st) F Q) : awx ex M d kc ks pc lo (vi y :: vi x :: st) F Q := aw_go (fun g hx hb _ _ _ z => lv_isub hx hb hd (by rw [← Int32.ofInt_sub]; exact z)) k
theorem aw_imul {x y : Int} (hd : decode M.2.1 pc = .ok (.imul, 1)) (k : awx ex M d kc ks (pc + 1) lo (vi (x * y) :: st) F Q) : awx ex M d kc ks pc lo (vi y :: vi x :: st) F Q := aw_go (fun g hx hb _ _ _ z => lv_imul hx hb hd (by rw [← Int32.ofInt_mul]; exact z)) k
theorem aw_ineg {x : Int} (hd : decode M.2.1 pc = .ok (.ineg, 1)) (k : awx ex M d kc ks (pc + 1) lo (vi (-x) :: st) F Q) : awx ex M d kc ks pc lo (vi x :: st) F Q := aw_go (fun g hx hb _ _ _ z => lv_ineg hx hb hd (by rw [← Int32.ofInt_neg]; exact z)) k
theorem aw_idiv {x y : Int} (hd : decode M.2.1 pc = .ok (.idiv, 1)) (hy : w32 y ≠ 0) (k : awx ex M d kc ks (pc + 1) lo (vi ((w32 x).tdiv (w32 y)) :: st) F Q) : awx ex M d kc ks pc lo (vi y :: vi x :: st) F Q := aw_go (fun g hx hb _ _ _ z => lv_idiv hx hb hd (fun h => hy ((eq320 y).mp h)) (by rw [div32]; exact z)) k
theorem aw_irem {x y : Int} (hd : decode M.2.1 pc = .ok (.irem, 1)) (hy : w32 y ≠ 0) (k : awx ex M d kc ks (pc + 1) lo (vi ((w32 x).tmod (w32 y)) :: st) F Q) : awx ex M d kc ks pc lo (vi y :: vi x :: st) F Q := aw_go (fun g hx hb _ _ _ z => lv_irem hx hb hd (fun h => hy ((eq320 y).mp h)) (by rw [rem32]; exact z)) k
theorem aw_iand {x y : Int} (hd : decode M.2.1 pc = .ok (.iand, 1)) (k : awx ex M d kc ks (pc + 1) lo (vi (iAnd x y) :: st) F Q) : awx ex M d kc ks pc lo (vi y :: vi x :: st) F Q := aw_go (fun g hx hb _ _ _ z => lv_iand hx hb hd (by have z := z; simp only [List.map, cv, iAnd, Int32.ofInt_toInt] at z; exact z)) k
theorem aw_ior {x y : Int} (hd : decode M.2.1 pc = .ok (.ior, 1)) (k : awx ex M d kc ks (pc + 1) lo (vi (iOr x y) :: st) F Q) : awx ex M d kc ks pc lo (vi y :: vi x :: st) F Q := aw_go (fun g hx hb _ _ _ z => lv_ior hx hb hd (by have z := z; simp only [List.map, cv, iOr, Int32.ofInt_toInt] at z; exact z)) k
theorem aw_ixor {x y : Int} (hd : decode M.2.1 pc = .ok (.ixor, 1)) (k : awx ex M d kc ks (pc + 1) lo (vi (iXor x y) :: st) F Q) : awx ex M d kc ks pc lo (vi y :: vi x :: st) F Q := aw_go (fun g hx hb _ _ _ z => lv_ixor hx hb hd (by have z := z; simp only [List.map, cv, iXor, Int32.ofInt_toInt] at z; exact z)) k
theorem aw_ishl {x y : Int} (hd : decode M.2.1 pc = .ok (.ishl, 1)) (k : awx ex M d kc ks (pc + 1) lo (vi (iShl x y) :: st) F Q) : awx ex M d kc ks pc lo (vi y :: vi x :: st) F Q := aw_go (fun g hx hb _ _ _ z => lv_ishl hx hb hd (by have z := z; simp only [List.map, cv, iShl, Int32.ofInt_toInt] at z; exact z)) k
theorem aw_ishr {x y : Int} (hd : decode M.2.1 pc = .ok (.ishr, 1)) (k : awx ex M d kc ks (pc + 1) lo (vi (iShr x y) :: st) F Q) : awx ex M d kc ks pc lo (vi y :: vi x :: st) F Q := aw_go (fun g hx hb _ _ _ z => lv_ishr hx hb hd (by have z := z; simp only [List.map, cv, iShr, Int32.ofInt_toInt] at z; exact z)) k
theorem aw_iushr {x y : Int} (hd : decode M.2.1 pc = .ok (.iushr, 1)) (k : awx ex M d kc ks (pc + 1) lo (vi (iUshr x y) :: st) F Q) : awx ex M d kc ks pc lo (vi y :: vi x :: st) F Q := aw_go (fun g hx hb _ _ _ z => lv_iushr hx hb hd rfl (by have z := z; simp only [List.map, cv, iUshr, Int32.ofInt_toInt] at z; exact z)) k
theorem aw_i2b {x : Int} (hd : decode M.2.1 pc = .ok (.i2b, 1)) (k : awx ex M d kc ks (pc + 1) lo (vi (iB x) :: st) F Q) : awx ex M d kc ks pc lo (vi x :: st) F Q := aw_go (fun g hx hb _ _ _ z => lv_i2b hx hb hd rfl (by have z := z; simp only [List.map, cv, iB, Int32.ofInt_toInt] at z; exact z)) k
theorem aw_i2c {x : Int} (hd : decode M.2.1 pc = .ok (.i2c, 1)) (k : awx ex M d kc ks (pc + 1) lo (vi (iC x) :: st) F Q) : awx ex M d kc ks pc lo (vi x :: st) F Q := aw_go (fun g hx hb _ _ _ z => lv_i2c hx hb hd rfl (by have z := z; simp only [List.map, cv, iC, Int32.ofInt_toInt] at z; exact z)) k
theorem aw_i2l {x : Int} (hd : decode M.2.1 pc = .ok (.i2l, 1)) (k : awx ex M d kc ks (pc + 1) lo (vl (w32 x) :: st) F Q) : awx ex M d kc ks pc lo (vi x :: st) F Q := aw_go (fun g hx hb _ _ _ z => lv_i2l hx hb hd (v := Int64.ofInt (w32 x)) (i2l_eq x) z) k
theorem aw_l2i {x : Int} (hd : decode M.2.1 pc = .ok (.l2i, 1)) (k : awx ex M d kc ks (pc + 1) lo (vi x :: st) F Q) : awx ex M d kc ks pc lo (vl x :: st) F Q := aw_go (fun g hx hb _ _ _ z => lv_l2i hx hb hd (v := Int32.ofInt x) (by simp) z) k
theorem aw_ladd {x y : Int} (hd : decode M.2.1 pc = .ok (.ladd, 1)) (k : awx ex M d kc ks (pc + 1) lo (vl (x + y) :: st) F Q) : awx ex M d kc ks pc lo (vl y :: vl x :: st) F Q := aw_go (fun g hx hb _ _ _ z => lv_ladd hx hb hd (by rw [← Int64.ofInt_add]; exact z)) k
theorem aw_lsub {x y : Int} (hd : decode M.2.1 pc = .ok (.lsub, 1)) (k : awx ex M d kc ks (pc + 1) lo (vl (x - y) :: st) F Q) : awx ex M d kc ks pc lo (vl y :: vl x :: st) F Q := aw_go (fun g hx hb _ _ _ z => lv_lsub hx hb hd (by rw [← Int64.ofInt_sub]; exact z)) k
theorem aw_lmul {x y : Int} (hd : decode M.2.1 pc = .ok (.lmul, 1)) (k : awx ex M d kc ks (pc + 1) lo (vl (x * y) :: st) F Q) : awx ex M d kc ks pc lo (vl y :: vl x :: st) F Q := aw_go (fun g hx hb _ _ _ z => lv_lmul hx hb hd (by rw [← Int64.ofInt_mul]; exact z)) k
theorem aw_lneg {x : Int} (hd : decode M.2.1 pc = .ok (.lneg, 1)) (k : awx ex M d kc ks (pc + 1) lo (vl (-x) :: st) F Q) : awx ex M d kc ks pc lo (vl x :: st) F Q := aw_go (fun g hx hb _ _ _ z => lv_lneg hx hb hd (by rw [← Int64.ofInt_neg]; exact z)) k
theorem aw_ldiv {x y : Int} (hd : decode M.2.1 pc = .ok (.ldiv, 1)) (hy : w64 y ≠ 0) (k : awx ex M d kc ks (pc + 1) lo (vl ((w64 x).tdiv (w64 y)) :: st) F Q) : awx ex M d kc ks pc lo (vl y :: vl x :: st) F Q := aw_go (fun g hx hb _ _ _ z => lv_ldiv hx hb hd (fun h => hy (by have := (eq64 y 0).mp (h.trans (by decide)); rw [this]; decide)) (by rw [div64]; exact z)) k
theorem aw_lrem {x y : Int} (hd : decode M.2.1 pc = .ok (.lrem, 1)) (hy : w64 y ≠ 0) (k : awx ex M d kc ks (pc + 1) lo (vl ((w64 x).tmod (w64 y)) :: st) F Q) : awx ex M d kc ks pc lo (vl y :: vl x :: st) F Q := aw_go (fun g hx hb _ _ _ z => lv_lrem hx hb hd (fun h => hy (by have := (eq64 y 0).mp (h.trans (by decide)); rw [this]; decide)) (by rw [rem64]; exact z)) k
theorem aw_lor {x y : Int} (hd : decode M.2.1 pc = .ok (.lor, 1)) (k : awx ex M d kc ks (pc + 1) lo (vl (lOr x y) :: st) F Q) : awx ex M d kc ks pc lo (vl y :: vl x :: st) F Q := aw_go (fun g hx hb _ _ _ z => lv_lor hx hb hd (by have z := z; simp only [List.map, cv, lOr, Int64.ofInt_toInt] at z; exact z)) k
theorem aw_lshl {x y : Int} (hd : decode M.2.1 pc = .ok (.lshl, 1)) (k : awx ex M d kc ks (pc + 1) lo (vl (lShl x y) :: st) F Q) : awx ex M d kc ks pc lo (vi y :: vl x :: st) F Q := aw_go (fun g hx hb _ _ _ z => lv_lshl hx hb hd rfl (by have z := z; simp only [List.map, cv, lShl, Int64.ofInt_toInt] at z; exact z)) k
theorem aw_lshr {x y : Int} (hd : decode M.2.1 pc = .ok (.lshr, 1)) (k : awx ex M d kc ks (pc + 1) lo (vl (lShr x y) :: st) F Q) : awx ex M d kc ks pc lo (vi y :: vl x :: st) F Q := aw_go (fun g hx hb _ _ _ z => lv_lshr hx hb hd rfl (by have z := z; simp only [List.map, cv, lShr, Int64.ofInt_toInt] at z; exact z)) k
theorem aw_lcmp {x y : Int} (hd : decode M.2.1 pc = .ok (.lcmp, 1)) (k : awx ex M d kc ks (pc + 1) lo (vi (iCmp x y) :: st) F Q) : awx ex M d kc ks pc lo (vl y :: vl x :: st) F Q := aw_go (fun g hx hb _ _ _ z => W.lcmp hx hb hd (by
  have e : lg_cmp (Int64.ofInt x) (Int64.ofInt y) = Int32.ofInt (iCmp x y) := by
    unfold lg_cmp iCmp
    simp only [GT.gt, lt64, eq64]
    split
    · rfl
    · split <;> rfl
  rw [e]
  exact z)) k
def c1 (v : av) : Prop := match v with
  | .inr (.inl _) => False
  | _ => True
theorem c1_cat {g : Nat → Nat} {v : av} (h : c1 v) : (cv g v).category = 1 := by
  rcases v with x | x | x
  · rfl
  · exact h.elim
  · cases x <;> rfl
theorem aw_dup {v : av} (hd : decode M.2.1 pc = .ok (.dup, 1)) (h : c1 v) (k : awx ex M d kc ks (pc + 1) lo (v :: v :: st) F Q) : awx ex M d kc ks pc lo (v :: st) F Q := aw_go (fun g hx hb _ _ _ z => lv_dup hx hb hd (c1_cat h) z) k
theorem aw_dup2 {v u : av} (hd : decode M.2.1 pc = .ok (.dup2, 1)) (h : c1 v) (h2 : c1 u) (k : awx ex M d kc ks (pc + 1) lo (v :: u :: v :: u :: st) F Q) : awx ex M d kc ks pc lo (v :: u :: st) F Q := aw_go (fun g hx hb _ _ _ z => lv_dup2_11 hx hb hd (c1_cat h) (c1_cat h2) z) k
theorem aw_dup_x1 {v u : av} (hd : decode M.2.1 pc = .ok (.dup_x1, 1)) (h : c1 v) (h2 : c1 u) (k : awx ex M d kc ks (pc + 1) lo (v :: u :: v :: st) F Q) : awx ex M d kc ks pc lo (v :: u :: st) F Q := aw_go (fun g hx hb _ _ _ z => lv_dup_x1 hx hb hd (c1_cat h) (c1_cat h2) z) k
theorem aw_pop {v : av} (hd : decode M.2.1 pc = .ok (.pop, 1)) (h : c1 v) (k : awx ex M d kc ks (pc + 1) lo st F Q) : awx ex M d kc ks pc lo (v :: st) F Q := aw_go (fun g hx hb _ _ _ z => lv_pop hx hb hd (c1_cat h) z) k
theorem aw_goto {off : Int} {tgt : Nat} (hd : decode M.2.1 pc = .ok (.goto off, 3)) (ht : (pc : Int) + off = (tgt : Int)) (k : awx ex M d kc ks tgt lo st F Q) : awx ex M d kc ks pc lo st F Q := aw_go (fun g hx hb _ _ _ z => lv_goto hx hb hd ht z) k
-- branches
theorem aw_br {st' : List av} {t1 t2 : Nat} {P : Prop} (h : ∀ {l : Launch} {p : Program} {e : Env} {R : Room} {s : State} {m : MethodId} {args : Array Value} {below : List Frame} {meth : Method} {c : Code} {H : Heap} {locs : List Loc} {cells slots : Nat} {Z : State → Prop} {ls : Array Slot} (g : Nat → Nat), p.tables.exec = Jvm.exec → c.code = M.2.1 → (P → W p l e R s m args below meth c H locs cells slots Z (F0 m t1 ls (st'.map (cv g)))) → (¬ P → W p l e R s m args below meth c H locs cells slots Z (F0 m t2 ls (st'.map (cv g)))) → W p l e R s m args below meth c H locs cells slots Z (F0 m pc ls (st.map (cv g)))) (k1 : P → awx ex M d kc ks t1 lo st' F Q) (k2 : ¬ P → awx ex M d kc ks t2 lo st' F Q) : awx ex M d kc ks pc lo st F Q := by
  intro l p e R s m args below meth c H locs cells slots sa base ca D N ls k0 n0 X
  exact h (ad sa base) X.1.1 X.1.2.1 (fun hP => k1 hP l p e R s m args below meth c H locs cells slots sa base ca D N ls k0 n0 X) (fun hP => k2 hP l p e R s m args below meth c H locs cells slots sa base ca D N ls k0 n0 X)
theorem aw_if_eq {x off : Int} {tgt : Nat} (hd : decode M.2.1 pc = .ok (.ifCond .eq off, 3)) (ht : (pc : Int) + off = (tgt : Int)) (k1 : w32 x = 0 → awx ex M d kc ks tgt lo st F Q) (k2 : ¬ w32 x = 0 → awx ex M d kc ks (pc + 3) lo st F Q) : awx ex M d kc ks pc lo (vi x :: st) F Q := aw_br (fun g hx hb a b => lv_if_eq hx hb hd ht (fun q => a ((eq320 x).mp q)) (fun q => b (fun z => q ((eq320 x).mpr z)))) k1 k2
theorem aw_if_ne {x off : Int} {tgt : Nat} (hd : decode M.2.1 pc = .ok (.ifCond .ne off, 3)) (ht : (pc : Int) + off = (tgt : Int)) (k1 : w32 x = 0 → awx ex M d kc ks (pc + 3) lo st F Q) (k2 : ¬ w32 x = 0 → awx ex M d kc ks tgt lo st F Q) : awx ex M d kc ks pc lo (vi x :: st) F Q := aw_br (fun g hx hb a b => lv_if_ne hx hb hd ht (fun q => b (fun z => q ((eq320 x).mpr z))) (fun q => a ((eq320 x).mp q))) k1 k2
theorem aw_if_lt {x off : Int} {tgt : Nat} (hd : decode M.2.1 pc = .ok (.ifCond .lt off, 3)) (ht : (pc : Int) + off = (tgt : Int)) (k1 : w32 x < 0 → awx ex M d kc ks tgt lo st F Q) (k2 : ¬ w32 x < 0 → awx ex M d kc ks (pc + 3) lo st F Q) : awx ex M d kc ks pc lo (vi x :: st) F Q := aw_br (fun g hx hb a b => lv_if_lt hx hb hd ht (fun q => a ((lt320 x).mp q)) (fun q => b (fun z => q ((lt320 x).mpr z)))) k1 k2
theorem aw_if_ge {x off : Int} {tgt : Nat} (hd : decode M.2.1 pc = .ok (.ifCond .ge off, 3)) (ht : (pc : Int) + off = (tgt : Int)) (k1 : w32 x < 0 → awx ex M d kc ks (pc + 3) lo st F Q) (k2 : ¬ w32 x < 0 → awx ex M d kc ks tgt lo st F Q) : awx ex M d kc ks pc lo (vi x :: st) F Q := aw_br (fun g hx hb a b => lv_if_ge hx hb hd ht (fun q => b ((ge320 x).mp q)) (fun q => a (Classical.not_not.mp (fun z => q ((ge320 x).mpr z))))) k1 k2
theorem aw_if_gt {x off : Int} {tgt : Nat} (hd : decode M.2.1 pc = .ok (.ifCond .gt off, 3)) (ht : (pc : Int) + off = (tgt : Int)) (k1 : 0 < w32 x → awx ex M d kc ks tgt lo st F Q) (k2 : ¬ 0 < w32 x → awx ex M d kc ks (pc + 3) lo st F Q) : awx ex M d kc ks pc lo (vi x :: st) F Q := aw_br (fun g hx hb a b => lv_if_gt hx hb hd ht (fun q => a ((gt320 x).mp q)) (fun q => b (fun z => q ((gt320 x).mpr z)))) k1 k2
theorem aw_if_le {x off : Int} {tgt : Nat} (hd : decode M.2.1 pc = .ok (.ifCond .le off, 3)) (ht : (pc : Int) + off = (tgt : Int)) (k1 : 0 < w32 x → awx ex M d kc ks (pc + 3) lo st F Q) (k2 : ¬ 0 < w32 x → awx ex M d kc ks tgt lo st F Q) : awx ex M d kc ks pc lo (vi x :: st) F Q := aw_br (fun g hx hb a b => lv_if_le hx hb hd ht (fun q => b ((le320 x).mp q)) (fun q => a (Classical.not_not.mp (fun z => q ((le320 x).mpr z))))) k1 k2
theorem aw_icmp_eq {x y off : Int} {tgt : Nat} (hd : decode M.2.1 pc = .ok (.if_icmp .eq off, 3)) (ht : (pc : Int) + off = (tgt : Int)) (k1 : w32 x = w32 y → awx ex M d kc ks tgt lo st F Q) (k2 : ¬ w32 x = w32 y → awx ex M d kc ks (pc + 3) lo st F Q) : awx ex M d kc ks pc lo (vi y :: vi x :: st) F Q := aw_br (fun g hx hb a b => lv_icmp_eq hx hb hd ht (fun q => a ((eq32 x y).mp q)) (fun q => b (fun z => q ((eq32 x y).mpr z)))) k1 k2
theorem aw_icmp_ne {x y off : Int} {tgt : Nat} (hd : decode M.2.1 pc = .ok (.if_icmp .ne off, 3)) (ht : (pc : Int) + off = (tgt : Int)) (k1 : w32 x = w32 y → awx ex M d kc ks (pc + 3) lo st F Q) (k2 : ¬ w32 x = w32 y → awx ex M d kc ks tgt lo st F Q) : awx ex M d kc ks pc lo (vi y :: vi x :: st) F Q := aw_br (fun g hx hb a b => lv_icmp_ne hx hb hd ht (fun q => b (fun z => q ((eq32 x y).mpr z))) (fun q => a ((eq32 x y).mp q))) k1 k2
theorem aw_icmp_lt {x y off : Int} {tgt : Nat} (hd : decode M.2.1 pc = .ok (.if_icmp .lt off, 3)) (ht : (pc : Int) + off = (tgt : Int)) (k1 : w32 x < w32 y → awx ex M d kc ks tgt lo st F Q) (k2 : ¬ w32 x < w32 y → awx ex M d kc ks (pc + 3) lo st F Q) : awx ex M d kc ks pc lo (vi y :: vi x :: st) F Q := aw_br (fun g hx hb a b => lv_icmp_lt hx hb hd ht (fun q => a ((lt32 x y).mp q)) (fun q => b (fun z => q ((lt32 x y).mpr z)))) k1 k2
theorem aw_icmp_ge {x y off : Int} {tgt : Nat} (hd : decode M.2.1 pc = .ok (.if_icmp .ge off, 3)) (ht : (pc : Int) + off = (tgt : Int)) (k1 : w32 x < w32 y → awx ex M d kc ks (pc + 3) lo st F Q) (k2 : ¬ w32 x < w32 y → awx ex M d kc ks tgt lo st F Q) : awx ex M d kc ks pc lo (vi y :: vi x :: st) F Q := aw_br (fun g hx hb a b => lv_icmp_ge hx hb hd ht (fun q => b ((le32n y x).mp q)) (fun q => a (Classical.not_not.mp (fun z => q ((le32n y x).mpr z))))) k1 k2
theorem aw_icmp_gt {x y off : Int} {tgt : Nat} (hd : decode M.2.1 pc = .ok (.if_icmp .gt off, 3)) (ht : (pc : Int) + off = (tgt : Int)) (k1 : w32 y < w32 x → awx ex M d kc ks tgt lo st F Q) (k2 : ¬ w32 y < w32 x → awx ex M d kc ks (pc + 3) lo st F Q) : awx ex M d kc ks pc lo (vi y :: vi x :: st) F Q := aw_br (fun g hx hb a b => lv_icmp_gt hx hb hd ht (fun q => a ((lt32 y x).mp q)) (fun q => b (fun z => q ((lt32 y x).mpr z)))) k1 k2
theorem aw_icmp_le {x y off : Int} {tgt : Nat} (hd : decode M.2.1 pc = .ok (.if_icmp .le off, 3)) (ht : (pc : Int) + off = (tgt : Int)) (k1 : w32 y < w32 x → awx ex M d kc ks (pc + 3) lo st F Q) (k2 : ¬ w32 y < w32 x → awx ex M d kc ks tgt lo st F Q) : awx ex M d kc ks pc lo (vi y :: vi x :: st) F Q := aw_br (fun g hx hb a b => lv_icmp_le hx hb hd ht (fun q => b ((le32n x y).mp q)) (fun q => a (Classical.not_not.mp (fun z => q ((le32n x y).mpr z))))) k1 k2
theorem aw_ifnull {x : Option Nat} {off : Int} {tgt : Nat} (hd : decode M.2.1 pc = .ok (.ifnull off, 3)) (ht : (pc : Int) + off = (tgt : Int)) (k1 : x = none → awx ex M d kc ks tgt lo st F Q) (k2 : ∀ a, x = some a → awx ex M d kc ks (pc + 3) lo st F Q) : awx ex M d kc ks pc lo (vr x :: st) F Q := by
  cases x with
  | none => exact aw_go (fun g hx hb _ _ _ z => lv_ifnullN hx hb hd ht z) (k1 rfl)
  | some a => exact aw_go (fun g hx hb _ _ _ z => lv_ifnull hx hb hd z) (k2 a rfl)
theorem aw_ifnonnull {x : Option Nat} {off : Int} {tgt : Nat} (hd : decode M.2.1 pc = .ok (.ifnonnull off, 3)) (ht : (pc : Int) + off = (tgt : Int)) (k1 : x = none → awx ex M d kc ks (pc + 3) lo st F Q) (k2 : ∀ a, x = some a → awx ex M d kc ks tgt lo st F Q) : awx ex M d kc ks pc lo (vr x :: st) F Q := by
  cases x with
  | none => exact aw_go (fun g hx hb _ _ _ z => lv_ifnonnullN hx hb hd z) (k1 rfl)
  | some a => exact aw_go (fun g hx hb _ _ _ z => lv_ifnonnull hx hb hd ht z) (k2 a rfl)
-- a switch: the key, where it is among the table's; else the default
theorem aw_table {x dflt a b : Int} {offs : Array Int} {len : Nat} (hd : decode M.2.1 pc = .ok (.tableswitch dflt a b offs, len)) {td : Nat} (htd : (pc : Int) + dflt = (td : Int)) (tg : Nat → Nat) (hs : offs.size = (b - a + 1).toNat) (htg : ∀ j, j < offs.size → (pc : Int) + offs.getD j 0 = (tg j : Int)) (k1 : ∀ j : Nat, j < offs.size → w32 x = a + j → awx ex M d kc ks (tg j) lo st F Q) (k2 : w32 x < a ∨ b < w32 x → awx ex M d kc ks td lo st F Q) : awx ex M d kc ks pc lo (vi x :: st) F Q := by
  by_cases h : w32 x < a ∨ b < w32 x
  · exact aw_go (fun g hx hb _ _ _ z => lv_tableOut hx hb hd h htd z) (k2 h)
  · have h1 : ¬ w32 x < a := fun z => h (Or.inl z)
    have h2 : ¬ b < w32 x := fun z => h (Or.inr z)
    have hj : (w32 x - a).toNat < offs.size := by omega
    refine aw_go (fun g hx hb _ _ _ z => lv_tableIn hx hb hd h1 h2 (off := offs.getD (w32 x - a).toNat 0) ?_ (htg _ hj) z) (k1 _ hj (by omega))
    show offs[(w32 x - a).toNat]? = _
    rw [Array.getElem?_eq_getElem hj, Array.getD_eq_getD_getElem?, Array.getElem?_eq_getElem hj]
    rfl
theorem aw_lookup {x dflt : Int} {ps : Array (Int × Int)} {len : Nat} (hd : decode M.2.1 pc = .ok (.lookupswitch dflt ps, len)) (hp : (ps.toList.zip (ps.toList.drop 1)).all (fun (a, next) => a.1 < next.1) = true) {tgt : Nat} (ho : (pc : Int) + Op.lookupswitch.offset ps.toList dflt (w32 x) = (tgt : Int)) (k : awx ex M d kc ks tgt lo st F Q) : awx ex M d kc ks pc lo (vi x :: st) F Q := aw_go (fun g hx hb _ _ _ z => lv_lookup hx hb hd hp rfl ho z) k
end AW
