def nx (F : hp) (a : Nat) : Prop := 8 ≤ a ∧ ∀ h : Nat, F h = none ↔ (h < 8 ∨ a ≤ h)
theorem sz_nx {F : hp} {N : Nat} (h : sz F N) : nx F (N + 8) := ⟨by omega, fun k => (h k)⟩
def ctg : av → Nat
  | .inr (.inl _) => 2
  | _ => 1
theorem ctg_cv (g : Nat → Nat) (v : av) : (cv g v).category = ctg v := by
  rcases v with x | x | x
  · rfl
  · rfl
  · cases x <;> rfl
theorem ctg_sum (g : Nat → Nat) (st : List av) : ((st.map (cv g)).map fun v => v.category).sum = (st.map ctg).sum := by
  rw [List.map_map]
  congr 1
  exact List.map_congr_left (fun v _ => ctg_cv g v)
def iMax (x y : Int) : Int := if w32 x < w32 y then y else x
def iMin (x y : Int) : Int := if w32 y < w32 x then y else x
def cpy {α : Type} (f g : Int → α) (sp dp n : Int) : Int → α := fun j => if dp ≤ j ∧ j < dp + n then f (sp + (j - dp)) else g j
-- what stands still stays
theorem stt_to {sa : Nat → Nat} {base : Nat} {s U : State} (h : stt sa base s) (hW : s.WarmedH U.vm) (hk : ∀ q : Nat, q < s.heap.size → ¬ bs base q → U.heap[q]? = s.heap[q]?) : stt sa base U := by
  obtain ⟨h1, h2, h3, h4, h5, h6, h7, h8, h9, h10⟩ := h
  exact ⟨(h1.moved hW.alike).kept hk, (h2.moved hW.alike).kept hk, (h3.moved hW.alike).kept hk, h4.warm hW, h5.warm hW, (h6.moved hW.alike).kept hk, h7.imp (fun z => (z.moved hW.alike).kept hk) (fun z => (z.moved hW.alike).kept hk), va_AO.moved hW.alike h8, va_Nw.warmC hW h9, fun q hq => va_Nw.warmM hW (h10 q hq)⟩
theorem stt_same {sa : Nat → Nat} {base : Nat} {s U : State} (h : stt sa base s) (hv : U.vm = s.vm) (hh : U.heap = s.heap) : stt sa base U := by
  obtain ⟨h1, h2, h3, h4, h5, h6, h7, h8, h9, h10⟩ := h
  have ha : s.vm.Alike U.vm := by rw [hv]; exact Vm.Alike.refl _
  have hk : ∀ q : Nat, q < s.heap.size → ¬ bs base q → U.heap[q]? = s.heap[q]? := fun q _ _ => by rw [hh]
  exact ⟨(h1.moved ha).kept hk, (h2.moved ha).kept hk, (h3.moved ha).kept hk, h4.same hv, h5.same hv, (h6.moved ha).kept hk, h7.imp (fun z => (z.moved ha).kept hk) (fun z => (z.moved ha).kept hk), va_AO.moved ha h8, va_tabs rfl hv.symm h9, fun q hq => va_tabs rfl hv.symm (h10 q hq)⟩
theorem pq_blind (as : List Value) (sa : Nat → Nat) (base : Nat) (ca : Nat → ClassId) (D : va_G) (F : hp) : FrameBlind (va_Pc as (pq sa base ca D F)) := by
  intro a U g mk h
  obtain ⟨h0, h1, N, h2, h3, h4, h5⟩ := h
  exact ⟨h0, stt_same h1 rfl rfl, N, h2, h3, h4, va_K.moved (u := U) (U := U.calling g mk a) (Vm.Alike.refl U.vm) h5⟩
section AC
variable {ex : State → (Nat → Nat) → Nat → Prop} {M : mi} {d kc ks pc : Nat} {lo : List (Option av)} {st : List av} {F : hp} {Q : Option av → hp → Prop}
theorem wx_size {p : Program} {l : Launch} {e : Env} {R : Room} {s : State} {m : MethodId} {args : Array Value} {below : List Frame} {meth : Method} {c : Code} {H : Heap} {locs : List Loc} {cells slots : Nat} {sa : Nat → Nat} {base : Nat} {ca : Nat → ClassId} {D : va_G} {N : Nat} {ls : Array Slot} {k0 n0 : Nat} {T : State}
    (X : wx ex M d kc ks lo F p R s m args meth c H locs cells slots sa base ca D N ls k0 n0) (hT : T.heap = H) (S : Stand p l e R s m args below meth c T locs cells slots) : H.size = base + N := by
  obtain ⟨-, -, h3, h4, h5, h6, -⟩ := X
  have h1 := S.heapSize
  rw [hT] at h1
  have h2 : base + N ≤ H.size := by
    cases N with
    | zero => have := h4.1; omega
    | succ N =>
      have hl := (h6.2.1 N (ad sa base (N + 8), co (ad sa base) ca (F (N + 8))) (by rw [ch_get, if_pos (by omega)])).lt
      have hl : ad sa base (N + 8) < H.size := hl
      rw [ad_hi] at hl
      omega
  omega
-- ends
theorem aw_end {p : Program} {l : Launch} {e : Env} {R : Room} {s : State} {m : MethodId} {args : Array Value} {below : List Frame} {meth : Method} {c : Code} {H : Heap} {locs : List Loc} {cells slots : Nat} {sa : Nat → Nat} {base : Nat} {ca : Nat → ClassId} {D : va_G} {N : Nat} {ls : Array Slot} {k0 n0 : Nat} {g : JFrame} {r : Option av}
    (X : wx ex M d kc ks lo F p R s m args meth c H locs cells slots sa base ca D N ls k0 n0) (hq : Q r F)
    (h : (∀ t : State, t.heap = H → s.WarmedH t.vm → qq sa base ca D Q args s (.returned (r.map (cv (ad sa base)))) t) → (∀ q ∈ locs, bs base q.base) → W p l e R s m args below meth c H locs k0 n0 (MQ below (qq sa base ca D Q) args s k0 n0 (bs base)) g) :
    W p l e R s m args below meth c H locs cells slots (MQ below (qq sa base ca D Q) args s k0 n0 (bs base)) g := by
  intro T hT S
  have hsz := wx_size X hT S
  obtain ⟨h1, h2, h3, h4, h5, h6, h7, h8, h9, h10, h11⟩ := X
  exact (W.widen (k := k0) (n := n0) (by omega) (by omega) (h (fun t ht hW => ⟨⟨r, F, N, rfl, hq, by rw [ht]; exact hsz, h6.1, by rw [ht]; exact h6.2.1, va_K.moved hW.alike h6.2.2⟩, h4.F ht⟩) h4.2.2)) T hT S
theorem aw_iret {x : Int} (hr : M.2.2.2 = some .int) (hd : decode M.2.1 pc = .ok (.ireturn, 1)) (hq : Q (some (vi x)) F) : awx ex M d kc ks pc lo [vi x] F Q := by
  intro l p e R s m args below meth c H locs cells slots sa base ca D N ls k0 n0 X
  exact aw_end (r := some (vi x)) X hq (fun a b => W.iret X.1.1 X.1.2.1 (X.1.2.2.2.1.trans hr) a b hd X.1.2.2.2.2.2.1)
theorem aw_zret {x : Int} {ty : FieldType} (hr : M.2.2.2 = some ty) (hn : narrow ty (.int (Int32.ofInt x)) = .int (Int32.ofInt x)) (hd : decode M.2.1 pc = .ok (.ireturn, 1)) (hq : Q (some (vi x)) F) : awx ex M d kc ks pc lo [vi x] F Q := by
  intro l p e R s m args below meth c H locs cells slots sa base ca D N ls k0 n0 X
  exact aw_end (r := some (vi x)) X hq (fun a b => W.zret X.1.1 X.1.2.1 (X.1.2.2.2.1.trans hr) hn a b hd X.1.2.2.2.2.2.1)
theorem aw_lret {x : Int} (hr : M.2.2.2 = some .long) (hd : decode M.2.1 pc = .ok (.lreturn, 1)) (hq : Q (some (vl x)) F) : awx ex M d kc ks pc lo [vl x] F Q := by
  intro l p e R s m args below meth c H locs cells slots sa base ca D N ls k0 n0 X
  exact aw_end (r := some (vl x)) X hq (fun a b => W.lret X.1.1 X.1.2.1 (X.1.2.2.2.1.trans hr) a b hd X.1.2.2.2.2.2.1)
theorem aw_aret {x : Option Nat} {rt : FieldType} (hr : M.2.2.2 = some rt) (hrt : (∃ n, rt = .object n) ∨ ∃ t, rt = .array t) (hd : decode M.2.1 pc = .ok (.areturn, 1)) (hq : Q (some (vr x)) F) : awx ex M d kc ks pc lo [vr x] F Q := by
  intro l p e R s m args below meth c H locs cells slots sa base ca D N ls k0 n0 X
  exact aw_end (r := some (vr x)) X hq (fun a b => W.aret X.1.1 X.1.2.1 (X.1.2.2.2.1.trans hr) hrt (by cases x with | none => exact Or.inl rfl | some y => exact Or.inr ⟨_, rfl⟩) a b hd X.1.2.2.2.2.2.1)
theorem aw_vret (hr : M.2.2.2 = none) (hd : decode M.2.1 pc = .ok (.return_, 1)) (hq : Q none F) : awx ex M d kc ks pc lo [] F Q := by
  intro l p e R s m args below meth c H locs cells slots sa base ca D N ls k0 n0 X
  exact aw_end (r := none) X hq (fun a b => W.vret X.1.1 X.1.2.1 (X.1.2.2.2.1.trans hr) a b hd X.1.2.2.2.2.2.1)
-- new cells
theorem aw_born {p : Program} {l : Launch} {e : Env} {R : Room} {s : State} {m : MethodId} {args : Array Value} {below : List Frame} {meth : Method} {c : Code} {H H1 : Heap} {locs : List Loc} {cells slots : Nat} {sa : Nat → Nat} {base : Nat} {ca : Nat → ClassId} {D : va_G} {N : Nat} {ls : Array Slot} {k0 n0 ms pc' q : Nat} {st' : List av} {cl : ac}
    (X : wx ex M d (kc + 1) (ks + ms) lo F p R s m args meth c H locs cells slots sa base ca D N ls k0 n0) (mu : Nat) (hmu : mu ≤ ms)
    (hP : va_P D vwCl (ch (ad sa base) ca N F ++ [(q, ce (ad sa base) ca cl)]) H1) (hD : va_D (bs base) (ch (ad sa base) ca N F ++ [(q, ce (ad sa base) ca cl)])) (hS : va_S (bs base) s.heap H1 locs)
    (kk : ∀ a, nx F a → awx ex M d kc ks pc' lo (vr (some a) :: st') (hs F a cl) Q) :
    W p l e R s m args below meth c H1 locs (cells + 1) (slots + mu) (MQ below (qq sa base ca D Q) args s k0 n0 (bs base)) (F0 m pc' ls (.ref q :: st'.map (cv (ad sa base)))) := by
  intro T hT S
  obtain ⟨h1, h2, h3, h4, h5, h6, h7, h8, h9, h10, h11⟩ := X
  have hlen : (ch (ad sa base) ca N F).length = N := by unfold ch; simp
  have hat : (ch (ad sa base) ca N F ++ [(q, ce (ad sa base) ca cl)])[N]? = some (q, ce (ad sa base) ca cl) := by
    rw [List.getElem?_append_right (by omega), hlen]; simp
  have g1 : q < H1.size := (hP N _ hat).lt
  have g2 : base ≤ q := hD.2 N _ hat
  have g3 := S.heapSize
  rw [hT] at g3
  have g4 : ¬ q < base + N := by
    intro hlt
    have hi : (ch (ad sa base) ca N F ++ [(q, ce (ad sa base) ca cl)])[q - base]? = some (ad sa base (q - base + 8), co (ad sa base) ca (F (q - base + 8))) := by
      rw [List.getElem?_append_left (by omega), ch_get, if_pos (by omega)]
    have := hD.1 (q - base) N _ _ hi hat (by show ad sa base (q - base + 8) = q; rw [ad_hi]; omega)
    omega
  have hq : q = ad sa base (N + 8) := by rw [ad_hi]; omega
  subst hq
  rw [ch_new] at hP
  exact kk (N + 8) (sz_nx h6.1) l p e R s m args below meth c H1 locs (cells + 1) (slots + mu) sa base ca D (N + 1) ls k0 n0
    ⟨h1, h2, h3, hS, by omega, ⟨sz_new h6.1, hP, h6.2.2⟩, h7, by omega, by omega, h10, h11⟩ T hT S
def nl (own : String) (idx ci : Nat) (fs : List av) : Prop := ∃ (C : String) (T : u_T) (N : Nat) (ty : Nat → FieldType), vwCl[ci]? = some (C, T, N) ∧ (∀ w ∈ u_ws C T N, w ∈ lw_g) ∧ (∀ k, k < N → parseFieldDescriptor (T k).2.2.1 = some (ty k)) ∧ Cond.classLink own idx C ∈ lw_g ∧ Cond.instantiable C N ∈ lw_g ∧ Cond.initialized C ∈ lw_g ∧ fs.length = N ∧ ∀ (g : Nat → Nat) (j : Nat), j < N → defaultValue (ty j) = vp_V (fs.map (cv g)) j
theorem aw_new {idx ci : Nat} {fs : List av} (L : nl M.1.cls idx ci fs) (hd : decode M.2.1 pc = .ok (.new idx, 3)) (kk : ∀ a, nx F a → awx ex M d kc ks (pc + 3) lo (vr (some a) :: st) (hs F a (cO ci fs)) Q) : awx ex M d (kc + 1) (ks + fs.length) pc lo st F Q := by
  intro l p e R s m args below meth c H locs cells slots sa base ca D N ls k0 n0 X
  obtain ⟨C, T, n, ty, g1, g2, g3, g4, g5, g6, g7, g8⟩ := L
  have hts := X.1.2.2.2.2.2.2.2.1
  have hW := X.2.2.2.2.2.1
  have hb := X.2.2.2.2.2.2.2
  refine va_new (ci := ci) (fs := fs.map (cv (ad sa base))) (C := C) (T := T) (N := n) X.1.1 X.1.2.1 hts g2 ty g3 X.1.2.2.2.2.1 (hts _ g4) (hts _ g5) (hts _ g6) hW.2.2 hW.2.1 (ch_D sa base ca N F) X.2.2.2.1 (fun q h => Nat.le_trans X.2.2.1 h) g1 (fun j hj => g8 _ j hj) (by omega) (by omega) hd (fun q H1 hP hD hS => ?_)
  exact aw_born (cl := cO ci fs) X n (by omega) hP hD hS kk
theorem aw_newarr {k : Nat} {at' : ArrayType} {ty : FieldType} {n : Int} {ms : Nat} (hk : (k, at') = (0, ArrayType.int) ∨ (k, at') = (1, ArrayType.byte) ∨ (k, at') = (2, ArrayType.boolean) ∨ (k, at') = (3, ArrayType.long)) (hty : newarray.typeOf at' = ty) (hw : Cond.arrayClass ty ∈ lw_g) (h0 : 0 ≤ n) (h1 : n ≤ 60000000) (hm : n.toNat ≤ ms) (hd : decode M.2.1 pc = .ok (.newarray at', 2)) (kk : ∀ a, nx F a → awx ex M d kc ks (pc + 2) lo (vr (some a) :: st) (hs F a (cA k n (fun _ => 0))) Q) : awx ex M d (kc + 1) (ks + ms) pc lo (vi n :: st) F Q := by
  intro l p e R s m args below meth c H locs cells slots sa base ca D N ls k0 n0 X
  have hts := X.1.2.2.2.2.2.2.2.1
  have hW := X.2.2.2.2.2.1
  have hb := X.2.2.2.2.2.2.2
  have hcl : ∀ {cA' : ClassId} {t : FieldType} (j : Nat), (tys ca)[j]? = some (ca j, t) → (∀ C, t ≠ .object C) → va_K D vwCl (tys ca ++ [(cA', t)]) s → cA' = ca j := by
    intro cA' t j hj hno hK
    have a1 := (hW.2.2.2 j _ hj).2
    have a2 := (hK.2 5 (cA', t) rfl).2
    cases t with
    | object C => exact absurd rfl (hno C)
    | _ => exact Option.some.inj (a2.symm.trans a1)
  rcases hk with hk | hk | hk | hk <;> cases hk <;> cases hty
  · refine va_newa (a0 := (n.toNat, .inl (fun _ => 0))) X.1.1 X.1.2.1 (hts _ hw) rfl hW.2.2 hW.2.1 (ch_D sa base ca N F) X.2.2.2.1 (fun q h => Nat.le_trans X.2.2.1 h) (fun cA => rfl) (ix_nn h0 (by omega)) (ix_cl h0 (by omega)) (by show n.toNat * 4 ≤ _; omega) (by omega) (by omega) hd (fun q cA' H1 hK hP hD hS => ?_)
    have := hcl 0 rfl (fun _ h => by cases h) hK
    subst this
    exact aw_born (cl := cA 0 n (fun _ => 0)) X n.toNat hm hP hD hS kk
  · refine va_newa (a0 := (n.toNat, .inl (fun _ => 0))) X.1.1 X.1.2.1 (hts _ hw) rfl hW.2.2 hW.2.1 (ch_D sa base ca N F) X.2.2.2.1 (fun q h => Nat.le_trans X.2.2.1 h) (fun cA => rfl) (ix_nn h0 (by omega)) (ix_cl h0 (by omega)) (by show n.toNat * 1 ≤ _; omega) (by omega) (by omega) hd (fun q cA' H1 hK hP hD hS => ?_)
    have := hcl 1 rfl (fun _ h => by cases h) hK
    subst this
    exact aw_born (cl := cA 1 n (fun _ => 0)) X n.toNat hm hP hD hS kk
  · refine va_newa (a0 := (n.toNat, .inl (fun _ => 0))) X.1.1 X.1.2.1 (hts _ hw) rfl hW.2.2 hW.2.1 (ch_D sa base ca N F) X.2.2.2.1 (fun q h => Nat.le_trans X.2.2.1 h) (fun cA => rfl) (ix_nn h0 (by omega)) (ix_cl h0 (by omega)) (by show n.toNat * 1 ≤ _; omega) (by omega) (by omega) hd (fun q cA' H1 hK hP hD hS => ?_)
    have := hcl 2 rfl (fun _ h => by cases h) hK
    subst this
    exact aw_born (cl := cA 2 n (fun _ => 0)) X n.toNat hm hP hD hS kk
  · refine va_newa (a0 := (n.toNat, .inr (.inl (fun _ => 0)))) X.1.1 X.1.2.1 (hts _ hw) rfl hW.2.2 hW.2.1 (ch_D sa base ca N F) X.2.2.2.1 (fun q h => Nat.le_trans X.2.2.1 h) (fun cA => rfl) (ix_nn h0 (by omega)) (ix_cl h0 (by omega)) (by show n.toNat * 8 ≤ _; omega) (by omega) (by omega) hd (fun q cA' H1 hK hP hD hS => ?_)
    have := hcl 3 rfl (fun _ h => by cases h) hK
    subst this
    exact aw_born (cl := cA 3 n (fun _ => 0)) X n.toNat hm hP hD hS kk
theorem aw_anew {idx : Nat} {n : Int} {ms : Nat} (hw : Cond.classLink M.1.cls idx "RailsGrowWider$Text" ∈ lw_g) (h0 : 0 ≤ n) (h1 : n ≤ 60000000) (hm : n.toNat ≤ ms) (hd : decode M.2.1 pc = .ok (.anewarray idx, 3)) (kk : ∀ a, nx F a → awx ex M d kc ks (pc + 3) lo (vr (some a) :: st) (hs F a (cT n (fun _ => none))) Q) : awx ex M d (kc + 1) (ks + ms) pc lo (vi n :: st) F Q := by
  intro l p e R s m args below meth c H locs cells slots sa base ca D N ls k0 n0 X
  have hts := X.1.2.2.2.2.2.2.2.1
  have hW := X.2.2.2.2.2.1
  have hb := X.2.2.2.2.2.2.2
  refine va_newq X.1.1 X.1.2.1 X.1.2.2.2.2.1 (hts _ hw) X.2.1.2.2.2.2.2.2.2.1 hW.2.2 hW.2.1 (ch_D sa base ca N F) X.2.2.2.1 (fun q h => Nat.le_trans X.2.2.1 h) (ix_nn h0 (by omega)) (ix_cl h0 (by omega)) (by omega) (by omega) (by omega) hd (fun q cA' H1 hK hP hD hS => ?_)
  obtain ⟨kA, comp, a1, a2, a3, a4⟩ := (hW.2.2.2 4 _ rfl).2
  obtain ⟨kB, comp', b1, b2, b3, b4⟩ := (hK.2 5 _ rfl).2
  have : cA' = ca 4 := Option.some.inj (b4.symm.trans a4)
  subst this
  exact aw_born (cl := cT n (fun _ => none)) X n.toNat hm hP hD hS kk
-- the JDK's own, by the kit's rows
theorem aw_max {idx : Nat} {x y : Int} (hw : Cond.methodLink M.1.cls idx Lib.Math.max.name ∈ lw_g) (hw2 : Cond.static Lib.Math.max.name ∈ lw_g ∧ Cond.initialized "java/lang/Math" ∈ lw_g ∧ Cond.code Lib.Math.max.name Lib.Math.max.code 2 (some .int) ∈ lw_g) (hc : (st.map ctg).sum ≤ 8) (hd : decode M.2.1 pc = .ok (.invokestatic idx, 3)) (kk : awx ex M (d + 1) kc ks (pc + 3) lo (vi (iMax x y) :: st) F Q) : awx ex M (d + 1) kc ks pc lo (vi y :: vi x :: st) F Q := by
  intro l p e R s m args below meth c H locs cells slots sa base ca D N ls k0 n0 X
  have hts := X.1.2.2.2.2.2.2.2.1
  have hr := X.1.2.2.2.2.2.2.2.2
  have hb := X.2.2.2.2.2.2.2
  refine va_mmax X.1.1 X.1.2.1 (X.1.2.2.1.trans X.2.2.2.2.2.2.1.1.symm) X.1.2.2.2.2.1 (hts _ hw) (hts _ hw2.1) (hts _ hw2.2.1) (hts _ hw2.2.2) (by omega) (by rw [ctg_sum]; omega) (by omega) (by omega) hd ?_
  have e1 : (if Int32.ofInt x < Int32.ofInt y then Int32.ofInt y else Int32.ofInt x) = Int32.ofInt (iMax x y) := by
    unfold iMax
    by_cases h : w32 x < w32 y
    · rw [if_pos h, if_pos ((lt32 x y).mpr h)]
    · rw [if_neg h, if_neg (fun z => h ((lt32 x y).mp z))]
  rw [e1]
  exact kk l p e R s m args below meth c H locs cells slots sa base ca D N ls k0 n0 X
theorem aw_min {idx : Nat} {x y : Int} (hw : Cond.methodLink M.1.cls idx Lib.Math.min.name ∈ lw_g) (hw2 : Cond.static Lib.Math.min.name ∈ lw_g ∧ Cond.initialized "java/lang/Math" ∈ lw_g ∧ Cond.code Lib.Math.min.name Lib.Math.min.code 2 (some .int) ∈ lw_g) (hc : (st.map ctg).sum ≤ 8) (hd : decode M.2.1 pc = .ok (.invokestatic idx, 3)) (kk : awx ex M (d + 1) kc ks (pc + 3) lo (vi (iMin x y) :: st) F Q) : awx ex M (d + 1) kc ks pc lo (vi y :: vi x :: st) F Q := by
  intro l p e R s m args below meth c H locs cells slots sa base ca D N ls k0 n0 X
  have hts := X.1.2.2.2.2.2.2.2.1
  have hr := X.1.2.2.2.2.2.2.2.2
  have hb := X.2.2.2.2.2.2.2
  refine va_mmin X.1.1 X.1.2.1 (X.1.2.2.1.trans X.2.2.2.2.2.2.1.1.symm) X.1.2.2.2.2.1 (hts _ hw) (hts _ hw2.1) (hts _ hw2.2.1) (hts _ hw2.2.2) (by omega) (by rw [ctg_sum]; omega) (by omega) (by omega) hd ?_
  have e1 : (if Int32.ofInt y < Int32.ofInt x then Int32.ofInt y else Int32.ofInt x) = Int32.ofInt (iMin x y) := by
    unfold iMin
    by_cases h : w32 y < w32 x
    · rw [if_pos h, if_pos ((lt32 y x).mpr h)]
    · rw [if_neg h, if_neg (fun z => h ((lt32 y x).mp z))]
  rw [e1]
  exact kk l p e R s m args below meth c H locs cells slots sa base ca D N ls k0 n0 X
theorem cpy_i (f g : Int → Int) {sp dp n : Int} (h1 : 0 ≤ sp) (h2 : 0 ≤ dp) (h3 : 0 ≤ n) : (fun j : Nat => Int32.ofInt (cpy f g sp dp n j)) = va_cpy (fun j : Nat => Int32.ofInt (f j)) (fun j : Nat => Int32.ofInt (g j)) sp.toNat dp.toNat n.toNat := by
  funext j
  unfold cpy va_cpy
  by_cases h : dp ≤ (j : Int) ∧ (j : Int) < dp + n
  · rw [if_pos h, if_pos (by omega)]
    congr 2
    omega
  · rw [if_neg h, if_neg (by omega)]
theorem aw_copy {idx a0 a : Nat} {n0' n1 sp dp n : Int} {f g : Int → Int} (hw : Cond.methodLink M.1.cls idx arraycopyName ∈ lw_g) (hw2 : Cond.native arraycopyName ∈ lw_g ∧ Cond.static arraycopyName ∈ lw_g ∧ Cond.initialized "java/lang/System" ∈ lw_g) (he0 : F a0 = some (cA 0 n0' f)) (he1 : F a = some (cA 0 n1 g)) (hb0 : n0' ≤ 2147483647) (hb1 : n1 ≤ 2147483647) (h1 : 0 ≤ sp) (h2 : 0 ≤ dp) (h3 : 0 ≤ n) (h4 : sp + n ≤ n0') (h5 : dp + n ≤ n1) (hc : (st.map ctg).sum ≤ 8) (hd : decode M.2.1 pc = .ok (.invokestatic idx, 3)) (kk : awx ex M (d + 1) kc ks (pc + 3) lo st (hs F a (cA 0 n1 (cpy f g sp dp n))) Q) : awx ex M (d + 1) kc ks pc lo (vi n :: vi dp :: vr (some a) :: vi sp :: vr (some a0) :: st) F Q := by
  intro l p e R s m args below meth c H locs cells slots sa base ca D N ls k0 n0 X
  have hts := X.1.2.2.2.2.2.2.2.1
  have hr := X.1.2.2.2.2.2.2.2.2
  have hW := X.2.2.2.2.2.1
  have s1 := ix_cl h1 (by omega)
  have s2 := ix_cl h2 (by omega)
  have s3 := ix_cl h3 (by omega)
  refine va_copyi X.1.1 X.1.2.1 (X.1.2.2.1.trans X.2.2.2.2.2.2.1.1.symm) X.1.2.2.2.2.1 (hts _ hw) (hts _ hw2.1) (hts _ hw2.2.1) (hts _ hw2.2.2) hW.2.2 hW.2.1 (ch_D sa base ca N F) X.2.2.2.1 (a0 - 8) (a - 8) 0 0 (by rw [ch_at hW.1 he0, ce_i _ _ (by decide)]) (by rw [ch_at hW.1 he1, ce_i _ _ (by decide)]) rfl rfl rfl (ix_nn h1 (by omega)) (ix_nn h2 (by omega)) (ix_nn h3 (by omega)) (by rw [s1, s3]; omega) (by rw [s2, s3]; omega) (fun i _ => rfl) (by omega) (by rw [ctg_sum]; simp [nativeFrameWords]; omega) hd (fun H1 locs1 hP _ hS => ?_)
  refine kk l p e R s m args below meth c H1 locs1 cells slots sa base ca D N ls k0 n0 (wx_F X hS (hs_sz hW.1 he1) ?_)
  have e2 := ch_set (g := ad sa base) (ca := ca) (c' := cA 0 n1 (cpy f g sp dp n)) hW.1 he1
  rw [← e2, ce_i _ _ (by decide), cpy_i f g h1 h2 h3]
  rw [s1, s2, s3] at hP
  exact hP
end AC
