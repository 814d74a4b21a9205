-- the two literals: handles 1, 2; their bytes: handles 3, 4
def lenS (t : Nat) : Int := if t = 3 then 142 else 11
def bytS (t : Nat) (i : Int) : Int := if t = 3 then (wordsB.getD i.toNat 0).toInt else (signsB.getD i.toNat 0).toInt
def sV (r : Option Nat) (K : Option Nat → Prop) : Prop := (r = some 1 ∧ K (some 3)) ∨ (r = some 2 ∧ K (some 4))
def sC (r : Option Nat) (K : Prop) : Prop := (r = some 1 ∨ r = some 2) ∧ K
def tN (r : Option Nat) (K : Int → Prop) : Prop := (r = some 3 ∧ K 142) ∨ (r = some 4 ∧ K 11)
def tB (r : Option Nat) (i : Int) (K : Int → Prop) : Prop := ∃ t, r = some t ∧ (t = 3 ∨ t = 4) ∧ (0 ≤ i ∧ i < lenS t) ∧ K (bytS t i)
def rcS (r : Option Nat) (K : Nat → Prop) : Prop := ∃ a, r = some a ∧ (a = 1 ∨ a = 2) ∧ K a
theorem byt3 (i : Int) : bytS 3 i = (wordsB.getD i.toNat 0).toInt := by unfold bytS; rw [if_pos rfl]
theorem byt4 (i : Int) : bytS 4 i = (signsB.getD i.toNat 0).toInt := by unfold bytS; rw [if_neg (by decide)]
section AS
variable {ex : State → (Nat → Nat) → Nat → Prop} {M : mi} {d kc ks pc : Nat} {lo : List (Option av)} {st : List av} {F : hp} {Q : Option av → hp → Prop}
theorem ar_sV {idx : Nat} {r : Option Nat} {K : Option Nat → Prop} (hl : Cond.fieldLink M.1.cls idx "java/lang/String" "value" "[B" ∈ lw_g) (hd : decode M.2.1 pc = .ok (.getfield idx, 3)) (h : sV r K) (kk : ∀ x, K x → awx ex M d kc ks (pc + 3) lo (vr x :: st) F Q) : awx ex M d kc ks pc lo (vr r :: st) F Q := by
  intro l p e R s m args below meth c H locs cells slots sa base ca D N ls k0 n0 X
  have hts := X.1.2.2.2.2.2.2.2.1
  have hv := X.2.1.2.2.1.1
  rcases h with ⟨rfl, h⟩ | ⟨rfl, h⟩
  · exact vk_getf X.1.1 X.1.2.1 (hv 0 (by omega)).2.2.1 X.2.2.2.1 X.1.2.2.2.2.1 (hts _ hl) (fun _ h => h) hd (kk _ h l p e R s m args below meth c H locs cells slots sa base ca D N ls k0 n0 X)
  · exact vk_getf X.1.1 X.1.2.1 (hv 1 (by omega)).2.2.1 X.2.2.2.1 X.1.2.2.2.2.1 (hts _ hl) (fun _ h => h) hd (kk _ h l p e R s m args below meth c H locs cells slots sa base ca D N ls k0 n0 X)
theorem ar_sC {idx : Nat} {r : Option Nat} {K : Prop} (hl : Cond.fieldLink M.1.cls idx "java/lang/String" "coder" "B" ∈ lw_g) (hd : decode M.2.1 pc = .ok (.getfield idx, 3)) (h : sC r K) (kk : K → awx ex M d kc ks (pc + 3) lo (vi 0 :: st) F Q) : awx ex M d kc ks pc lo (vr r :: st) F Q := by
  intro l p e R s m args below meth c H locs cells slots sa base ca D N ls k0 n0 X
  have hts := X.1.2.2.2.2.2.2.2.1
  have hv := X.2.1.2.2.1.1
  obtain ⟨h1, h⟩ := h
  rcases h1 with rfl | rfl
  · exact vk_getf X.1.1 X.1.2.1 (hv 0 (by omega)).2.1 X.2.2.2.1 X.1.2.2.2.2.1 (hts _ hl) (fun _ h => h) hd (kk h l p e R s m args below meth c H locs cells slots sa base ca D N ls k0 n0 X)
  · exact vk_getf X.1.1 X.1.2.1 (hv 1 (by omega)).2.1 X.2.2.2.1 X.1.2.2.2.2.1 (hts _ hl) (fun _ h => h) hd (kk h l p e R s m args below meth c H locs cells slots sa base ca D N ls k0 n0 X)
theorem ar_tN {r : Option Nat} {K : Int → Prop} (hd : decode M.2.1 pc = .ok (.arraylength, 1)) (h : tN r K) (kk : ∀ x, K x → awx ex M d kc ks (pc + 1) lo (vi x :: st) F Q) : awx ex M d kc ks pc lo (vr r :: st) F Q := by
  intro l p e R s m args below meth c H locs cells slots sa base ca D N ls k0 n0 X
  have hv := X.2.1.2.2.1.1
  rcases h with ⟨rfl, h⟩ | ⟨rfl, h⟩
  · exact va_tlen X.1.1 X.1.2.1 (hv 0 (by omega)).2.2.2 X.2.2.2.1 (v := Int32.ofInt 142) (by decide) hd (kk _ h l p e R s m args below meth c H locs cells slots sa base ca D N ls k0 n0 X)
  · exact va_tlen X.1.1 X.1.2.1 (hv 1 (by omega)).2.2.2 X.2.2.2.1 (v := Int32.ofInt 11) (by decide) hd (kk _ h l p e R s m args below meth c H locs cells slots sa base ca D N ls k0 n0 X)
theorem ar_tB {r : Option Nat} {i : Int} {K : Int → Prop} (hd : decode M.2.1 pc = .ok (.baload, 1)) (h : tB r i K) (kk : ∀ x, K x → awx ex M d kc ks (pc + 1) lo (vi x :: st) F Q) : awx ex M d kc ks pc lo (vi i :: vr r :: st) F Q := by
  intro l p e R s m args below meth c H locs cells slots sa base ca D N ls k0 n0 X
  have hv := X.2.1.2.2.1.1
  obtain ⟨t, rfl, ht, ⟨h0, h1⟩, h⟩ := h
  rcases ht with rfl | rfl
  · have h1 : i < 142 := h1
    refine va_tb X.1.1 X.1.2.1 (hv 0 (by omega)).2.2.2 X.2.2.2.1 (ix_in (n := 142) h0 h1 (by omega)) (v := .int (Int32.ofInt (bytS 3 i))) ?_ hd (kk _ h l p e R s m args below meth c H locs cells slots sa base ca D N ls k0 n0 X)
    rw [ix_cl h0 (by omega)]
    rw [byt3, Int32.ofInt_toInt]
    simp only [List.getD_cons_zero]
  · have h1 : i < 11 := h1
    refine va_tb X.1.1 X.1.2.1 (hv 1 (by omega)).2.2.2 X.2.2.2.1 (ix_in (n := 11) h0 h1 (by omega)) (v := .int (Int32.ofInt (bytS 4 i))) ?_ hd (kk _ h l p e R s m args below meth c H locs cells slots sa base ca D N ls k0 n0 X)
    rw [ix_cl h0 (by omega)]
    rw [byt4, Int32.ofInt_toInt]
    simp only [List.getD_cons_succ, List.getD_cons_zero]
theorem aw_cs {idx : Nat} (hl : Cond.fieldLink M.1.cls idx "java/lang/String" "COMPACT_STRINGS" "Z" ∈ lw_g) (hd : decode M.2.1 pc = .ok (.getstatic idx, 3)) (kk : awx ex M d kc ks (pc + 3) lo (vi 1 :: st) F Q) : awx ex M d kc ks pc lo st F Q := by
  intro l p e R s m args below meth c H locs cells slots sa base ca D N ls k0 n0 X
  have hts := X.1.2.2.2.2.2.2.2.1
  exact va_gets X.1.1 X.1.2.1 X.2.1.2.2.2.2.2.1 X.2.2.2.1 X.1.2.2.2.2.1 (hts _ hl) (fun _ h => h) hd (kk l p e R s m args below meth c H locs cells slots sa base ca D N ls k0 n0 X)
theorem ar_sio {idx : Nat} {K : Option Nat → Prop} (hl : Cond.fieldLink M.1.cls idx "jdk/internal/util/Preconditions" "SIOOBE_FORMATTER" "Ljava/util/function/BiFunction;" ∈ lw_g) (hd : decode M.2.1 pc = .ok (.getstatic idx, 3)) (h : ∀ r, K r) (kk : ∀ x, K x → awx ex M d kc ks (pc + 3) lo (vr x :: st) F Q) : awx ex M d kc ks pc lo st F Q := by
  intro l p e R s m args below meth c H locs cells slots sa base ca D N ls k0 n0 X
  have hts := X.1.2.2.2.2.2.2.2.1
  rcases X.2.1.2.2.2.2.2.2.1 with z | z
  · exact va_gets X.1.1 X.1.2.1 z X.2.2.2.1 X.1.2.2.2.2.1 (hts _ hl) (fun _ h => h) hd (kk none (h _) l p e R s m args below meth c H locs cells slots sa base ca D N ls k0 n0 X)
  · exact va_gets X.1.1 X.1.2.1 z X.2.2.2.1 X.1.2.2.2.2.1 (hts _ hl) (fun _ h => h) hd (kk (some 5) (h _) l p e R s m args below meth c H locs cells slots sa base ca D N ls k0 n0 X)
theorem aw_ldcS {k : Nat} (hM : M.1.cls = RX2) (hk : k = 118 ∨ k = 132) (hd : decode M.2.1 pc = .ok (.ldc k, 2)) (kk : awx ex M d kc ks (pc + 2) lo (vr (some (if k = 118 then 1 else 2)) :: st) F Q) : awx ex M d kc ks pc lo st F Q := by
  intro l p e R s m args below meth c H locs cells slots sa base ca D N ls k0 n0 X
  have ho := X.1.2.2.2.2.1
  rw [hM] at ho
  rcases hk with rfl | rfl
  · exact va_ldcS X.1.1 X.1.2.1 ho X.2.1.2.2.2.1 hd (kk l p e R s m args below meth c H locs cells slots sa base ca D N ls k0 n0 X)
  · exact va_ldcS X.1.1 X.1.2.1 ho X.2.1.2.2.2.2.1 hd (kk l p e R s m args below meth c H locs cells slots sa base ca D N ls k0 n0 X)
theorem aw_callT {M' : mi} {kc' ks' idx n a : Nat} {as : List av} {Q' : Option av → hp → Prop} (hM : am M' d kc' ks' (vr (some a) :: as) F Q') (ha : a = 1 ∨ a = 2) (hw : mt M' n) (hC : M'.1.cls = "java/lang/String") (hl : Cond.methodLink M.1.cls idx M'.1 ∈ lw_g) (hs : Cond.instanceMethod M'.1 ∈ lw_g) (hs2 : Cond.selects M'.1.cls M'.1 M'.1 ∈ lw_g) (hn : as.length = n) (hc : (st.map ctg).sum ≤ 8) (hd : decode M.2.1 pc = .ok (.invokevirtual idx, 3)) (kk : ∀ r F', Q' r F' → awx ex M (d + 1) kc ks (pc + 3) lo (r.toList ++ st) F' Q) : awx ex M (d + 1) (kc' + kc) (ks' + ks) pc lo (as.reverse ++ vr (some a) :: st) F Q := by
  intro l p e R s m args below meth c H locs cells slots sa base ca D N ls k0 n0 X
  have hts := X.1.2.2.2.2.2.2.2.1
  have hr := X.1.2.2.2.2.2.2.2.2
  have hb := X.2.2.2.2.2.2.2
  rw [rev_map]
  intro T hT S
  have hrc : ∃ cell : Cell, H[ad sa base a]? = some cell ∧ cell.vm.isStatics = false ∧ s.vm.findClass M'.1.cls = some cell.cls := by
    rw [hC]
    rcases ha with rfl | rfl
    · exact vk_recv X.2.1.2.2.1 (i := 0) (by omega) X.2.2.2.1
    · exact vk_recv X.2.1.2.2.1 (i := 1) (by omega) X.2.2.2.1
  refine aw_back X (va_runV (nL := M.2.2.1) (n := n) (C := M'.1.cls) (b := ad sa base a) (As := as.map (cv (ad sa base))) ⟨X.1.1, X.1.2.1, X.1.2.2.1, X.1.2.2.2.2.1, hts⟩ (hM l sa base ca D) ⟨callB_of n hts (good_wsM hw.1) rfl rfl rfl (hts _ hw.2.1) (hts _ hl) hw.2.2.1 ⟨by show d + 1 ≤ _; exact hr.1, by have := hw.2.2.2; show 8 + (M'.2.2.1 + 11) + 64 * d ≤ _; omega⟩, hts _ hs, hts _ hs2⟩ ⟨pq_blind _ sa base ca D F, hrc, fun U hU hW => ⟨rfl, pre_pq X hT S U hU hW⟩⟩ rfl (by simp [hn]) X.2.2.2.2.2.2.1.1 rfl (lv_room (by rw [ctg_sum]; exact hc)) hd ⟨by omega, by omega⟩) kk T hT S
theorem ar_TI {M' : mi} {kc' ks' idx n a : Nat} {as : List av} {Q' : Int → hp → Prop} (hM : am M' d kc' ks' (vr (some a) :: as) F (qI Q')) (ha : a = 1 ∨ a = 2) (hw : mt M' n) (hC : M'.1.cls = "java/lang/String") (hl : Cond.methodLink M.1.cls idx M'.1 ∈ lw_g) (hs : Cond.instanceMethod M'.1 ∈ lw_g) (hs2 : Cond.selects M'.1.cls M'.1 M'.1 ∈ lw_g) (hn : as.length = n) (hc : (st.map ctg).sum ≤ 8) (hd : decode M.2.1 pc = .ok (.invokevirtual idx, 3)) (kk : ∀ x F', Q' x F' → awx ex M (d + 1) kc ks (pc + 3) lo (vi x :: st) F' Q) : awx ex M (d + 1) (kc' + kc) (ks' + ks) pc lo (as.reverse ++ vr (some a) :: st) F Q :=
  aw_callT hM ha hw hC hl hs hs2 hn hc hd (fun r F' h => by obtain ⟨x, rfl, h⟩ := h; exact kk x F' h)
theorem nCh {x : Int} (h : 0 ≤ x ∧ x ≤ 65535) : narrow .char (.int (Int32.ofInt x)) = .int (Int32.ofInt x) := by
  have e : x = ((x.toNat : Nat) : Int) := (toN h.1).symm
  rw [e, Int32.ofInt_eq_ofNat]
  exact (pk_charN (q := x.toNat) (by omega)).1
theorem nBy {x : Int} (h : x = 0) : narrow .byte (.int (Int32.ofInt x)) = .int (Int32.ofInt x) := by subst h; decide
theorem aw_pc {pc' : Nat} (h : pc = pc') (k : awx ex M d kc ks pc' lo st F Q) : awx ex M d kc ks pc lo st F Q := h ▸ k
end AS
