-- a callee's words among the tables'
theorem good_wsM {M : mi} (h : Cond.code M.1 M.2.1 M.2.2.1 M.2.2.2 ∈ lw_g) : GoodIn lw_g (wsM M) := by
  intro w hw
  have hw2 : w ∈ lw_g := by
    rcases List.mem_cons.mp hw with rfl | h2
    · exact h
    · exact h2
  exact ⟨hw2, good_of_word (List.mem_filter.mp hw2).2⟩
-- a method that can be called: what the tables say of it, and how many parameters it has
def mt (M : mi) (n : Nat) : Prop := Cond.code M.1 M.2.1 M.2.2.1 M.2.2.2 ∈ lw_g ∧ Cond.initialized M.1.cls ∈ lw_g ∧ (M.1.cls ≠ "java/lang/invoke/MethodHandle" ∧ M.1.cls ≠ "java/lang/invoke/VarHandle" ∧ (parseMethodDescriptor M.1.desc).map (fun d => d.parameters.length) = some n) ∧ M.2.2.1 ≤ 45
section AI
variable {ex : State → (Nat → Nat) → Nat → Prop} {M : mi} {d kc ks pc : Nat} {lo : List (Option av)} {st : List av} {F : hp} {Q : Option av → hp → Prop}
theorem aw_back {p : Program} {l : Launch} {e : Env} {R : Room} {s : State} {m : MethodId} {args : Array Value} {below : List Frame} {meth : Method} {c : Code} {H : Heap} {locs : List Loc} {cells slots : Nat} {sa : Nat → Nat} {base : Nat} {ca : Nat → ClassId} {D : va_G} {N : Nat} {ls : Array Slot} {k0 n0 kc' ks' : Nat} {st0 : List Value} {a : Array Value} {Q' : Option av → hp → Prop}
    (X : wx ex M d (kc' + kc) (ks' + ks) lo F p R s m args meth c H locs cells slots sa base ca D N ls k0 n0)
    (hr : va_Run p l e R s m args below meth c H locs cells slots kc' ks' (F0 m pc ls st0) (st.map (cv (ad sa base))) (qq sa base ca D Q' a) (bs base))
    (kk : ∀ r F', Q' r F' → awx ex M d kc ks (pc + 3) lo (r.toList ++ st) F' Q) :
    W p l e R s m args below meth c H locs cells slots (MQ below (qq sa base ca D Q) args s k0 n0 (bs base)) (F0 m pc ls st0) := by
  intro T hT S
  obtain ⟨v, s1, t, T', L, g0, S', gL, e1, e2, ⟨⟨r, F', N', hv, hQ, hz, hw⟩, hF⟩, go⟩ := hr T hT S
  obtain ⟨h1, h2, h3, h4, h5, h6, h7, h8, h9, h10, h11⟩ := X
  have hv : v = r.map (cv (ad sa base)) := by injection hv
  subst hv
  have hs0 : H.size ≤ T'.heap.size := by rw [e1, ← g0]; exact hF.1
  have hs1 : s.heap.size ≤ T'.heap.size := Nat.le_trans h4.1 hs0
  have hzz : T'.heap.size = base + N' := by rw [e1]; exact hz
  have hS : va_S (bs base) s.heap T'.heap (locs ++ L) := by
    refine ⟨hs1, fun q q1 q2 => ?_, fun q hq => ?_⟩
    · rw [e1, hF.2 q (by rw [g0]; exact Nat.lt_of_lt_of_le q1 h4.1) q2, g0]
      exact h4.2.1 q q1 q2
    · rcases List.mem_append.mp hq with hq | hq
      · exact h4.2.2 q hq
      · exact gL q hq
  have hb := S'.heapSize
  have S2 : Stand p l e R s m args below meth c T' (locs ++ L) (base + N' - s.heap.size) (slots + ks') := by
    refine { S' with same := ?_ }
    obtain ⟨q1, q2, q3, q4, q5, q6⟩ := S'.same
    exact ⟨q1, q2, by show T'.heap.size ≤ s.heap.size + (base + N' - s.heap.size); omega, q4, q5, q6⟩
  have hst : (r.map (cv (ad sa base))).toList ++ st.map (cv (ad sa base)) = (r.toList ++ st).map (cv (ad sa base)) := by cases r <;> simp
  obtain ⟨t2, a1, b1⟩ := kk r F' hQ l p e R s m args below meth c T'.heap (locs ++ L) (base + N' - s.heap.size) (slots + ks') sa base ca D N' ls k0 n0
    ⟨h1, h2, h3, hS, by omega, ⟨hw.1, by rw [e1]; exact hw.2.1, va_K.moved (by rw [← e2]; exact S'.warmed.alike.symm) hw.2.2⟩, h7, by omega, by omega, h10, h11⟩ T' rfl S2
  exact ⟨t2, go t2 (by rw [hst]; exact a1), b1⟩
theorem pre_pq {p : Program} {l : Launch} {e : Env} {R : Room} {s : State} {m : MethodId} {args : Array Value} {below : List Frame} {meth : Method} {c : Code} {H : Heap} {locs : List Loc} {cells slots : Nat} {sa : Nat → Nat} {base : Nat} {ca : Nat → ClassId} {D : va_G} {N : Nat} {ls : Array Slot} {k0 n0 : Nat} {T : State}
    (X : wx ex M d kc ks lo F p R s m args meth c H locs cells slots sa base ca D N ls k0 n0) (hT : T.heap = H) (S : Stand p l e R s m args below meth c T locs cells slots) : ∀ U : State, U.heap = H → s.WarmedH U.vm → pq sa base ca D F U := by
  intro U hU hW
  have hz := wx_size X hT S
  obtain ⟨h1, h2, h3, h4, h5, h6, -⟩ := X
  exact ⟨stt_to h2 hW (fun q q1 q2 => by rw [hU]; exact h4.2.1 q q1 q2), N, by rw [hU]; exact hz, h6.1, by rw [hU]; exact h6.2.1, va_K.moved hW.alike h6.2.2⟩
theorem rev_map (g : Nat → Nat) (as st : List av) : (as.reverse ++ st).map (cv g) = (as.map (cv g)).reverse ++ st.map (cv g) := by rw [List.map_append, List.map_reverse]
theorem aw_callS {M' : mi} {kc' ks' idx n : Nat} {as : List av} {Q' : Option av → hp → Prop} (hM : am M' d kc' ks' as F Q') (hw : mt M' n) (hl : Cond.methodLink M.1.cls idx M'.1 ∈ lw_g) (hs : Cond.static M'.1 ∈ lw_g) (hn : as.length = n) (hc : (st.map ctg).sum ≤ 8) (hd : decode M.2.1 pc = .ok (.invokestatic idx, 3)) (kk : ∀ r F', Q' r F' → awx ex M (d + 1) kc ks (pc + 3) lo (r.toList ++ st) F' Q) : awx ex M (d + 1) (kc' + kc) (ks' + ks) pc lo (as.reverse ++ st) F Q := by
  intro l p e R s m args below meth c H locs cells slots sa base ca D N ls k0 n0 X
  have hts := X.1.2.2.2.2.2.2.2.1
  have hr := X.1.2.2.2.2.2.2.2.2
  have hb := X.2.2.2.2.2.2.2
  rw [rev_map]
  intro T hT S
  refine aw_back X (va_runS (nL := M.2.2.1) (n := n) (As := as.map (cv (ad sa base))) ⟨X.1.1, X.1.2.1, X.1.2.2.1, X.1.2.2.2.2.1, hts⟩ (hM l sa base ca D) ⟨callB_of n hts (good_wsM hw.1) rfl rfl rfl (hts _ hw.2.1) (hts _ hl) hw.2.2.1 ⟨by show d + 1 ≤ _; exact hr.1, by have := hw.2.2.2; show 8 + (M'.2.2.1 + 11) + 64 * d ≤ _; omega⟩, hts _ hs⟩ ⟨pq_blind _ sa base ca D F, fun U hU hW => ⟨rfl, pre_pq X hT S U hU hW⟩⟩ rfl (by simp [hn]) X.2.2.2.2.2.2.1.1 rfl (lv_room (by rw [ctg_sum]; exact hc)) hd ⟨by omega, by omega⟩) kk T hT S
theorem aw_callSN {M' : mi} {kc' ks' idx n : Nat} {host : String} {as : List av} {Q' : Option av → hp → Prop} (hM : am M' d kc' ks' as F Q') (hw : mt M' n) (hl : (M.1.cls, idx, M'.1, host) ∈ nestL) (hs : Cond.static M'.1 ∈ lw_g) (hn : as.length = n) (hc : (st.map ctg).sum ≤ 8) (hd : decode M.2.1 pc = .ok (.invokestatic idx, 3)) (kk : ∀ r F', Q' r F' → awx ex M (d + 1) kc ks (pc + 3) lo (r.toList ++ st) F' Q) : awx ex M (d + 1) (kc' + kc) (ks' + ks) pc lo (as.reverse ++ st) F Q := by
  intro l p e R s m args below meth c H locs cells slots sa base ca D N ls k0 n0 X
  have hts := X.1.2.2.2.2.2.2.2.1
  have hr := X.1.2.2.2.2.2.2.2.2
  have hb := X.2.2.2.2.2.2.2
  rw [rev_map]
  intro T hT S
  refine aw_back X (va_runSN (nL := M.2.2.1) (n := n) (host := host) (As := as.map (cv (ad sa base))) ⟨X.1.1, X.1.2.1, X.1.2.2.1, X.1.2.2.2.2.1, hts⟩ (hM l sa base ca D) ⟨va_cnB n hts (good_wsM hw.1) rfl rfl rfl (X.2.1.2.2.2.2.2.2.2.2.2 _ hl) (hts _ hw.2.1) hw.2.2.1 ⟨by show d + 1 ≤ _; exact hr.1, by have := hw.2.2.2; show 8 + (M'.2.2.1 + 11) + 64 * d ≤ _; omega⟩, hts _ hs, trivial⟩ ⟨pq_blind _ sa base ca D F, fun U hU hW => ⟨rfl, pre_pq X hT S U hU hW⟩⟩ rfl (by simp [hn]) X.2.2.2.2.2.2.1.1 rfl (lv_room (by rw [ctg_sum]; exact hc)) hd ⟨by omega, by omega⟩) kk T hT S
theorem aw_callV {M' : mi} {kc' ks' idx n a ci : Nat} {as fs : List av} {Q' : Option av → hp → Prop} (hM : am M' d kc' ks' (vr (some a) :: as) F Q') (hw : mt M' n) (hC : (vwCl[ci]?).map (fun q => q.1) = some M'.1.cls) (hl : Cond.methodLink M.1.cls idx M'.1 ∈ lw_g) (hs : Cond.instanceMethod M'.1 ∈ lw_g) (hs2 : Cond.selects M'.1.cls M'.1 M'.1 ∈ lw_g) (he : F a = some (cO ci fs)) (hn : as.length = n) (hc : (st.map ctg).sum ≤ 8) (hd : decode M.2.1 pc = .ok (.invokevirtual idx, 3)) (kk : ∀ r F', Q' r F' → awx ex M (d + 1) kc ks (pc + 3) lo (r.toList ++ st) F' Q) : awx ex M (d + 1) (kc' + kc) (ks' + ks) pc lo (as.reverse ++ vr (some a) :: st) F Q := by
  intro l p e R s m args below meth c H locs cells slots sa base ca D N ls k0 n0 X
  have hts := X.1.2.2.2.2.2.2.2.1
  have hr := X.1.2.2.2.2.2.2.2.2
  have hW := X.2.2.2.2.2.1
  have hb := X.2.2.2.2.2.2.2
  rw [rev_map]
  intro T hT S
  cases hq : vwCl[ci]? with
  | none => rw [hq] at hC; cases hC
  | some q =>
    rw [hq] at hC
    have hC : q.1 = M'.1.cls := by simpa using hC
    have hrc := va_recv (s := s) hW.2.2 hW.2.1 hq (ch_at hW.1 he)
    rw [hC] at hrc
    refine aw_back X (va_runV (nL := M.2.2.1) (n := n) (C := M'.1.cls) (b := ad sa base a) (As := as.map (cv (ad sa base))) ⟨X.1.1, X.1.2.1, X.1.2.2.1, X.1.2.2.2.2.1, hts⟩ (hM l sa base ca D) ⟨callB_of n hts (good_wsM hw.1) rfl rfl rfl (hts _ hw.2.1) (hts _ hl) hw.2.2.1 ⟨by show d + 1 ≤ _; exact hr.1, by have := hw.2.2.2; show 8 + (M'.2.2.1 + 11) + 64 * d ≤ _; omega⟩, hts _ hs, hts _ hs2⟩ ⟨pq_blind _ sa base ca D F, hrc, fun U hU hW => ⟨rfl, pre_pq X hT S U hU hW⟩⟩ rfl (by simp [hn]) X.2.2.2.2.2.2.1.1 rfl (lv_room (by rw [ctg_sum]; exact hc)) hd ⟨by omega, by omega⟩) kk T hT S
theorem aw_callI {M' : mi} {kc' ks' idx n a : Nat} {as : List av} {Q' : Option av → hp → Prop} (hM : am M' d kc' ks' (vr (some a) :: as) F Q') (hw : mt M' n) (hv : M'.2.2.2 = none) (hi : M'.1.name = "<init>") (hl : Cond.methodLink M.1.cls idx M'.1 ∈ lw_g) (hs : Cond.instanceMethod M'.1 ∈ lw_g) (hn : as.length = n) (hc : (st.map ctg).sum ≤ 8) (hd : decode M.2.1 pc = .ok (.invokespecial idx, 3)) (kk : ∀ r F', Q' r F' → awx ex M (d + 1) kc ks (pc + 3) lo (r.toList ++ st) F' Q) : awx ex M (d + 1) (kc' + kc) (ks' + ks) pc lo (as.reverse ++ vr (some a) :: st) F Q := by
  intro l p e R s m args below meth c H locs cells slots sa base ca D N ls k0 n0 X
  have hts := X.1.2.2.2.2.2.2.2.1
  have hr := X.1.2.2.2.2.2.2.2.2
  have hb := X.2.2.2.2.2.2.2
  rw [rev_map]
  intro T hT S
  obtain ⟨y, cc, nL, ret⟩ := M'
  cases hv
  refine aw_back X (va_runI (nL := M.2.2.1) (n := n) (b := ad sa base a) (As := as.map (cv (ad sa base))) ⟨X.1.1, X.1.2.1, X.1.2.2.1, X.1.2.2.2.2.1, hts⟩ (hM l sa base ca D) ⟨callB_of n hts (good_wsM hw.1) rfl rfl rfl (hts _ hw.2.1) (hts _ hl) hw.2.2.1 ⟨by show d + 1 ≤ _; exact hr.1, by have h45 : nL ≤ 45 := hw.2.2.2; show 8 + (nL + 11) + 64 * d ≤ _; omega⟩, hi, hts _ hs⟩ ⟨pq_blind _ sa base ca D F, fun U hU hW => ⟨rfl, pre_pq X hT S U hU hW⟩⟩ rfl (by simp [hn]) X.2.2.2.2.2.2.1.1 rfl (lv_room (by rw [ctg_sum]; exact hc)) hd ⟨by omega, by omega⟩) kk T hT S
theorem aw_callIN {M' : mi} {kc' ks' idx n a : Nat} {host : String} {as : List av} {Q' : Option av → hp → Prop} (hM : am M' d kc' ks' (vr (some a) :: as) F Q') (hw : mt M' n) (hv : M'.2.2.2 = none) (hi : M'.1.name = "<init>") (hl : (M.1.cls, idx, M'.1, host) ∈ nestL) (hs : Cond.instanceMethod M'.1 ∈ lw_g) (hn : as.length = n) (hc : (st.map ctg).sum ≤ 8) (hd : decode M.2.1 pc = .ok (.invokespecial idx, 3)) (kk : ∀ r F', Q' r F' → awx ex M (d + 1) kc ks (pc + 3) lo (r.toList ++ st) F' Q) : awx ex M (d + 1) (kc' + kc) (ks' + ks) pc lo (as.reverse ++ vr (some a) :: st) F Q := by
  intro l p e R s m args below meth c H locs cells slots sa base ca D N ls k0 n0 X
  have hts := X.1.2.2.2.2.2.2.2.1
  have hr := X.1.2.2.2.2.2.2.2.2
  have hb := X.2.2.2.2.2.2.2
  rw [rev_map]
  intro T hT S
  obtain ⟨y, cc, nL, ret⟩ := M'
  cases hv
  refine aw_back X (va_runIN (nL := M.2.2.1) (n := n) (host := host) (b := ad sa base a) (As := as.map (cv (ad sa base))) ⟨X.1.1, X.1.2.1, X.1.2.2.1, X.1.2.2.2.2.1, hts⟩ (hM l sa base ca D) ⟨va_cnB n hts (good_wsM hw.1) rfl rfl rfl (X.2.1.2.2.2.2.2.2.2.2.2 _ hl) (hts _ hw.2.1) hw.2.2.1 ⟨by show d + 1 ≤ _; exact hr.1, by have h45 : nL ≤ 45 := hw.2.2.2; show 8 + (nL + 11) + 64 * d ≤ _; omega⟩, hi, hts _ hs⟩ ⟨pq_blind _ sa base ca D F, fun U hU hW => ⟨rfl, pre_pq X hT S U hU hW⟩⟩ rfl (by simp [hn]) X.2.2.2.2.2.2.1.1 rfl (lv_room (by rw [ctg_sum]; exact hc)) hd ⟨by omega, by omega⟩) kk T hT S
theorem aw_obj {idx a : Nat} (hl : Cond.methodLink M.1.cls idx objectInit ∈ lw_g) (hw : Cond.instanceMethod objectInit ∈ lw_g ∧ Cond.code objectInit ⟨#[0xb1]⟩ 1 none ∈ lw_g) (hc : (st.map ctg).sum ≤ 8) (hd : decode M.2.1 pc = .ok (.invokespecial idx, 3)) (kk : awx ex M (d + 1) kc ks (pc + 3) lo st F Q) : awx ex M (d + 1) kc ks pc lo (vr (some a) :: st) F Q := by
  intro l p e R s m args below meth c H locs cells slots sa base ca D N ls k0 n0 X
  have hts := X.1.2.2.2.2.2.2.2.1
  have hr := X.1.2.2.2.2.2.2.2.2
  refine W.objInit X.1.1 X.1.2.1 X.1.2.2.2.2.1 (hts _ hl) (hts _ hw.1) (hts _ hw.2) rfl (by rw [X.1.2.2.1]; exact X.2.2.2.2.2.2.1.1) rfl hd (by omega) ?_ (kk l p e R s m args below meth c H locs cells slots sa base ca D N ls k0 n0 X)
  show 2 * 0 + _ + 12 ≤ _
  rw [ctg_sum]
  omega
-- clone of a row of ints, and the cast behind it
theorem aw_clone {idx a : Nat} {n : Int} {f : Int → Int} {ms : Nat} (hw : Cond.methodLink M.1.cls idx ⟨"[I", "clone", "()Ljava/lang/Object;"⟩ ∈ lw_g) (hw2 : Cond.sameMethod "[I" "java/lang/Object" "clone" "()Ljava/lang/Object;" ∈ lw_g ∧ Cond.native ⟨"java/lang/Object", "clone", "()Ljava/lang/Object;"⟩ ∈ lw_g ∧ Cond.instanceMethod ⟨"java/lang/Object", "clone", "()Ljava/lang/Object;"⟩ ∈ lw_g ∧ Cond.selects "[I" ⟨"[I", "clone", "()Ljava/lang/Object;"⟩ ⟨"java/lang/Object", "clone", "()Ljava/lang/Object;"⟩ ∈ lw_g) (he : F a = some (cA 0 n f)) (hm : n.toNat ≤ ms) (hc : (st.map ctg).sum ≤ 8) (hd : decode M.2.1 pc = .ok (.invokevirtual idx, 3)) (kk : ∀ b, nx F b → awx ex M (d + 1) kc ks (pc + 3) lo (vr (some b) :: st) (hs F b (cA 0 n f)) Q) : awx ex M (d + 1) (kc + 1) (ks + ms) pc lo (vr (some a) :: st) F Q := by
  intro l p e R s m args below meth c H locs cells slots sa base ca D N ls k0 n0 X
  have hts := X.1.2.2.2.2.2.2.2.1
  have hr := X.1.2.2.2.2.2.2.2.2
  have hW := X.2.2.2.2.2.1
  have hb := X.2.2.2.2.2.2.2
  refine va_clone (x := (n.toNat, .inl (fun j => Int32.ofInt (f j)))) (ty := .int) X.1.1 X.1.2.1 (X.1.2.2.1.trans X.2.2.2.2.2.2.1.1.symm) X.1.2.2.2.2.1 (hts _ hw) (hts _ hw2.1) (hts _ hw2.2.1) (hts _ hw2.2.2.1) (hts _ hw2.2.2.2) X.2.1.2.2.2.2.2.2.2.2.1 hW.2.2 hW.2.1 (ch_D sa base ca N F) X.2.2.2.1 (fun q h => Nat.le_trans X.2.2.1 h) (a - 8) 0 (by rw [ch_at hW.1 he, ce_i _ _ (by decide)]) rfl (hW.2.2.2 0 _ rfl).2 (fun i v hv => ?_) (by omega) (by rw [ctg_sum]; omega) (by omega) (by show slots + n.toNat ≤ _; omega) hd (fun q H1 _ hP hD hS => ?_)
  · have hv : (arrV (ca 0) n.toNat (fun j => Value.int (Int32.ofInt (f j)))).slots[i]? = some v := hv
    have hi : i < n.toNat := by
      have := (Array.getElem?_eq_some_iff.mp hv).1
      rw [arrV_size] at this
      exact this
    rw [arrV_read _ _ hi] at hv
    cases hv
    rfl
  · exact aw_born (cl := cA 0 n f) X n.toNat hm hP hD hS kk
theorem aw_castI {idx a : Nat} {n : Int} {f : Int → Int} (hl : Cond.classLink M.1.cls idx "[I" ∈ lw_g) (he : F a = some (cA 0 n f)) (hd : decode M.2.1 pc = .ok (.checkcast idx, 3)) (kk : awx ex M d kc ks (pc + 3) lo (vr (some a) :: st) F Q) : awx ex M d kc ks pc lo (vr (some a) :: st) F Q := by
  intro l p e R s m args below meth c H locs cells slots sa base ca D N ls k0 n0 X
  have hts := X.1.2.2.2.2.2.2.2.1
  have hW := X.2.2.2.2.2.1
  exact va_castA X.1.1 X.1.2.1 X.1.2.2.2.2.1 (hts _ hl) hW.2.1 (a - 8) (by rw [ch_at hW.1 he, ce_i _ _ (by decide)]) (hW.2.2.2 0 _ rfl).2 hd (kk l p e R s m args below meth c H locs cells slots sa base ca D N ls k0 n0 X)
-- the static row: handle 0
theorem aw_rows {idx : Nat} (hl : Cond.fieldLink M.1.cls idx RX1 "ROWS_BEHIND" "[I" ∈ lw_g) (hd : decode M.2.1 pc = .ok (.getstatic idx, 3)) (kk : awx ex M d kc ks (pc + 3) lo (vr (some 0) :: st) F Q) : awx ex M d kc ks pc lo st F Q := by
  intro l p e R s m args below meth c H locs cells slots sa base ca D N ls k0 n0 X
  have hts := X.1.2.2.2.2.2.2.2.1
  exact va_gets X.1.1 X.1.2.1 X.2.1.1 X.2.2.2.1 X.1.2.2.2.2.1 (hts _ hl) (fun _ h => h) hd (kk l p e R s m args below meth c H locs cells slots sa base ca D N ls k0 n0 X)
def rowsI (i : Int) : Int := if i = 0 then 24 else if i = 1 then 6 else if i = 2 then 2 else 1
theorem aw_rowsI {i : Int} (h0 : 0 ≤ i) (h1 : i < 5) (hd : decode M.2.1 pc = .ok (.iaload, 1)) (kk : awx ex M d kc ks (pc + 1) lo (vi (rowsI i) :: st) F Q) : awx ex M d kc ks pc lo (vi i :: vr (some 0) :: st) F Q := by
  intro l p e R s m args below meth c H locs cells slots sa base ca D N ls k0 n0 X
  refine va_ti X.1.1 X.1.2.1 X.2.1.2.1 X.2.2.2.1 (ix_in h0 h1 (by omega)) (v := .int (Int32.ofInt (rowsI i))) ?_ hd (kk l p e R s m args below meth c H locs cells slots sa base ca D N ls k0 n0 X)
  rw [ix_cl h0 (by omega)]
  have hh : i = 0 ∨ i = 1 ∨ i = 2 ∨ i = 3 ∨ i = 4 := by omega
  rcases hh with rfl | rfl | rfl | rfl | rfl <;> rfl
-- the entry
def el : List av → List (Option av)
  | [] => []
  | .inr (.inl x) :: r => some (vl x) :: none :: el r
  | .inl x :: r => some (vi x) :: el r
  | .inr (.inr x) :: r => some (vr x) :: el r
theorem el_args (g : Nat → Nat) : ∀ (as : List av) (k : Nat), lc g k (el as) = lv_args k (as.map (cv g)) := by
  intro as
  induction as with
  | nil => intro k; rfl
  | cons a r ih =>
    intro k
    rcases a with x | x | x
    · simp only [el, lc, List.map, lv_args]
      rw [ih]
      rfl
    · simp only [el, lc, List.map, lv_args]
      rw [ih]
      rfl
    · simp only [el, lc, List.map, lv_args]
      rw [ih]
      cases x <;> rfl
theorem el_len (g : Nat → Nat) : ∀ as : List av, (lg_sl (as.map (cv g))).length = (el as).length := by
  intro as
  induction as with
  | nil => rfl
  | cons a r ih =>
    have e1 : lg_sl ((a :: r).map (cv g)) = lg_sl [cv g a] ++ lg_sl (r.map (cv g)) := by simp [lg_sl]
    rw [e1, List.length_append, ih]
    rcases a with x | x | x
    · simp [lg_sl, cv, Value.category, el]; omega
    · simp [lg_sl, cv, Value.category, el]; omega
    · cases x <;> simp [lg_sl, cv, va_rf, Value.category, el] <;> omega
theorem lc_none (g : Nat → Nat) : ∀ (n k : Nat) (a : List (Option av)), lc g k (a ++ List.replicate n none) = lc g k a := by
  intro n k a
  induction a generalizing k with
  | nil =>
    simp only [List.nil_append]
    induction n generalizing k with
    | zero => rfl
    | succ n ih => simp only [List.replicate_succ, lc]; rw [ih]; rfl
  | cons x a ih =>
    cases x with
    | none => simp only [List.cons_append, lc]; exact ih _
    | some v => simp only [List.cons_append, lc]; rw [ih]
abbrev ent (as : List av) (nL : Nat) : List (Option av) := el as ++ List.replicate (nL - (el as).length) none
theorem am_of {as : List av} (hy : plainName M.1.cls = true) (hn : (el as).length ≤ M.2.2.1) (h : aw M d kc ks 0 (ent as M.2.2.1) [] F Q) : am M d kc ks as F Q := by
  intro l sa base ca D
  obtain ⟨y, cc, nL, ret⟩ := M
  refine Met.ofW (cc := cc) (maxL := nL) (ret := ret) hy rfl ?_
  intro p e s m args below meth c s₁ B hml hv
  obtain ⟨rfl, h1, N, h2, h3, h4, h5⟩ := hv
  have hts : ∀ w ∈ wsM (y, cc, nL, ret), w.before _ s = true := atoms_spec (ws := wsM (y, cc, nL, ret)) B.pre
  rw [lg_entry_eq]
  refine h l p e _ s m _ below meth c s.heap [] 0 0 sa base ca D N _ kc ks ⟨⟨B.exec, B.bytes, hml, B.returns, findClass_of_methodNamed B.named, B.notSynchronized, fun hq => (name_of_methodNamed B.named B.method).1.trans hq, fun w hw => hts w (List.mem_cons_of_mem _ hw), Nat.le_refl _, Nat.le_refl _⟩, h1, by omega, va_S.rf, by omega, ⟨h3, h4, h5⟩, ?_, by omega, by omega, Nat.le_refl _, Nat.le_refl _, trivial⟩
  have := lv_entry (as.map (cv (ad sa base))) (n := nL) (by rw [el_len]; exact hn)
  rw [lc_none, el_args]
  exact this
end AI
-- touches what later parts use, so that the modules that a part needs stay the same
theorem kit_touch : True := by
  have _ := @va_sld
  have _ := @va_slen
  have _ := @va_tb
  have _ := @va_ti
  have _ := @va_tlen
  have _ := @vk_getf
  have _ := @vk_recv
  have _ := @va_ldcS
  have _ := @vk_Sof
  have _ := @vk_OFof
  have _ := @va_Tof
  have _ := @va_Zqof
  have _ := @va_forget
  have _ := @flat_of_before
  have _ := @k2_hts_sels
  have _ := @u_known
  have _ := @va_Zof
  have _ := @vk_R.of
  have _ := @vk_copyt
  trivial
