def mX3_init (o : Nat) (F : hp) (Q : hp → Prop) : Prop := nwc F (cA 0 14 (fun _ => 0)) (fun n1 F2 => pF F2 (some o) 3 0 (vr (some n1)) (fun F3 => nwc F3 (cA 0 300 (fun _ => 0)) (fun n4 F5 => pF F5 (some o) 3 1 (vr (some n4)) (fun F6 => Q F6))))
set_option maxHeartbeats 4000000 in
theorem tX3_init {d : Nat} {o : Nat} {F : hp} {Q : hp → Prop} (h : mX3_init o F Q) : am nX3_init (d + 1) 2 314 [vr (some o)] F (qV Q) := by
  refine am_of (by decide +kernel) (Nat.le_of_ble_eq_true rfl) ?_
  show aw nX3_init (d + 1) 2 314 0 [some (vr (some o))] [] F (qV Q)
  unfold mX3_init at h
  refine aw_aload_n dX3_init_0 rfl rfl (aw_pc (pc' := 1) rfl ?_)
  refine aw_obj qM_RX3_3 mw_obj (Nat.le_of_ble_eq_true rfl) dX3_init_1 (aw_pc (pc' := 4) rfl ?_)
  refine aw_aload_n dX3_init_4 rfl rfl (aw_pc (pc' := 5) rfl ?_)
  refine aw_bipush dX3_init_5 (by decide) (aw_pc (pc' := 7) rfl ?_)
  refine ar_newarr (k := 0) (kc := 1) (ks := 300) (ms := 14) (Or.inl rfl) rfl qY_int (by decide) dX3_init_7 h ?_
  clear h
  intro n1 F2 h
  refine aw_pc (pc' := 9) rfl ?_
  refine ar_pFF fl_RX3_9 ft_X3_0 rfl rfl (okA _ _) dX3_init_9 h ?_
  clear h
  intro F3 h
  refine aw_pc (pc' := 12) rfl ?_
  refine aw_aload_n dX3_init_12 rfl rfl (aw_pc (pc' := 13) rfl ?_)
  refine aw_sipush dX3_init_13 (by decide) (aw_pc (pc' := 16) rfl ?_)
  refine ar_newarr (k := 0) (kc := 0) (ks := 0) (ms := 300) (Or.inl rfl) rfl qY_int (by decide) dX3_init_16 h ?_
  clear h
  intro n4 F5 h
  refine aw_pc (pc' := 18) rfl ?_
  refine ar_pFF fl_RX3_15 ft_X3_1 rfl rfl (okA _ _) dX3_init_18 h ?_
  clear h
  intro F6 h
  refine aw_pc (pc' := 21) rfl ?_
  exact aw_vret rfl dX3_init_21 ⟨rfl, h⟩
def mX3_push_J51 (Q : hp → Prop) (o : Nat) (s0 : Option Nat) (s1 : Int) (s2 : Int) (F : hp) : Prop := sI F s0 0 s1 s2 (fun F1 => gI F1 (some o) 3 2 (fun x2 => pF F1 (some o) 3 2 (vi (x2 + 1)) (fun F3 => Q F3)))
set_option maxHeartbeats 4000000 in
theorem tX3_push_J51 {d : Nat} {Q : hp → Prop} {o : Nat} {s0 : Option Nat} {s1 : Int} {s2 : Int} {F : hp} (h : mX3_push_J51 Q o s0 s1 s2 F) : aw nX3_push d 0 0 51 [some (vr (some o)), none, none, none, none] [vl s2, vi s1, vr s0] F (qV Q) := by
  unfold mX3_push_J51 at h
  refine aw_l2i dX3_push_51 (aw_pc (pc' := 52) rfl ?_)
  refine ar_sI dX3_push_52 h ?_
  clear h
  intro F1 h
  refine aw_pc (pc' := 53) rfl ?_
  refine aw_aload_n dX3_push_53 rfl rfl (aw_pc (pc' := 54) rfl ?_)
  refine aw_dup dX3_push_54 trivial (aw_pc (pc' := 55) rfl ?_)
  refine ar_gI fl_RX3_18 dX3_push_55 h ?_
  clear h
  intro x2 h
  refine aw_pc (pc' := 58) rfl ?_
  refine aw_iconst dX3_push_58 (aw_pc (pc' := 59) rfl ?_)
  refine aw_iadd dX3_push_59 (aw_pc (pc' := 60) rfl ?_)
  refine ar_pF fl_RX3_18 ft_X3_2 (okI _) dX3_push_60 h ?_
  clear h
  intro F3 h
  refine aw_pc (pc' := 63) rfl ?_
  exact aw_vret rfl dX3_push_63 ⟨rfl, h⟩
def mX3_push_J27 (Q : hp → Prop) (o : Nat) (s0 : Int) (F : hp) : Prop := gR F (some o) 3 1 (fun x1 => gI F (some o) 3 2 (fun x2 => (w32 (iCmp s0 (-1000000)) < 0 → mX3_push_J51 Q o x1 x2 (-1000000) F) ∧ (¬ w32 (iCmp s0 (-1000000)) < 0 → mX3_push_J51 Q o x1 x2 s0 F)))
set_option maxHeartbeats 4000000 in
theorem tX3_push_J27 {d : Nat} {Q : hp → Prop} {o : Nat} {s0 : Int} {F : hp} (h : mX3_push_J27 Q o s0 F) : aw nX3_push d 0 0 27 [some (vr (some o)), none, none, none, none] [vl s0] F (qV Q) := by
  unfold mX3_push_J27 at h
  refine aw_lstore_n dX3_push_27 rfl (by decide) (aw_pc (pc' := 28) rfl ?_)
  refine aw_aload_n dX3_push_28 rfl rfl (aw_pc (pc' := 29) rfl ?_)
  refine ar_gR fl_RX3_15 dX3_push_29 h ?_
  clear h
  intro x1 h
  refine aw_pc (pc' := 32) rfl ?_
  refine aw_aload_n dX3_push_32 rfl rfl (aw_pc (pc' := 33) rfl ?_)
  refine ar_gI fl_RX3_18 dX3_push_33 h ?_
  clear h
  intro x2 h
  refine aw_pc (pc' := 36) rfl ?_
  refine aw_lload_n dX3_push_36 rfl rfl (aw_pc (pc' := 37) rfl ?_)
  refine aw_ldc2 (n := (-1000000)) dX3_push_37 qK_RX3_60 (aw_pc (pc' := 40) rfl ?_)
  refine aw_lcmp dX3_push_40 (aw_pc (pc' := 41) rfl ?_)
  refine aw_if_ge dX3_push_41 rfl (fun c => ?_) (fun c => ?_)
  · replace h := h.1 c
    refine aw_ldc2 (n := (-1000000)) dX3_push_44 qK_RX3_60 (aw_pc (pc' := 47) rfl ?_)
    refine aw_goto (tgt := 51) dX3_push_47 rfl ?_
    exact aw_mask [true, false, false, false, false] (tX3_push_J51 h)
  · replace h := h.2 c
    refine aw_lload_n dX3_push_50 rfl rfl (aw_pc (pc' := 51) rfl ?_)
    exact aw_mask [true, false, false, false, false] (tX3_push_J51 h)
def mX3_push (o : Nat) (a1 : Int) (F : hp) (Q : hp → Prop) : Prop := gI F (some o) 3 2 (fun x1 => gR F (some o) 3 1 (fun x2 => aN F x2 (fun x3 => (w32 x1 < w32 x3 → (0 < w32 (iCmp a1 1000000) → mX3_push_J27 Q o 1000000 F) ∧ (¬ 0 < w32 (iCmp a1 1000000) → mX3_push_J27 Q o a1 F)) ∧ (¬ w32 x1 < w32 x3 → Q F))))
set_option maxHeartbeats 4000000 in
theorem tX3_push {d : Nat} {o : Nat} {a1 : Int} {F : hp} {Q : hp → Prop} (h : mX3_push o a1 F Q) : am nX3_push d 0 0 [vr (some o), vl a1] F (qV Q) := by
  refine am_of (by decide +kernel) (Nat.le_of_ble_eq_true rfl) ?_
  show aw nX3_push d 0 0 0 [some (vr (some o)), some (vl a1), none, none, none] [] F (qV Q)
  unfold mX3_push at h
  refine aw_aload_n dX3_push_0 rfl rfl (aw_pc (pc' := 1) rfl ?_)
  refine ar_gI fl_RX3_18 dX3_push_1 h ?_
  clear h
  intro x1 h
  refine aw_pc (pc' := 4) rfl ?_
  refine aw_aload_n dX3_push_4 rfl rfl (aw_pc (pc' := 5) rfl ?_)
  refine ar_gR fl_RX3_15 dX3_push_5 h ?_
  clear h
  intro x2 h
  refine aw_pc (pc' := 8) rfl ?_
  refine ar_aN dX3_push_8 h ?_
  clear h
  intro x3 h
  refine aw_pc (pc' := 9) rfl ?_
  refine ac_ge rfl rfl dX3_push_9 rfl (fun c => ?_) (fun c => ?_)
  · replace h := h.1 c
    refine aw_lload_n dX3_push_12 rfl rfl (aw_pc (pc' := 13) rfl ?_)
    refine aw_ldc2 (n := 1000000) dX3_push_13 qK_RX3_58 (aw_pc (pc' := 16) rfl ?_)
    refine aw_lcmp dX3_push_16 (aw_pc (pc' := 17) rfl ?_)
    refine aw_if_le dX3_push_17 rfl (fun c => ?_) (fun c => ?_)
    · replace h := h.1 c
      refine aw_ldc2 (n := 1000000) dX3_push_20 qK_RX3_58 (aw_pc (pc' := 23) rfl ?_)
      refine aw_goto (tgt := 27) dX3_push_23 rfl ?_
      exact aw_mask [true, false, false, false, false] (tX3_push_J27 h)
    · replace h := h.2 c
      refine aw_lload_n dX3_push_26 rfl rfl (aw_pc (pc' := 27) rfl ?_)
      exact aw_mask [true, false, false, false, false] (tX3_push_J27 h)
  · replace h := h.2 c
    exact aw_vret rfl dX3_push_63 ⟨rfl, h⟩
def mX3_valueOf (o : Nat) (a1 : Int) (F : hp) (Q : Int → hp → Prop) : Prop := (w32 a1 < 0 → Q 0 F) ∧ (¬ w32 a1 < 0 → gR F (some o) 3 0 (fun x1 => aN F x1 (fun x2 => (w32 a1 < w32 x2 → gR F (some o) 3 0 (fun x3 => aI F x3 0 a1 (fun x4 => Q x4 F))) ∧ (¬ w32 a1 < w32 x2 → Q 0 F))))
set_option maxHeartbeats 4000000 in
theorem tX3_valueOf {d : Nat} {o : Nat} {a1 : Int} {F : hp} {Q : Int → hp → Prop} (h : mX3_valueOf o a1 F Q) : am nX3_valueOf d 0 0 [vr (some o), vi a1] F (qI Q) := by
  refine am_of (by decide +kernel) (Nat.le_of_ble_eq_true rfl) ?_
  show aw nX3_valueOf d 0 0 0 [some (vr (some o)), some (vi a1)] [] F (qI Q)
  unfold mX3_valueOf at h
  refine aw_iload_n dX3_valueOf_0 rfl rfl (aw_pc (pc' := 1) rfl ?_)
  refine aw_if_lt dX3_valueOf_1 rfl (fun c => ?_) (fun c => ?_)
  · replace h := h.1 c
    refine aw_iconst dX3_valueOf_22 (aw_pc (pc' := 23) rfl ?_)
    exact aw_iret rfl dX3_valueOf_23 ⟨_, rfl, h⟩
  · replace h := h.2 c
    refine aw_iload_n dX3_valueOf_4 rfl rfl (aw_pc (pc' := 5) rfl ?_)
    refine aw_aload_n dX3_valueOf_5 rfl rfl (aw_pc (pc' := 6) rfl ?_)
    refine ar_gR fl_RX3_9 dX3_valueOf_6 h ?_
    clear h
    intro x1 h
    refine aw_pc (pc' := 9) rfl ?_
    refine ar_aN dX3_valueOf_9 h ?_
    clear h
    intro x2 h
    refine aw_pc (pc' := 10) rfl ?_
    refine ac_ge rfl rfl dX3_valueOf_10 rfl (fun c => ?_) (fun c => ?_)
    · replace h := h.1 c
      refine aw_aload_n dX3_valueOf_13 rfl rfl (aw_pc (pc' := 14) rfl ?_)
      refine ar_gR fl_RX3_9 dX3_valueOf_14 h ?_
      clear h
      intro x3 h
      refine aw_pc (pc' := 17) rfl ?_
      refine aw_iload_n dX3_valueOf_17 rfl rfl (aw_pc (pc' := 18) rfl ?_)
      refine ar_aI dX3_valueOf_18 h ?_
      clear h
      intro x4 h
      refine aw_pc (pc' := 19) rfl ?_
      refine aw_goto (tgt := 23) dX3_valueOf_19 rfl ?_
      exact aw_iret rfl dX3_valueOf_23 ⟨_, rfl, h⟩
    · replace h := h.2 c
      refine aw_iconst dX3_valueOf_22 (aw_pc (pc' := 23) rfl ?_)
      exact aw_iret rfl dX3_valueOf_23 ⟨_, rfl, h⟩
def mX3_pop (o : Nat) (F : hp) (Q : Int → hp → Prop) : Prop := gI F (some o) 3 2 (fun x1 => (w32 x1 = 0 → Q 0 F) ∧ (¬ w32 x1 = 0 → gI F (some o) 3 2 (fun x2 => pF F (some o) 3 2 (vi (x2 - 1)) (fun F3 => gR F3 (some o) 3 1 (fun x4 => gI F3 (some o) 3 2 (fun x5 => aI F3 x4 0 x5 (fun x6 => Q x6 F3)))))))
set_option maxHeartbeats 4000000 in
theorem tX3_pop {d : Nat} {o : Nat} {F : hp} {Q : Int → hp → Prop} (h : mX3_pop o F Q) : am nX3_pop d 0 0 [vr (some o)] F (qI Q) := by
  refine am_of (by decide +kernel) (Nat.le_of_ble_eq_true rfl) ?_
  show aw nX3_pop d 0 0 0 [some (vr (some o))] [] F (qI Q)
  unfold mX3_pop at h
  refine aw_aload_n dX3_pop_0 rfl rfl (aw_pc (pc' := 1) rfl ?_)
  refine ar_gI fl_RX3_18 dX3_pop_1 h ?_
  clear h
  intro x1 h
  refine aw_pc (pc' := 4) rfl ?_
  refine aw_if_ne dX3_pop_4 rfl (fun c => ?_) (fun c => ?_)
  · replace h := h.1 c
    refine aw_iconst dX3_pop_7 (aw_pc (pc' := 8) rfl ?_)
    exact aw_iret rfl dX3_pop_8 ⟨_, rfl, h⟩
  · replace h := h.2 c
    refine aw_aload_n dX3_pop_9 rfl rfl (aw_pc (pc' := 10) rfl ?_)
    refine aw_dup dX3_pop_10 trivial (aw_pc (pc' := 11) rfl ?_)
    refine ar_gI fl_RX3_18 dX3_pop_11 h ?_
    clear h
    intro x2 h
    refine aw_pc (pc' := 14) rfl ?_
    refine aw_iconst dX3_pop_14 (aw_pc (pc' := 15) rfl ?_)
    refine aw_isub dX3_pop_15 (aw_pc (pc' := 16) rfl ?_)
    refine ar_pF fl_RX3_18 ft_X3_2 (okI _) dX3_pop_16 h ?_
    clear h
    intro F3 h
    refine aw_pc (pc' := 19) rfl ?_
    refine aw_aload_n dX3_pop_19 rfl rfl (aw_pc (pc' := 20) rfl ?_)
    refine ar_gR fl_RX3_15 dX3_pop_20 h ?_
    clear h
    intro x4 h
    refine aw_pc (pc' := 23) rfl ?_
    refine aw_aload_n dX3_pop_23 rfl rfl (aw_pc (pc' := 24) rfl ?_)
    refine ar_gI fl_RX3_18 dX3_pop_24 h ?_
    clear h
    intro x5 h
    refine aw_pc (pc' := 27) rfl ?_
    refine ar_aI dX3_pop_27 h ?_
    clear h
    intro x6 h
    refine aw_pc (pc' := 28) rfl ?_
    exact aw_iret rfl dX3_pop_28 ⟨_, rfl, h⟩
def mX3_operated (a0 : Int) (a1 : Int) (a2 : Int) (F : hp) (Q : Int → hp → Prop) : Prop := (w32 a0 = 26 → Q (w32 (iOr a1 a2)) F) ∧ (w32 a0 = 27 → Q (w32 (iAnd a1 a2)) F) ∧ (w32 a0 = 28 → Q 0 F) ∧ (w32 a0 = 29 → Q 0 F) ∧ (w32 a0 = 30 → (w32 a1 < w32 a2 → Q 1 F) ∧ (¬ w32 a1 < w32 a2 → Q 0 F)) ∧ (w32 a0 = 31 → (w32 a2 < w32 a1 → Q 1 F) ∧ (¬ w32 a2 < w32 a1 → Q 0 F)) ∧ (w32 a0 = 32 → (w32 a1 = w32 a2 → Q 1 F) ∧ (¬ w32 a1 = w32 a2 → Q 0 F)) ∧ (w32 a0 = 33 → (w32 a1 = w32 a2 → Q 0 F) ∧ (¬ w32 a1 = w32 a2 → Q 1 F)) ∧ (w32 a0 = 34 → Q ((w32 a1) + (w32 a2)) F) ∧ (w32 a0 = 35 → Q ((w32 a1) - (w32 a2)) F) ∧ (w32 a0 = 36 → Q ((w32 a1) * (w32 a2)) F) ∧ (w32 a0 = 37 → (w32 a2 = 0 → Q 0 F) ∧ (¬ w32 a2 = 0 → w32 a2 ≠ 0 ∧ Q (w32 ((w32 a1).tdiv (w32 a2))) F)) ∧ (w32 a0 = 38 → Q 0 F) ∧ (w32 a0 = 39 → Q 0 F) ∧ (w32 a0 = 40 → Q 0 F) ∧ (w32 a0 = 41 → (w32 a2 < w32 a1 → Q 0 F) ∧ (¬ w32 a2 < w32 a1 → Q 1 F)) ∧ (w32 a0 = 42 → (w32 a1 < w32 a2 → Q 0 F) ∧ (¬ w32 a1 < w32 a2 → Q 1 F)) ∧ (w32 a0 < 26 ∨ 42 < w32 a0 → Q 0 F)
set_option maxHeartbeats 4000000 in
theorem tX3_operated {d : Nat} {a0 : Int} {a1 : Int} {a2 : Int} {F : hp} {Q : Int → hp → Prop} (h : mX3_operated a0 a1 a2 F Q) : am nX3_operated d 0 0 [vi a0, vi a1, vi a2] F (qL Q) := by
  refine am_of (by decide +kernel) (Nat.le_of_ble_eq_true rfl) ?_
  show aw nX3_operated d 0 0 0 [some (vi a0), some (vi a1), some (vi a2)] [] F (qL Q)
  unfold mX3_operated at h
  refine aw_iload_n dX3_operated_0 rfl rfl (aw_pc (pc' := 1) rfl ?_)
  refine aw_table dX3_operated_1 (td := 191) rfl (fun j => [186, 181, 191, 191, 115, 137, 159, 170, 84, 90, 96, 102, 191, 191, 191, 126, 148].getD j 0) rfl (by decide) (fun j hj hx => ?_) (fun hx => ?_)
  · have hj : j = 0 ∨ j = 1 ∨ j = 2 ∨ j = 3 ∨ j = 4 ∨ j = 5 ∨ j = 6 ∨ j = 7 ∨ j = 8 ∨ j = 9 ∨ j = 10 ∨ j = 11 ∨ j = 12 ∨ j = 13 ∨ j = 14 ∨ j = 15 ∨ j = 16 := by (simp at hj; omega)
    rcases hj with rfl | rfl | rfl | rfl | rfl | rfl | rfl | rfl | rfl | rfl | rfl | rfl | rfl | rfl | rfl | rfl | rfl
    · replace h := h.1 (by omega)
      refine aw_pc (pc' := 186) rfl ?_
      refine aw_iload_n dX3_operated_186 rfl rfl (aw_pc (pc' := 187) rfl ?_)
      refine aw_iload_n dX3_operated_187 rfl rfl (aw_pc (pc' := 188) rfl ?_)
      refine aw_ior dX3_operated_188 (aw_pc (pc' := 189) rfl ?_)
      refine aw_i2l dX3_operated_189 (aw_pc (pc' := 190) rfl ?_)
      exact aw_lret rfl dX3_operated_190 ⟨_, rfl, h⟩
    · replace h := h.2.1 (by omega)
      refine aw_pc (pc' := 181) rfl ?_
      refine aw_iload_n dX3_operated_181 rfl rfl (aw_pc (pc' := 182) rfl ?_)
      refine aw_iload_n dX3_operated_182 rfl rfl (aw_pc (pc' := 183) rfl ?_)
      refine aw_iand dX3_operated_183 (aw_pc (pc' := 184) rfl ?_)
      refine aw_i2l dX3_operated_184 (aw_pc (pc' := 185) rfl ?_)
      exact aw_lret rfl dX3_operated_185 ⟨_, rfl, h⟩
    · replace h := h.2.2.1 (by omega)
      refine aw_pc (pc' := 191) rfl ?_
      refine aw_lconst (v := 0) dX3_operated_191 (by decide) (aw_pc (pc' := 192) rfl ?_)
      exact aw_lret rfl dX3_operated_192 ⟨_, rfl, h⟩
    · replace h := h.2.2.2.1 (by omega)
      refine aw_pc (pc' := 191) rfl ?_
      refine aw_lconst (v := 0) dX3_operated_191 (by decide) (aw_pc (pc' := 192) rfl ?_)
      exact aw_lret rfl dX3_operated_192 ⟨_, rfl, h⟩
    · replace h := h.2.2.2.2.1 (by omega)
      refine aw_pc (pc' := 115) rfl ?_
      refine aw_iload_n dX3_operated_115 rfl rfl (aw_pc (pc' := 116) rfl ?_)
      refine aw_iload_n dX3_operated_116 rfl rfl (aw_pc (pc' := 117) rfl ?_)
      refine ac_ge rfl rfl dX3_operated_117 rfl (fun c => ?_) (fun c => ?_)
      · replace h := h.1 c
        refine aw_lconst (v := 1) dX3_operated_120 (by decide) (aw_pc (pc' := 121) rfl ?_)
        refine aw_goto (tgt := 125) dX3_operated_121 rfl ?_
        exact aw_lret rfl dX3_operated_125 ⟨_, rfl, h⟩
      · replace h := h.2 c
        refine aw_lconst (v := 0) dX3_operated_124 (by decide) (aw_pc (pc' := 125) rfl ?_)
        exact aw_lret rfl dX3_operated_125 ⟨_, rfl, h⟩
    · replace h := h.2.2.2.2.2.1 (by omega)
      refine aw_pc (pc' := 137) rfl ?_
      refine aw_iload_n dX3_operated_137 rfl rfl (aw_pc (pc' := 138) rfl ?_)
      refine aw_iload_n dX3_operated_138 rfl rfl (aw_pc (pc' := 139) rfl ?_)
      refine ac_le rfl rfl dX3_operated_139 rfl (fun c => ?_) (fun c => ?_)
      · replace h := h.1 c
        refine aw_lconst (v := 1) dX3_operated_142 (by decide) (aw_pc (pc' := 143) rfl ?_)
        refine aw_goto (tgt := 147) dX3_operated_143 rfl ?_
        exact aw_lret rfl dX3_operated_147 ⟨_, rfl, h⟩
      · replace h := h.2 c
        refine aw_lconst (v := 0) dX3_operated_146 (by decide) (aw_pc (pc' := 147) rfl ?_)
        exact aw_lret rfl dX3_operated_147 ⟨_, rfl, h⟩
    · replace h := h.2.2.2.2.2.2.1 (by omega)
      refine aw_pc (pc' := 159) rfl ?_
      refine aw_iload_n dX3_operated_159 rfl rfl (aw_pc (pc' := 160) rfl ?_)
      refine aw_iload_n dX3_operated_160 rfl rfl (aw_pc (pc' := 161) rfl ?_)
      refine ac_ne rfl rfl dX3_operated_161 rfl (fun c => ?_) (fun c => ?_)
      · replace h := h.1 c
        refine aw_lconst (v := 1) dX3_operated_164 (by decide) (aw_pc (pc' := 165) rfl ?_)
        refine aw_goto (tgt := 169) dX3_operated_165 rfl ?_
        exact aw_lret rfl dX3_operated_169 ⟨_, rfl, h⟩
      · replace h := h.2 c
        refine aw_lconst (v := 0) dX3_operated_168 (by decide) (aw_pc (pc' := 169) rfl ?_)
        exact aw_lret rfl dX3_operated_169 ⟨_, rfl, h⟩
    · replace h := h.2.2.2.2.2.2.2.1 (by omega)
      refine aw_pc (pc' := 170) rfl ?_
      refine aw_iload_n dX3_operated_170 rfl rfl (aw_pc (pc' := 171) rfl ?_)
      refine aw_iload_n dX3_operated_171 rfl rfl (aw_pc (pc' := 172) rfl ?_)
      refine ac_eq rfl rfl dX3_operated_172 rfl (fun c => ?_) (fun c => ?_)
      · replace h := h.1 c
        refine aw_lconst (v := 0) dX3_operated_179 (by decide) (aw_pc (pc' := 180) rfl ?_)
        exact aw_lret rfl dX3_operated_180 ⟨_, rfl, h⟩
      · replace h := h.2 c
        refine aw_lconst (v := 1) dX3_operated_175 (by decide) (aw_pc (pc' := 176) rfl ?_)
        refine aw_goto (tgt := 180) dX3_operated_176 rfl ?_
        exact aw_lret rfl dX3_operated_180 ⟨_, rfl, h⟩
    · replace h := h.2.2.2.2.2.2.2.2.1 (by omega)
      refine aw_pc (pc' := 84) rfl ?_
      refine aw_iload_n dX3_operated_84 rfl rfl (aw_pc (pc' := 85) rfl ?_)
      refine aw_i2l dX3_operated_85 (aw_pc (pc' := 86) rfl ?_)
      refine aw_iload_n dX3_operated_86 rfl rfl (aw_pc (pc' := 87) rfl ?_)
      refine aw_i2l dX3_operated_87 (aw_pc (pc' := 88) rfl ?_)
      refine aw_ladd dX3_operated_88 (aw_pc (pc' := 89) rfl ?_)
      exact aw_lret rfl dX3_operated_89 ⟨_, rfl, h⟩
    · replace h := h.2.2.2.2.2.2.2.2.2.1 (by omega)
      refine aw_pc (pc' := 90) rfl ?_
      refine aw_iload_n dX3_operated_90 rfl rfl (aw_pc (pc' := 91) rfl ?_)
      refine aw_i2l dX3_operated_91 (aw_pc (pc' := 92) rfl ?_)
      refine aw_iload_n dX3_operated_92 rfl rfl (aw_pc (pc' := 93) rfl ?_)
      refine aw_i2l dX3_operated_93 (aw_pc (pc' := 94) rfl ?_)
      refine aw_lsub dX3_operated_94 (aw_pc (pc' := 95) rfl ?_)
      exact aw_lret rfl dX3_operated_95 ⟨_, rfl, h⟩
    · replace h := h.2.2.2.2.2.2.2.2.2.2.1 (by omega)
      refine aw_pc (pc' := 96) rfl ?_
      refine aw_iload_n dX3_operated_96 rfl rfl (aw_pc (pc' := 97) rfl ?_)
      refine aw_i2l dX3_operated_97 (aw_pc (pc' := 98) rfl ?_)
      refine aw_iload_n dX3_operated_98 rfl rfl (aw_pc (pc' := 99) rfl ?_)
      refine aw_i2l dX3_operated_99 (aw_pc (pc' := 100) rfl ?_)
      refine aw_lmul dX3_operated_100 (aw_pc (pc' := 101) rfl ?_)
      exact aw_lret rfl dX3_operated_101 ⟨_, rfl, h⟩
    · replace h := h.2.2.2.2.2.2.2.2.2.2.2.1 (by omega)
      refine aw_pc (pc' := 102) rfl ?_
      refine aw_iload_n dX3_operated_102 rfl rfl (aw_pc (pc' := 103) rfl ?_)
      refine aw_if_ne dX3_operated_103 rfl (fun c => ?_) (fun c => ?_)
      · replace h := h.1 c
        refine aw_lconst (v := 0) dX3_operated_106 (by decide) (aw_pc (pc' := 107) rfl ?_)
        refine aw_goto (tgt := 114) dX3_operated_107 rfl ?_
        exact aw_lret rfl dX3_operated_114 ⟨_, rfl, h⟩
      · replace h := h.2 c
        refine aw_iload_n dX3_operated_110 rfl rfl (aw_pc (pc' := 111) rfl ?_)
        refine aw_iload_n dX3_operated_111 rfl rfl (aw_pc (pc' := 112) rfl ?_)
        refine ac_div rfl h.1 dX3_operated_112 (aw_pc (pc' := 113) rfl ?_)
        replace h := h.2
        refine aw_i2l dX3_operated_113 (aw_pc (pc' := 114) rfl ?_)
        exact aw_lret rfl dX3_operated_114 ⟨_, rfl, h⟩
    · replace h := h.2.2.2.2.2.2.2.2.2.2.2.2.1 (by omega)
      refine aw_pc (pc' := 191) rfl ?_
      refine aw_lconst (v := 0) dX3_operated_191 (by decide) (aw_pc (pc' := 192) rfl ?_)
      exact aw_lret rfl dX3_operated_192 ⟨_, rfl, h⟩
    · replace h := h.2.2.2.2.2.2.2.2.2.2.2.2.2.1 (by omega)
      refine aw_pc (pc' := 191) rfl ?_
      refine aw_lconst (v := 0) dX3_operated_191 (by decide) (aw_pc (pc' := 192) rfl ?_)
      exact aw_lret rfl dX3_operated_192 ⟨_, rfl, h⟩
    · replace h := h.2.2.2.2.2.2.2.2.2.2.2.2.2.2.1 (by omega)
      refine aw_pc (pc' := 191) rfl ?_
      refine aw_lconst (v := 0) dX3_operated_191 (by decide) (aw_pc (pc' := 192) rfl ?_)
      exact aw_lret rfl dX3_operated_192 ⟨_, rfl, h⟩
    · replace h := h.2.2.2.2.2.2.2.2.2.2.2.2.2.2.2.1 (by omega)
      refine aw_pc (pc' := 126) rfl ?_
      refine aw_iload_n dX3_operated_126 rfl rfl (aw_pc (pc' := 127) rfl ?_)
      refine aw_iload_n dX3_operated_127 rfl rfl (aw_pc (pc' := 128) rfl ?_)
      refine ac_gt rfl rfl dX3_operated_128 rfl (fun c => ?_) (fun c => ?_)
      · replace h := h.1 c
        refine aw_lconst (v := 0) dX3_operated_135 (by decide) (aw_pc (pc' := 136) rfl ?_)
        exact aw_lret rfl dX3_operated_136 ⟨_, rfl, h⟩
      · replace h := h.2 c
        refine aw_lconst (v := 1) dX3_operated_131 (by decide) (aw_pc (pc' := 132) rfl ?_)
        refine aw_goto (tgt := 136) dX3_operated_132 rfl ?_
        exact aw_lret rfl dX3_operated_136 ⟨_, rfl, h⟩
    · replace h := h.2.2.2.2.2.2.2.2.2.2.2.2.2.2.2.2.1 (by omega)
      refine aw_pc (pc' := 148) rfl ?_
      refine aw_iload_n dX3_operated_148 rfl rfl (aw_pc (pc' := 149) rfl ?_)
      refine aw_iload_n dX3_operated_149 rfl rfl (aw_pc (pc' := 150) rfl ?_)
      refine ac_lt rfl rfl dX3_operated_150 rfl (fun c => ?_) (fun c => ?_)
      · replace h := h.1 c
        refine aw_lconst (v := 0) dX3_operated_157 (by decide) (aw_pc (pc' := 158) rfl ?_)
        exact aw_lret rfl dX3_operated_158 ⟨_, rfl, h⟩
      · replace h := h.2 c
        refine aw_lconst (v := 1) dX3_operated_153 (by decide) (aw_pc (pc' := 154) rfl ?_)
        refine aw_goto (tgt := 158) dX3_operated_154 rfl ?_
        exact aw_lret rfl dX3_operated_158 ⟨_, rfl, h⟩
  · replace h := h.2.2.2.2.2.2.2.2.2.2.2.2.2.2.2.2.2 hx
    refine aw_lconst (v := 0) dX3_operated_191 (by decide) (aw_pc (pc' := 192) rfl ?_)
    exact aw_lret rfl dX3_operated_192 ⟨_, rfl, h⟩
def mX3_operate_J117 (Q : hp → Prop) (s0 : Option Nat) (s1 : Int) (F : hp) : Prop := rcv F s0 3 (fun o2 => mX3_push o2 s1 F (fun F1 => Q F1))
set_option maxHeartbeats 4000000 in
theorem tX3_operate_J117 {d : Nat} {Q : hp → Prop} {s0 : Option Nat} {s1 : Int} {F : hp} (h : mX3_operate_J117 Q s0 s1 F) : aw nX3_operate (d + 1) 0 0 117 [none, none, none, none] [vl s1, vr s0] F (qV Q) := by
  unfold mX3_operate_J117 at h
  have h0 := rcv_inv h
  clear h
  obtain ⟨o2, fs_o2, hr_o2, he_o2, h⟩ := h0
  subst hr_o2
  refine ar_VV (kc' := 0) (ks' := 0) (kc := 0) (ks := 0) (a := o2) (ci := 3) (as := [vl s1]) (st := []) (tX3_push h) mt_X3_push rfl qM_RX3_43 qI_X3_push qV_X3_push he_o2 rfl (Nat.le_of_ble_eq_true rfl) dX3_operate_117 ?_
  clear h
  intro F1 h
  refine aw_pc (pc' := 120) rfl ?_
  refine aw_goto (tgt := 136) dX3_operate_120 rfl ?_
  exact aw_vret rfl dX3_operate_136 ⟨rfl, h⟩
def mX3_operate_J68 (Q : hp → Prop) (s0 : Option Nat) (s1 : Int) (F : hp) : Prop := rcv F s0 3 (fun o2 => mX3_push o2 s1 F (fun F1 => Q F1))
set_option maxHeartbeats 4000000 in
theorem tX3_operate_J68 {d : Nat} {Q : hp → Prop} {s0 : Option Nat} {s1 : Int} {F : hp} (h : mX3_operate_J68 Q s0 s1 F) : aw nX3_operate (d + 1) 0 0 68 [none, none, none, none] [vl s1, vr s0] F (qV Q) := by
  unfold mX3_operate_J68 at h
  have h0 := rcv_inv h
  clear h
  obtain ⟨o2, fs_o2, hr_o2, he_o2, h⟩ := h0
  subst hr_o2
  refine ar_VV (kc' := 0) (ks' := 0) (kc := 0) (ks := 0) (a := o2) (ci := 3) (as := [vl s1]) (st := []) (tX3_push h) mt_X3_push rfl qM_RX3_43 qI_X3_push qV_X3_push he_o2 rfl (Nat.le_of_ble_eq_true rfl) dX3_operate_68 ?_
  clear h
  intro F1 h
  refine aw_pc (pc' := 71) rfl ?_
  refine aw_goto (tgt := 136) dX3_operate_71 rfl ?_
  exact aw_vret rfl dX3_operate_136 ⟨rfl, h⟩
def mX3_operate_J67 (Q : hp → Prop) (s0 : Option Nat) (F : hp) : Prop := mX3_operate_J68 Q s0 0 F
set_option maxHeartbeats 4000000 in
theorem tX3_operate_J67 {d : Nat} {Q : hp → Prop} {s0 : Option Nat} {F : hp} (h : mX3_operate_J67 Q s0 F) : aw nX3_operate (d + 1) 0 0 67 [none, none, none, none] [vr s0] F (qV Q) := by
  unfold mX3_operate_J67 at h
  refine aw_lconst (v := 0) dX3_operate_67 (by decide) (aw_pc (pc' := 68) rfl ?_)
  exact aw_mask [false, false, false, false] (tX3_operate_J68 h)
def mX3_operate (o : Nat) (a1 : Int) (F : hp) (Q : hp → Prop) : Prop := rcv F (some o) 3 (fun o3 => mX3_pop o3 F (fun x2 F1 => (w32 a1 = 43 → rcv F1 (some o) 3 (fun o5 => mX3_push o5 (w32 (-x2)) F1 (fun F4 => Q F4))) ∧ (¬ w32 a1 = 43 → (w32 a1 = 20 → rcv F1 (some o) 3 (fun o7 => mX3_push o7 (w32 (iAnd x2 1)) F1 (fun F6 => Q F6))) ∧ (¬ w32 a1 = 20 → (w32 a1 = 21 → (w32 x2 < 0 → mX3_operate_J67 Q (some o) F1) ∧ (¬ w32 x2 < 0 → (w32 x2 < 3 → gR F1 (some o) 3 0 (fun x8 => aI F1 x8 0 (11 + x2) (fun x9 => mX3_operate_J68 Q (some o) (w32 x9) F1))) ∧ (¬ w32 x2 < 3 → mX3_operate_J67 Q (some o) F1))) ∧ (¬ w32 a1 = 21 → (w32 a1 = 28 → rcv F1 (some o) 3 (fun o11 => mX3_push o11 (w32 (1 - x2)) F1 (fun F10 => Q F10))) ∧ (¬ w32 a1 = 28 → (w32 a1 = 22 → rcv F1 (some o) 3 (fun o14 => mX3_pop o14 F1 (fun x13 F12 => rcv F12 (some o) 3 (fun o17 => mX3_pop o17 F12 (fun x16 F15 => (w32 x16 = 0 → mX3_operate_J117 Q (some o) (w32 x2) F15) ∧ (¬ w32 x16 = 0 → mX3_operate_J117 Q (some o) (w32 x13) F15)))))) ∧ (¬ w32 a1 = 22 → rcv F1 (some o) 3 (fun o20 => mX3_pop o20 F1 (fun x19 F18 => mX3_operated a1 x19 x2 F18 (fun x22 F21 => rcv F21 (some o) 3 (fun o24 => mX3_push o24 x22 F21 (fun F23 => Q F23))))))))))))
set_option maxHeartbeats 4000000 in
theorem tX3_operate {d : Nat} {o : Nat} {a1 : Int} {F : hp} {Q : hp → Prop} (h : mX3_operate o a1 F Q) : am nX3_operate (d + 1) 0 0 [vr (some o), vi a1] F (qV Q) := by
  refine am_of (by decide +kernel) (Nat.le_of_ble_eq_true rfl) ?_
  show aw nX3_operate (d + 1) 0 0 0 [some (vr (some o)), some (vi a1), none, none] [] F (qV Q)
  unfold mX3_operate at h
  refine aw_aload_n dX3_operate_0 rfl rfl (aw_pc (pc' := 1) rfl ?_)
  have h0 := rcv_inv h
  clear h
  obtain ⟨o3, fs_o3, hr_o3, he_o3, h⟩ := h0
  obtain rfl : o = o3 := Option.some.inj hr_o3
  refine ar_VI (kc' := 0) (ks' := 0) (kc := 0) (ks := 0) (a := o) (ci := 3) (as := []) (st := []) (tX3_pop h) mt_X3_pop rfl qM_RX3_54 qI_X3_pop qV_X3_pop he_o3 rfl (Nat.le_of_ble_eq_true rfl) dX3_operate_1 ?_
  clear h
  intro x2 F1 h
  refine aw_pc (pc' := 4) rfl ?_
  refine aw_istore_n dX3_operate_4 rfl (by decide) (aw_pc (pc' := 5) rfl ?_)
  refine aw_iload_n dX3_operate_5 rfl rfl (aw_pc (pc' := 6) rfl ?_)
  refine aw_bipush dX3_operate_6 (by decide) (aw_pc (pc' := 8) rfl ?_)
  refine ac_ne rfl wl_43 dX3_operate_8 rfl (fun c => ?_) (fun c => ?_)
  · replace h := h.1 c
    refine aw_aload_n dX3_operate_11 rfl rfl (aw_pc (pc' := 12) rfl ?_)
    refine aw_iload_n dX3_operate_12 rfl rfl (aw_pc (pc' := 13) rfl ?_)
    refine aw_ineg dX3_operate_13 (aw_pc (pc' := 14) rfl ?_)
    refine aw_i2l dX3_operate_14 (aw_pc (pc' := 15) rfl ?_)
    have h0 := rcv_inv h
    clear h
    obtain ⟨o5, fs_o5, hr_o5, he_o5, h⟩ := h0
    obtain rfl : o = o5 := Option.some.inj hr_o5
    refine ar_VV (kc' := 0) (ks' := 0) (kc := 0) (ks := 0) (a := o) (ci := 3) (as := [vl (w32 (-x2))]) (st := []) (tX3_push h) mt_X3_push rfl qM_RX3_43 qI_X3_push qV_X3_push he_o5 rfl (Nat.le_of_ble_eq_true rfl) dX3_operate_15 ?_
    clear h
    intro F4 h
    refine aw_pc (pc' := 18) rfl ?_
    refine aw_goto (tgt := 136) dX3_operate_18 rfl ?_
    exact aw_vret rfl dX3_operate_136 ⟨rfl, h⟩
  · replace h := h.2 c
    refine aw_iload_n dX3_operate_21 rfl rfl (aw_pc (pc' := 22) rfl ?_)
    refine aw_bipush dX3_operate_22 (by decide) (aw_pc (pc' := 24) rfl ?_)
    refine ac_ne rfl wl_20 dX3_operate_24 rfl (fun c => ?_) (fun c => ?_)
    · replace h := h.1 c
      refine aw_aload_n dX3_operate_27 rfl rfl (aw_pc (pc' := 28) rfl ?_)
      refine aw_iload_n dX3_operate_28 rfl rfl (aw_pc (pc' := 29) rfl ?_)
      refine aw_iconst dX3_operate_29 (aw_pc (pc' := 30) rfl ?_)
      refine aw_iand dX3_operate_30 (aw_pc (pc' := 31) rfl ?_)
      refine aw_i2l dX3_operate_31 (aw_pc (pc' := 32) rfl ?_)
      have h0 := rcv_inv h
      clear h
      obtain ⟨o7, fs_o7, hr_o7, he_o7, h⟩ := h0
      obtain rfl : o = o7 := Option.some.inj hr_o7
      refine ar_VV (kc' := 0) (ks' := 0) (kc := 0) (ks := 0) (a := o) (ci := 3) (as := [vl (w32 (iAnd x2 1))]) (st := []) (tX3_push h) mt_X3_push rfl qM_RX3_43 qI_X3_push qV_X3_push he_o7 rfl (Nat.le_of_ble_eq_true rfl) dX3_operate_32 ?_
      clear h
      intro F6 h
      refine aw_pc (pc' := 35) rfl ?_
      refine aw_goto (tgt := 136) dX3_operate_35 rfl ?_
      exact aw_vret rfl dX3_operate_136 ⟨rfl, h⟩
    · replace h := h.2 c
      refine aw_iload_n dX3_operate_38 rfl rfl (aw_pc (pc' := 39) rfl ?_)
      refine aw_bipush dX3_operate_39 (by decide) (aw_pc (pc' := 41) rfl ?_)
      refine ac_ne rfl wl_21 dX3_operate_41 rfl (fun c => ?_) (fun c => ?_)
      · replace h := h.1 c
        refine aw_aload_n dX3_operate_44 rfl rfl (aw_pc (pc' := 45) rfl ?_)
        refine aw_iload_n dX3_operate_45 rfl rfl (aw_pc (pc' := 46) rfl ?_)
        refine aw_if_lt dX3_operate_46 rfl (fun c => ?_) (fun c => ?_)
        · replace h := h.1 c
          exact aw_mask [false, false, false, false] (tX3_operate_J67 h)
        · replace h := h.2 c
          refine aw_iload_n dX3_operate_49 rfl rfl (aw_pc (pc' := 50) rfl ?_)
          refine aw_iconst dX3_operate_50 (aw_pc (pc' := 51) rfl ?_)
          refine ac_ge rfl wl_3 dX3_operate_51 rfl (fun c => ?_) (fun c => ?_)
          · replace h := h.1 c
            refine aw_aload_n dX3_operate_54 rfl rfl (aw_pc (pc' := 55) rfl ?_)
            refine ar_gR fl_RX3_9 dX3_operate_55 h ?_
            clear h
            intro x8 h
            refine aw_pc (pc' := 58) rfl ?_
            refine aw_bipush dX3_operate_58 (by decide) (aw_pc (pc' := 60) rfl ?_)
            refine aw_iload_n dX3_operate_60 rfl rfl (aw_pc (pc' := 61) rfl ?_)
            refine aw_iadd dX3_operate_61 (aw_pc (pc' := 62) rfl ?_)
            refine ar_aI dX3_operate_62 h ?_
            clear h
            intro x9 h
            refine aw_pc (pc' := 63) rfl ?_
            refine aw_i2l dX3_operate_63 (aw_pc (pc' := 64) rfl ?_)
            refine aw_goto (tgt := 68) dX3_operate_64 rfl ?_
            exact aw_mask [false, false, false, false] (tX3_operate_J68 h)
          · replace h := h.2 c
            exact aw_mask [false, false, false, false] (tX3_operate_J67 h)
      · replace h := h.2 c
        refine aw_iload_n dX3_operate_74 rfl rfl (aw_pc (pc' := 75) rfl ?_)
        refine aw_bipush dX3_operate_75 (by decide) (aw_pc (pc' := 77) rfl ?_)
        refine ac_ne rfl wl_28 dX3_operate_77 rfl (fun c => ?_) (fun c => ?_)
        · replace h := h.1 c
          refine aw_aload_n dX3_operate_80 rfl rfl (aw_pc (pc' := 81) rfl ?_)
          refine aw_iconst dX3_operate_81 (aw_pc (pc' := 82) rfl ?_)
          refine aw_iload_n dX3_operate_82 rfl rfl (aw_pc (pc' := 83) rfl ?_)
          refine aw_isub dX3_operate_83 (aw_pc (pc' := 84) rfl ?_)
          refine aw_i2l dX3_operate_84 (aw_pc (pc' := 85) rfl ?_)
          have h0 := rcv_inv h
          clear h
          obtain ⟨o11, fs_o11, hr_o11, he_o11, h⟩ := h0
          obtain rfl : o = o11 := Option.some.inj hr_o11
          refine ar_VV (kc' := 0) (ks' := 0) (kc := 0) (ks := 0) (a := o) (ci := 3) (as := [vl (w32 (1 - x2))]) (st := []) (tX3_push h) mt_X3_push rfl qM_RX3_43 qI_X3_push qV_X3_push he_o11 rfl (Nat.le_of_ble_eq_true rfl) dX3_operate_85 ?_
          clear h
          intro F10 h
          refine aw_pc (pc' := 88) rfl ?_
          refine aw_goto (tgt := 136) dX3_operate_88 rfl ?_
          exact aw_vret rfl dX3_operate_136 ⟨rfl, h⟩
        · replace h := h.2 c
          refine aw_iload_n dX3_operate_91 rfl rfl (aw_pc (pc' := 92) rfl ?_)
          refine aw_bipush dX3_operate_92 (by decide) (aw_pc (pc' := 94) rfl ?_)
          refine ac_ne rfl wl_22 dX3_operate_94 rfl (fun c => ?_) (fun c => ?_)
          · replace h := h.1 c
            refine aw_aload_n dX3_operate_97 rfl rfl (aw_pc (pc' := 98) rfl ?_)
            have h0 := rcv_inv h
            clear h
            obtain ⟨o14, fs_o14, hr_o14, he_o14, h⟩ := h0
            obtain rfl : o = o14 := Option.some.inj hr_o14
            refine ar_VI (kc' := 0) (ks' := 0) (kc := 0) (ks := 0) (a := o) (ci := 3) (as := []) (st := []) (tX3_pop h) mt_X3_pop rfl qM_RX3_54 qI_X3_pop qV_X3_pop he_o14 rfl (Nat.le_of_ble_eq_true rfl) dX3_operate_98 ?_
            clear h
            intro x13 F12 h
            refine aw_pc (pc' := 101) rfl ?_
            refine aw_istore_n dX3_operate_101 rfl (by decide) (aw_pc (pc' := 102) rfl ?_)
            refine aw_aload_n dX3_operate_102 rfl rfl (aw_pc (pc' := 103) rfl ?_)
            refine aw_aload_n dX3_operate_103 rfl rfl (aw_pc (pc' := 104) rfl ?_)
            have h0 := rcv_inv h
            clear h
            obtain ⟨o17, fs_o17, hr_o17, he_o17, h⟩ := h0
            obtain rfl : o = o17 := Option.some.inj hr_o17
            refine ar_VI (kc' := 0) (ks' := 0) (kc := 0) (ks := 0) (a := o) (ci := 3) (as := []) (st := [vr (some o)]) (tX3_pop h) mt_X3_pop rfl qM_RX3_54 qI_X3_pop qV_X3_pop he_o17 rfl (Nat.le_of_ble_eq_true rfl) dX3_operate_104 ?_
            clear h
            intro x16 F15 h
            refine aw_pc (pc' := 107) rfl ?_
            refine aw_if_eq dX3_operate_107 rfl (fun c => ?_) (fun c => ?_)
            · replace h := h.1 c
              refine aw_iload_n dX3_operate_115 rfl rfl (aw_pc (pc' := 116) rfl ?_)
              refine aw_i2l dX3_operate_116 (aw_pc (pc' := 117) rfl ?_)
              exact aw_mask [false, false, false, false] (tX3_operate_J117 h)
            · replace h := h.2 c
              refine aw_iload_n dX3_operate_110 rfl rfl (aw_pc (pc' := 111) rfl ?_)
              refine aw_i2l dX3_operate_111 (aw_pc (pc' := 112) rfl ?_)
              refine aw_goto (tgt := 117) dX3_operate_112 rfl ?_
              exact aw_mask [false, false, false, false] (tX3_operate_J117 h)
          · replace h := h.2 c
            refine aw_aload_n dX3_operate_123 rfl rfl (aw_pc (pc' := 124) rfl ?_)
            refine aw_iload_n dX3_operate_124 rfl rfl (aw_pc (pc' := 125) rfl ?_)
            refine aw_aload_n dX3_operate_125 rfl rfl (aw_pc (pc' := 126) rfl ?_)
            have h0 := rcv_inv h
            clear h
            obtain ⟨o20, fs_o20, hr_o20, he_o20, h⟩ := h0
            obtain rfl : o = o20 := Option.some.inj hr_o20
            refine ar_VI (kc' := 0) (ks' := 0) (kc := 0) (ks := 0) (a := o) (ci := 3) (as := []) (st := [vi a1, vr (some o)]) (tX3_pop h) mt_X3_pop rfl qM_RX3_54 qI_X3_pop qV_X3_pop he_o20 rfl (Nat.le_of_ble_eq_true rfl) dX3_operate_126 ?_
            clear h
            intro x19 F18 h
            refine aw_pc (pc' := 129) rfl ?_
            refine aw_iload_n dX3_operate_129 rfl rfl (aw_pc (pc' := 130) rfl ?_)
            refine ar_SL (kc' := 0) (ks' := 0) (kc := 0) (ks := 0) (as := [vi a1, vi x19, vi x2]) (st := [vr (some o)]) (tX3_operated h) mt_X3_operated qM_RX3_62 qS_X3_operated rfl (Nat.le_of_ble_eq_true rfl) dX3_operate_130 ?_
            clear h
            intro x22 F21 h
            refine aw_pc (pc' := 133) rfl ?_
            have h0 := rcv_inv h
            clear h
            obtain ⟨o24, fs_o24, hr_o24, he_o24, h⟩ := h0
            obtain rfl : o = o24 := Option.some.inj hr_o24
            refine ar_VV (kc' := 0) (ks' := 0) (kc := 0) (ks := 0) (a := o) (ci := 3) (as := [vl x22]) (st := []) (tX3_push h) mt_X3_push rfl qM_RX3_43 qI_X3_push qV_X3_push he_o24 rfl (Nat.le_of_ble_eq_true rfl) dX3_operate_133 ?_
            clear h
            intro F23 h
            refine aw_pc (pc' := 136) rfl ?_
            exact aw_vret rfl dX3_operate_136 ⟨rfl, h⟩
def mX3_weigh_J99 (X30 : Nat → Option Nat → Int → Int → hp → Prop) (Q : Int → hp → Prop) (o : Nat) (a1 : Option Nat) (a3 : Int) (a4 : Int) (F : hp) : Prop := X30 o a1 a3 (a4 + 1) F
set_option maxHeartbeats 4000000 in
theorem tX3_weigh_J99 {d : Nat} {X30 : Nat → Option Nat → Int → Int → hp → Prop} {Q : Int → hp → Prop} (hX30 : ∀ (o : Nat) (a1 : Option Nat) (a3 : Int) (a4 : Int) (F : hp), X30 o a1 a3 a4 F → aw nX3_weigh (d + 2) 0 0 30 [some (vr (some o)), some (vr a1), none, some (vi a3), some (vi a4), none] [] F (qI Q)) {o : Nat} {a1 : Option Nat} {a3 : Int} {a4 : Int} {F : hp} (h : mX3_weigh_J99 X30 Q o a1 a3 a4 F) : aw nX3_weigh (d + 2) 0 0 99 [some (vr (some o)), some (vr a1), none, some (vi a3), some (vi a4), none] [] F (qI Q) := by
  unfold mX3_weigh_J99 at h
  refine aw_iinc dX3_weigh_99 rfl (by decide) (aw_pc (pc' := 102) rfl ?_)
  refine aw_goto (tgt := 30) dX3_weigh_102 rfl ?_
  exact aw_mask [true, true, false, true, true, false] (hX30 _ _ _ _ _ h)
def mX3_weigh_L30 (Q : Int → hp → Prop) : Nat → Nat → Option Nat → Int → Int → hp → Prop
  | 0, _, _, _, _, _ => False
  | k + 1, o, a1, a3, a4, F => (w32 a4 < w32 a3 → gR F a1 8 1 (fun x1 => aI F x1 0 a4 (fun x2 => (w32 x2 < 10000 → rcv F (some o) 3 (fun o4 => mX3_push o4 (w32 x2) F (fun F3 => mX3_weigh_J99 (fun o' a1' a3' a4' F' => mX3_weigh_L30 Q k o' a1' a3' a4' F') Q o a1 a3 a4 F3))) ∧ (¬ w32 x2 < 10000 → (w32 x2 < 20000 → rcv F (some o) 3 (fun o7 => mX3_valueOf o7 (x2 - 10000) F (fun x6 F5 => rcv F5 (some o) 3 (fun o9 => mX3_push o9 (w32 x6) F5 (fun F8 => mX3_weigh_J99 (fun o' a1' a3' a4' F' => mX3_weigh_L30 Q k o' a1' a3' a4' F') Q o a1 a3 a4 F8))))) ∧ (¬ w32 x2 < 20000 → rcv F (some o) 3 (fun o11 => mX3_operate o11 (x2 - 20000) F (fun F10 => mX3_weigh_J99 (fun o' a1' a3' a4' F' => mX3_weigh_L30 Q k o' a1' a3' a4' F') Q o a1 a3 a4 F10))))))) ∧ (¬ w32 a4 < w32 a3 → rcv F (some o) 3 (fun o14 => mX3_pop o14 F (fun x13 F12 => Q (iMax (-99) (iMin 99 x13)) F12)))
set_option maxHeartbeats 4000000 in
theorem tX3_weigh_L30 {d : Nat} {Q : Int → hp → Prop} : ∀ (k : Nat) (o : Nat) (a1 : Option Nat) (a3 : Int) (a4 : Int) (F : hp), mX3_weigh_L30 Q k o a1 a3 a4 F → aw nX3_weigh (d + 2) 0 0 30 [some (vr (some o)), some (vr a1), none, some (vi a3), some (vi a4), none] [] F (qI Q) := by
  intro k
  induction k with
  | zero => intro o a1 a3 a4 F h; exact h.elim
  | succ k ih =>
    intro o a1 a3 a4 F h
    simp only [mX3_weigh_L30] at h
    refine aw_iload dX3_weigh_30 rfl (aw_pc (pc' := 32) rfl ?_)
    refine aw_iload_n dX3_weigh_32 rfl rfl (aw_pc (pc' := 33) rfl ?_)
    refine ac_ge rfl rfl dX3_weigh_33 rfl (fun c => ?_) (fun c => ?_)
    · replace h := h.1 c
      refine aw_aload_n dX3_weigh_36 rfl rfl (aw_pc (pc' := 37) rfl ?_)
      refine ar_gR fl_RX3_28 dX3_weigh_37 h ?_
      clear h
      intro x1 h
      refine aw_pc (pc' := 40) rfl ?_
      refine aw_iload dX3_weigh_40 rfl (aw_pc (pc' := 42) rfl ?_)
      refine ar_aI dX3_weigh_42 h ?_
      clear h
      intro x2 h
      refine aw_pc (pc' := 43) rfl ?_
      refine aw_istore dX3_weigh_43 (by decide) (aw_pc (pc' := 45) rfl ?_)
      refine aw_iload dX3_weigh_45 rfl (aw_pc (pc' := 47) rfl ?_)
      refine aw_sipush dX3_weigh_47 (by decide) (aw_pc (pc' := 50) rfl ?_)
      refine ac_ge rfl wl_10000 dX3_weigh_50 rfl (fun c => ?_) (fun c => ?_)
      · replace h := h.1 c
        refine aw_aload_n dX3_weigh_53 rfl rfl (aw_pc (pc' := 54) rfl ?_)
        refine aw_iload dX3_weigh_54 rfl (aw_pc (pc' := 56) rfl ?_)
        refine aw_i2l dX3_weigh_56 (aw_pc (pc' := 57) rfl ?_)
        have h0 := rcv_inv h
        clear h
        obtain ⟨o4, fs_o4, hr_o4, he_o4, h⟩ := h0
        obtain rfl : o = o4 := Option.some.inj hr_o4
        refine ar_VV (kc' := 0) (ks' := 0) (kc := 0) (ks := 0) (a := o) (ci := 3) (as := [vl (w32 x2)]) (st := []) (tX3_push h) mt_X3_push rfl qM_RX3_43 qI_X3_push qV_X3_push he_o4 rfl (Nat.le_of_ble_eq_true rfl) dX3_weigh_57 ?_
        clear h
        intro F3 h
        refine aw_pc (pc' := 60) rfl ?_
        refine aw_goto (tgt := 99) dX3_weigh_60 rfl ?_
        exact aw_mask [true, true, false, true, true, false] (tX3_weigh_J99 (fun o' a1' a3' a4' F' h' => ih o' a1' a3' a4' F' h') h)
      · replace h := h.2 c
        refine aw_iload dX3_weigh_63 rfl (aw_pc (pc' := 65) rfl ?_)
        refine aw_sipush dX3_weigh_65 (by decide) (aw_pc (pc' := 68) rfl ?_)
        refine ac_ge rfl wl_20000 dX3_weigh_68 rfl (fun c => ?_) (fun c => ?_)
        · replace h := h.1 c
          refine aw_aload_n dX3_weigh_71 rfl rfl (aw_pc (pc' := 72) rfl ?_)
          refine aw_aload_n dX3_weigh_72 rfl rfl (aw_pc (pc' := 73) rfl ?_)
          refine aw_iload dX3_weigh_73 rfl (aw_pc (pc' := 75) rfl ?_)
          refine aw_sipush dX3_weigh_75 (by decide) (aw_pc (pc' := 78) rfl ?_)
          refine aw_isub dX3_weigh_78 (aw_pc (pc' := 79) rfl ?_)
          have h0 := rcv_inv h
          clear h
          obtain ⟨o7, fs_o7, hr_o7, he_o7, h⟩ := h0
          obtain rfl : o = o7 := Option.some.inj hr_o7
          refine ar_VI (kc' := 0) (ks' := 0) (kc := 0) (ks := 0) (a := o) (ci := 3) (as := [vi (x2 - 10000)]) (st := [vr (some o)]) (tX3_valueOf h) mt_X3_valueOf rfl qM_RX3_47 qI_X3_valueOf qV_X3_valueOf he_o7 rfl (Nat.le_of_ble_eq_true rfl) dX3_weigh_79 ?_
          clear h
          intro x6 F5 h
          refine aw_pc (pc' := 82) rfl ?_
          refine aw_i2l dX3_weigh_82 (aw_pc (pc' := 83) rfl ?_)
          have h0 := rcv_inv h
          clear h
          obtain ⟨o9, fs_o9, hr_o9, he_o9, h⟩ := h0
          obtain rfl : o = o9 := Option.some.inj hr_o9
          refine ar_VV (kc' := 0) (ks' := 0) (kc := 0) (ks := 0) (a := o) (ci := 3) (as := [vl (w32 x6)]) (st := []) (tX3_push h) mt_X3_push rfl qM_RX3_43 qI_X3_push qV_X3_push he_o9 rfl (Nat.le_of_ble_eq_true rfl) dX3_weigh_83 ?_
          clear h
          intro F8 h
          refine aw_pc (pc' := 86) rfl ?_
          refine aw_goto (tgt := 99) dX3_weigh_86 rfl ?_
          exact aw_mask [true, true, false, true, true, false] (tX3_weigh_J99 (fun o' a1' a3' a4' F' h' => ih o' a1' a3' a4' F' h') h)
        · replace h := h.2 c
          refine aw_aload_n dX3_weigh_89 rfl rfl (aw_pc (pc' := 90) rfl ?_)
          refine aw_iload dX3_weigh_90 rfl (aw_pc (pc' := 92) rfl ?_)
          refine aw_sipush dX3_weigh_92 (by decide) (aw_pc (pc' := 95) rfl ?_)
          refine aw_isub dX3_weigh_95 (aw_pc (pc' := 96) rfl ?_)
          have h0 := rcv_inv h
          clear h
          obtain ⟨o11, fs_o11, hr_o11, he_o11, h⟩ := h0
          obtain rfl : o = o11 := Option.some.inj hr_o11
          refine ar_VV (kc' := 0) (ks' := 0) (kc := 0) (ks := 0) (a := o) (ci := 3) (as := [vi (x2 - 20000)]) (st := []) (tX3_operate h) mt_X3_operate rfl qM_RX3_50 qI_X3_operate qV_X3_operate he_o11 rfl (Nat.le_of_ble_eq_true rfl) dX3_weigh_96 ?_
          clear h
          intro F10 h
          refine aw_pc (pc' := 99) rfl ?_
          exact aw_mask [true, true, false, true, true, false] (tX3_weigh_J99 (fun o' a1' a3' a4' F' h' => ih o' a1' a3' a4' F' h') h)
    · replace h := h.2 c
      refine aw_bipush dX3_weigh_105 (by decide) (aw_pc (pc' := 107) rfl ?_)
      refine aw_bipush dX3_weigh_107 (by decide) (aw_pc (pc' := 109) rfl ?_)
      refine aw_aload_n dX3_weigh_109 rfl rfl (aw_pc (pc' := 110) rfl ?_)
      have h0 := rcv_inv h
      clear h
      obtain ⟨o14, fs_o14, hr_o14, he_o14, h⟩ := h0
      obtain rfl : o = o14 := Option.some.inj hr_o14
      refine ar_VI (kc' := 0) (ks' := 0) (kc := 0) (ks := 0) (a := o) (ci := 3) (as := []) (st := [vi 99, vi (-99)]) (tX3_pop h) mt_X3_pop rfl qM_RX3_54 qI_X3_pop qV_X3_pop he_o14 rfl (Nat.le_of_ble_eq_true rfl) dX3_weigh_110 ?_
      clear h
      intro x13 F12 h
      refine aw_pc (pc' := 113) rfl ?_
      refine aw_min qM_RX3_31 mw_min (Nat.le_of_ble_eq_true rfl) dX3_weigh_113 (aw_pc (pc' := 116) rfl ?_)
      refine aw_max qM_RX3_40 mw_max (Nat.le_of_ble_eq_true rfl) dX3_weigh_116 (aw_pc (pc' := 119) rfl ?_)
      exact aw_iret rfl dX3_weigh_119 ⟨_, rfl, h⟩
def mX3_weigh (o : Nat) (a1 : Option Nat) (a2 : Int) (F : hp) (Q : Int → hp → Prop) : Prop := pF F (some o) 3 2 (vi 0) (fun F1 => rcv F1 a1 8 (fun o4 => mX8_codeBehind o4 a2 F1 (fun x3 F2 => gR F2 (some o4) 8 1 (fun x5 => aN F2 x5 (fun x6 => ∀ v7 : Int, v7 = (iMin x3 x6) → rcv F2 (some o4) 8 (fun o10 => mX8_codeFrom o10 a2 F2 (fun x9 F8 => ∀ v11 : Int, v11 = (iMax 0 x9) → (∃ k12, mX3_weigh_L30 Q k12 o (some o4) v7 v11 F8))))))))
set_option maxHeartbeats 4000000 in
theorem tX3_weigh {d : Nat} {o : Nat} {a1 : Option Nat} {a2 : Int} {F : hp} {Q : Int → hp → Prop} (h : mX3_weigh o a1 a2 F Q) : am nX3_weigh (d + 2) 0 0 [vr (some o), vr a1, vi a2] F (qI Q) := by
  refine am_of (by decide +kernel) (Nat.le_of_ble_eq_true rfl) ?_
  show aw nX3_weigh (d + 2) 0 0 0 [some (vr (some o)), some (vr a1), some (vi a2), none, none, none] [] F (qI Q)
  unfold mX3_weigh at h
  refine aw_aload_n dX3_weigh_0 rfl rfl (aw_pc (pc' := 1) rfl ?_)
  refine aw_iconst dX3_weigh_1 (aw_pc (pc' := 2) rfl ?_)
  refine ar_pF fl_RX3_18 ft_X3_2 (okI _) dX3_weigh_2 h ?_
  clear h
  intro F1 h
  refine aw_pc (pc' := 5) rfl ?_
  refine aw_aload_n dX3_weigh_5 rfl rfl (aw_pc (pc' := 6) rfl ?_)
  refine aw_iload_n dX3_weigh_6 rfl rfl (aw_pc (pc' := 7) rfl ?_)
  have h0 := rcv_inv h
  clear h
  obtain ⟨o4, fs_o4, hr_o4, he_o4, h⟩ := h0
  subst hr_o4
  refine ar_VI (kc' := 0) (ks' := 0) (kc := 0) (ks := 0) (a := o4) (ci := 8) (as := [vi a2]) (st := []) (tX8_codeBehind h) mt_X8_codeBehind rfl qM_RX3_22 qI_X8_codeBehind qV_X8_codeBehind he_o4 rfl (Nat.le_of_ble_eq_true rfl) dX3_weigh_7 ?_
  clear h
  intro x3 F2 h
  refine aw_pc (pc' := 10) rfl ?_
  refine aw_aload_n dX3_weigh_10 rfl rfl (aw_pc (pc' := 11) rfl ?_)
  refine ar_gR fl_RX3_28 dX3_weigh_11 h ?_
  clear h
  intro x5 h
  refine aw_pc (pc' := 14) rfl ?_
  refine ar_aN dX3_weigh_14 h ?_
  clear h
  intro x6 h
  refine aw_pc (pc' := 15) rfl ?_
  refine aw_min qM_RX3_31 mw_min (Nat.le_of_ble_eq_true rfl) dX3_weigh_15 (aw_pc (pc' := 18) rfl ?_)
  generalize hv_v7 : (iMin x3 x6) = v7
  replace h := h v7 hv_v7.symm
  refine aw_istore_n dX3_weigh_18 rfl (by decide) (aw_pc (pc' := 19) rfl ?_)
  refine aw_iconst dX3_weigh_19 (aw_pc (pc' := 20) rfl ?_)
  refine aw_aload_n dX3_weigh_20 rfl rfl (aw_pc (pc' := 21) rfl ?_)
  refine aw_iload_n dX3_weigh_21 rfl rfl (aw_pc (pc' := 22) rfl ?_)
  have h0 := rcv_inv h
  clear h
  obtain ⟨o10, fs_o10, hr_o10, he_o10, h⟩ := h0
  obtain rfl : o4 = o10 := Option.some.inj hr_o10
  refine ar_VI (kc' := 0) (ks' := 0) (kc := 0) (ks := 0) (a := o4) (ci := 8) (as := [vi a2]) (st := [vi 0]) (tX8_codeFrom h) mt_X8_codeFrom rfl qM_RX3_37 qI_X8_codeFrom qV_X8_codeFrom he_o10 rfl (Nat.le_of_ble_eq_true rfl) dX3_weigh_22 ?_
  clear h
  intro x9 F8 h
  refine aw_pc (pc' := 25) rfl ?_
  refine aw_max qM_RX3_40 mw_max (Nat.le_of_ble_eq_true rfl) dX3_weigh_25 (aw_pc (pc' := 28) rfl ?_)
  generalize hv_v11 : (iMax 0 x9) = v11
  replace h := h v11 hv_v11.symm
  refine aw_istore dX3_weigh_28 (by decide) (aw_pc (pc' := 30) rfl ?_)
  obtain ⟨k12, h⟩ := h
  exact aw_mask [true, true, false, true, true, false] (tX3_weigh_L30 k12 _ _ _ _ _ h)
def mX4_init (o : Nat) (F : hp) (Q : hp → Prop) : Prop := nwc F (cA 0 2520 (fun _ => 0)) (fun n1 F2 => pF F2 (some o) 4 0 (vr (some n1)) (fun F3 => nwc F3 (cA 0 2520 (fun _ => 0)) (fun n4 F5 => pF F5 (some o) 4 1 (vr (some n4)) (fun F6 => nwc F6 (cA 0 1024 (fun _ => 0)) (fun n7 F8 => pF F8 (some o) 4 2 (vr (some n7)) (fun F9 => nwc F9 (cA 0 8 (fun _ => 0)) (fun n10 F11 => pF F11 (some o) 4 3 (vr (some n10)) (fun F12 => nwc F12 (cA 0 3 (fun _ => 0)) (fun n13 F14 => pF F14 (some o) 4 4 (vr (some n13)) (fun F15 => Q F15))))))))))
set_option maxHeartbeats 4000000 in
theorem tX4_init {d : Nat} {o : Nat} {F : hp} {Q : hp → Prop} (h : mX4_init o F Q) : am nX4_init (d + 1) 5 6075 [vr (some o)] F (qV Q) := by
  refine am_of (by decide +kernel) (Nat.le_of_ble_eq_true rfl) ?_
  show aw nX4_init (d + 1) 5 6075 0 [some (vr (some o))] [] F (qV Q)
  unfold mX4_init at h
  refine aw_aload_n dX4_init_0 rfl rfl (aw_pc (pc' := 1) rfl ?_)
  refine aw_obj qM_RX4_3 mw_obj (Nat.le_of_ble_eq_true rfl) dX4_init_1 (aw_pc (pc' := 4) rfl ?_)
  refine aw_aload_n dX4_init_4 rfl rfl (aw_pc (pc' := 5) rfl ?_)
  refine aw_sipush dX4_init_5 (by decide) (aw_pc (pc' := 8) rfl ?_)
  refine ar_newarr (k := 0) (kc := 4) (ks := 3555) (ms := 2520) (Or.inl rfl) rfl qY_int (by decide) dX4_init_8 h ?_
  clear h
  intro n1 F2 h
  refine aw_pc (pc' := 10) rfl ?_
  refine ar_pFF fl_RX4_11 ft_X4_0 rfl rfl (okA _ _) dX4_init_10 h ?_
  clear h
  intro F3 h
  refine aw_pc (pc' := 13) rfl ?_
  refine aw_aload_n dX4_init_13 rfl rfl (aw_pc (pc' := 14) rfl ?_)
  refine aw_sipush dX4_init_14 (by decide) (aw_pc (pc' := 17) rfl ?_)
  refine ar_newarr (k := 0) (kc := 3) (ks := 1035) (ms := 2520) (Or.inl rfl) rfl qY_int (by decide) dX4_init_17 h ?_
  clear h
  intro n4 F5 h
  refine aw_pc (pc' := 19) rfl ?_
  refine ar_pFF fl_RX4_15 ft_X4_1 rfl rfl (okA _ _) dX4_init_19 h ?_
  clear h
  intro F6 h
  refine aw_pc (pc' := 22) rfl ?_
  refine aw_aload_n dX4_init_22 rfl rfl (aw_pc (pc' := 23) rfl ?_)
  refine aw_sipush dX4_init_23 (by decide) (aw_pc (pc' := 26) rfl ?_)
  refine ar_newarr (k := 0) (kc := 2) (ks := 11) (ms := 1024) (Or.inl rfl) rfl qY_int (by decide) dX4_init_26 h ?_
  clear h
  intro n7 F8 h
  refine aw_pc (pc' := 28) rfl ?_
  refine ar_pFF fl_RX4_18 ft_X4_2 rfl rfl (okA _ _) dX4_init_28 h ?_
  clear h
  intro F9 h
  refine aw_pc (pc' := 31) rfl ?_
  refine aw_aload_n dX4_init_31 rfl rfl (aw_pc (pc' := 32) rfl ?_)
  refine aw_bipush dX4_init_32 (by decide) (aw_pc (pc' := 34) rfl ?_)
  refine ar_newarr (k := 0) (kc := 1) (ks := 3) (ms := 8) (Or.inl rfl) rfl qY_int (by decide) dX4_init_34 h ?_
  clear h
  intro n10 F11 h
  refine aw_pc (pc' := 36) rfl ?_
  refine ar_pFF fl_RX4_21 ft_X4_3 rfl rfl (okA _ _) dX4_init_36 h ?_
  clear h
  intro F12 h
  refine aw_pc (pc' := 39) rfl ?_
  refine aw_aload_n dX4_init_39 rfl rfl (aw_pc (pc' := 40) rfl ?_)
  refine aw_iconst dX4_init_40 (aw_pc (pc' := 41) rfl ?_)
  refine ar_newarr (k := 0) (kc := 0) (ks := 0) (ms := 3) (Or.inl rfl) rfl qY_int (by decide) dX4_init_41 h ?_
  clear h
  intro n13 F14 h
  refine aw_pc (pc' := 43) rfl ?_
  refine ar_pFF fl_RX4_24 ft_X4_4 rfl rfl (okA _ _) dX4_init_43 h ?_
  clear h
  intro F15 h
  refine aw_pc (pc' := 46) rfl ?_
  exact aw_vret rfl dX4_init_46 ⟨rfl, h⟩
def mX4_codeOf_L16 (X4 : Option Nat → Int → Int → hp → Prop) (Q : Int → hp → Prop) : Nat → Option Nat → Int → Int → Int → Int → hp → Prop
  | 0, _, _, _, _, _, _ => False
  | k + 1, a0, a1, a2, a3, a4, F => rcv F a0 10 (fun o3 => mX10_countOn o3 a2 F (fun x2 F1 => (w32 a4 < w32 x2 → rcv F1 (some o3) 10 (fun o6 => mX10_carAt o6 a2 a4 F1 (fun x5 F4 => ∀ v7 : Int, v7 = (iOr a1 (iShl a3 (3 * x5))) → mX4_codeOf_L16 X4 Q k (some o3) v7 a2 x5 (a4 + 1) F4))) ∧ (¬ w32 a4 < w32 x2 → X4 (some o3) a1 (a2 + 1) F1)))
set_option maxHeartbeats 4000000 in
theorem tX4_codeOf_L16 {d : Nat} {X4 : Option Nat → Int → Int → hp → Prop} {Q : Int → hp → Prop} (hX4 : ∀ (a0 : Option Nat) (a1 : Int) (a2 : Int) (F : hp), X4 a0 a1 a2 F → aw nX4_codeOf (d + 1) 0 0 4 [some (vr a0), some (vi a1), some (vi a2), none, none, none] [] F (qI Q)) : ∀ (k : Nat) (a0 : Option Nat) (a1 : Int) (a2 : Int) (a3 : Int) (a4 : Int) (F : hp), mX4_codeOf_L16 X4 Q k a0 a1 a2 a3 a4 F → aw nX4_codeOf (d + 1) 0 0 16 [some (vr a0), some (vi a1), some (vi a2), some (vi a3), some (vi a4), none] [] F (qI Q) := by
  intro k
  induction k with
  | zero => intro a0 a1 a2 a3 a4 F h; exact h.elim
  | succ k ih =>
    intro a0 a1 a2 a3 a4 F h
    simp only [mX4_codeOf_L16] at h
    refine aw_iload dX4_codeOf_16 rfl (aw_pc (pc' := 18) rfl ?_)
    refine aw_aload_n dX4_codeOf_18 rfl rfl (aw_pc (pc' := 19) rfl ?_)
    refine aw_iload_n dX4_codeOf_19 rfl rfl (aw_pc (pc' := 20) rfl ?_)
    have h0 := rcv_inv h
    clear h
    obtain ⟨o3, fs_o3, hr_o3, he_o3, h⟩ := h0
    subst hr_o3
    refine ar_VI (kc' := 0) (ks' := 0) (kc := 0) (ks := 0) (a := o3) (ci := 10) (as := [vi a2]) (st := [vi a4]) (tX10_countOn h) mt_X10_countOn rfl qM_RX4_27 qI_X10_countOn qV_X10_countOn he_o3 rfl (Nat.le_of_ble_eq_true rfl) dX4_codeOf_20 ?_
    clear h
    intro x2 F1 h
    refine aw_pc (pc' := 23) rfl ?_
    refine ac_ge rfl rfl dX4_codeOf_23 rfl (fun c => ?_) (fun c => ?_)
    · replace h := h.1 c
      refine aw_aload_n dX4_codeOf_26 rfl rfl (aw_pc (pc' := 27) rfl ?_)
      refine aw_iload_n dX4_codeOf_27 rfl rfl (aw_pc (pc' := 28) rfl ?_)
      refine aw_iload dX4_codeOf_28 rfl (aw_pc (pc' := 30) rfl ?_)
      have h0 := rcv_inv h
      clear h
      obtain ⟨o6, fs_o6, hr_o6, he_o6, h⟩ := h0
      obtain rfl : o3 = o6 := Option.some.inj hr_o6
      refine ar_VI (kc' := 0) (ks' := 0) (kc := 0) (ks := 0) (a := o3) (ci := 10) (as := [vi a2, vi a4]) (st := []) (tX10_carAt h) mt_X10_carAt rfl qM_RX4_33 qI_X10_carAt qV_X10_carAt he_o6 rfl (Nat.le_of_ble_eq_true rfl) dX4_codeOf_30 ?_
      clear h
      intro x5 F4 h
      refine aw_pc (pc' := 33) rfl ?_
      refine aw_istore dX4_codeOf_33 (by decide) (aw_pc (pc' := 35) rfl ?_)
      refine aw_iload_n dX4_codeOf_35 rfl rfl (aw_pc (pc' := 36) rfl ?_)
      refine aw_iload_n dX4_codeOf_36 rfl rfl (aw_pc (pc' := 37) rfl ?_)
      refine aw_iconst dX4_codeOf_37 (aw_pc (pc' := 38) rfl ?_)
      refine aw_iload dX4_codeOf_38 rfl (aw_pc (pc' := 40) rfl ?_)
      refine aw_imul dX4_codeOf_40 (aw_pc (pc' := 41) rfl ?_)
      refine aw_ishl dX4_codeOf_41 (aw_pc (pc' := 42) rfl ?_)
      refine aw_ior dX4_codeOf_42 (aw_pc (pc' := 43) rfl ?_)
      generalize hv_v7 : (iOr a1 (iShl a3 (3 * x5))) = v7
      replace h := h v7 hv_v7.symm
      refine aw_istore_n dX4_codeOf_43 rfl (by decide) (aw_pc (pc' := 44) rfl ?_)
      refine aw_iload dX4_codeOf_44 rfl (aw_pc (pc' := 46) rfl ?_)
      refine aw_istore_n dX4_codeOf_46 rfl (by decide) (aw_pc (pc' := 47) rfl ?_)
      refine aw_iinc dX4_codeOf_47 rfl (by decide) (aw_pc (pc' := 50) rfl ?_)
      refine aw_goto (tgt := 16) dX4_codeOf_50 rfl ?_
      exact aw_mask [true, true, true, true, true, false] (ih _ _ _ _ _ _ h)
    · replace h := h.2 c
      refine aw_iinc dX4_codeOf_53 rfl (by decide) (aw_pc (pc' := 56) rfl ?_)
      refine aw_goto (tgt := 4) dX4_codeOf_56 rfl ?_
      exact aw_mask [true, true, true, false, false, false] (hX4 _ _ _ _ h)
def mX4_codeOf_L4 (Q : Int → hp → Prop) : Nat → Option Nat → Int → Int → hp → Prop
  | 0, _, _, _, _ => False
  | k + 1, a0, a1, a2, F => (w32 a2 < 3 → ∀ v1 : Int, v1 = (5 + a2) → (∃ k2, mX4_codeOf_L16 (fun a0' a1' a2' F' => mX4_codeOf_L4 Q k a0' a1' a2' F') Q k2 a0 a1 a2 v1 0 F)) ∧ (¬ w32 a2 < 3 → Q a1 F)
set_option maxHeartbeats 4000000 in
theorem tX4_codeOf_L4 {d : Nat} {Q : Int → hp → Prop} : ∀ (k : Nat) (a0 : Option Nat) (a1 : Int) (a2 : Int) (F : hp), mX4_codeOf_L4 Q k a0 a1 a2 F → aw nX4_codeOf (d + 1) 0 0 4 [some (vr a0), some (vi a1), some (vi a2), none, none, none] [] F (qI Q) := by
  intro k
  induction k with
  | zero => intro a0 a1 a2 F h; exact h.elim
  | succ k ih =>
    intro a0 a1 a2 F h
    simp only [mX4_codeOf_L4] at h
    refine aw_iload_n dX4_codeOf_4 rfl rfl (aw_pc (pc' := 5) rfl ?_)
    refine aw_iconst dX4_codeOf_5 (aw_pc (pc' := 6) rfl ?_)
    refine ac_ge rfl wl_3 dX4_codeOf_6 rfl (fun c => ?_) (fun c => ?_)
    · replace h := h.1 c
      refine aw_iconst dX4_codeOf_9 (aw_pc (pc' := 10) rfl ?_)
      refine aw_iload_n dX4_codeOf_10 rfl rfl (aw_pc (pc' := 11) rfl ?_)
      refine aw_iadd dX4_codeOf_11 (aw_pc (pc' := 12) rfl ?_)
      generalize hv_v1 : (5 + a2) = v1
      replace h := h v1 hv_v1.symm
      refine aw_istore_n dX4_codeOf_12 rfl (by decide) (aw_pc (pc' := 13) rfl ?_)
      refine aw_iconst dX4_codeOf_13 (aw_pc (pc' := 14) rfl ?_)
      refine aw_istore dX4_codeOf_14 (by decide) (aw_pc (pc' := 16) rfl ?_)
      obtain ⟨k2, h⟩ := h
      exact aw_mask [true, true, true, true, true, false] (tX4_codeOf_L16 (fun a0' a1' a2' F' h' => ih a0' a1' a2' F' h') k2 _ _ _ _ _ _ h)
    · replace h := h.2 c
      refine aw_iload_n dX4_codeOf_59 rfl rfl (aw_pc (pc' := 60) rfl ?_)
      exact aw_iret rfl dX4_codeOf_60 ⟨_, rfl, h⟩
def mX4_codeOf (a0 : Option Nat) (F : hp) (Q : Int → hp → Prop) : Prop := (∃ k1, mX4_codeOf_L4 Q k1 a0 0 0 F)
set_option maxHeartbeats 4000000 in
theorem tX4_codeOf {d : Nat} {a0 : Option Nat} {F : hp} {Q : Int → hp → Prop} (h : mX4_codeOf a0 F Q) : am nX4_codeOf (d + 1) 0 0 [vr a0] F (qI Q) := by
  refine am_of (by decide +kernel) (Nat.le_of_ble_eq_true rfl) ?_
  show aw nX4_codeOf (d + 1) 0 0 0 [some (vr a0), none, none, none, none, none] [] F (qI Q)
  unfold mX4_codeOf at h
  refine aw_iconst dX4_codeOf_0 (aw_pc (pc' := 1) rfl ?_)
  refine aw_istore_n dX4_codeOf_1 rfl (by decide) (aw_pc (pc' := 2) rfl ?_)
  refine aw_iconst dX4_codeOf_2 (aw_pc (pc' := 3) rfl ?_)
  refine aw_istore_n dX4_codeOf_3 rfl (by decide) (aw_pc (pc' := 4) rfl ?_)
  obtain ⟨k1, h⟩ := h
  exact aw_mask [true, true, true, false, false, false] (tX4_codeOf_L4 k1 _ _ _ _ h)
def mX4_belowOf (a0 : Int) (a1 : Int) (F : hp) (Q : Int → hp → Prop) : Prop := Q (iAnd (iShr a0 (3 * a1)) 7) F
set_option maxHeartbeats 4000000 in
theorem tX4_belowOf {d : Nat} {a0 : Int} {a1 : Int} {F : hp} {Q : Int → hp → Prop} (h : mX4_belowOf a0 a1 F Q) : am nX4_belowOf d 0 0 [vi a0, vi a1] F (qI Q) := by
  refine am_of (by decide +kernel) (Nat.le_of_ble_eq_true rfl) ?_
  show aw nX4_belowOf d 0 0 0 [some (vi a0), some (vi a1)] [] F (qI Q)
  unfold mX4_belowOf at h
  refine aw_iload_n dX4_belowOf_0 rfl rfl (aw_pc (pc' := 1) rfl ?_)
  refine aw_iconst dX4_belowOf_1 (aw_pc (pc' := 2) rfl ?_)
  refine aw_iload_n dX4_belowOf_2 rfl rfl (aw_pc (pc' := 3) rfl ?_)
  refine aw_imul dX4_belowOf_3 (aw_pc (pc' := 4) rfl ?_)
  refine aw_ishr dX4_belowOf_4 (aw_pc (pc' := 5) rfl ?_)
  refine aw_bipush dX4_belowOf_5 (by decide) (aw_pc (pc' := 7) rfl ?_)
  refine aw_iand dX4_belowOf_7 (aw_pc (pc' := 8) rfl ?_)
  exact aw_iret rfl dX4_belowOf_8 ⟨_, rfl, h⟩
def mX4_trackIn_L8 (Q : Int → hp → Prop) : Nat → Int → Int → Int → hp → Prop
  | 0, _, _, _, _ => False
  | k + 1, a0, a2, a3, F => (w32 a3 < 5 → (w32 a2 < 5 → mX4_belowOf a0 a2 F (fun x2 F1 => mX4_trackIn_L8 Q k a0 x2 (a3 + 1) F1)) ∧ (¬ w32 a2 < 5 → Q (a2 - 5) F)) ∧ (¬ w32 a3 < 5 → Q (a2 - 5) F)
set_option maxHeartbeats 4000000 in
theorem tX4_trackIn_L8 {d : Nat} {Q : Int → hp → Prop} : ∀ (k : Nat) (a0 : Int) (a2 : Int) (a3 : Int) (F : hp), mX4_trackIn_L8 Q k a0 a2 a3 F → aw nX4_trackIn (d + 1) 0 0 8 [some (vi a0), none, some (vi a2), some (vi a3)] [] F (qI Q) := by
  intro k
  induction k with
  | zero => intro a0 a2 a3 F h; exact h.elim
  | succ k ih =>
    intro a0 a2 a3 F h
    simp only [mX4_trackIn_L8] at h
    refine aw_iload_n dX4_trackIn_8 rfl rfl (aw_pc (pc' := 9) rfl ?_)
    refine aw_iconst dX4_trackIn_9 (aw_pc (pc' := 10) rfl ?_)
    refine ac_ge rfl wl_5 dX4_trackIn_10 rfl (fun c => ?_) (fun c => ?_)
    · replace h := h.1 c
      refine aw_iload_n dX4_trackIn_13 rfl rfl (aw_pc (pc' := 14) rfl ?_)
      refine aw_iconst dX4_trackIn_14 (aw_pc (pc' := 15) rfl ?_)
      refine ac_ge rfl wl_5 dX4_trackIn_15 rfl (fun c => ?_) (fun c => ?_)
      · replace h := h.1 c
        refine aw_iload_n dX4_trackIn_18 rfl rfl (aw_pc (pc' := 19) rfl ?_)
        refine aw_iload_n dX4_trackIn_19 rfl rfl (aw_pc (pc' := 20) rfl ?_)
        refine ar_SI (kc' := 0) (ks' := 0) (kc := 0) (ks := 0) (as := [vi a0, vi a2]) (st := []) (tX4_belowOf h) mt_X4_belowOf qM_RX4_37 qS_X4_belowOf rfl (Nat.le_of_ble_eq_true rfl) dX4_trackIn_20 ?_
        clear h
        intro x2 F1 h
        refine aw_pc (pc' := 23) rfl ?_
        refine aw_istore_n dX4_trackIn_23 rfl (by decide) (aw_pc (pc' := 24) rfl ?_)
        refine aw_iinc dX4_trackIn_24 rfl (by decide) (aw_pc (pc' := 27) rfl ?_)
        refine aw_goto (tgt := 8) dX4_trackIn_27 rfl ?_
        exact aw_mask [true, false, true, true] (ih _ _ _ _ h)
      · replace h := h.2 c
        refine aw_iload_n dX4_trackIn_30 rfl rfl (aw_pc (pc' := 31) rfl ?_)
        refine aw_iconst dX4_trackIn_31 (aw_pc (pc' := 32) rfl ?_)
        refine aw_isub dX4_trackIn_32 (aw_pc (pc' := 33) rfl ?_)
        exact aw_iret rfl dX4_trackIn_33 ⟨_, rfl, h⟩
    · replace h := h.2 c
      refine aw_iload_n dX4_trackIn_30 rfl rfl (aw_pc (pc' := 31) rfl ?_)
      refine aw_iconst dX4_trackIn_31 (aw_pc (pc' := 32) rfl ?_)
      refine aw_isub dX4_trackIn_32 (aw_pc (pc' := 33) rfl ?_)
      exact aw_iret rfl dX4_trackIn_33 ⟨_, rfl, h⟩
def mX4_trackIn (a0 : Int) (a1 : Int) (F : hp) (Q : Int → hp → Prop) : Prop := mX4_belowOf a0 a1 F (fun x2 F1 => (∃ k3, mX4_trackIn_L8 Q k3 a0 x2 0 F1))
set_option maxHeartbeats 4000000 in
theorem tX4_trackIn {d : Nat} {a0 : Int} {a1 : Int} {F : hp} {Q : Int → hp → Prop} (h : mX4_trackIn a0 a1 F Q) : am nX4_trackIn (d + 1) 0 0 [vi a0, vi a1] F (qI Q) := by
  refine am_of (by decide +kernel) (Nat.le_of_ble_eq_true rfl) ?_
  show aw nX4_trackIn (d + 1) 0 0 0 [some (vi a0), some (vi a1), none, none] [] F (qI Q)
  unfold mX4_trackIn at h
  refine aw_iload_n dX4_trackIn_0 rfl rfl (aw_pc (pc' := 1) rfl ?_)
  refine aw_iload_n dX4_trackIn_1 rfl rfl (aw_pc (pc' := 2) rfl ?_)
  refine ar_SI (kc' := 0) (ks' := 0) (kc := 0) (ks := 0) (as := [vi a0, vi a1]) (st := []) (tX4_belowOf h) mt_X4_belowOf qM_RX4_37 qS_X4_belowOf rfl (Nat.le_of_ble_eq_true rfl) dX4_trackIn_2 ?_
  clear h
  intro x2 F1 h
  refine aw_pc (pc' := 5) rfl ?_
  refine aw_istore_n dX4_trackIn_5 rfl (by decide) (aw_pc (pc' := 6) rfl ?_)
  refine aw_iconst dX4_trackIn_6 (aw_pc (pc' := 7) rfl ?_)
  refine aw_istore_n dX4_trackIn_7 rfl (by decide) (aw_pc (pc' := 8) rfl ?_)
  obtain ⟨k3, h⟩ := h
  exact aw_mask [true, false, true, true] (tX4_trackIn_L8 k3 _ _ _ _ h)
def mX4_note (o : Nat) (a1 : Int) (a2 : Int) (F : hp) (Q : hp → Prop) : Prop := ∀ v1 : Int, v1 = (iShr a1 5) → ∀ v2 : Int, v2 = (iShl 1 (iAnd a1 31)) → (w32 v1 < 0 → Q F) ∧ (¬ w32 v1 < 0 → gR F (some o) 4 2 (fun x3 => aN F x3 (fun x4 => (w32 v1 < w32 x4 → gR F (some o) 4 2 (fun x5 => aI F x5 0 v1 (fun x6 => (w32 (iAnd x6 v2) = 0 → gI F (some o) 4 5 (fun x7 => (w32 x7 < 2520 → gR F (some o) 4 2 (fun x8 => aI F x8 0 v1 (fun x9 => sI F x8 0 v1 (iOr x9 v2) (fun F10 => gR F10 (some o) 4 0 (fun x11 => gI F10 (some o) 4 5 (fun x12 => sI F10 x11 0 x12 a1 (fun F13 => gR F13 (some o) 4 1 (fun x14 => gI F13 (some o) 4 5 (fun x15 => sI F13 x14 0 x15 a2 (fun F16 => gI F16 (some o) 4 5 (fun x17 => pF F16 (some o) 4 5 (vi (x17 + 1)) (fun F18 => Q F18)))))))))))) ∧ (¬ w32 x7 < 2520 → Q F))) ∧ (¬ w32 (iAnd x6 v2) = 0 → Q F)))) ∧ (¬ w32 v1 < w32 x4 → Q F))))
set_option maxHeartbeats 4000000 in
theorem tX4_note {d : Nat} {o : Nat} {a1 : Int} {a2 : Int} {F : hp} {Q : hp → Prop} (h : mX4_note o a1 a2 F Q) : am nX4_note d 0 0 [vr (some o), vi a1, vi a2] F (qV Q) := by
  refine am_of (by decide +kernel) (Nat.le_of_ble_eq_true rfl) ?_
  show aw nX4_note d 0 0 0 [some (vr (some o)), some (vi a1), some (vi a2), none, none] [] F (qV Q)
  unfold mX4_note at h
  refine aw_iload_n dX4_note_0 rfl rfl (aw_pc (pc' := 1) rfl ?_)
  refine aw_iconst dX4_note_1 (aw_pc (pc' := 2) rfl ?_)
  refine aw_ishr dX4_note_2 (aw_pc (pc' := 3) rfl ?_)
  generalize hv_v1 : (iShr a1 5) = v1
  replace h := h v1 hv_v1.symm
  refine aw_istore_n dX4_note_3 rfl (by decide) (aw_pc (pc' := 4) rfl ?_)
  refine aw_iconst dX4_note_4 (aw_pc (pc' := 5) rfl ?_)
  refine aw_iload_n dX4_note_5 rfl rfl (aw_pc (pc' := 6) rfl ?_)
  refine aw_bipush dX4_note_6 (by decide) (aw_pc (pc' := 8) rfl ?_)
  refine aw_iand dX4_note_8 (aw_pc (pc' := 9) rfl ?_)
  refine aw_ishl dX4_note_9 (aw_pc (pc' := 10) rfl ?_)
  generalize hv_v2 : (iShl 1 (iAnd a1 31)) = v2
  replace h := h v2 hv_v2.symm
  refine aw_istore dX4_note_10 (by decide) (aw_pc (pc' := 12) rfl ?_)
  refine aw_iload_n dX4_note_12 rfl rfl (aw_pc (pc' := 13) rfl ?_)
  refine aw_if_lt dX4_note_13 rfl (fun c => ?_) (fun c => ?_)
  · replace h := h.1 c
    exact aw_vret rfl dX4_note_47 ⟨rfl, h⟩
  · replace h := h.2 c
    refine aw_iload_n dX4_note_16 rfl rfl (aw_pc (pc' := 17) rfl ?_)
    refine aw_aload_n dX4_note_17 rfl rfl (aw_pc (pc' := 18) rfl ?_)
    refine ar_gR fl_RX4_18 dX4_note_18 h ?_
    clear h
    intro x3 h
    refine aw_pc (pc' := 21) rfl ?_
    refine ar_aN dX4_note_21 h ?_
    clear h
    intro x4 h
    refine aw_pc (pc' := 22) rfl ?_
    refine ac_ge rfl rfl dX4_note_22 rfl (fun c => ?_) (fun c => ?_)
    · replace h := h.1 c
      refine aw_aload_n dX4_note_25 rfl rfl (aw_pc (pc' := 26) rfl ?_)
      refine ar_gR fl_RX4_18 dX4_note_26 h ?_
      clear h
      intro x5 h
      refine aw_pc (pc' := 29) rfl ?_
      refine aw_iload_n dX4_note_29 rfl rfl (aw_pc (pc' := 30) rfl ?_)
      refine ar_aI dX4_note_30 h ?_
      clear h
      intro x6 h
      refine aw_pc (pc' := 31) rfl ?_
      refine aw_iload dX4_note_31 rfl (aw_pc (pc' := 33) rfl ?_)
      refine aw_iand dX4_note_33 (aw_pc (pc' := 34) rfl ?_)
      refine aw_if_ne dX4_note_34 rfl (fun c => ?_) (fun c => ?_)
      · replace h := h.1 c
        refine aw_aload_n dX4_note_37 rfl rfl (aw_pc (pc' := 38) rfl ?_)
        refine ar_gI fl_RX4_40 dX4_note_38 h ?_
        clear h
        intro x7 h
        refine aw_pc (pc' := 41) rfl ?_
        refine aw_sipush dX4_note_41 (by decide) (aw_pc (pc' := 44) rfl ?_)
        refine ac_lt rfl wl_2520 dX4_note_44 rfl (fun c => ?_) (fun c => ?_)
        · replace h := h.1 c
          refine aw_aload_n dX4_note_48 rfl rfl (aw_pc (pc' := 49) rfl ?_)
          refine ar_gR fl_RX4_18 dX4_note_49 h ?_
          clear h
          intro x8 h
          refine aw_pc (pc' := 52) rfl ?_
          refine aw_iload_n dX4_note_52 rfl rfl (aw_pc (pc' := 53) rfl ?_)
          refine aw_dup2 dX4_note_53 trivial trivial (aw_pc (pc' := 54) rfl ?_)
          refine ar_aI dX4_note_54 h ?_
          clear h
          intro x9 h
          refine aw_pc (pc' := 55) rfl ?_
          refine aw_iload dX4_note_55 rfl (aw_pc (pc' := 57) rfl ?_)
          refine aw_ior dX4_note_57 (aw_pc (pc' := 58) rfl ?_)
          refine ar_sI dX4_note_58 h ?_
          clear h
          intro F10 h
          refine aw_pc (pc' := 59) rfl ?_
          refine aw_aload_n dX4_note_59 rfl rfl (aw_pc (pc' := 60) rfl ?_)
          refine ar_gR fl_RX4_11 dX4_note_60 h ?_
          clear h
          intro x11 h
          refine aw_pc (pc' := 63) rfl ?_
          refine aw_aload_n dX4_note_63 rfl rfl (aw_pc (pc' := 64) rfl ?_)
          refine ar_gI fl_RX4_40 dX4_note_64 h ?_
          clear h
          intro x12 h
          refine aw_pc (pc' := 67) rfl ?_
          refine aw_iload_n dX4_note_67 rfl rfl (aw_pc (pc' := 68) rfl ?_)
          refine ar_sI dX4_note_68 h ?_
          clear h
          intro F13 h
          refine aw_pc (pc' := 69) rfl ?_
          refine aw_aload_n dX4_note_69 rfl rfl (aw_pc (pc' := 70) rfl ?_)
          refine ar_gR fl_RX4_15 dX4_note_70 h ?_
          clear h
          intro x14 h
          refine aw_pc (pc' := 73) rfl ?_
          refine aw_aload_n dX4_note_73 rfl rfl (aw_pc (pc' := 74) rfl ?_)
          refine ar_gI fl_RX4_40 dX4_note_74 h ?_
          clear h
          intro x15 h
          refine aw_pc (pc' := 77) rfl ?_
          refine aw_iload_n dX4_note_77 rfl rfl (aw_pc (pc' := 78) rfl ?_)
          refine ar_sI dX4_note_78 h ?_
          clear h
          intro F16 h
          refine aw_pc (pc' := 79) rfl ?_
          refine aw_aload_n dX4_note_79 rfl rfl (aw_pc (pc' := 80) rfl ?_)
          refine aw_dup dX4_note_80 trivial (aw_pc (pc' := 81) rfl ?_)
          refine ar_gI fl_RX4_40 dX4_note_81 h ?_
          clear h
          intro x17 h
          refine aw_pc (pc' := 84) rfl ?_
          refine aw_iconst dX4_note_84 (aw_pc (pc' := 85) rfl ?_)
          refine aw_iadd dX4_note_85 (aw_pc (pc' := 86) rfl ?_)
          refine ar_pF fl_RX4_40 ft_X4_5 (okI _) dX4_note_86 h ?_
          clear h
          intro F18 h
          refine aw_pc (pc' := 89) rfl ?_
          exact aw_vret rfl dX4_note_89 ⟨rfl, h⟩
        · replace h := h.2 c
          exact aw_vret rfl dX4_note_47 ⟨rfl, h⟩
      · replace h := h.2 c
        exact aw_vret rfl dX4_note_47 ⟨rfl, h⟩
    · replace h := h.2 c
      exact aw_vret rfl dX4_note_47 ⟨rfl, h⟩
def mX4_findTops_J79 (X34 : Nat → Int → Int → hp → Prop) (Q : hp → Prop) (o : Nat) (a2 : Int) (a3 : Int) (a4 : Int) (F : hp) : Prop := gR F (some o) 4 4 (fun x1 => sI F x1 0 a3 a4 (fun F2 => X34 o a2 (a3 + 1) F2))
set_option maxHeartbeats 4000000 in
theorem tX4_findTops_J79 {d : Nat} {X34 : Nat → Int → Int → hp → Prop} {Q : hp → Prop} (hX34 : ∀ (o : Nat) (a2 : Int) (a3 : Int) (F : hp), X34 o a2 a3 F → aw nX4_findTops (d + 1) 0 0 34 [some (vr (some o)), none, some (vi a2), some (vi a3), none, none] [] F (qV Q)) {o : Nat} {a2 : Int} {a3 : Int} {a4 : Int} {F : hp} (h : mX4_findTops_J79 X34 Q o a2 a3 a4 F) : aw nX4_findTops (d + 1) 0 0 79 [some (vr (some o)), none, some (vi a2), some (vi a3), some (vi a4), none] [] F (qV Q) := by
  unfold mX4_findTops_J79 at h
  refine aw_aload_n dX4_findTops_79 rfl rfl (aw_pc (pc' := 80) rfl ?_)
  refine ar_gR fl_RX4_24 dX4_findTops_80 h ?_
  clear h
  intro x1 h
  refine aw_pc (pc' := 83) rfl ?_
  refine aw_iload_n dX4_findTops_83 rfl rfl (aw_pc (pc' := 84) rfl ?_)
  refine aw_iload dX4_findTops_84 rfl (aw_pc (pc' := 86) rfl ?_)
  refine ar_sI dX4_findTops_86 h ?_
  clear h
  intro F2 h
  refine aw_pc (pc' := 87) rfl ?_
  refine aw_iinc dX4_findTops_87 rfl (by decide) (aw_pc (pc' := 90) rfl ?_)
  refine aw_goto (tgt := 34) dX4_findTops_90 rfl ?_
  exact aw_mask [true, false, true, true, false, false] (hX34 _ _ _ _ h)
def mX4_findTops_L47 (X34 : Nat → Int → Int → hp → Prop) (Q : hp → Prop) : Nat → Nat → Int → Int → Int → Int → hp → Prop
  | 0, _, _, _, _, _, _ => False
  | k + 1, o, a2, a3, a4, a5, F => (w32 a5 < w32 a2 → gR F (some o) 4 3 (fun x1 => aI F x1 0 a4 (fun x2 => (w32 x2 = (-1) → mX4_findTops_J79 X34 Q o a2 a3 a4 F) ∧ (¬ w32 x2 = (-1) → gR F (some o) 4 3 (fun x3 => aI F x3 0 a4 (fun x4 => mX4_findTops_L47 X34 Q k o a2 a3 x4 (a5 + 1) F)))))) ∧ (¬ w32 a5 < w32 a2 → mX4_findTops_J79 X34 Q o a2 a3 a4 F)
set_option maxHeartbeats 4000000 in
theorem tX4_findTops_L47 {d : Nat} {X34 : Nat → Int → Int → hp → Prop} {Q : hp → Prop} (hX34 : ∀ (o : Nat) (a2 : Int) (a3 : Int) (F : hp), X34 o a2 a3 F → aw nX4_findTops (d + 1) 0 0 34 [some (vr (some o)), none, some (vi a2), some (vi a3), none, none] [] F (qV Q)) : ∀ (k : Nat) (o : Nat) (a2 : Int) (a3 : Int) (a4 : Int) (a5 : Int) (F : hp), mX4_findTops_L47 X34 Q k o a2 a3 a4 a5 F → aw nX4_findTops (d + 1) 0 0 47 [some (vr (some o)), none, some (vi a2), some (vi a3), some (vi a4), some (vi a5)] [] F (qV Q) := by
  intro k
  induction k with
  | zero => intro o a2 a3 a4 a5 F h; exact h.elim
  | succ k ih =>
    intro o a2 a3 a4 a5 F h
    simp only [mX4_findTops_L47] at h
    refine aw_iload dX4_findTops_47 rfl (aw_pc (pc' := 49) rfl ?_)
    refine aw_iload_n dX4_findTops_49 rfl rfl (aw_pc (pc' := 50) rfl ?_)
    refine ac_ge rfl rfl dX4_findTops_50 rfl (fun c => ?_) (fun c => ?_)
    · replace h := h.1 c
      refine aw_aload_n dX4_findTops_53 rfl rfl (aw_pc (pc' := 54) rfl ?_)
      refine ar_gR fl_RX4_21 dX4_findTops_54 h ?_
      clear h
      intro x1 h
      refine aw_pc (pc' := 57) rfl ?_
      refine aw_iload dX4_findTops_57 rfl (aw_pc (pc' := 59) rfl ?_)
      refine ar_aI dX4_findTops_59 h ?_
      clear h
      intro x2 h
      refine aw_pc (pc' := 60) rfl ?_
      refine aw_iconst dX4_findTops_60 (aw_pc (pc' := 61) rfl ?_)
      refine ac_eq rfl wl_m1 dX4_findTops_61 rfl (fun c => ?_) (fun c => ?_)
      · replace h := h.1 c
        exact aw_mask [true, false, true, true, true, false] (tX4_findTops_J79 hX34 h)
      · replace h := h.2 c
        refine aw_aload_n dX4_findTops_64 rfl rfl (aw_pc (pc' := 65) rfl ?_)
        refine ar_gR fl_RX4_21 dX4_findTops_65 h ?_
        clear h
        intro x3 h
        refine aw_pc (pc' := 68) rfl ?_
        refine aw_iload dX4_findTops_68 rfl (aw_pc (pc' := 70) rfl ?_)
        refine ar_aI dX4_findTops_70 h ?_
        clear h
        intro x4 h
        refine aw_pc (pc' := 71) rfl ?_
        refine aw_istore dX4_findTops_71 (by decide) (aw_pc (pc' := 73) rfl ?_)
        refine aw_iinc dX4_findTops_73 rfl (by decide) (aw_pc (pc' := 76) rfl ?_)
        refine aw_goto (tgt := 47) dX4_findTops_76 rfl ?_
        exact aw_mask [true, false, true, true, true, true] (ih _ _ _ _ _ _ h)
    · replace h := h.2 c
      exact aw_mask [true, false, true, true, true, false] (tX4_findTops_J79 hX34 h)
def mX4_findTops_L34 (Q : hp → Prop) : Nat → Nat → Int → Int → hp → Prop
  | 0, _, _, _, _ => False
  | k + 1, o, a2, a3, F => (w32 a3 < 3 → ∀ v1 : Int, v1 = (5 + a3) → (∃ k2, mX4_findTops_L47 (fun o' a2' a3' F' => mX4_findTops_L34 Q k o' a2' a3' F') Q k2 o a2 a3 v1 0 F)) ∧ (¬ w32 a3 < 3 → Q F)
set_option maxHeartbeats 4000000 in
theorem tX4_findTops_L34 {d : Nat} {Q : hp → Prop} : ∀ (k : Nat) (o : Nat) (a2 : Int) (a3 : Int) (F : hp), mX4_findTops_L34 Q k o a2 a3 F → aw nX4_findTops (d + 1) 0 0 34 [some (vr (some o)), none, some (vi a2), some (vi a3), none, none] [] F (qV Q) := by
  intro k
  induction k with
  | zero => intro o a2 a3 F h; exact h.elim
  | succ k ih =>
    intro o a2 a3 F h
    simp only [mX4_findTops_L34] at h
    refine aw_iload_n dX4_findTops_34 rfl rfl (aw_pc (pc' := 35) rfl ?_)
    refine aw_iconst dX4_findTops_35 (aw_pc (pc' := 36) rfl ?_)
    refine ac_ge rfl wl_3 dX4_findTops_36 rfl (fun c => ?_) (fun c => ?_)
    · replace h := h.1 c
      refine aw_iconst dX4_findTops_39 (aw_pc (pc' := 40) rfl ?_)
      refine aw_iload_n dX4_findTops_40 rfl rfl (aw_pc (pc' := 41) rfl ?_)
      refine aw_iadd dX4_findTops_41 (aw_pc (pc' := 42) rfl ?_)
      generalize hv_v1 : (5 + a3) = v1
      replace h := h v1 hv_v1.symm
      refine aw_istore dX4_findTops_42 (by decide) (aw_pc (pc' := 44) rfl ?_)
      refine aw_iconst dX4_findTops_44 (aw_pc (pc' := 45) rfl ?_)
      refine aw_istore dX4_findTops_45 (by decide) (aw_pc (pc' := 47) rfl ?_)
      obtain ⟨k2, h⟩ := h
      exact aw_mask [true, false, true, true, true, true] (tX4_findTops_L47 (fun o' a2' a3' F' h' => ih o' a2' a3' F' h') k2 _ _ _ _ _ _ h)
    · replace h := h.2 c
      exact aw_vret rfl dX4_findTops_93 ⟨rfl, h⟩
def mX4_findTops_L10 (Q : hp → Prop) : Nat → Nat → Int → Int → Int → hp → Prop
  | 0, _, _, _, _, _ => False
  | k + 1, o, a1, a2, a3, F => (w32 a3 < w32 a2 → gR F (some o) 4 3 (fun x1 => mX4_belowOf a1 a3 F (fun x3 F2 => sI F2 x1 0 x3 a3 (fun F4 => mX4_findTops_L10 Q k o a1 a2 (a3 + 1) F4)))) ∧ (¬ w32 a3 < w32 a2 → (∃ k5, mX4_findTops_L34 Q k5 o a2 0 F))
set_option maxHeartbeats 4000000 in
theorem tX4_findTops_L10 {d : Nat} {Q : hp → Prop} : ∀ (k : Nat) (o : Nat) (a1 : Int) (a2 : Int) (a3 : Int) (F : hp), mX4_findTops_L10 Q k o a1 a2 a3 F → aw nX4_findTops (d + 1) 0 0 10 [some (vr (some o)), some (vi a1), some (vi a2), some (vi a3), none, none] [] F (qV Q) := by
  intro k
  induction k with
  | zero => intro o a1 a2 a3 F h; exact h.elim
  | succ k ih =>
    intro o a1 a2 a3 F h
    simp only [mX4_findTops_L10] at h
    refine aw_iload_n dX4_findTops_10 rfl rfl (aw_pc (pc' := 11) rfl ?_)
    refine aw_iload_n dX4_findTops_11 rfl rfl (aw_pc (pc' := 12) rfl ?_)
    refine ac_ge rfl rfl dX4_findTops_12 rfl (fun c => ?_) (fun c => ?_)
    · replace h := h.1 c
      refine aw_aload_n dX4_findTops_15 rfl rfl (aw_pc (pc' := 16) rfl ?_)
      refine ar_gR fl_RX4_21 dX4_findTops_16 h ?_
      clear h
      intro x1 h
      refine aw_pc (pc' := 19) rfl ?_
      refine aw_iload_n dX4_findTops_19 rfl rfl (aw_pc (pc' := 20) rfl ?_)
      refine aw_iload_n dX4_findTops_20 rfl rfl (aw_pc (pc' := 21) rfl ?_)
      refine ar_SI (kc' := 0) (ks' := 0) (kc := 0) (ks := 0) (as := [vi a1, vi a3]) (st := [vr x1]) (tX4_belowOf h) mt_X4_belowOf qM_RX4_37 qS_X4_belowOf rfl (Nat.le_of_ble_eq_true rfl) dX4_findTops_21 ?_
      clear h
      intro x3 F2 h
      refine aw_pc (pc' := 24) rfl ?_
      refine aw_iload_n dX4_findTops_24 rfl rfl (aw_pc (pc' := 25) rfl ?_)
      refine ar_sI dX4_findTops_25 h ?_
      clear h
      intro F4 h
      refine aw_pc (pc' := 26) rfl ?_
      refine aw_iinc dX4_findTops_26 rfl (by decide) (aw_pc (pc' := 29) rfl ?_)
      refine aw_goto (tgt := 10) dX4_findTops_29 rfl ?_
      exact aw_mask [true, true, true, true, false, false] (ih _ _ _ _ _ h)
    · replace h := h.2 c
      refine aw_iconst dX4_findTops_32 (aw_pc (pc' := 33) rfl ?_)
      refine aw_istore_n dX4_findTops_33 rfl (by decide) (aw_pc (pc' := 34) rfl ?_)
      obtain ⟨k5, h⟩ := h
      exact aw_mask [true, false, true, true, false, false] (tX4_findTops_L34 k5 _ _ _ _ h)
def mX4_findTops (o : Nat) (a1 : Int) (a2 : Int) (F : hp) (Q : hp → Prop) : Prop := gR F (some o) 4 3 (fun x1 => mJ7_fill_53178 x1 (-1) F (fun F2 => (∃ k3, mX4_findTops_L10 Q k3 o a1 a2 0 F2)))
set_option maxHeartbeats 4000000 in
theorem tX4_findTops {d : Nat} {o : Nat} {a1 : Int} {a2 : Int} {F : hp} {Q : hp → Prop} (h : mX4_findTops o a1 a2 F Q) : am nX4_findTops (d + 1) 0 0 [vr (some o), vi a1, vi a2] F (qV Q) := by
  refine am_of (by decide +kernel) (Nat.le_of_ble_eq_true rfl) ?_
  show aw nX4_findTops (d + 1) 0 0 0 [some (vr (some o)), some (vi a1), some (vi a2), none, none, none] [] F (qV Q)
  unfold mX4_findTops at h
  refine aw_aload_n dX4_findTops_0 rfl rfl (aw_pc (pc' := 1) rfl ?_)
  refine ar_gR fl_RX4_21 dX4_findTops_1 h ?_
  clear h
  intro x1 h
  refine aw_pc (pc' := 4) rfl ?_
  refine aw_iconst dX4_findTops_4 (aw_pc (pc' := 5) rfl ?_)
  refine ar_SV (kc' := 0) (ks' := 0) (kc := 0) (ks := 0) (as := [vr x1, vi (-1)]) (st := []) (tJ7_fill_53178 h) mt_J7_fill_53178 qM_RX4_50 qS_J7_fill_53178 rfl (Nat.le_of_ble_eq_true rfl) dX4_findTops_5 ?_
  clear h
  intro F2 h
  refine aw_pc (pc' := 8) rfl ?_
  refine aw_iconst dX4_findTops_8 (aw_pc (pc' := 9) rfl ?_)
  refine aw_istore_n dX4_findTops_9 rfl (by decide) (aw_pc (pc' := 10) rfl ?_)
  obtain ⟨k3, h⟩ := h
  exact aw_mask [true, true, true, true, false, false] (tX4_findTops_L10 k3 _ _ _ _ _ h)
def mX4_moved_J65 (Q : Int → hp → Prop) (a1 : Int) (a6 : Int) (a7 : Int) (F : hp) : Prop := Q (iOr (iAnd a1 (iXor (iShl 7 (3 * a6)) (-1))) (iShl a7 (3 * a6))) F
set_option maxHeartbeats 4000000 in
theorem tX4_moved_J65 {d : Nat} {Q : Int → hp → Prop} {a1 : Int} {a6 : Int} {a7 : Int} {F : hp} (h : mX4_moved_J65 Q a1 a6 a7 F) : aw nX4_moved d 0 0 65 [none, some (vi a1), none, none, none, none, some (vi a6), some (vi a7)] [] F (qI Q) := by
  unfold mX4_moved_J65 at h
  refine aw_iload_n dX4_moved_65 rfl rfl (aw_pc (pc' := 66) rfl ?_)
  refine aw_bipush dX4_moved_66 (by decide) (aw_pc (pc' := 68) rfl ?_)
  refine aw_iconst dX4_moved_68 (aw_pc (pc' := 69) rfl ?_)
  refine aw_iload dX4_moved_69 rfl (aw_pc (pc' := 71) rfl ?_)
  refine aw_imul dX4_moved_71 (aw_pc (pc' := 72) rfl ?_)
  refine aw_ishl dX4_moved_72 (aw_pc (pc' := 73) rfl ?_)
  refine aw_iconst dX4_moved_73 (aw_pc (pc' := 74) rfl ?_)
  refine aw_ixor dX4_moved_74 (aw_pc (pc' := 75) rfl ?_)
  refine aw_iand dX4_moved_75 (aw_pc (pc' := 76) rfl ?_)
  refine aw_iload dX4_moved_76 rfl (aw_pc (pc' := 78) rfl ?_)
  refine aw_iconst dX4_moved_78 (aw_pc (pc' := 79) rfl ?_)
  refine aw_iload dX4_moved_79 rfl (aw_pc (pc' := 81) rfl ?_)
  refine aw_imul dX4_moved_81 (aw_pc (pc' := 82) rfl ?_)
  refine aw_ishl dX4_moved_82 (aw_pc (pc' := 83) rfl ?_)
  refine aw_ior dX4_moved_83 (aw_pc (pc' := 84) rfl ?_)
  exact aw_iret rfl dX4_moved_84 ⟨_, rfl, h⟩
def mX4_moved (o : Nat) (a1 : Int) (a2 : Int) (a3 : Int) (F : hp) (Q : Int → hp → Prop) : Prop := ∀ v1 : Int, v1 = ((w32 a2).tdiv 3) → ∀ v2 : Int, v2 = ((w32 a2).tmod 3) → gR F (some o) 4 4 (fun x3 => aI F x3 0 v1 (fun x4 => gR F (some o) 4 4 (fun x5 => aI F x5 0 v2 (fun x6 => (w32 v1 = w32 v2 → Q (-1) F) ∧ (¬ w32 v1 = w32 v2 → (w32 x4 < 5 → (w32 x6 < 5 → (w32 (iAnd (iShr a3 ((5 * x4) + x6)) 1) = 0 → Q (-1) F) ∧ (¬ w32 (iAnd (iShr a3 ((5 * x4) + x6)) 1) = 0 → mX4_moved_J65 Q a1 x4 x6 F)) ∧ (¬ w32 x6 < 5 → mX4_moved_J65 Q a1 x4 x6 F)) ∧ (¬ w32 x4 < 5 → Q (-1) F))))))
set_option maxHeartbeats 4000000 in
theorem tX4_moved {d : Nat} {o : Nat} {a1 : Int} {a2 : Int} {a3 : Int} {F : hp} {Q : Int → hp → Prop} (h : mX4_moved o a1 a2 a3 F Q) : am nX4_moved d 0 0 [vr (some o), vi a1, vi a2, vi a3] F (qI Q) := by
  refine am_of (by decide +kernel) (Nat.le_of_ble_eq_true rfl) ?_
  show aw nX4_moved d 0 0 0 [some (vr (some o)), some (vi a1), some (vi a2), some (vi a3), none, none, none, none] [] F (qI Q)
  unfold mX4_moved at h
  refine aw_iload_n dX4_moved_0 rfl rfl (aw_pc (pc' := 1) rfl ?_)
  refine aw_iconst dX4_moved_1 (aw_pc (pc' := 2) rfl ?_)
  refine ac_div wl_3 (by decide) dX4_moved_2 (aw_pc (pc' := 3) rfl ?_)
  generalize hv_v1 : ((w32 a2).tdiv 3) = v1
  replace h := h v1 hv_v1.symm
  refine aw_istore dX4_moved_3 (by decide) (aw_pc (pc' := 5) rfl ?_)
  refine aw_iload_n dX4_moved_5 rfl rfl (aw_pc (pc' := 6) rfl ?_)
  refine aw_iconst dX4_moved_6 (aw_pc (pc' := 7) rfl ?_)
  refine ac_rem wl_3 (by decide) dX4_moved_7 (aw_pc (pc' := 8) rfl ?_)
  generalize hv_v2 : ((w32 a2).tmod 3) = v2
  replace h := h v2 hv_v2.symm
  refine aw_istore dX4_moved_8 (by decide) (aw_pc (pc' := 10) rfl ?_)
  refine aw_aload_n dX4_moved_10 rfl rfl (aw_pc (pc' := 11) rfl ?_)
  refine ar_gR fl_RX4_24 dX4_moved_11 h ?_
  clear h
  intro x3 h
  refine aw_pc (pc' := 14) rfl ?_
  refine aw_iload dX4_moved_14 rfl (aw_pc (pc' := 16) rfl ?_)
  refine ar_aI dX4_moved_16 h ?_
  clear h
  intro x4 h
  refine aw_pc (pc' := 17) rfl ?_
  refine aw_istore dX4_moved_17 (by decide) (aw_pc (pc' := 19) rfl ?_)
  refine aw_aload_n dX4_moved_19 rfl rfl (aw_pc (pc' := 20) rfl ?_)
  refine ar_gR fl_RX4_24 dX4_moved_20 h ?_
  clear h
  intro x5 h
  refine aw_pc (pc' := 23) rfl ?_
  refine aw_iload dX4_moved_23 rfl (aw_pc (pc' := 25) rfl ?_)
  refine ar_aI dX4_moved_25 h ?_
  clear h
  intro x6 h
  refine aw_pc (pc' := 26) rfl ?_
  refine aw_istore dX4_moved_26 (by decide) (aw_pc (pc' := 28) rfl ?_)
  refine aw_iload dX4_moved_28 rfl (aw_pc (pc' := 30) rfl ?_)
  refine aw_iload dX4_moved_30 rfl (aw_pc (pc' := 32) rfl ?_)
  refine ac_eq rfl rfl dX4_moved_32 rfl (fun c => ?_) (fun c => ?_)
  · replace h := h.1 c
    refine aw_iconst dX4_moved_41 (aw_pc (pc' := 42) rfl ?_)
    exact aw_iret rfl dX4_moved_42 ⟨_, rfl, h⟩
  · replace h := h.2 c
    refine aw_iload dX4_moved_35 rfl (aw_pc (pc' := 37) rfl ?_)
    refine aw_iconst dX4_moved_37 (aw_pc (pc' := 38) rfl ?_)
    refine ac_lt rfl wl_5 dX4_moved_38 rfl (fun c => ?_) (fun c => ?_)
    · replace h := h.1 c
      refine aw_iload dX4_moved_43 rfl (aw_pc (pc' := 45) rfl ?_)
      refine aw_iconst dX4_moved_45 (aw_pc (pc' := 46) rfl ?_)
      refine ac_ge rfl wl_5 dX4_moved_46 rfl (fun c => ?_) (fun c => ?_)
      · replace h := h.1 c
        refine aw_iload_n dX4_moved_49 rfl rfl (aw_pc (pc' := 50) rfl ?_)
        refine aw_iconst dX4_moved_50 (aw_pc (pc' := 51) rfl ?_)
        refine aw_iload dX4_moved_51 rfl (aw_pc (pc' := 53) rfl ?_)
        refine aw_imul dX4_moved_53 (aw_pc (pc' := 54) rfl ?_)
        refine aw_iload dX4_moved_54 rfl (aw_pc (pc' := 56) rfl ?_)
        refine aw_iadd dX4_moved_56 (aw_pc (pc' := 57) rfl ?_)
        refine aw_ishr dX4_moved_57 (aw_pc (pc' := 58) rfl ?_)
        refine aw_iconst dX4_moved_58 (aw_pc (pc' := 59) rfl ?_)
        refine aw_iand dX4_moved_59 (aw_pc (pc' := 60) rfl ?_)
        refine aw_if_ne dX4_moved_60 rfl (fun c => ?_) (fun c => ?_)
        · replace h := h.1 c
          refine aw_iconst dX4_moved_63 (aw_pc (pc' := 64) rfl ?_)
          exact aw_iret rfl dX4_moved_64 ⟨_, rfl, h⟩
        · replace h := h.2 c
          exact aw_mask [false, true, false, false, false, false, true, true] (tX4_moved_J65 h)
      · replace h := h.2 c
        exact aw_mask [false, true, false, false, false, false, true, true] (tX4_moved_J65 h)
    · replace h := h.2 c
      refine aw_iconst dX4_moved_41 (aw_pc (pc' := 42) rfl ?_)
      exact aw_iret rfl dX4_moved_42 ⟨_, rfl, h⟩
def mX4_explore_J141 (X66 : Nat → Int → Int → Int → hp → Prop) (X98 : Nat → Int → Int → Int → Int → hp → Prop) (Q : hp → Prop) (o : Nat) (a2 : Int) (a3 : Int) (a4 : Int) (a5 : Int) (F : hp) : Prop := X98 o a2 a3 a4 (a5 + 1) F
set_option maxHeartbeats 4000000 in
theorem tX4_explore_J141 {d : Nat} {X66 : Nat → Int → Int → Int → hp → Prop} {X98 : Nat → Int → Int → Int → Int → hp → Prop} {Q : hp → Prop} (hX66 : ∀ (o : Nat) (a2 : Int) (a3 : Int) (a4 : Int) (F : hp), X66 o a2 a3 a4 F → aw nX4_explore (d + 2) 0 0 66 [some (vr (some o)), none, some (vi a2), some (vi a3), some (vi a4), none, none] [] F (qV Q)) (hX98 : ∀ (o : Nat) (a2 : Int) (a3 : Int) (a4 : Int) (a5 : Int) (F : hp), X98 o a2 a3 a4 a5 F → aw nX4_explore (d + 2) 0 0 98 [some (vr (some o)), none, some (vi a2), some (vi a3), some (vi a4), some (vi a5), none] [] F (qV Q)) {o : Nat} {a2 : Int} {a3 : Int} {a4 : Int} {a5 : Int} {F : hp} (h : mX4_explore_J141 X66 X98 Q o a2 a3 a4 a5 F) : aw nX4_explore (d + 2) 0 0 141 [some (vr (some o)), none, some (vi a2), some (vi a3), some (vi a4), some (vi a5), none] [] F (qV Q) := by
  unfold mX4_explore_J141 at h
  refine aw_iinc dX4_explore_141 rfl (by decide) (aw_pc (pc' := 144) rfl ?_)
  refine aw_goto (tgt := 98) dX4_explore_144 rfl ?_
  exact aw_mask [true, false, true, true, true, true, false] (hX98 _ _ _ _ _ _ h)
def mX4_explore_L98 (X66 : Nat → Int → Int → Int → hp → Prop) (Q : hp → Prop) : Nat → Nat → Int → Int → Int → Int → hp → Prop
  | 0, _, _, _, _, _, _ => False
  | k + 1, o, a2, a3, a4, a5, F => (w32 a5 < 9 → gR F (some o) 4 0 (fun x1 => aI F x1 0 a4 (fun x2 => rcv F (some o) 4 (fun o5 => mX4_moved o5 x2 a5 a3 F (fun x4 F3 => (w32 x4 = (-1) → mX4_explore_J141 X66 (fun o' a2' a3' a4' a5' F' => mX4_explore_L98 X66 Q k o' a2' a3' a4' a5' F') Q o a2 a3 a4 a5 F3) ∧ (¬ w32 x4 = (-1) → rcv F3 (some o) 4 (fun o7 => mX4_note o7 x4 ((9 * a4) + a5) F3 (fun F6 => mX4_explore_J141 X66 (fun o' a2' a3' a4' a5' F' => mX4_explore_L98 X66 Q k o' a2' a3' a4' a5' F') Q o a2 a3 a4 a5 F6)))))))) ∧ (¬ w32 a5 < 9 → X66 o a2 a3 (a4 + 1) F)
set_option maxHeartbeats 4000000 in
theorem tX4_explore_L98 {d : Nat} {X66 : Nat → Int → Int → Int → hp → Prop} {Q : hp → Prop} (hX66 : ∀ (o : Nat) (a2 : Int) (a3 : Int) (a4 : Int) (F : hp), X66 o a2 a3 a4 F → aw nX4_explore (d + 2) 0 0 66 [some (vr (some o)), none, some (vi a2), some (vi a3), some (vi a4), none, none] [] F (qV Q)) : ∀ (k : Nat) (o : Nat) (a2 : Int) (a3 : Int) (a4 : Int) (a5 : Int) (F : hp), mX4_explore_L98 X66 Q k o a2 a3 a4 a5 F → aw nX4_explore (d + 2) 0 0 98 [some (vr (some o)), none, some (vi a2), some (vi a3), some (vi a4), some (vi a5), none] [] F (qV Q) := by
  intro k
  induction k with
  | zero => intro o a2 a3 a4 a5 F h; exact h.elim
  | succ k ih =>
    intro o a2 a3 a4 a5 F h
    simp only [mX4_explore_L98] at h
    refine aw_iload dX4_explore_98 rfl (aw_pc (pc' := 100) rfl ?_)
    refine aw_bipush dX4_explore_100 (by decide) (aw_pc (pc' := 102) rfl ?_)
    refine ac_ge rfl wl_9 dX4_explore_102 rfl (fun c => ?_) (fun c => ?_)
    · replace h := h.1 c
      refine aw_aload_n dX4_explore_105 rfl rfl (aw_pc (pc' := 106) rfl ?_)
      refine aw_aload_n dX4_explore_106 rfl rfl (aw_pc (pc' := 107) rfl ?_)
      refine ar_gR fl_RX4_11 dX4_explore_107 h ?_
      clear h
      intro x1 h
      refine aw_pc (pc' := 110) rfl ?_
      refine aw_iload dX4_explore_110 rfl (aw_pc (pc' := 112) rfl ?_)
      refine ar_aI dX4_explore_112 h ?_
      clear h
      intro x2 h
      refine aw_pc (pc' := 113) rfl ?_
      refine aw_iload dX4_explore_113 rfl (aw_pc (pc' := 115) rfl ?_)
      refine aw_iload_n dX4_explore_115 rfl rfl (aw_pc (pc' := 116) rfl ?_)
      have h0 := rcv_inv h
      clear h
      obtain ⟨o5, fs_o5, hr_o5, he_o5, h⟩ := h0
      obtain rfl : o = o5 := Option.some.inj hr_o5
      refine ar_VI (kc' := 0) (ks' := 0) (kc := 0) (ks := 0) (a := o) (ci := 4) (as := [vi x2, vi a5, vi a3]) (st := []) (tX4_moved h) mt_X4_moved rfl qM_RX4_63 qI_X4_moved qV_X4_moved he_o5 rfl (Nat.le_of_ble_eq_true rfl) dX4_explore_116 ?_
      clear h
      intro x4 F3 h
      refine aw_pc (pc' := 119) rfl ?_
      refine aw_istore dX4_explore_119 (by decide) (aw_pc (pc' := 121) rfl ?_)
      refine aw_iload dX4_explore_121 rfl (aw_pc (pc' := 123) rfl ?_)
      refine aw_iconst dX4_explore_123 (aw_pc (pc' := 124) rfl ?_)
      refine ac_eq rfl wl_m1 dX4_explore_124 rfl (fun c => ?_) (fun c => ?_)
      · replace h := h.1 c
        exact aw_mask [true, false, true, true, true, true, false] (tX4_explore_J141 hX66 (fun o' a2' a3' a4' a5' F' h' => ih o' a2' a3' a4' a5' F' h') h)
      · replace h := h.2 c
        refine aw_aload_n dX4_explore_127 rfl rfl (aw_pc (pc' := 128) rfl ?_)
        refine aw_iload dX4_explore_128 rfl (aw_pc (pc' := 130) rfl ?_)
        refine aw_bipush dX4_explore_130 (by decide) (aw_pc (pc' := 132) rfl ?_)
        refine aw_iload dX4_explore_132 rfl (aw_pc (pc' := 134) rfl ?_)
        refine aw_imul dX4_explore_134 (aw_pc (pc' := 135) rfl ?_)
        refine aw_iload dX4_explore_135 rfl (aw_pc (pc' := 137) rfl ?_)
        refine aw_iadd dX4_explore_137 (aw_pc (pc' := 138) rfl ?_)
        have h0 := rcv_inv h
        clear h
        obtain ⟨o7, fs_o7, hr_o7, he_o7, h⟩ := h0
        obtain rfl : o = o7 := Option.some.inj hr_o7
        refine ar_VV (kc' := 0) (ks' := 0) (kc := 0) (ks := 0) (a := o) (ci := 4) (as := [vi x4, vi ((9 * a4) + a5)]) (st := []) (tX4_note h) mt_X4_note rfl qM_RX4_56 qI_X4_note qV_X4_note he_o7 rfl (Nat.le_of_ble_eq_true rfl) dX4_explore_138 ?_
        clear h
        intro F6 h
        refine aw_pc (pc' := 141) rfl ?_
        exact aw_mask [true, false, true, true, true, true, false] (tX4_explore_J141 hX66 (fun o' a2' a3' a4' a5' F' h' => ih o' a2' a3' a4' a5' F' h') h)
    · replace h := h.2 c
      refine aw_iinc dX4_explore_147 rfl (by decide) (aw_pc (pc' := 150) rfl ?_)
      refine aw_goto (tgt := 66) dX4_explore_150 rfl ?_
      exact aw_mask [true, false, true, true, true, false, false] (hX66 _ _ _ _ _ h)
def mX4_explore_L66 (Q : hp → Prop) : Nat → Nat → Int → Int → Int → hp → Prop
  | 0, _, _, _, _, _ => False
  | k + 1, o, a2, a3, a4, F => gI F (some o) 4 5 (fun x1 => (w32 a4 < w32 x1 → (w32 a4 < 2520 → gR F (some o) 4 0 (fun x2 => aI F x2 0 a4 (fun x3 => rcv F (some o) 4 (fun o5 => mX4_findTops o5 x3 a2 F (fun F4 => (∃ k6, mX4_explore_L98 (fun o' a2' a3' a4' F' => mX4_explore_L66 Q k o' a2' a3' a4' F') Q k6 o a2 a3 a4 0 F4)))))) ∧ (¬ w32 a4 < 2520 → Q F)) ∧ (¬ w32 a4 < w32 x1 → Q F))
set_option maxHeartbeats 4000000 in
theorem tX4_explore_L66 {d : Nat} {Q : hp → Prop} : ∀ (k : Nat) (o : Nat) (a2 : Int) (a3 : Int) (a4 : Int) (F : hp), mX4_explore_L66 Q k o a2 a3 a4 F → aw nX4_explore (d + 2) 0 0 66 [some (vr (some o)), none, some (vi a2), some (vi a3), some (vi a4), none, none] [] F (qV Q) := by
  intro k
  induction k with
  | zero => intro o a2 a3 a4 F h; exact h.elim
  | succ k ih =>
    intro o a2 a3 a4 F h
    simp only [mX4_explore_L66] at h
    refine aw_iload dX4_explore_66 rfl (aw_pc (pc' := 68) rfl ?_)
    refine aw_aload_n dX4_explore_68 rfl rfl (aw_pc (pc' := 69) rfl ?_)
    refine ar_gI fl_RX4_40 dX4_explore_69 h ?_
    clear h
    intro x1 h
    refine aw_pc (pc' := 72) rfl ?_
    refine ac_ge rfl rfl dX4_explore_72 rfl (fun c => ?_) (fun c => ?_)
    · replace h := h.1 c
      refine aw_iload dX4_explore_75 rfl (aw_pc (pc' := 77) rfl ?_)
      refine aw_sipush dX4_explore_77 (by decide) (aw_pc (pc' := 80) rfl ?_)
      refine ac_ge rfl wl_2520 dX4_explore_80 rfl (fun c => ?_) (fun c => ?_)
      · replace h := h.1 c
        refine aw_aload_n dX4_explore_83 rfl rfl (aw_pc (pc' := 84) rfl ?_)
        refine aw_aload_n dX4_explore_84 rfl rfl (aw_pc (pc' := 85) rfl ?_)
        refine ar_gR fl_RX4_11 dX4_explore_85 h ?_
        clear h
        intro x2 h
        refine aw_pc (pc' := 88) rfl ?_
        refine aw_iload dX4_explore_88 rfl (aw_pc (pc' := 90) rfl ?_)
        refine ar_aI dX4_explore_90 h ?_
        clear h
        intro x3 h
        refine aw_pc (pc' := 91) rfl ?_
        refine aw_iload_n dX4_explore_91 rfl rfl (aw_pc (pc' := 92) rfl ?_)
        have h0 := rcv_inv h
        clear h
        obtain ⟨o5, fs_o5, hr_o5, he_o5, h⟩ := h0
        obtain rfl : o = o5 := Option.some.inj hr_o5
        refine ar_VV (kc' := 0) (ks' := 0) (kc := 0) (ks := 0) (a := o) (ci := 4) (as := [vi x3, vi a2]) (st := []) (tX4_findTops h) mt_X4_findTops rfl qM_RX4_60 qI_X4_findTops qV_X4_findTops he_o5 rfl (Nat.le_of_ble_eq_true rfl) dX4_explore_92 ?_
        clear h
        intro F4 h
        refine aw_pc (pc' := 95) rfl ?_
        refine aw_iconst dX4_explore_95 (aw_pc (pc' := 96) rfl ?_)
        refine aw_istore dX4_explore_96 (by decide) (aw_pc (pc' := 98) rfl ?_)
        obtain ⟨k6, h⟩ := h
        exact aw_mask [true, false, true, true, true, true, false] (tX4_explore_L98 (fun o' a2' a3' a4' F' h' => ih o' a2' a3' a4' F' h') k6 _ _ _ _ _ _ h)
      · replace h := h.2 c
        exact aw_vret rfl dX4_explore_153 ⟨rfl, h⟩
    · replace h := h.2 c
      exact aw_vret rfl dX4_explore_153 ⟨rfl, h⟩
def mX4_explore_J34 (Q : hp → Prop) (o : Nat) (a1 : Int) (a2 : Int) (a3 : Int) (F : hp) : Prop := pF F (some o) 4 6 (vi a2) (fun F1 => pF F1 (some o) 4 7 (vi a3) (fun F2 => gR F2 (some o) 4 2 (fun x3 => mJ7_fill_53178 x3 0 F2 (fun F4 => pF F4 (some o) 4 5 (vi 0) (fun F5 => rcv F5 (some o) 4 (fun o7 => mX4_note o7 a1 0 F5 (fun F6 => (∃ k8, mX4_explore_L66 Q k8 o a2 a3 0 F6))))))))
set_option maxHeartbeats 4000000 in
theorem tX4_explore_J34 {d : Nat} {Q : hp → Prop} {o : Nat} {a1 : Int} {a2 : Int} {a3 : Int} {F : hp} (h : mX4_explore_J34 Q o a1 a2 a3 F) : aw nX4_explore (d + 2) 0 0 34 [some (vr (some o)), some (vi a1), some (vi a2), some (vi a3), none, none, none] [] F (qV Q) := by
  unfold mX4_explore_J34 at h
  refine aw_aload_n dX4_explore_34 rfl rfl (aw_pc (pc' := 35) rfl ?_)
  refine aw_iload_n dX4_explore_35 rfl rfl (aw_pc (pc' := 36) rfl ?_)
  refine ar_pF fl_RX4_44 ft_X4_6 (okI _) dX4_explore_36 h ?_
  clear h
  intro F1 h
  refine aw_pc (pc' := 39) rfl ?_
  refine aw_aload_n dX4_explore_39 rfl rfl (aw_pc (pc' := 40) rfl ?_)
  refine aw_iload_n dX4_explore_40 rfl rfl (aw_pc (pc' := 41) rfl ?_)
  refine ar_pF fl_RX4_47 ft_X4_7 (okI _) dX4_explore_41 h ?_
  clear h
  intro F2 h
  refine aw_pc (pc' := 44) rfl ?_
  refine aw_aload_n dX4_explore_44 rfl rfl (aw_pc (pc' := 45) rfl ?_)
  refine ar_gR fl_RX4_18 dX4_explore_45 h ?_
  clear h
  intro x3 h
  refine aw_pc (pc' := 48) rfl ?_
  refine aw_iconst dX4_explore_48 (aw_pc (pc' := 49) rfl ?_)
  refine ar_SV (kc' := 0) (ks' := 0) (kc := 0) (ks := 0) (as := [vr x3, vi 0]) (st := []) (tJ7_fill_53178 h) mt_J7_fill_53178 qM_RX4_50 qS_J7_fill_53178 rfl (Nat.le_of_ble_eq_true rfl) dX4_explore_49 ?_
  clear h
  intro F4 h
  refine aw_pc (pc' := 52) rfl ?_
  refine aw_aload_n dX4_explore_52 rfl rfl (aw_pc (pc' := 53) rfl ?_)
  refine aw_iconst dX4_explore_53 (aw_pc (pc' := 54) rfl ?_)
  refine ar_pF fl_RX4_40 ft_X4_5 (okI _) dX4_explore_54 h ?_
  clear h
  intro F5 h
  refine aw_pc (pc' := 57) rfl ?_
  refine aw_aload_n dX4_explore_57 rfl rfl (aw_pc (pc' := 58) rfl ?_)
  refine aw_iload_n dX4_explore_58 rfl rfl (aw_pc (pc' := 59) rfl ?_)
  refine aw_iconst dX4_explore_59 (aw_pc (pc' := 60) rfl ?_)
  have h0 := rcv_inv h
  clear h
  obtain ⟨o7, fs_o7, hr_o7, he_o7, h⟩ := h0
  obtain rfl : o = o7 := Option.some.inj hr_o7
  refine ar_VV (kc' := 0) (ks' := 0) (kc := 0) (ks := 0) (a := o) (ci := 4) (as := [vi a1, vi 0]) (st := []) (tX4_note h) mt_X4_note rfl qM_RX4_56 qI_X4_note qV_X4_note he_o7 rfl (Nat.le_of_ble_eq_true rfl) dX4_explore_60 ?_
  clear h
  intro F6 h
  refine aw_pc (pc' := 63) rfl ?_
  refine aw_iconst dX4_explore_63 (aw_pc (pc' := 64) rfl ?_)
  refine aw_istore dX4_explore_64 (by decide) (aw_pc (pc' := 66) rfl ?_)
  obtain ⟨k8, h⟩ := h
  exact aw_mask [true, false, true, true, true, false, false] (tX4_explore_L66 k8 _ _ _ _ _ h)
def mX4_explore (o : Nat) (a1 : Int) (a2 : Int) (a3 : Int) (F : hp) (Q : hp → Prop) : Prop := gI F (some o) 4 5 (fun x1 => (0 < w32 x1 → gR F (some o) 4 0 (fun x2 => aI F x2 0 0 (fun x3 => (w32 x3 = w32 a1 → gI F (some o) 4 6 (fun x4 => (w32 x4 = w32 a2 → gI F (some o) 4 7 (fun x5 => (w32 x5 = w32 a3 → Q F) ∧ (¬ w32 x5 = w32 a3 → mX4_explore_J34 Q o a1 a2 a3 F))) ∧ (¬ w32 x4 = w32 a2 → mX4_explore_J34 Q o a1 a2 a3 F))) ∧ (¬ w32 x3 = w32 a1 → mX4_explore_J34 Q o a1 a2 a3 F)))) ∧ (¬ 0 < w32 x1 → mX4_explore_J34 Q o a1 a2 a3 F))
set_option maxHeartbeats 4000000 in
theorem tX4_explore {d : Nat} {o : Nat} {a1 : Int} {a2 : Int} {a3 : Int} {F : hp} {Q : hp → Prop} (h : mX4_explore o a1 a2 a3 F Q) : am nX4_explore (d + 2) 0 0 [vr (some o), vi a1, vi a2, vi a3] F (qV Q) := by
  refine am_of (by decide +kernel) (Nat.le_of_ble_eq_true rfl) ?_
  show aw nX4_explore (d + 2) 0 0 0 [some (vr (some o)), some (vi a1), some (vi a2), some (vi a3), none, none, none] [] F (qV Q)
  unfold mX4_explore at h
  refine aw_aload_n dX4_explore_0 rfl rfl (aw_pc (pc' := 1) rfl ?_)
  refine ar_gI fl_RX4_40 dX4_explore_1 h ?_
  clear h
  intro x1 h
  refine aw_pc (pc' := 4) rfl ?_
  refine aw_if_le dX4_explore_4 rfl (fun c => ?_) (fun c => ?_)
  · replace h := h.1 c
    refine aw_aload_n dX4_explore_7 rfl rfl (aw_pc (pc' := 8) rfl ?_)
    refine ar_gR fl_RX4_11 dX4_explore_8 h ?_
    clear h
    intro x2 h
    refine aw_pc (pc' := 11) rfl ?_
    refine aw_iconst dX4_explore_11 (aw_pc (pc' := 12) rfl ?_)
    refine ar_aI dX4_explore_12 h ?_
    clear h
    intro x3 h
    refine aw_pc (pc' := 13) rfl ?_
    refine aw_iload_n dX4_explore_13 rfl rfl (aw_pc (pc' := 14) rfl ?_)
    refine ac_ne rfl rfl dX4_explore_14 rfl (fun c => ?_) (fun c => ?_)
    · replace h := h.1 c
      refine aw_aload_n dX4_explore_17 rfl rfl (aw_pc (pc' := 18) rfl ?_)
      refine ar_gI fl_RX4_44 dX4_explore_18 h ?_
      clear h
      intro x4 h
      refine aw_pc (pc' := 21) rfl ?_
      refine aw_iload_n dX4_explore_21 rfl rfl (aw_pc (pc' := 22) rfl ?_)
      refine ac_ne rfl rfl dX4_explore_22 rfl (fun c => ?_) (fun c => ?_)
      · replace h := h.1 c
        refine aw_aload_n dX4_explore_25 rfl rfl (aw_pc (pc' := 26) rfl ?_)
        refine ar_gI fl_RX4_47 dX4_explore_26 h ?_
        clear h
        intro x5 h
        refine aw_pc (pc' := 29) rfl ?_
        refine aw_iload_n dX4_explore_29 rfl rfl (aw_pc (pc' := 30) rfl ?_)
        refine ac_ne rfl rfl dX4_explore_30 rfl (fun c => ?_) (fun c => ?_)
        · replace h := h.1 c
          exact aw_vret rfl dX4_explore_33 ⟨rfl, h⟩
        · replace h := h.2 c
          exact aw_mask [true, true, true, true, false, false, false] (tX4_explore_J34 h)
      · replace h := h.2 c
        exact aw_mask [true, true, true, true, false, false, false] (tX4_explore_J34 h)
    · replace h := h.2 c
      exact aw_mask [true, true, true, true, false, false, false] (tX4_explore_J34 h)
  · replace h := h.2 c
    exact aw_mask [true, true, true, true, false, false, false] (tX4_explore_J34 h)
def mX4_codeBehind (o : Nat) (a1 : Int) (a2 : Int) (a3 : Int) (a4 : Int) (F : hp) (Q : Int → hp → Prop) : Prop := rcv F (some o) 4 (fun o2 => mX4_findTops o2 a1 a2 F (fun F1 => rcv F1 (some o) 4 (fun o5 => mX4_moved o5 a1 a3 a4 F1 (fun x4 F3 => Q x4 F3))))
set_option maxHeartbeats 4000000 in
theorem tX4_codeBehind {d : Nat} {o : Nat} {a1 : Int} {a2 : Int} {a3 : Int} {a4 : Int} {F : hp} {Q : Int → hp → Prop} (h : mX4_codeBehind o a1 a2 a3 a4 F Q) : am nX4_codeBehind (d + 2) 0 0 [vr (some o), vi a1, vi a2, vi a3, vi a4] F (qI Q) := by
  refine am_of (by decide +kernel) (Nat.le_of_ble_eq_true rfl) ?_
  show aw nX4_codeBehind (d + 2) 0 0 0 [some (vr (some o)), some (vi a1), some (vi a2), some (vi a3), some (vi a4)] [] F (qI Q)
  unfold mX4_codeBehind at h
  refine aw_aload_n dX4_codeBehind_0 rfl rfl (aw_pc (pc' := 1) rfl ?_)
  refine aw_iload_n dX4_codeBehind_1 rfl rfl (aw_pc (pc' := 2) rfl ?_)
  refine aw_iload_n dX4_codeBehind_2 rfl rfl (aw_pc (pc' := 3) rfl ?_)
  have h0 := rcv_inv h
  clear h
  obtain ⟨o2, fs_o2, hr_o2, he_o2, h⟩ := h0
  obtain rfl : o = o2 := Option.some.inj hr_o2
  refine ar_VV (kc' := 0) (ks' := 0) (kc := 0) (ks := 0) (a := o) (ci := 4) (as := [vi a1, vi a2]) (st := []) (tX4_findTops h) mt_X4_findTops rfl qM_RX4_60 qI_X4_findTops qV_X4_findTops he_o2 rfl (Nat.le_of_ble_eq_true rfl) dX4_codeBehind_3 ?_
  clear h
  intro F1 h
  refine aw_pc (pc' := 6) rfl ?_
  refine aw_aload_n dX4_codeBehind_6 rfl rfl (aw_pc (pc' := 7) rfl ?_)
  refine aw_iload_n dX4_codeBehind_7 rfl rfl (aw_pc (pc' := 8) rfl ?_)
  refine aw_iload_n dX4_codeBehind_8 rfl rfl (aw_pc (pc' := 9) rfl ?_)
  refine aw_iload dX4_codeBehind_9 rfl (aw_pc (pc' := 11) rfl ?_)
  have h0 := rcv_inv h
  clear h
  obtain ⟨o5, fs_o5, hr_o5, he_o5, h⟩ := h0
  obtain rfl : o = o5 := Option.some.inj hr_o5
  refine ar_VI (kc' := 0) (ks' := 0) (kc := 0) (ks := 0) (a := o) (ci := 4) (as := [vi a1, vi a3, vi a4]) (st := []) (tX4_moved h) mt_X4_moved rfl qM_RX4_63 qI_X4_moved qV_X4_moved he_o5 rfl (Nat.le_of_ble_eq_true rfl) dX4_codeBehind_11 ?_
  clear h
  intro x4 F3 h
  refine aw_pc (pc' := 14) rfl ?_
  exact aw_iret rfl dX4_codeBehind_14 ⟨_, rfl, h⟩
def mX4_placeOfGoal_L2 (Q : Int → hp → Prop) : Nat → Nat → Int → Int → hp → Prop
  | 0, _, _, _, _ => False
  | k + 1, o, a1, a2, F => gI F (some o) 4 5 (fun x1 => (w32 a2 < w32 x1 → gR F (some o) 4 0 (fun x2 => aI F x2 0 a2 (fun x3 => (w32 x3 = w32 a1 → Q a2 F) ∧ (¬ w32 x3 = w32 a1 → mX4_placeOfGoal_L2 Q k o a1 (a2 + 1) F)))) ∧ (¬ w32 a2 < w32 x1 → Q (-1) F))
set_option maxHeartbeats 4000000 in
theorem tX4_placeOfGoal_L2 {d : Nat} {Q : Int → hp → Prop} : ∀ (k : Nat) (o : Nat) (a1 : Int) (a2 : Int) (F : hp), mX4_placeOfGoal_L2 Q k o a1 a2 F → aw nX4_placeOfGoal d 0 0 2 [some (vr (some o)), some (vi a1), some (vi a2)] [] F (qI Q) := by
  intro k
  induction k with
  | zero => intro o a1 a2 F h; exact h.elim
  | succ k ih =>
    intro o a1 a2 F h
    simp only [mX4_placeOfGoal_L2] at h
    refine aw_iload_n dX4_placeOfGoal_2 rfl rfl (aw_pc (pc' := 3) rfl ?_)
    refine aw_aload_n dX4_placeOfGoal_3 rfl rfl (aw_pc (pc' := 4) rfl ?_)
    refine ar_gI fl_RX4_40 dX4_placeOfGoal_4 h ?_
    clear h
    intro x1 h
    refine aw_pc (pc' := 7) rfl ?_
    refine ac_ge rfl rfl dX4_placeOfGoal_7 rfl (fun c => ?_) (fun c => ?_)
    · replace h := h.1 c
      refine aw_aload_n dX4_placeOfGoal_10 rfl rfl (aw_pc (pc' := 11) rfl ?_)
      refine ar_gR fl_RX4_11 dX4_placeOfGoal_11 h ?_
      clear h
      intro x2 h
      refine aw_pc (pc' := 14) rfl ?_
      refine aw_iload_n dX4_placeOfGoal_14 rfl rfl (aw_pc (pc' := 15) rfl ?_)
      refine ar_aI dX4_placeOfGoal_15 h ?_
      clear h
      intro x3 h
      refine aw_pc (pc' := 16) rfl ?_
      refine aw_iload_n dX4_placeOfGoal_16 rfl rfl (aw_pc (pc' := 17) rfl ?_)
      refine ac_ne rfl rfl dX4_placeOfGoal_17 rfl (fun c => ?_) (fun c => ?_)
      · replace h := h.1 c
        refine aw_iload_n dX4_placeOfGoal_20 rfl rfl (aw_pc (pc' := 21) rfl ?_)
        exact aw_iret rfl dX4_placeOfGoal_21 ⟨_, rfl, h⟩
      · replace h := h.2 c
        refine aw_iinc dX4_placeOfGoal_22 rfl (by decide) (aw_pc (pc' := 25) rfl ?_)
        refine aw_goto (tgt := 2) dX4_placeOfGoal_25 rfl ?_
        exact aw_mask [true, true, true] (ih _ _ _ _ h)
    · replace h := h.2 c
      refine aw_iconst dX4_placeOfGoal_28 (aw_pc (pc' := 29) rfl ?_)
      exact aw_iret rfl dX4_placeOfGoal_29 ⟨_, rfl, h⟩
def mX4_placeOfGoal (o : Nat) (a1 : Int) (F : hp) (Q : Int → hp → Prop) : Prop := (∃ k1, mX4_placeOfGoal_L2 Q k1 o a1 0 F)
set_option maxHeartbeats 4000000 in
theorem tX4_placeOfGoal {d : Nat} {o : Nat} {a1 : Int} {F : hp} {Q : Int → hp → Prop} (h : mX4_placeOfGoal o a1 F Q) : am nX4_placeOfGoal d 0 0 [vr (some o), vi a1] F (qI Q) := by
  refine am_of (by decide +kernel) (Nat.le_of_ble_eq_true rfl) ?_
  show aw nX4_placeOfGoal d 0 0 0 [some (vr (some o)), some (vi a1), none] [] F (qI Q)
  unfold mX4_placeOfGoal at h
  refine aw_iconst dX4_placeOfGoal_0 (aw_pc (pc' := 1) rfl ?_)
  refine aw_istore_n dX4_placeOfGoal_1 rfl (by decide) (aw_pc (pc' := 2) rfl ?_)
  obtain ⟨k1, h⟩ := h
  exact aw_mask [true, true, true] (tX4_placeOfGoal_L2 k1 _ _ _ _ h)
def mX4_countMovesTo_L4 (Q : Int → hp → Prop) : Nat → Nat → Int → Int → hp → Prop
  | 0, _, _, _, _ => False
  | k + 1, o, a2, a3, F => (0 < w32 a3 → (w32 a2 < 2520 → gR F (some o) 4 1 (fun x1 => aI F x1 0 a3 (fun x2 => ∀ v3 : Int, v3 = ((w32 x2).tdiv 9) → mX4_countMovesTo_L4 Q k o (a2 + 1) v3 F))) ∧ (¬ w32 a2 < 2520 → Q a2 F)) ∧ (¬ 0 < w32 a3 → Q a2 F)
set_option maxHeartbeats 4000000 in
theorem tX4_countMovesTo_L4 {d : Nat} {Q : Int → hp → Prop} : ∀ (k : Nat) (o : Nat) (a2 : Int) (a3 : Int) (F : hp), mX4_countMovesTo_L4 Q k o a2 a3 F → aw nX4_countMovesTo d 0 0 4 [some (vr (some o)), none, some (vi a2), some (vi a3)] [] F (qI Q) := by
  intro k
  induction k with
  | zero => intro o a2 a3 F h; exact h.elim
  | succ k ih =>
    intro o a2 a3 F h
    simp only [mX4_countMovesTo_L4] at h
    refine aw_iload_n dX4_countMovesTo_4 rfl rfl (aw_pc (pc' := 5) rfl ?_)
    refine aw_if_le dX4_countMovesTo_5 rfl (fun c => ?_) (fun c => ?_)
    · replace h := h.1 c
      refine aw_iload_n dX4_countMovesTo_8 rfl rfl (aw_pc (pc' := 9) rfl ?_)
      refine aw_sipush dX4_countMovesTo_9 (by decide) (aw_pc (pc' := 12) rfl ?_)
      refine ac_ge rfl wl_2520 dX4_countMovesTo_12 rfl (fun c => ?_) (fun c => ?_)
      · replace h := h.1 c
        refine aw_iinc dX4_countMovesTo_15 rfl (by decide) (aw_pc (pc' := 18) rfl ?_)
        refine aw_aload_n dX4_countMovesTo_18 rfl rfl (aw_pc (pc' := 19) rfl ?_)
        refine ar_gR fl_RX4_15 dX4_countMovesTo_19 h ?_
        clear h
        intro x1 h
        refine aw_pc (pc' := 22) rfl ?_
        refine aw_iload_n dX4_countMovesTo_22 rfl rfl (aw_pc (pc' := 23) rfl ?_)
        refine ar_aI dX4_countMovesTo_23 h ?_
        clear h
        intro x2 h
        refine aw_pc (pc' := 24) rfl ?_
        refine aw_bipush dX4_countMovesTo_24 (by decide) (aw_pc (pc' := 26) rfl ?_)
        refine ac_div wl_9 (by decide) dX4_countMovesTo_26 (aw_pc (pc' := 27) rfl ?_)
        generalize hv_v3 : ((w32 x2).tdiv 9) = v3
        replace h := h v3 hv_v3.symm
        refine aw_istore_n dX4_countMovesTo_27 rfl (by decide) (aw_pc (pc' := 28) rfl ?_)
        refine aw_goto (tgt := 4) dX4_countMovesTo_28 rfl ?_
        exact aw_mask [true, false, true, true] (ih _ _ _ _ h)
      · replace h := h.2 c
        refine aw_iload_n dX4_countMovesTo_31 rfl rfl (aw_pc (pc' := 32) rfl ?_)
        exact aw_iret rfl dX4_countMovesTo_32 ⟨_, rfl, h⟩
    · replace h := h.2 c
      refine aw_iload_n dX4_countMovesTo_31 rfl rfl (aw_pc (pc' := 32) rfl ?_)
      exact aw_iret rfl dX4_countMovesTo_32 ⟨_, rfl, h⟩
def mX4_countMovesTo (o : Nat) (a1 : Int) (F : hp) (Q : Int → hp → Prop) : Prop := (∃ k1, mX4_countMovesTo_L4 Q k1 o 0 a1 F)
set_option maxHeartbeats 4000000 in
theorem tX4_countMovesTo {d : Nat} {o : Nat} {a1 : Int} {F : hp} {Q : Int → hp → Prop} (h : mX4_countMovesTo o a1 F Q) : am nX4_countMovesTo d 0 0 [vr (some o), vi a1] F (qI Q) := by
  refine am_of (by decide +kernel) (Nat.le_of_ble_eq_true rfl) ?_
  show aw nX4_countMovesTo d 0 0 0 [some (vr (some o)), some (vi a1), none, none] [] F (qI Q)
  unfold mX4_countMovesTo at h
  refine aw_iconst dX4_countMovesTo_0 (aw_pc (pc' := 1) rfl ?_)
  refine aw_istore_n dX4_countMovesTo_1 rfl (by decide) (aw_pc (pc' := 2) rfl ?_)
  refine aw_iload_n dX4_countMovesTo_2 rfl rfl (aw_pc (pc' := 3) rfl ?_)
  refine aw_istore_n dX4_countMovesTo_3 rfl (by decide) (aw_pc (pc' := 4) rfl ?_)
  obtain ⟨k1, h⟩ := h
  exact aw_mask [true, false, true, true] (tX4_countMovesTo_L4 k1 _ _ _ _ h)
def mX4_moveOnWayTo_J31 (Q : Int → hp → Prop) (o : Nat) (a3 : Int) (F : hp) : Prop := (0 < w32 a3 → gR F (some o) 4 1 (fun x1 => aI F x1 0 a3 (fun x2 => Q ((w32 x2).tmod 9) F))) ∧ (¬ 0 < w32 a3 → Q (-2) F)
set_option maxHeartbeats 4000000 in
theorem tX4_moveOnWayTo_J31 {d : Nat} {Q : Int → hp → Prop} {o : Nat} {a3 : Int} {F : hp} (h : mX4_moveOnWayTo_J31 Q o a3 F) : aw nX4_moveOnWayTo d 0 0 31 [some (vr (some o)), none, none, some (vi a3), none] [] F (qI Q) := by
  unfold mX4_moveOnWayTo_J31 at h
  refine aw_iload_n dX4_moveOnWayTo_31 rfl rfl (aw_pc (pc' := 32) rfl ?_)
  refine aw_if_le dX4_moveOnWayTo_32 rfl (fun c => ?_) (fun c => ?_)
  · replace h := h.1 c
    refine aw_aload_n dX4_moveOnWayTo_35 rfl rfl (aw_pc (pc' := 36) rfl ?_)
    refine ar_gR fl_RX4_15 dX4_moveOnWayTo_36 h ?_
    clear h
    intro x1 h
    refine aw_pc (pc' := 39) rfl ?_
    refine aw_iload_n dX4_moveOnWayTo_39 rfl rfl (aw_pc (pc' := 40) rfl ?_)
    refine ar_aI dX4_moveOnWayTo_40 h ?_
    clear h
    intro x2 h
    refine aw_pc (pc' := 41) rfl ?_
    refine aw_bipush dX4_moveOnWayTo_41 (by decide) (aw_pc (pc' := 43) rfl ?_)
    refine ac_rem wl_9 (by decide) dX4_moveOnWayTo_43 (aw_pc (pc' := 44) rfl ?_)
    refine aw_goto (tgt := 49) dX4_moveOnWayTo_44 rfl ?_
    exact aw_iret rfl dX4_moveOnWayTo_49 ⟨_, rfl, h⟩
  · replace h := h.2 c
    refine aw_bipush dX4_moveOnWayTo_47 (by decide) (aw_pc (pc' := 49) rfl ?_)
    exact aw_iret rfl dX4_moveOnWayTo_49 ⟨_, rfl, h⟩
def mX4_moveOnWayTo_L5 (Q : Int → hp → Prop) : Nat → Nat → Int → Int → Int → hp → Prop
  | 0, _, _, _, _, _ => False
  | k + 1, o, a2, a3, a4, F => (w32 a4 < w32 a2 → (0 < w32 a3 → gR F (some o) 4 1 (fun x1 => aI F x1 0 a3 (fun x2 => ∀ v3 : Int, v3 = ((w32 x2).tdiv 9) → mX4_moveOnWayTo_L5 Q k o a2 v3 (a4 + 1) F))) ∧ (¬ 0 < w32 a3 → mX4_moveOnWayTo_J31 Q o a3 F)) ∧ (¬ w32 a4 < w32 a2 → mX4_moveOnWayTo_J31 Q o a3 F)
set_option maxHeartbeats 4000000 in
theorem tX4_moveOnWayTo_L5 {d : Nat} {Q : Int → hp → Prop} : ∀ (k : Nat) (o : Nat) (a2 : Int) (a3 : Int) (a4 : Int) (F : hp), mX4_moveOnWayTo_L5 Q k o a2 a3 a4 F → aw nX4_moveOnWayTo d 0 0 5 [some (vr (some o)), none, some (vi a2), some (vi a3), some (vi a4)] [] F (qI Q) := by
  intro k
  induction k with
  | zero => intro o a2 a3 a4 F h; exact h.elim
  | succ k ih =>
    intro o a2 a3 a4 F h
    simp only [mX4_moveOnWayTo_L5] at h
    refine aw_iload dX4_moveOnWayTo_5 rfl (aw_pc (pc' := 7) rfl ?_)
    refine aw_iload_n dX4_moveOnWayTo_7 rfl rfl (aw_pc (pc' := 8) rfl ?_)
    refine ac_ge rfl rfl dX4_moveOnWayTo_8 rfl (fun c => ?_) (fun c => ?_)
    · replace h := h.1 c
      refine aw_iload_n dX4_moveOnWayTo_11 rfl rfl (aw_pc (pc' := 12) rfl ?_)
      refine aw_if_le dX4_moveOnWayTo_12 rfl (fun c => ?_) (fun c => ?_)
      · replace h := h.1 c
        refine aw_aload_n dX4_moveOnWayTo_15 rfl rfl (aw_pc (pc' := 16) rfl ?_)
        refine ar_gR fl_RX4_15 dX4_moveOnWayTo_16 h ?_
        clear h
        intro x1 h
        refine aw_pc (pc' := 19) rfl ?_
        refine aw_iload_n dX4_moveOnWayTo_19 rfl rfl (aw_pc (pc' := 20) rfl ?_)
        refine ar_aI dX4_moveOnWayTo_20 h ?_
        clear h
        intro x2 h
        refine aw_pc (pc' := 21) rfl ?_
        refine aw_bipush dX4_moveOnWayTo_21 (by decide) (aw_pc (pc' := 23) rfl ?_)
        refine ac_div wl_9 (by decide) dX4_moveOnWayTo_23 (aw_pc (pc' := 24) rfl ?_)
        generalize hv_v3 : ((w32 x2).tdiv 9) = v3
        replace h := h v3 hv_v3.symm
        refine aw_istore_n dX4_moveOnWayTo_24 rfl (by decide) (aw_pc (pc' := 25) rfl ?_)
        refine aw_iinc dX4_moveOnWayTo_25 rfl (by decide) (aw_pc (pc' := 28) rfl ?_)
        refine aw_goto (tgt := 5) dX4_moveOnWayTo_28 rfl ?_
        exact aw_mask [true, false, true, true, true] (ih _ _ _ _ _ h)
      · replace h := h.2 c
        exact aw_mask [true, false, false, true, false] (tX4_moveOnWayTo_J31 h)
    · replace h := h.2 c
      exact aw_mask [true, false, false, true, false] (tX4_moveOnWayTo_J31 h)
def mX4_moveOnWayTo (o : Nat) (a1 : Int) (a2 : Int) (F : hp) (Q : Int → hp → Prop) : Prop := (∃ k1, mX4_moveOnWayTo_L5 Q k1 o a2 a1 0 F)
set_option maxHeartbeats 4000000 in
theorem tX4_moveOnWayTo {d : Nat} {o : Nat} {a1 : Int} {a2 : Int} {F : hp} {Q : Int → hp → Prop} (h : mX4_moveOnWayTo o a1 a2 F Q) : am nX4_moveOnWayTo d 0 0 [vr (some o), vi a1, vi a2] F (qI Q) := by
  refine am_of (by decide +kernel) (Nat.le_of_ble_eq_true rfl) ?_
  show aw nX4_moveOnWayTo d 0 0 0 [some (vr (some o)), some (vi a1), some (vi a2), none, none] [] F (qI Q)
  unfold mX4_moveOnWayTo at h
  refine aw_iload_n dX4_moveOnWayTo_0 rfl rfl (aw_pc (pc' := 1) rfl ?_)
  refine aw_istore_n dX4_moveOnWayTo_1 rfl (by decide) (aw_pc (pc' := 2) rfl ?_)
  refine aw_iconst dX4_moveOnWayTo_2 (aw_pc (pc' := 3) rfl ?_)
  refine aw_istore dX4_moveOnWayTo_3 (by decide) (aw_pc (pc' := 5) rfl ?_)
  obtain ⟨k1, h⟩ := h
  exact aw_mask [true, false, true, true, true] (tX4_moveOnWayTo_L5 k1 _ _ _ _ _ h)
def mX5_init (o : Nat) (F : hp) (Q : hp → Prop) : Prop := nwc F (cO 10 [vr none]) (fun n1 F2 => mX10_init n1 F2 (fun F3 => pF F3 (some o) 5 0 (vr (some n1)) (fun F4 => nwc F4 (cO 6 [vr none, vi 0, vi 0]) (fun n5 F6 => mX6_init n5 F6 (fun F7 => pF F7 (some o) 5 1 (vr (some n5)) (fun F8 => nwc F8 (cA 0 5 (fun _ => 0)) (fun n9 F10 => pF F10 (some o) 5 2 (vr (some n9)) (fun F11 => nwc F11 (cA 0 5 (fun _ => 0)) (fun n12 F13 => pF F13 (some o) 5 3 (vr (some n12)) (fun F14 => nwc F14 (cA 0 5 (fun _ => 0)) (fun n15 F16 => pF F16 (some o) 5 4 (vr (some n15)) (fun F17 => nwc F17 (cA 0 5 (fun _ => 0)) (fun n18 F19 => pF F19 (some o) 5 5 (vr (some n18)) (fun F20 => nwc F20 (cA 0 5 (fun _ => 0)) (fun n21 F22 => pF F22 (some o) 5 6 (vr (some n21)) (fun F23 => nwc F23 (cA 0 6 (fun _ => 0)) (fun n24 F25 => pF F25 (some o) 5 7 (vr (some n24)) (fun F26 => nwc F26 (cO 7 [vr none, vi 0, vi 0]) (fun n27 F28 => mX7_init n27 8 F28 (fun F29 => pF F29 (some o) 5 8 (vr (some n27)) (fun F30 => nwc F30 (cO 7 [vr none, vi 0, vi 0]) (fun n31 F32 => mX7_init n31 4 F32 (fun F33 => pF F33 (some o) 5 9 (vr (some n31)) (fun F34 => nwc F34 (cO 7 [vr none, vi 0, vi 0]) (fun n35 F36 => mX7_init n35 8 F36 (fun F37 => pF F37 (some o) 5 10 (vr (some n35)) (fun F38 => nwc F38 (cT 4 (fun _ => none)) (fun n39 F40 => pF F40 (some o) 5 11 (vr (some n39)) (fun F41 => pF F41 (some o) 5 13 (vi (-1)) (fun F42 => Q F42))))))))))))))))))))))))))))))
set_option maxHeartbeats 4000000 in
theorem tX5_init {d : Nat} {o : Nat} {F : hp} {Q : hp → Prop} (h : mX5_init o F Q) : am nX5_init (d + 2) 17 1980 [vr (some o)] F (qV Q) := by
  refine am_of (by decide +kernel) (Nat.le_of_ble_eq_true rfl) ?_
  show aw nX5_init (d + 2) 17 1980 0 [some (vr (some o))] [] F (qV Q)
  unfold mX5_init at h
  refine aw_aload_n dX5_init_0 rfl rfl (aw_pc (pc' := 1) rfl ?_)
  refine aw_obj qM_RX5_3 mw_obj (Nat.le_of_ble_eq_true rfl) dX5_init_1 (aw_pc (pc' := 4) rfl ?_)
  refine aw_aload_n dX5_init_4 rfl rfl (aw_pc (pc' := 5) rfl ?_)
  refine ar_new (kc := 16) (ks := 1979) nl_RX5_9 1 rfl dX5_init_5 h ?_
  clear h
  intro n1 F2 h
  refine aw_pc (pc' := 8) rfl ?_
  refine aw_dup dX5_init_8 trivial (aw_pc (pc' := 9) rfl ?_)
  refine ar_IV (kc' := 1) (ks' := 60) (kc := 15) (ks := 1919) (a := n1) (as := []) (st := [vr (some n1), vr (some o)]) (tX10_init h) mt_X10_init rfl rfl qM_RX5_11 qI_X10_init rfl (Nat.le_of_ble_eq_true rfl) dX5_init_9 ?_
  clear h
  intro F3 h
  refine aw_pc (pc' := 12) rfl ?_
  refine ar_pFF fl_RX5_12 ft_X5_0 rfl rfl (okO _ _) dX5_init_12 h ?_
  clear h
  intro F4 h
  refine aw_pc (pc' := 15) rfl ?_
  refine aw_aload_n dX5_init_15 rfl rfl (aw_pc (pc' := 16) rfl ?_)
  refine ar_new (kc := 14) (ks := 1916) nl_RX5_18 3 rfl dX5_init_16 h ?_
  clear h
  intro n5 F6 h
  refine aw_pc (pc' := 19) rfl ?_
  refine aw_dup dX5_init_19 trivial (aw_pc (pc' := 20) rfl ?_)
  refine ar_INV (kc' := 1) (ks' := 1800) (kc := 13) (ks := 116) (a := n5) (as := []) (st := [vr (some n5), vr (some o)]) (tX6_init h) mt_X6_init rfl rfl qN_RX5_20 qI_X6_init rfl (Nat.le_of_ble_eq_true rfl) dX5_init_20 ?_
  clear h
  intro F7 h
  refine aw_pc (pc' := 23) rfl ?_
  refine ar_pFF fl_RX5_21 ft_X5_1 rfl rfl (okO _ _) dX5_init_23 h ?_
  clear h
  intro F8 h
  refine aw_pc (pc' := 26) rfl ?_
  refine aw_aload_n dX5_init_26 rfl rfl (aw_pc (pc' := 27) rfl ?_)
  refine aw_iconst dX5_init_27 (aw_pc (pc' := 28) rfl ?_)
  refine ar_newarr (k := 0) (kc := 12) (ks := 111) (ms := 5) (Or.inl rfl) rfl qY_int (by decide) dX5_init_28 h ?_
  clear h
  intro n9 F10 h
  refine aw_pc (pc' := 30) rfl ?_
  refine ar_pFF fl_RX5_25 ft_X5_2 rfl rfl (okA _ _) dX5_init_30 h ?_
  clear h
  intro F11 h
  refine aw_pc (pc' := 33) rfl ?_
  refine aw_aload_n dX5_init_33 rfl rfl (aw_pc (pc' := 34) rfl ?_)
  refine aw_iconst dX5_init_34 (aw_pc (pc' := 35) rfl ?_)
  refine ar_newarr (k := 0) (kc := 11) (ks := 106) (ms := 5) (Or.inl rfl) rfl qY_int (by decide) dX5_init_35 h ?_
  clear h
  intro n12 F13 h
  refine aw_pc (pc' := 37) rfl ?_
  refine ar_pFF fl_RX5_29 ft_X5_3 rfl rfl (okA _ _) dX5_init_37 h ?_
  clear h
  intro F14 h
  refine aw_pc (pc' := 40) rfl ?_
  refine aw_aload_n dX5_init_40 rfl rfl (aw_pc (pc' := 41) rfl ?_)
  refine aw_iconst dX5_init_41 (aw_pc (pc' := 42) rfl ?_)
  refine ar_newarr (k := 0) (kc := 10) (ks := 101) (ms := 5) (Or.inl rfl) rfl qY_int (by decide) dX5_init_42 h ?_
  clear h
  intro n15 F16 h
  refine aw_pc (pc' := 44) rfl ?_
  refine ar_pFF fl_RX5_32 ft_X5_4 rfl rfl (okA _ _) dX5_init_44 h ?_
  clear h
  intro F17 h
  refine aw_pc (pc' := 47) rfl ?_
  refine aw_aload_n dX5_init_47 rfl rfl (aw_pc (pc' := 48) rfl ?_)
  refine aw_iconst dX5_init_48 (aw_pc (pc' := 49) rfl ?_)
  refine ar_newarr (k := 0) (kc := 9) (ks := 96) (ms := 5) (Or.inl rfl) rfl qY_int (by decide) dX5_init_49 h ?_
  clear h
  intro n18 F19 h
  refine aw_pc (pc' := 51) rfl ?_
  refine ar_pFF fl_RX5_35 ft_X5_5 rfl rfl (okA _ _) dX5_init_51 h ?_
  clear h
  intro F20 h
  refine aw_pc (pc' := 54) rfl ?_
  refine aw_aload_n dX5_init_54 rfl rfl (aw_pc (pc' := 55) rfl ?_)
  refine aw_iconst dX5_init_55 (aw_pc (pc' := 56) rfl ?_)
  refine ar_newarr (k := 0) (kc := 8) (ks := 91) (ms := 5) (Or.inl rfl) rfl qY_int (by decide) dX5_init_56 h ?_
  clear h
  intro n21 F22 h
  refine aw_pc (pc' := 58) rfl ?_
  refine ar_pFF fl_RX5_38 ft_X5_6 rfl rfl (okA _ _) dX5_init_58 h ?_
  clear h
  intro F23 h
  refine aw_pc (pc' := 61) rfl ?_
  refine aw_aload_n dX5_init_61 rfl rfl (aw_pc (pc' := 62) rfl ?_)
  refine aw_bipush dX5_init_62 (by decide) (aw_pc (pc' := 64) rfl ?_)
  refine ar_newarr (k := 0) (kc := 7) (ks := 85) (ms := 6) (Or.inl rfl) rfl qY_int (by decide) dX5_init_64 h ?_
  clear h
  intro n24 F25 h
  refine aw_pc (pc' := 66) rfl ?_
  refine ar_pFF fl_RX5_41 ft_X5_7 rfl rfl (okA _ _) dX5_init_66 h ?_
  clear h
  intro F26 h
  refine aw_pc (pc' := 69) rfl ?_
  refine aw_aload_n dX5_init_69 rfl rfl (aw_pc (pc' := 70) rfl ?_)
  refine ar_new (kc := 6) (ks := 82) nl_RX5_44 3 rfl dX5_init_70 h ?_
  clear h
  intro n27 F28 h
  refine aw_pc (pc' := 73) rfl ?_
  refine aw_dup dX5_init_73 trivial (aw_pc (pc' := 74) rfl ?_)
  refine aw_bipush dX5_init_74 (by decide) (aw_pc (pc' := 76) rfl ?_)
  refine ar_IV (kc' := 1) (ks' := 24) (kc := 5) (ks := 58) (a := n27) (as := [vi 8]) (st := [vr (some n27), vr (some o)]) (tX7_init h) mt_X7_init rfl rfl qM_RX5_46 qI_X7_init rfl (Nat.le_of_ble_eq_true rfl) dX5_init_76 ?_
  clear h
  intro F29 h
  refine aw_pc (pc' := 79) rfl ?_
  refine ar_pFF fl_RX5_49 ft_X5_8 rfl rfl (okO _ _) dX5_init_79 h ?_
  clear h
  intro F30 h
  refine aw_pc (pc' := 82) rfl ?_
  refine aw_aload_n dX5_init_82 rfl rfl (aw_pc (pc' := 83) rfl ?_)
  refine ar_new (kc := 4) (ks := 55) nl_RX5_44 3 rfl dX5_init_83 h ?_
  clear h
  intro n31 F32 h
  refine aw_pc (pc' := 86) rfl ?_
  refine aw_dup dX5_init_86 trivial (aw_pc (pc' := 87) rfl ?_)
  refine aw_iconst dX5_init_87 (aw_pc (pc' := 88) rfl ?_)
  refine ar_IV (kc' := 1) (ks' := 24) (kc := 3) (ks := 31) (a := n31) (as := [vi 4]) (st := [vr (some n31), vr (some o)]) (tX7_init h) mt_X7_init rfl rfl qM_RX5_46 qI_X7_init rfl (Nat.le_of_ble_eq_true rfl) dX5_init_88 ?_
  clear h
  intro F33 h
  refine aw_pc (pc' := 91) rfl ?_
  refine ar_pFF fl_RX5_53 ft_X5_9 rfl rfl (okO _ _) dX5_init_91 h ?_
  clear h
  intro F34 h
  refine aw_pc (pc' := 94) rfl ?_
  refine aw_aload_n dX5_init_94 rfl rfl (aw_pc (pc' := 95) rfl ?_)
  refine ar_new (kc := 2) (ks := 28) nl_RX5_44 3 rfl dX5_init_95 h ?_
  clear h
  intro n35 F36 h
  refine aw_pc (pc' := 98) rfl ?_
  refine aw_dup dX5_init_98 trivial (aw_pc (pc' := 99) rfl ?_)
  refine aw_bipush dX5_init_99 (by decide) (aw_pc (pc' := 101) rfl ?_)
  refine ar_IV (kc' := 1) (ks' := 24) (kc := 1) (ks := 4) (a := n35) (as := [vi 8]) (st := [vr (some n35), vr (some o)]) (tX7_init h) mt_X7_init rfl rfl qM_RX5_46 qI_X7_init rfl (Nat.le_of_ble_eq_true rfl) dX5_init_101 ?_
  clear h
  intro F37 h
  refine aw_pc (pc' := 104) rfl ?_
  refine ar_pFF fl_RX5_56 ft_X5_10 rfl rfl (okO _ _) dX5_init_104 h ?_
  clear h
  intro F38 h
  refine aw_pc (pc' := 107) rfl ?_
  refine aw_aload_n dX5_init_107 rfl rfl (aw_pc (pc' := 108) rfl ?_)
  refine aw_iconst dX5_init_108 (aw_pc (pc' := 109) rfl ?_)
  refine ar_anew (kc := 0) (ks := 0) (ms := 4) qC_RX5_59 (by decide) dX5_init_109 h ?_
  clear h
  intro n39 F40 h
  refine aw_pc (pc' := 112) rfl ?_
  refine ar_pFF fl_RX5_61 ft_X5_11 rfl rfl (okA _ _) dX5_init_112 h ?_
  clear h
  intro F41 h
  refine aw_pc (pc' := 115) rfl ?_
  refine aw_aload_n dX5_init_115 rfl rfl (aw_pc (pc' := 116) rfl ?_)
  refine aw_iconst dX5_init_116 (aw_pc (pc' := 117) rfl ?_)
  refine ar_pF fl_RX5_65 ft_X5_13 (okI _) dX5_init_117 h ?_
  clear h
  intro F42 h
  refine aw_pc (pc' := 120) rfl ?_
  exact aw_vret rfl dX5_init_120 ⟨rfl, h⟩
def mX5_copyFrom_L142 (Q : hp → Prop) : Nat → Nat → Option Nat → Int → hp → Prop
  | 0, _, _, _, _ => False
  | k + 1, o, a1, a2, F => (w32 a2 < 4 → gR F (some o) 5 11 (fun x1 => gR F a1 5 11 (fun x2 => aR F x2 a2 (fun x3 => sR F x1 a2 x3 (fun F4 => mX5_copyFrom_L142 Q k o a1 (a2 + 1) F4))))) ∧ (¬ w32 a2 < 4 → gI F a1 5 12 (fun x5 => pF F (some o) 5 12 (vi x5) (fun F6 => gI F6 a1 5 13 (fun x7 => pF F6 (some o) 5 13 (vi x7) (fun F8 => gI F8 a1 5 14 (fun x9 => pF F8 (some o) 5 14 (vi x9) (fun F10 => gI F10 a1 5 15 (fun x11 => pF F10 (some o) 5 15 (vi x11) (fun F12 => Q F12)))))))))
set_option maxHeartbeats 4000000 in
theorem tX5_copyFrom_L142 {d : Nat} {Q : hp → Prop} : ∀ (k : Nat) (o : Nat) (a1 : Option Nat) (a2 : Int) (F : hp), mX5_copyFrom_L142 Q k o a1 a2 F → aw nX5_copyFrom (d + 2) 0 0 142 [some (vr (some o)), some (vr a1), some (vi a2)] [] F (qV Q) := by
  intro k
  induction k with
  | zero => intro o a1 a2 F h; exact h.elim
  | succ k ih =>
    intro o a1 a2 F h
    simp only [mX5_copyFrom_L142] at h
    refine aw_iload_n dX5_copyFrom_142 rfl rfl (aw_pc (pc' := 143) rfl ?_)
    refine aw_iconst dX5_copyFrom_143 (aw_pc (pc' := 144) rfl ?_)
    refine ac_ge rfl wl_4 dX5_copyFrom_144 rfl (fun c => ?_) (fun c => ?_)
    · replace h := h.1 c
      refine aw_aload_n dX5_copyFrom_147 rfl rfl (aw_pc (pc' := 148) rfl ?_)
      refine ar_gR fl_RX5_61 dX5_copyFrom_148 h ?_
      clear h
      intro x1 h
      refine aw_pc (pc' := 151) rfl ?_
      refine aw_iload_n dX5_copyFrom_151 rfl rfl (aw_pc (pc' := 152) rfl ?_)
      refine aw_aload_n dX5_copyFrom_152 rfl rfl (aw_pc (pc' := 153) rfl ?_)
      refine ar_gR fl_RX5_61 dX5_copyFrom_153 h ?_
      clear h
      intro x2 h
      refine aw_pc (pc' := 156) rfl ?_
      refine aw_iload_n dX5_copyFrom_156 rfl rfl (aw_pc (pc' := 157) rfl ?_)
      refine ar_aR dX5_copyFrom_157 h ?_
      clear h
      intro x3 h
      refine aw_pc (pc' := 158) rfl ?_
      refine ar_sR dX5_copyFrom_158 h ?_
      clear h
      intro F4 h
      refine aw_pc (pc' := 159) rfl ?_
      refine aw_iinc dX5_copyFrom_159 rfl (by decide) (aw_pc (pc' := 162) rfl ?_)
      refine aw_goto (tgt := 142) dX5_copyFrom_162 rfl ?_
      exact aw_mask [true, true, true] (ih _ _ _ _ h)
    · replace h := h.2 c
      refine aw_aload_n dX5_copyFrom_165 rfl rfl (aw_pc (pc' := 166) rfl ?_)
      refine aw_aload_n dX5_copyFrom_166 rfl rfl (aw_pc (pc' := 167) rfl ?_)
      refine ar_gI fl_RX5_85 dX5_copyFrom_167 h ?_
      clear h
      intro x5 h
      refine aw_pc (pc' := 170) rfl ?_
      refine ar_pF fl_RX5_85 ft_X5_12 (okI _) dX5_copyFrom_170 h ?_
      clear h
      intro F6 h
      refine aw_pc (pc' := 173) rfl ?_
      refine aw_aload_n dX5_copyFrom_173 rfl rfl (aw_pc (pc' := 174) rfl ?_)
      refine aw_aload_n dX5_copyFrom_174 rfl rfl (aw_pc (pc' := 175) rfl ?_)
      refine ar_gI fl_RX5_65 dX5_copyFrom_175 h ?_
      clear h
      intro x7 h
      refine aw_pc (pc' := 178) rfl ?_
      refine ar_pF fl_RX5_65 ft_X5_13 (okI _) dX5_copyFrom_178 h ?_
      clear h
      intro F8 h
      refine aw_pc (pc' := 181) rfl ?_
      refine aw_aload_n dX5_copyFrom_181 rfl rfl (aw_pc (pc' := 182) rfl ?_)
      refine aw_aload_n dX5_copyFrom_182 rfl rfl (aw_pc (pc' := 183) rfl ?_)
      refine ar_gI fl_RX5_88 dX5_copyFrom_183 h ?_
      clear h
      intro x9 h
      refine aw_pc (pc' := 186) rfl ?_
      refine ar_pF fl_RX5_88 ft_X5_14 (okI _) dX5_copyFrom_186 h ?_
      clear h
      intro F10 h
      refine aw_pc (pc' := 189) rfl ?_
      refine aw_aload_n dX5_copyFrom_189 rfl rfl (aw_pc (pc' := 190) rfl ?_)
      refine aw_aload_n dX5_copyFrom_190 rfl rfl (aw_pc (pc' := 191) rfl ?_)
      refine ar_gI fl_RX5_91 dX5_copyFrom_191 h ?_
      clear h
      intro x11 h
      refine aw_pc (pc' := 194) rfl ?_
      refine ar_pF fl_RX5_91 ft_X5_15 (okI _) dX5_copyFrom_194 h ?_
      clear h
      intro F12 h
      refine aw_pc (pc' := 197) rfl ?_
      exact aw_vret rfl dX5_copyFrom_197 ⟨rfl, h⟩
def mX5_copyFrom (o : Nat) (a1 : Option Nat) (F : hp) (Q : hp → Prop) : Prop := gR F (some o) 5 0 (fun x1 => gR F a1 5 0 (fun x2 => rcv F x1 10 (fun o4 => mX10_copyFrom o4 x2 F (fun F3 => gR F3 (some o) 5 1 (fun x5 => gR F3 a1 5 1 (fun x6 => rcv F3 x5 6 (fun o8 => mX6_copyFrom o8 x6 F3 (fun F7 => gR F7 a1 5 2 (fun x9 => gR F7 (some o) 5 2 (fun x10 => cpI F7 x9 0 x10 0 5 (fun F11 => gR F11 a1 5 3 (fun x12 => gR F11 (some o) 5 3 (fun x13 => cpI F11 x12 0 x13 0 5 (fun F14 => gR F14 a1 5 4 (fun x15 => gR F14 (some o) 5 4 (fun x16 => cpI F14 x15 0 x16 0 5 (fun F17 => gR F17 a1 5 5 (fun x18 => gR F17 (some o) 5 5 (fun x19 => cpI F17 x18 0 x19 0 5 (fun F20 => gR F20 a1 5 6 (fun x21 => gR F20 (some o) 5 6 (fun x22 => cpI F20 x21 0 x22 0 5 (fun F23 => gR F23 a1 5 7 (fun x24 => gR F23 (some o) 5 7 (fun x25 => cpI F23 x24 0 x25 0 6 (fun F26 => gR F26 (some o) 5 8 (fun x27 => gR F26 a1 5 8 (fun x28 => rcv F26 x27 7 (fun o30 => mX7_copyFrom o30 x28 F26 (fun F29 => gR F29 (some o) 5 9 (fun x31 => gR F29 a1 5 9 (fun x32 => rcv F29 x31 7 (fun o34 => mX7_copyFrom o34 x32 F29 (fun F33 => gR F33 (some o) 5 10 (fun x35 => gR F33 a1 5 10 (fun x36 => rcv F33 x35 7 (fun o38 => mX7_copyFrom o38 x36 F33 (fun F37 => (∃ k39, mX5_copyFrom_L142 Q k39 o a1 0 F37)))))))))))))))))))))))))))))))))))))))
set_option maxHeartbeats 4000000 in
theorem tX5_copyFrom {d : Nat} {o : Nat} {a1 : Option Nat} {F : hp} {Q : hp → Prop} (h : mX5_copyFrom o a1 F Q) : am nX5_copyFrom (d + 2) 0 0 [vr (some o), vr a1] F (qV Q) := by
  refine am_of (by decide +kernel) (Nat.le_of_ble_eq_true rfl) ?_
  show aw nX5_copyFrom (d + 2) 0 0 0 [some (vr (some o)), some (vr a1), none] [] F (qV Q)
  unfold mX5_copyFrom at h
  refine aw_aload_n dX5_copyFrom_0 rfl rfl (aw_pc (pc' := 1) rfl ?_)
  refine ar_gR fl_RX5_12 dX5_copyFrom_1 h ?_
  clear h
  intro x1 h
  refine aw_pc (pc' := 4) rfl ?_
  refine aw_aload_n dX5_copyFrom_4 rfl rfl (aw_pc (pc' := 5) rfl ?_)
  refine ar_gR fl_RX5_12 dX5_copyFrom_5 h ?_
  clear h
  intro x2 h
  refine aw_pc (pc' := 8) rfl ?_
  have h0 := rcv_inv h
  clear h
  obtain ⟨o4, fs_o4, hr_o4, he_o4, h⟩ := h0
  subst hr_o4
  refine ar_VV (kc' := 0) (ks' := 0) (kc := 0) (ks := 0) (a := o4) (ci := 10) (as := [vr x2]) (st := []) (tX10_copyFrom h) mt_X10_copyFrom rfl qM_RX5_69 qI_X10_copyFrom qV_X10_copyFrom he_o4 rfl (Nat.le_of_ble_eq_true rfl) dX5_copyFrom_8 ?_
  clear h
  intro F3 h
  refine aw_pc (pc' := 11) rfl ?_
  refine aw_aload_n dX5_copyFrom_11 rfl rfl (aw_pc (pc' := 12) rfl ?_)
  refine ar_gR fl_RX5_21 dX5_copyFrom_12 h ?_
  clear h
  intro x5 h
  refine aw_pc (pc' := 15) rfl ?_
  refine aw_aload_n dX5_copyFrom_15 rfl rfl (aw_pc (pc' := 16) rfl ?_)
  refine ar_gR fl_RX5_21 dX5_copyFrom_16 h ?_
  clear h
  intro x6 h
  refine aw_pc (pc' := 19) rfl ?_
  have h0 := rcv_inv h
  clear h
  obtain ⟨o8, fs_o8, hr_o8, he_o8, h⟩ := h0
  subst hr_o8
  refine ar_VV (kc' := 0) (ks' := 0) (kc := 0) (ks := 0) (a := o8) (ci := 6) (as := [vr x6]) (st := []) (tX6_copyFrom h) mt_X6_copyFrom rfl qM_RX5_73 qI_X6_copyFrom qV_X6_copyFrom he_o8 rfl (Nat.le_of_ble_eq_true rfl) dX5_copyFrom_19 ?_
  clear h
  intro F7 h
  refine aw_pc (pc' := 22) rfl ?_
  refine aw_aload_n dX5_copyFrom_22 rfl rfl (aw_pc (pc' := 23) rfl ?_)
  refine ar_gR fl_RX5_25 dX5_copyFrom_23 h ?_
  clear h
  intro x9 h
  refine aw_pc (pc' := 26) rfl ?_
  refine aw_iconst dX5_copyFrom_26 (aw_pc (pc' := 27) rfl ?_)
  refine aw_aload_n dX5_copyFrom_27 rfl rfl (aw_pc (pc' := 28) rfl ?_)
  refine ar_gR fl_RX5_25 dX5_copyFrom_28 h ?_
  clear h
  intro x10 h
  refine aw_pc (pc' := 31) rfl ?_
  refine aw_iconst dX5_copyFrom_31 (aw_pc (pc' := 32) rfl ?_)
  refine aw_iconst dX5_copyFrom_32 (aw_pc (pc' := 33) rfl ?_)
  refine ar_cpI qM_RX5_76 mw_copy (Nat.le_of_ble_eq_true rfl) dX5_copyFrom_33 h ?_
  clear h
  intro F11 h
  refine aw_pc (pc' := 36) rfl ?_
  refine aw_aload_n dX5_copyFrom_36 rfl rfl (aw_pc (pc' := 37) rfl ?_)
  refine ar_gR fl_RX5_29 dX5_copyFrom_37 h ?_
  clear h
  intro x12 h
  refine aw_pc (pc' := 40) rfl ?_
  refine aw_iconst dX5_copyFrom_40 (aw_pc (pc' := 41) rfl ?_)
  refine aw_aload_n dX5_copyFrom_41 rfl rfl (aw_pc (pc' := 42) rfl ?_)
  refine ar_gR fl_RX5_29 dX5_copyFrom_42 h ?_
  clear h
  intro x13 h
  refine aw_pc (pc' := 45) rfl ?_
  refine aw_iconst dX5_copyFrom_45 (aw_pc (pc' := 46) rfl ?_)
  refine aw_iconst dX5_copyFrom_46 (aw_pc (pc' := 47) rfl ?_)
  refine ar_cpI qM_RX5_76 mw_copy (Nat.le_of_ble_eq_true rfl) dX5_copyFrom_47 h ?_
  clear h
  intro F14 h
  refine aw_pc (pc' := 50) rfl ?_
  refine aw_aload_n dX5_copyFrom_50 rfl rfl (aw_pc (pc' := 51) rfl ?_)
  refine ar_gR fl_RX5_32 dX5_copyFrom_51 h ?_
  clear h
  intro x15 h
  refine aw_pc (pc' := 54) rfl ?_
  refine aw_iconst dX5_copyFrom_54 (aw_pc (pc' := 55) rfl ?_)
  refine aw_aload_n dX5_copyFrom_55 rfl rfl (aw_pc (pc' := 56) rfl ?_)
  refine ar_gR fl_RX5_32 dX5_copyFrom_56 h ?_
  clear h
  intro x16 h
  refine aw_pc (pc' := 59) rfl ?_
  refine aw_iconst dX5_copyFrom_59 (aw_pc (pc' := 60) rfl ?_)
  refine aw_iconst dX5_copyFrom_60 (aw_pc (pc' := 61) rfl ?_)
  refine ar_cpI qM_RX5_76 mw_copy (Nat.le_of_ble_eq_true rfl) dX5_copyFrom_61 h ?_
  clear h
  intro F17 h
  refine aw_pc (pc' := 64) rfl ?_
  refine aw_aload_n dX5_copyFrom_64 rfl rfl (aw_pc (pc' := 65) rfl ?_)
  refine ar_gR fl_RX5_35 dX5_copyFrom_65 h ?_
  clear h
  intro x18 h
  refine aw_pc (pc' := 68) rfl ?_
  refine aw_iconst dX5_copyFrom_68 (aw_pc (pc' := 69) rfl ?_)
  refine aw_aload_n dX5_copyFrom_69 rfl rfl (aw_pc (pc' := 70) rfl ?_)
  refine ar_gR fl_RX5_35 dX5_copyFrom_70 h ?_
  clear h
  intro x19 h
  refine aw_pc (pc' := 73) rfl ?_
  refine aw_iconst dX5_copyFrom_73 (aw_pc (pc' := 74) rfl ?_)
  refine aw_iconst dX5_copyFrom_74 (aw_pc (pc' := 75) rfl ?_)
  refine ar_cpI qM_RX5_76 mw_copy (Nat.le_of_ble_eq_true rfl) dX5_copyFrom_75 h ?_
  clear h
  intro F20 h
  refine aw_pc (pc' := 78) rfl ?_
  refine aw_aload_n dX5_copyFrom_78 rfl rfl (aw_pc (pc' := 79) rfl ?_)
  refine ar_gR fl_RX5_38 dX5_copyFrom_79 h ?_
  clear h
  intro x21 h
  refine aw_pc (pc' := 82) rfl ?_
  refine aw_iconst dX5_copyFrom_82 (aw_pc (pc' := 83) rfl ?_)
  refine aw_aload_n dX5_copyFrom_83 rfl rfl (aw_pc (pc' := 84) rfl ?_)
  refine ar_gR fl_RX5_38 dX5_copyFrom_84 h ?_
  clear h
  intro x22 h
  refine aw_pc (pc' := 87) rfl ?_
  refine aw_iconst dX5_copyFrom_87 (aw_pc (pc' := 88) rfl ?_)
  refine aw_iconst dX5_copyFrom_88 (aw_pc (pc' := 89) rfl ?_)
  refine ar_cpI qM_RX5_76 mw_copy (Nat.le_of_ble_eq_true rfl) dX5_copyFrom_89 h ?_
  clear h
  intro F23 h
  refine aw_pc (pc' := 92) rfl ?_
  refine aw_aload_n dX5_copyFrom_92 rfl rfl (aw_pc (pc' := 93) rfl ?_)
  refine ar_gR fl_RX5_41 dX5_copyFrom_93 h ?_
  clear h
  intro x24 h
  refine aw_pc (pc' := 96) rfl ?_
  refine aw_iconst dX5_copyFrom_96 (aw_pc (pc' := 97) rfl ?_)
  refine aw_aload_n dX5_copyFrom_97 rfl rfl (aw_pc (pc' := 98) rfl ?_)
  refine ar_gR fl_RX5_41 dX5_copyFrom_98 h ?_
  clear h
  intro x25 h
  refine aw_pc (pc' := 101) rfl ?_
  refine aw_iconst dX5_copyFrom_101 (aw_pc (pc' := 102) rfl ?_)
  refine aw_bipush dX5_copyFrom_102 (by decide) (aw_pc (pc' := 104) rfl ?_)
  refine ar_cpI qM_RX5_76 mw_copy (Nat.le_of_ble_eq_true rfl) dX5_copyFrom_104 h ?_
  clear h
  intro F26 h
  refine aw_pc (pc' := 107) rfl ?_
  refine aw_aload_n dX5_copyFrom_107 rfl rfl (aw_pc (pc' := 108) rfl ?_)
  refine ar_gR fl_RX5_49 dX5_copyFrom_108 h ?_
  clear h
  intro x27 h
  refine aw_pc (pc' := 111) rfl ?_
  refine aw_aload_n dX5_copyFrom_111 rfl rfl (aw_pc (pc' := 112) rfl ?_)
  refine ar_gR fl_RX5_49 dX5_copyFrom_112 h ?_
  clear h
  intro x28 h
  refine aw_pc (pc' := 115) rfl ?_
  have h0 := rcv_inv h
  clear h
  obtain ⟨o30, fs_o30, hr_o30, he_o30, h⟩ := h0
  subst hr_o30
  refine ar_VV (kc' := 0) (ks' := 0) (kc := 0) (ks := 0) (a := o30) (ci := 7) (as := [vr x28]) (st := []) (tX7_copyFrom h) mt_X7_copyFrom rfl qM_RX5_82 qI_X7_copyFrom qV_X7_copyFrom he_o30 rfl (Nat.le_of_ble_eq_true rfl) dX5_copyFrom_115 ?_
  clear h
  intro F29 h
  refine aw_pc (pc' := 118) rfl ?_
  refine aw_aload_n dX5_copyFrom_118 rfl rfl (aw_pc (pc' := 119) rfl ?_)
  refine ar_gR fl_RX5_53 dX5_copyFrom_119 h ?_
  clear h
  intro x31 h
  refine aw_pc (pc' := 122) rfl ?_
  refine aw_aload_n dX5_copyFrom_122 rfl rfl (aw_pc (pc' := 123) rfl ?_)
  refine ar_gR fl_RX5_53 dX5_copyFrom_123 h ?_
  clear h
  intro x32 h
  refine aw_pc (pc' := 126) rfl ?_
  have h0 := rcv_inv h
  clear h
  obtain ⟨o34, fs_o34, hr_o34, he_o34, h⟩ := h0
  subst hr_o34
  refine ar_VV (kc' := 0) (ks' := 0) (kc := 0) (ks := 0) (a := o34) (ci := 7) (as := [vr x32]) (st := []) (tX7_copyFrom h) mt_X7_copyFrom rfl qM_RX5_82 qI_X7_copyFrom qV_X7_copyFrom he_o34 rfl (Nat.le_of_ble_eq_true rfl) dX5_copyFrom_126 ?_
  clear h
  intro F33 h
  refine aw_pc (pc' := 129) rfl ?_
  refine aw_aload_n dX5_copyFrom_129 rfl rfl (aw_pc (pc' := 130) rfl ?_)
  refine ar_gR fl_RX5_56 dX5_copyFrom_130 h ?_
  clear h
  intro x35 h
  refine aw_pc (pc' := 133) rfl ?_
  refine aw_aload_n dX5_copyFrom_133 rfl rfl (aw_pc (pc' := 134) rfl ?_)
  refine ar_gR fl_RX5_56 dX5_copyFrom_134 h ?_
  clear h
  intro x36 h
  refine aw_pc (pc' := 137) rfl ?_
  have h0 := rcv_inv h
  clear h
  obtain ⟨o38, fs_o38, hr_o38, he_o38, h⟩ := h0
  subst hr_o38
  refine ar_VV (kc' := 0) (ks' := 0) (kc := 0) (ks := 0) (a := o38) (ci := 7) (as := [vr x36]) (st := []) (tX7_copyFrom h) mt_X7_copyFrom rfl qM_RX5_82 qI_X7_copyFrom qV_X7_copyFrom he_o38 rfl (Nat.le_of_ble_eq_true rfl) dX5_copyFrom_137 ?_
  clear h
  intro F37 h
  refine aw_pc (pc' := 140) rfl ?_
  refine aw_iconst dX5_copyFrom_140 (aw_pc (pc' := 141) rfl ?_)
  refine aw_istore_n dX5_copyFrom_141 rfl (by decide) (aw_pc (pc' := 142) rfl ?_)
  obtain ⟨k39, h⟩ := h
  exact aw_mask [true, true, true] (tX5_copyFrom_L142 k39 _ _ _ _ h)
def mX5_addCar (o : Nat) (a1 : Int) (a2 : Int) (F : hp) (Q : Int → hp → Prop) : Prop := gR F (some o) 5 0 (fun x1 => rcv F x1 10 (fun o4 => mX10_addCar o4 F (fun x3 F2 => (w32 x3 = (-1) → Q x3 F2) ∧ (¬ w32 x3 = (-1) → gR F2 (some o) 5 2 (fun x5 => sI F2 x5 0 x3 a1 (fun F6 => gR F6 (some o) 5 3 (fun x7 => sI F6 x7 0 x3 a2 (fun F8 => gR F8 (some o) 5 4 (fun x9 => sI F8 x9 0 x3 1 (fun F10 => gR F10 (some o) 5 5 (fun x11 => sI F10 x11 0 x3 1 (fun F12 => gR F12 (some o) 5 6 (fun x13 => sI F12 x13 0 x3 0 (fun F14 => Q x3 F14))))))))))))))
set_option maxHeartbeats 4000000 in
theorem tX5_addCar {d : Nat} {o : Nat} {a1 : Int} {a2 : Int} {F : hp} {Q : Int → hp → Prop} (h : mX5_addCar o a1 a2 F Q) : am nX5_addCar (d + 3) 0 0 [vr (some o), vi a1, vi a2] F (qI Q) := by
  refine am_of (by decide +kernel) (Nat.le_of_ble_eq_true rfl) ?_
  show aw nX5_addCar (d + 3) 0 0 0 [some (vr (some o)), some (vi a1), some (vi a2), none] [] F (qI Q)
  unfold mX5_addCar at h
  refine aw_aload_n dX5_addCar_0 rfl rfl (aw_pc (pc' := 1) rfl ?_)
  refine ar_gR fl_RX5_12 dX5_addCar_1 h ?_
  clear h
  intro x1 h
  refine aw_pc (pc' := 4) rfl ?_
  have h0 := rcv_inv h
  clear h
  obtain ⟨o4, fs_o4, hr_o4, he_o4, h⟩ := h0
  subst hr_o4
  refine ar_VI (kc' := 0) (ks' := 0) (kc := 0) (ks := 0) (a := o4) (ci := 10) (as := []) (st := []) (tX10_addCar h) mt_X10_addCar rfl qM_RX5_94 qI_X10_addCar qV_X10_addCar he_o4 rfl (Nat.le_of_ble_eq_true rfl) dX5_addCar_4 ?_
  clear h
  intro x3 F2 h
  refine aw_pc (pc' := 7) rfl ?_
  refine aw_istore_n dX5_addCar_7 rfl (by decide) (aw_pc (pc' := 8) rfl ?_)
  refine aw_iload_n dX5_addCar_8 rfl rfl (aw_pc (pc' := 9) rfl ?_)
  refine aw_iconst dX5_addCar_9 (aw_pc (pc' := 10) rfl ?_)
  refine ac_eq rfl wl_m1 dX5_addCar_10 rfl (fun c => ?_) (fun c => ?_)
  · replace h := h.1 c
    refine aw_iload_n dX5_addCar_48 rfl rfl (aw_pc (pc' := 49) rfl ?_)
    exact aw_iret rfl dX5_addCar_49 ⟨_, rfl, h⟩
  · replace h := h.2 c
    refine aw_aload_n dX5_addCar_13 rfl rfl (aw_pc (pc' := 14) rfl ?_)
    refine ar_gR fl_RX5_25 dX5_addCar_14 h ?_
    clear h
    intro x5 h
    refine aw_pc (pc' := 17) rfl ?_
    refine aw_iload_n dX5_addCar_17 rfl rfl (aw_pc (pc' := 18) rfl ?_)
    refine aw_iload_n dX5_addCar_18 rfl rfl (aw_pc (pc' := 19) rfl ?_)
    refine ar_sI dX5_addCar_19 h ?_
    clear h
    intro F6 h
    refine aw_pc (pc' := 20) rfl ?_
    refine aw_aload_n dX5_addCar_20 rfl rfl (aw_pc (pc' := 21) rfl ?_)
    refine ar_gR fl_RX5_29 dX5_addCar_21 h ?_
    clear h
    intro x7 h
    refine aw_pc (pc' := 24) rfl ?_
    refine aw_iload_n dX5_addCar_24 rfl rfl (aw_pc (pc' := 25) rfl ?_)
    refine aw_iload_n dX5_addCar_25 rfl rfl (aw_pc (pc' := 26) rfl ?_)
    refine ar_sI dX5_addCar_26 h ?_
    clear h
    intro F8 h
    refine aw_pc (pc' := 27) rfl ?_
    refine aw_aload_n dX5_addCar_27 rfl rfl (aw_pc (pc' := 28) rfl ?_)
    refine ar_gR fl_RX5_32 dX5_addCar_28 h ?_
    clear h
    intro x9 h
    refine aw_pc (pc' := 31) rfl ?_
    refine aw_iload_n dX5_addCar_31 rfl rfl (aw_pc (pc' := 32) rfl ?_)
    refine aw_iconst dX5_addCar_32 (aw_pc (pc' := 33) rfl ?_)
    refine ar_sI dX5_addCar_33 h ?_
    clear h
    intro F10 h
    refine aw_pc (pc' := 34) rfl ?_
    refine aw_aload_n dX5_addCar_34 rfl rfl (aw_pc (pc' := 35) rfl ?_)
    refine ar_gR fl_RX5_35 dX5_addCar_35 h ?_
    clear h
    intro x11 h
    refine aw_pc (pc' := 38) rfl ?_
    refine aw_iload_n dX5_addCar_38 rfl rfl (aw_pc (pc' := 39) rfl ?_)
    refine aw_iconst dX5_addCar_39 (aw_pc (pc' := 40) rfl ?_)
    refine ar_sI dX5_addCar_40 h ?_
    clear h
    intro F12 h
    refine aw_pc (pc' := 41) rfl ?_
    refine aw_aload_n dX5_addCar_41 rfl rfl (aw_pc (pc' := 42) rfl ?_)
    refine ar_gR fl_RX5_38 dX5_addCar_42 h ?_
    clear h
    intro x13 h
    refine aw_pc (pc' := 45) rfl ?_
    refine aw_iload_n dX5_addCar_45 rfl rfl (aw_pc (pc' := 46) rfl ?_)
    refine aw_iconst dX5_addCar_46 (aw_pc (pc' := 47) rfl ?_)
    refine ar_sI dX5_addCar_47 h ?_
    clear h
    intro F14 h
    refine aw_pc (pc' := 48) rfl ?_
    refine aw_iload_n dX5_addCar_48 rfl rfl (aw_pc (pc' := 49) rfl ?_)
    exact aw_iret rfl dX5_addCar_49 ⟨_, rfl, h⟩
def mX5_setForbidden_J41 (Q : Int → hp → Prop) (s0 : Option Nat) (s1 : Int) (F : hp) : Prop := pF F s0 5 15 (vi s1) (fun F1 => Q 1 F1)
set_option maxHeartbeats 4000000 in
theorem tX5_setForbidden_J41 {d : Nat} {Q : Int → hp → Prop} {s0 : Option Nat} {s1 : Int} {F : hp} (h : mX5_setForbidden_J41 Q s0 s1 F) : aw nX5_setForbidden d 0 0 41 [none, none, none, none, none] [vi s1, vr s0] F (qI Q) := by
  unfold mX5_setForbidden_J41 at h
  refine ar_pF fl_RX5_91 ft_X5_15 (okI _) dX5_setForbidden_41 h ?_
  clear h
  intro F1 h
  refine aw_pc (pc' := 44) rfl ?_
  refine aw_iconst dX5_setForbidden_44 (aw_pc (pc' := 45) rfl ?_)
  exact aw_zret rfl (by decide) dX5_setForbidden_45 ⟨_, rfl, h⟩
def mX5_setForbidden (o : Nat) (a1 : Int) (a2 : Int) (a3 : Int) (F : hp) (Q : Int → hp → Prop) : Prop := ∀ v1 : Int, v1 = (iOr (iShl 1 ((4 * a1) + a2)) (iShl 1 ((4 * a2) + a1))) → (w32 a3 = 0 → gI F (some o) 5 15 (fun x2 => mX5_setForbidden_J41 Q (some o) (iAnd x2 (iXor v1 (-1))) F)) ∧ (¬ w32 a3 = 0 → gI F (some o) 5 15 (fun x3 => mX5_setForbidden_J41 Q (some o) (iOr x3 v1) F))
set_option maxHeartbeats 4000000 in
theorem tX5_setForbidden {d : Nat} {o : Nat} {a1 : Int} {a2 : Int} {a3 : Int} {F : hp} {Q : Int → hp → Prop} (h : mX5_setForbidden o a1 a2 a3 F Q) : am nX5_setForbidden d 0 0 [vr (some o), vi a1, vi a2, vi a3] F (qI Q) := by
  refine am_of (by decide +kernel) (Nat.le_of_ble_eq_true rfl) ?_
  show aw nX5_setForbidden d 0 0 0 [some (vr (some o)), some (vi a1), some (vi a2), some (vi a3), none] [] F (qI Q)
  unfold mX5_setForbidden at h
  refine aw_iconst dX5_setForbidden_0 (aw_pc (pc' := 1) rfl ?_)
  refine aw_iconst dX5_setForbidden_1 (aw_pc (pc' := 2) rfl ?_)
  refine aw_iload_n dX5_setForbidden_2 rfl rfl (aw_pc (pc' := 3) rfl ?_)
  refine aw_imul dX5_setForbidden_3 (aw_pc (pc' := 4) rfl ?_)
  refine aw_iload_n dX5_setForbidden_4 rfl rfl (aw_pc (pc' := 5) rfl ?_)
  refine aw_iadd dX5_setForbidden_5 (aw_pc (pc' := 6) rfl ?_)
  refine aw_ishl dX5_setForbidden_6 (aw_pc (pc' := 7) rfl ?_)
  refine aw_iconst dX5_setForbidden_7 (aw_pc (pc' := 8) rfl ?_)
  refine aw_iconst dX5_setForbidden_8 (aw_pc (pc' := 9) rfl ?_)
  refine aw_iload_n dX5_setForbidden_9 rfl rfl (aw_pc (pc' := 10) rfl ?_)
  refine aw_imul dX5_setForbidden_10 (aw_pc (pc' := 11) rfl ?_)
  refine aw_iload_n dX5_setForbidden_11 rfl rfl (aw_pc (pc' := 12) rfl ?_)
  refine aw_iadd dX5_setForbidden_12 (aw_pc (pc' := 13) rfl ?_)
  refine aw_ishl dX5_setForbidden_13 (aw_pc (pc' := 14) rfl ?_)
  refine aw_ior dX5_setForbidden_14 (aw_pc (pc' := 15) rfl ?_)
  generalize hv_v1 : (iOr (iShl 1 ((4 * a1) + a2)) (iShl 1 ((4 * a2) + a1))) = v1
  replace h := h v1 hv_v1.symm
  refine aw_istore dX5_setForbidden_15 (by decide) (aw_pc (pc' := 17) rfl ?_)
  refine aw_aload_n dX5_setForbidden_17 rfl rfl (aw_pc (pc' := 18) rfl ?_)
  refine aw_iload_n dX5_setForbidden_18 rfl rfl (aw_pc (pc' := 19) rfl ?_)
  refine aw_if_eq dX5_setForbidden_19 rfl (fun c => ?_) (fun c => ?_)
  · replace h := h.1 c
    refine aw_aload_n dX5_setForbidden_32 rfl rfl (aw_pc (pc' := 33) rfl ?_)
    refine ar_gI fl_RX5_91 dX5_setForbidden_33 h ?_
    clear h
    intro x2 h
    refine aw_pc (pc' := 36) rfl ?_
    refine aw_iload dX5_setForbidden_36 rfl (aw_pc (pc' := 38) rfl ?_)
    refine aw_iconst dX5_setForbidden_38 (aw_pc (pc' := 39) rfl ?_)
    refine aw_ixor dX5_setForbidden_39 (aw_pc (pc' := 40) rfl ?_)
    refine aw_iand dX5_setForbidden_40 (aw_pc (pc' := 41) rfl ?_)
    exact aw_mask [false, false, false, false, false] (tX5_setForbidden_J41 h)
  · replace h := h.2 c
    refine aw_aload_n dX5_setForbidden_22 rfl rfl (aw_pc (pc' := 23) rfl ?_)
    refine ar_gI fl_RX5_91 dX5_setForbidden_23 h ?_
    clear h
    intro x3 h
    refine aw_pc (pc' := 26) rfl ?_
    refine aw_iload dX5_setForbidden_26 rfl (aw_pc (pc' := 28) rfl ?_)
    refine aw_ior dX5_setForbidden_28 (aw_pc (pc' := 29) rfl ?_)
    refine aw_goto (tgt := 41) dX5_setForbidden_29 rfl ?_
    exact aw_mask [false, false, false, false, false] (tX5_setForbidden_J41 h)
def mX5_mayStandBeside (o : Nat) (a1 : Int) (a2 : Int) (F : hp) (Q : Int → hp → Prop) : Prop := gI F (some o) 5 15 (fun x1 => gR F (some o) 5 2 (fun x2 => aI F x2 0 a1 (fun x3 => gR F (some o) 5 2 (fun x4 => aI F x4 0 a2 (fun x5 => (w32 (iAnd (iShr x1 ((4 * x3) + x5)) 1) = 0 → Q 1 F) ∧ (¬ w32 (iAnd (iShr x1 ((4 * x3) + x5)) 1) = 0 → Q 0 F))))))
set_option maxHeartbeats 4000000 in
theorem tX5_mayStandBeside {d : Nat} {o : Nat} {a1 : Int} {a2 : Int} {F : hp} {Q : Int → hp → Prop} (h : mX5_mayStandBeside o a1 a2 F Q) : am nX5_mayStandBeside d 0 0 [vr (some o), vi a1, vi a2] F (qI Q) := by
  refine am_of (by decide +kernel) (Nat.le_of_ble_eq_true rfl) ?_
  show aw nX5_mayStandBeside d 0 0 0 [some (vr (some o)), some (vi a1), some (vi a2)] [] F (qI Q)
  unfold mX5_mayStandBeside at h
  refine aw_aload_n dX5_mayStandBeside_0 rfl rfl (aw_pc (pc' := 1) rfl ?_)
  refine ar_gI fl_RX5_91 dX5_mayStandBeside_1 h ?_
  clear h
  intro x1 h
  refine aw_pc (pc' := 4) rfl ?_
  refine aw_iconst dX5_mayStandBeside_4 (aw_pc (pc' := 5) rfl ?_)
  refine aw_aload_n dX5_mayStandBeside_5 rfl rfl (aw_pc (pc' := 6) rfl ?_)
  refine ar_gR fl_RX5_25 dX5_mayStandBeside_6 h ?_
  clear h
  intro x2 h
  refine aw_pc (pc' := 9) rfl ?_
  refine aw_iload_n dX5_mayStandBeside_9 rfl rfl (aw_pc (pc' := 10) rfl ?_)
  refine ar_aI dX5_mayStandBeside_10 h ?_
  clear h
  intro x3 h
  refine aw_pc (pc' := 11) rfl ?_
  refine aw_imul dX5_mayStandBeside_11 (aw_pc (pc' := 12) rfl ?_)
  refine aw_aload_n dX5_mayStandBeside_12 rfl rfl (aw_pc (pc' := 13) rfl ?_)
  refine ar_gR fl_RX5_25 dX5_mayStandBeside_13 h ?_
  clear h
  intro x4 h
  refine aw_pc (pc' := 16) rfl ?_
  refine aw_iload_n dX5_mayStandBeside_16 rfl rfl (aw_pc (pc' := 17) rfl ?_)
  refine ar_aI dX5_mayStandBeside_17 h ?_
  clear h
  intro x5 h
  refine aw_pc (pc' := 18) rfl ?_
  refine aw_iadd dX5_mayStandBeside_18 (aw_pc (pc' := 19) rfl ?_)
  refine aw_ishr dX5_mayStandBeside_19 (aw_pc (pc' := 20) rfl ?_)
  refine aw_iconst dX5_mayStandBeside_20 (aw_pc (pc' := 21) rfl ?_)
  refine aw_iand dX5_mayStandBeside_21 (aw_pc (pc' := 22) rfl ?_)
  refine aw_if_ne dX5_mayStandBeside_22 rfl (fun c => ?_) (fun c => ?_)
  · replace h := h.1 c
    refine aw_iconst dX5_mayStandBeside_25 (aw_pc (pc' := 26) rfl ?_)
    refine aw_goto (tgt := 30) dX5_mayStandBeside_26 rfl ?_
    exact aw_zret rfl (by decide) dX5_mayStandBeside_30 ⟨_, rfl, h⟩
  · replace h := h.2 c
    refine aw_iconst dX5_mayStandBeside_29 (aw_pc (pc' := 30) rfl ?_)
    exact aw_zret rfl (by decide) dX5_mayStandBeside_30 ⟨_, rfl, h⟩
def mX5_pairsThatMay_J47 (X4 : Nat → Int → Int → hp → Prop) (X17 : Nat → Int → Int → Int → hp → Prop) (Q : Int → hp → Prop) (o : Nat) (a1 : Int) (a2 : Int) (a3 : Int) (F : hp) : Prop := X17 o a1 a2 (a3 + 1) F
set_option maxHeartbeats 4000000 in
theorem tX5_pairsThatMay_J47 {d : Nat} {X4 : Nat → Int → Int → hp → Prop} {X17 : Nat → Int → Int → Int → hp → Prop} {Q : Int → hp → Prop} (hX4 : ∀ (o : Nat) (a1 : Int) (a2 : Int) (F : hp), X4 o a1 a2 F → aw nX5_pairsThatMay (d + 1) 0 0 4 [some (vr (some o)), some (vi a1), some (vi a2), none] [] F (qI Q)) (hX17 : ∀ (o : Nat) (a1 : Int) (a2 : Int) (a3 : Int) (F : hp), X17 o a1 a2 a3 F → aw nX5_pairsThatMay (d + 1) 0 0 17 [some (vr (some o)), some (vi a1), some (vi a2), some (vi a3)] [] F (qI Q)) {o : Nat} {a1 : Int} {a2 : Int} {a3 : Int} {F : hp} (h : mX5_pairsThatMay_J47 X4 X17 Q o a1 a2 a3 F) : aw nX5_pairsThatMay (d + 1) 0 0 47 [some (vr (some o)), some (vi a1), some (vi a2), some (vi a3)] [] F (qI Q) := by
  unfold mX5_pairsThatMay_J47 at h
  refine aw_iinc dX5_pairsThatMay_47 rfl (by decide) (aw_pc (pc' := 50) rfl ?_)
  refine aw_goto (tgt := 17) dX5_pairsThatMay_50 rfl ?_
  exact aw_mask [true, true, true, true] (hX17 _ _ _ _ _ h)
def mX5_pairsThatMay_L17 (X4 : Nat → Int → Int → hp → Prop) (Q : Int → hp → Prop) : Nat → Nat → Int → Int → Int → hp → Prop
  | 0, _, _, _, _, _ => False
  | k + 1, o, a1, a2, a3, F => gR F (some o) 5 0 (fun x1 => rcv F x1 10 (fun o4 => mX10_countCars o4 F (fun x3 F2 => (w32 a3 < w32 x3 → rcv F2 (some o) 5 (fun o7 => mX5_mayStandBeside o7 a2 a3 F2 (fun x6 F5 => (w32 x6 = 0 → mX5_pairsThatMay_J47 X4 (fun o' a1' a2' a3' F' => mX5_pairsThatMay_L17 X4 Q k o' a1' a2' a3' F') Q o a1 a2 a3 F5) ∧ (¬ w32 x6 = 0 → ∀ v8 : Int, v8 = (iOr a1 (iShl 1 ((5 * a2) + a3))) → mX5_pairsThatMay_J47 X4 (fun o' a1' a2' a3' F' => mX5_pairsThatMay_L17 X4 Q k o' a1' a2' a3' F') Q o v8 a2 a3 F5)))) ∧ (¬ w32 a3 < w32 x3 → X4 o a1 (a2 + 1) F2))))
set_option maxHeartbeats 4000000 in
theorem tX5_pairsThatMay_L17 {d : Nat} {X4 : Nat → Int → Int → hp → Prop} {Q : Int → hp → Prop} (hX4 : ∀ (o : Nat) (a1 : Int) (a2 : Int) (F : hp), X4 o a1 a2 F → aw nX5_pairsThatMay (d + 1) 0 0 4 [some (vr (some o)), some (vi a1), some (vi a2), none] [] F (qI Q)) : ∀ (k : Nat) (o : Nat) (a1 : Int) (a2 : Int) (a3 : Int) (F : hp), mX5_pairsThatMay_L17 X4 Q k o a1 a2 a3 F → aw nX5_pairsThatMay (d + 1) 0 0 17 [some (vr (some o)), some (vi a1), some (vi a2), some (vi a3)] [] F (qI Q) := by
  intro k
  induction k with
  | zero => intro o a1 a2 a3 F h; exact h.elim
  | succ k ih =>
    intro o a1 a2 a3 F h
    simp only [mX5_pairsThatMay_L17] at h
    refine aw_iload_n dX5_pairsThatMay_17 rfl rfl (aw_pc (pc' := 18) rfl ?_)
    refine aw_aload_n dX5_pairsThatMay_18 rfl rfl (aw_pc (pc' := 19) rfl ?_)
    refine ar_gR fl_RX5_12 dX5_pairsThatMay_19 h ?_
    clear h
    intro x1 h
    refine aw_pc (pc' := 22) rfl ?_
    have h0 := rcv_inv h
    clear h
    obtain ⟨o4, fs_o4, hr_o4, he_o4, h⟩ := h0
    subst hr_o4
    refine ar_VI (kc' := 0) (ks' := 0) (kc := 0) (ks := 0) (a := o4) (ci := 10) (as := []) (st := [vi a3]) (tX10_countCars h) mt_X10_countCars rfl qM_RX5_98 qI_X10_countCars qV_X10_countCars he_o4 rfl (Nat.le_of_ble_eq_true rfl) dX5_pairsThatMay_22 ?_
    clear h
    intro x3 F2 h
    refine aw_pc (pc' := 25) rfl ?_
    refine ac_ge rfl rfl dX5_pairsThatMay_25 rfl (fun c => ?_) (fun c => ?_)
    · replace h := h.1 c
      refine aw_aload_n dX5_pairsThatMay_28 rfl rfl (aw_pc (pc' := 29) rfl ?_)
      refine aw_iload_n dX5_pairsThatMay_29 rfl rfl (aw_pc (pc' := 30) rfl ?_)
      refine aw_iload_n dX5_pairsThatMay_30 rfl rfl (aw_pc (pc' := 31) rfl ?_)
      have h0 := rcv_inv h
      clear h
      obtain ⟨o7, fs_o7, hr_o7, he_o7, h⟩ := h0
      obtain rfl : o = o7 := Option.some.inj hr_o7
      refine ar_VI (kc' := 0) (ks' := 0) (kc := 0) (ks := 0) (a := o) (ci := 5) (as := [vi a2, vi a3]) (st := []) (tX5_mayStandBeside h) mt_X5_mayStandBeside rfl qM_RX5_101 qI_X5_mayStandBeside qV_X5_mayStandBeside he_o7 rfl (Nat.le_of_ble_eq_true rfl) dX5_pairsThatMay_31 ?_
      clear h
      intro x6 F5 h
      refine aw_pc (pc' := 34) rfl ?_
      refine aw_if_eq dX5_pairsThatMay_34 rfl (fun c => ?_) (fun c => ?_)
      · replace h := h.1 c
        exact aw_mask [true, true, true, true] (tX5_pairsThatMay_J47 hX4 (fun o' a1' a2' a3' F' h' => ih o' a1' a2' a3' F' h') h)
      · replace h := h.2 c
        refine aw_iload_n dX5_pairsThatMay_37 rfl rfl (aw_pc (pc' := 38) rfl ?_)
        refine aw_iconst dX5_pairsThatMay_38 (aw_pc (pc' := 39) rfl ?_)
        refine aw_iconst dX5_pairsThatMay_39 (aw_pc (pc' := 40) rfl ?_)
        refine aw_iload_n dX5_pairsThatMay_40 rfl rfl (aw_pc (pc' := 41) rfl ?_)
        refine aw_imul dX5_pairsThatMay_41 (aw_pc (pc' := 42) rfl ?_)
        refine aw_iload_n dX5_pairsThatMay_42 rfl rfl (aw_pc (pc' := 43) rfl ?_)
        refine aw_iadd dX5_pairsThatMay_43 (aw_pc (pc' := 44) rfl ?_)
        refine aw_ishl dX5_pairsThatMay_44 (aw_pc (pc' := 45) rfl ?_)
        refine aw_ior dX5_pairsThatMay_45 (aw_pc (pc' := 46) rfl ?_)
        generalize hv_v8 : (iOr a1 (iShl 1 ((5 * a2) + a3))) = v8
        replace h := h v8 hv_v8.symm
        refine aw_istore_n dX5_pairsThatMay_46 rfl (by decide) (aw_pc (pc' := 47) rfl ?_)
        exact aw_mask [true, true, true, true] (tX5_pairsThatMay_J47 hX4 (fun o' a1' a2' a3' F' h' => ih o' a1' a2' a3' F' h') h)
    · replace h := h.2 c
      refine aw_iinc dX5_pairsThatMay_53 rfl (by decide) (aw_pc (pc' := 56) rfl ?_)
      refine aw_goto (tgt := 4) dX5_pairsThatMay_56 rfl ?_
      exact aw_mask [true, true, true, false] (hX4 _ _ _ _ h)
def mX5_pairsThatMay_L4 (Q : Int → hp → Prop) : Nat → Nat → Int → Int → hp → Prop
  | 0, _, _, _, _ => False
  | k + 1, o, a1, a2, F => gR F (some o) 5 0 (fun x1 => rcv F x1 10 (fun o4 => mX10_countCars o4 F (fun x3 F2 => (w32 a2 < w32 x3 → (∃ k5, mX5_pairsThatMay_L17 (fun o' a1' a2' F' => mX5_pairsThatMay_L4 Q k o' a1' a2' F') Q k5 o a1 a2 0 F2)) ∧ (¬ w32 a2 < w32 x3 → Q a1 F2))))
set_option maxHeartbeats 4000000 in
theorem tX5_pairsThatMay_L4 {d : Nat} {Q : Int → hp → Prop} : ∀ (k : Nat) (o : Nat) (a1 : Int) (a2 : Int) (F : hp), mX5_pairsThatMay_L4 Q k o a1 a2 F → aw nX5_pairsThatMay (d + 1) 0 0 4 [some (vr (some o)), some (vi a1), some (vi a2), none] [] F (qI Q) := by
  intro k
  induction k with
  | zero => intro o a1 a2 F h; exact h.elim
  | succ k ih =>
    intro o a1 a2 F h
    simp only [mX5_pairsThatMay_L4] at h
    refine aw_iload_n dX5_pairsThatMay_4 rfl rfl (aw_pc (pc' := 5) rfl ?_)
    refine aw_aload_n dX5_pairsThatMay_5 rfl rfl (aw_pc (pc' := 6) rfl ?_)
    refine ar_gR fl_RX5_12 dX5_pairsThatMay_6 h ?_
    clear h
    intro x1 h
    refine aw_pc (pc' := 9) rfl ?_
    have h0 := rcv_inv h
    clear h
    obtain ⟨o4, fs_o4, hr_o4, he_o4, h⟩ := h0
    subst hr_o4
    refine ar_VI (kc' := 0) (ks' := 0) (kc := 0) (ks := 0) (a := o4) (ci := 10) (as := []) (st := [vi a2]) (tX10_countCars h) mt_X10_countCars rfl qM_RX5_98 qI_X10_countCars qV_X10_countCars he_o4 rfl (Nat.le_of_ble_eq_true rfl) dX5_pairsThatMay_9 ?_
    clear h
    intro x3 F2 h
    refine aw_pc (pc' := 12) rfl ?_
    refine ac_ge rfl rfl dX5_pairsThatMay_12 rfl (fun c => ?_) (fun c => ?_)
    · replace h := h.1 c
      refine aw_iconst dX5_pairsThatMay_15 (aw_pc (pc' := 16) rfl ?_)
      refine aw_istore_n dX5_pairsThatMay_16 rfl (by decide) (aw_pc (pc' := 17) rfl ?_)
      obtain ⟨k5, h⟩ := h
      exact aw_mask [true, true, true, true] (tX5_pairsThatMay_L17 (fun o' a1' a2' F' h' => ih o' a1' a2' F' h') k5 _ _ _ _ _ h)
    · replace h := h.2 c
      refine aw_iload_n dX5_pairsThatMay_59 rfl rfl (aw_pc (pc' := 60) rfl ?_)
      exact aw_iret rfl dX5_pairsThatMay_60 ⟨_, rfl, h⟩
def mX5_pairsThatMay (o : Nat) (F : hp) (Q : Int → hp → Prop) : Prop := (∃ k1, mX5_pairsThatMay_L4 Q k1 o 0 0 F)
set_option maxHeartbeats 4000000 in
theorem tX5_pairsThatMay {d : Nat} {o : Nat} {F : hp} {Q : Int → hp → Prop} (h : mX5_pairsThatMay o F Q) : am nX5_pairsThatMay (d + 1) 0 0 [vr (some o)] F (qI Q) := by
  refine am_of (by decide +kernel) (Nat.le_of_ble_eq_true rfl) ?_
  show aw nX5_pairsThatMay (d + 1) 0 0 0 [some (vr (some o)), none, none, none] [] F (qI Q)
  unfold mX5_pairsThatMay at h
  refine aw_iconst dX5_pairsThatMay_0 (aw_pc (pc' := 1) rfl ?_)
  refine aw_istore_n dX5_pairsThatMay_1 rfl (by decide) (aw_pc (pc' := 2) rfl ?_)
  refine aw_iconst dX5_pairsThatMay_2 (aw_pc (pc' := 3) rfl ?_)
  refine aw_istore_n dX5_pairsThatMay_3 rfl (by decide) (aw_pc (pc' := 4) rfl ?_)
  obtain ⟨k1, h⟩ := h
  exact aw_mask [true, true, true, false] (tX5_pairsThatMay_L4 k1 _ _ _ _ h)
def mX5_loadOfUppermost (o : Nat) (a1 : Int) (F : hp) (Q : Int → hp → Prop) : Prop := gR F (some o) 5 0 (fun x1 => rcv F x1 10 (fun o4 => mX10_uppermost o4 a1 F (fun x3 F2 => (w32 x3 = (-1) → Q 0 F2) ∧ (¬ w32 x3 = (-1) → gR F2 (some o) 5 3 (fun x5 => aI F2 x5 0 x3 (fun x6 => Q x6 F2))))))
set_option maxHeartbeats 4000000 in
theorem tX5_loadOfUppermost {d : Nat} {o : Nat} {a1 : Int} {F : hp} {Q : Int → hp → Prop} (h : mX5_loadOfUppermost o a1 F Q) : am nX5_loadOfUppermost (d + 1) 0 0 [vr (some o), vi a1] F (qI Q) := by
  refine am_of (by decide +kernel) (Nat.le_of_ble_eq_true rfl) ?_
  show aw nX5_loadOfUppermost (d + 1) 0 0 0 [some (vr (some o)), some (vi a1), none] [] F (qI Q)
  unfold mX5_loadOfUppermost at h
  refine aw_aload_n dX5_loadOfUppermost_0 rfl rfl (aw_pc (pc' := 1) rfl ?_)
  refine ar_gR fl_RX5_12 dX5_loadOfUppermost_1 h ?_
  clear h
  intro x1 h
  refine aw_pc (pc' := 4) rfl ?_
  refine aw_iload_n dX5_loadOfUppermost_4 rfl rfl (aw_pc (pc' := 5) rfl ?_)
  have h0 := rcv_inv h
  clear h
  obtain ⟨o4, fs_o4, hr_o4, he_o4, h⟩ := h0
  subst hr_o4
  refine ar_VI (kc' := 0) (ks' := 0) (kc := 0) (ks := 0) (a := o4) (ci := 10) (as := [vi a1]) (st := []) (tX10_uppermost h) mt_X10_uppermost rfl qM_RX5_105 qI_X10_uppermost qV_X10_uppermost he_o4 rfl (Nat.le_of_ble_eq_true rfl) dX5_loadOfUppermost_5 ?_
  clear h
  intro x3 F2 h
  refine aw_pc (pc' := 8) rfl ?_
  refine aw_istore_n dX5_loadOfUppermost_8 rfl (by decide) (aw_pc (pc' := 9) rfl ?_)
  refine aw_iload_n dX5_loadOfUppermost_9 rfl rfl (aw_pc (pc' := 10) rfl ?_)
  refine aw_iconst dX5_loadOfUppermost_10 (aw_pc (pc' := 11) rfl ?_)
  refine ac_ne rfl wl_m1 dX5_loadOfUppermost_11 rfl (fun c => ?_) (fun c => ?_)
  · replace h := h.1 c
    refine aw_iconst dX5_loadOfUppermost_14 (aw_pc (pc' := 15) rfl ?_)
    refine aw_goto (tgt := 24) dX5_loadOfUppermost_15 rfl ?_
    exact aw_iret rfl dX5_loadOfUppermost_24 ⟨_, rfl, h⟩
  · replace h := h.2 c
    refine aw_aload_n dX5_loadOfUppermost_18 rfl rfl (aw_pc (pc' := 19) rfl ?_)
    refine ar_gR fl_RX5_29 dX5_loadOfUppermost_19 h ?_
    clear h
    intro x5 h
    refine aw_pc (pc' := 22) rfl ?_
    refine aw_iload_n dX5_loadOfUppermost_22 rfl rfl (aw_pc (pc' := 23) rfl ?_)
    refine ar_aI dX5_loadOfUppermost_23 h ?_
    clear h
    intro x6 h
    refine aw_pc (pc' := 24) rfl ?_
    exact aw_iret rfl dX5_loadOfUppermost_24 ⟨_, rfl, h⟩
def mX5_loadOn_L4 (Q : Int → hp → Prop) : Nat → Nat → Int → Int → Int → hp → Prop
  | 0, _, _, _, _, _ => False
  | k + 1, o, a1, a2, a3, F => gR F (some o) 5 0 (fun x1 => rcv F x1 10 (fun o4 => mX10_countOn o4 a1 F (fun x3 F2 => (w32 a3 < w32 x3 → gR F2 (some o) 5 3 (fun x5 => gR F2 (some o) 5 0 (fun x6 => rcv F2 x6 10 (fun o9 => mX10_carAt o9 a1 a3 F2 (fun x8 F7 => aI F7 x5 0 x8 (fun x10 => ∀ v11 : Int, v11 = (a2 + x10) → mX5_loadOn_L4 Q k o a1 v11 (a3 + 1) F7)))))) ∧ (¬ w32 a3 < w32 x3 → Q a2 F2))))
set_option maxHeartbeats 4000000 in
theorem tX5_loadOn_L4 {d : Nat} {Q : Int → hp → Prop} : ∀ (k : Nat) (o : Nat) (a1 : Int) (a2 : Int) (a3 : Int) (F : hp), mX5_loadOn_L4 Q k o a1 a2 a3 F → aw nX5_loadOn (d + 1) 0 0 4 [some (vr (some o)), some (vi a1), some (vi a2), some (vi a3)] [] F (qI Q) := by
  intro k
  induction k with
  | zero => intro o a1 a2 a3 F h; exact h.elim
  | succ k ih =>
    intro o a1 a2 a3 F h
    simp only [mX5_loadOn_L4] at h
    refine aw_iload_n dX5_loadOn_4 rfl rfl (aw_pc (pc' := 5) rfl ?_)
    refine aw_aload_n dX5_loadOn_5 rfl rfl (aw_pc (pc' := 6) rfl ?_)
    refine ar_gR fl_RX5_12 dX5_loadOn_6 h ?_
    clear h
    intro x1 h
    refine aw_pc (pc' := 9) rfl ?_
    refine aw_iload_n dX5_loadOn_9 rfl rfl (aw_pc (pc' := 10) rfl ?_)
    have h0 := rcv_inv h
    clear h
    obtain ⟨o4, fs_o4, hr_o4, he_o4, h⟩ := h0
    subst hr_o4
    refine ar_VI (kc' := 0) (ks' := 0) (kc := 0) (ks := 0) (a := o4) (ci := 10) (as := [vi a1]) (st := [vi a3]) (tX10_countOn h) mt_X10_countOn rfl qM_RX5_109 qI_X10_countOn qV_X10_countOn he_o4 rfl (Nat.le_of_ble_eq_true rfl) dX5_loadOn_10 ?_
    clear h
    intro x3 F2 h
    refine aw_pc (pc' := 13) rfl ?_
    refine ac_ge rfl rfl dX5_loadOn_13 rfl (fun c => ?_) (fun c => ?_)
    · replace h := h.1 c
      refine aw_iload_n dX5_loadOn_16 rfl rfl (aw_pc (pc' := 17) rfl ?_)
      refine aw_aload_n dX5_loadOn_17 rfl rfl (aw_pc (pc' := 18) rfl ?_)
      refine ar_gR fl_RX5_29 dX5_loadOn_18 h ?_
      clear h
      intro x5 h
      refine aw_pc (pc' := 21) rfl ?_
      refine aw_aload_n dX5_loadOn_21 rfl rfl (aw_pc (pc' := 22) rfl ?_)
      refine ar_gR fl_RX5_12 dX5_loadOn_22 h ?_
      clear h
      intro x6 h
      refine aw_pc (pc' := 25) rfl ?_
      refine aw_iload_n dX5_loadOn_25 rfl rfl (aw_pc (pc' := 26) rfl ?_)
      refine aw_iload_n dX5_loadOn_26 rfl rfl (aw_pc (pc' := 27) rfl ?_)
      have h0 := rcv_inv h
      clear h
      obtain ⟨o9, fs_o9, hr_o9, he_o9, h⟩ := h0
      subst hr_o9
      refine ar_VI (kc' := 0) (ks' := 0) (kc := 0) (ks := 0) (a := o9) (ci := 10) (as := [vi a1, vi a3]) (st := [vr x5, vi a2]) (tX10_carAt h) mt_X10_carAt rfl qM_RX5_112 qI_X10_carAt qV_X10_carAt he_o9 rfl (Nat.le_of_ble_eq_true rfl) dX5_loadOn_27 ?_
      clear h
      intro x8 F7 h
      refine aw_pc (pc' := 30) rfl ?_
      refine ar_aI dX5_loadOn_30 h ?_
      clear h
      intro x10 h
      refine aw_pc (pc' := 31) rfl ?_
      refine aw_iadd dX5_loadOn_31 (aw_pc (pc' := 32) rfl ?_)
      generalize hv_v11 : (a2 + x10) = v11
      replace h := h v11 hv_v11.symm
      refine aw_istore_n dX5_loadOn_32 rfl (by decide) (aw_pc (pc' := 33) rfl ?_)
      refine aw_iinc dX5_loadOn_33 rfl (by decide) (aw_pc (pc' := 36) rfl ?_)
      refine aw_goto (tgt := 4) dX5_loadOn_36 rfl ?_
      exact aw_mask [true, true, true, true] (ih _ _ _ _ _ h)
    · replace h := h.2 c
      refine aw_iload_n dX5_loadOn_39 rfl rfl (aw_pc (pc' := 40) rfl ?_)
      exact aw_iret rfl dX5_loadOn_40 ⟨_, rfl, h⟩
def mX5_loadOn (o : Nat) (a1 : Int) (F : hp) (Q : Int → hp → Prop) : Prop := (∃ k1, mX5_loadOn_L4 Q k1 o a1 0 0 F)
set_option maxHeartbeats 4000000 in
theorem tX5_loadOn {d : Nat} {o : Nat} {a1 : Int} {F : hp} {Q : Int → hp → Prop} (h : mX5_loadOn o a1 F Q) : am nX5_loadOn (d + 1) 0 0 [vr (some o), vi a1] F (qI Q) := by
  refine am_of (by decide +kernel) (Nat.le_of_ble_eq_true rfl) ?_
  show aw nX5_loadOn (d + 1) 0 0 0 [some (vr (some o)), some (vi a1), none, none] [] F (qI Q)
  unfold mX5_loadOn at h
  refine aw_iconst dX5_loadOn_0 (aw_pc (pc' := 1) rfl ?_)
  refine aw_istore_n dX5_loadOn_1 rfl (by decide) (aw_pc (pc' := 2) rfl ?_)
  refine aw_iconst dX5_loadOn_2 (aw_pc (pc' := 3) rfl ?_)
  refine aw_istore_n dX5_loadOn_3 rfl (by decide) (aw_pc (pc' := 4) rfl ?_)
  obtain ⟨k1, h⟩ := h
  exact aw_mask [true, true, true, true] (tX5_loadOn_L4 k1 _ _ _ _ _ h)
def mX5_rulingText (o : Nat) (F : hp) (Q : Option Nat → hp → Prop) : Prop := gI F (some o) 5 13 (fun x1 => (w32 x1 < 0 → Q none F) ∧ (¬ w32 x1 < 0 → gI F (some o) 5 13 (fun x2 => gI F (some o) 5 12 (fun x3 => (w32 x2 < w32 x3 → gR F (some o) 5 11 (fun x4 => gI F (some o) 5 13 (fun x5 => aR F x4 x5 (fun x6 => Q x6 F)))) ∧ (¬ w32 x2 < w32 x3 → Q none F)))))
set_option maxHeartbeats 4000000 in
theorem tX5_rulingText {d : Nat} {o : Nat} {F : hp} {Q : Option Nat → hp → Prop} (h : mX5_rulingText o F Q) : am nX5_rulingText d 0 0 [vr (some o)] F (qR Q) := by
  refine am_of (by decide +kernel) (Nat.le_of_ble_eq_true rfl) ?_
  show aw nX5_rulingText d 0 0 0 [some (vr (some o))] [] F (qR Q)
  unfold mX5_rulingText at h
  refine aw_aload_n dX5_rulingText_0 rfl rfl (aw_pc (pc' := 1) rfl ?_)
  refine ar_gI fl_RX5_65 dX5_rulingText_1 h ?_
  clear h
  intro x1 h
  refine aw_pc (pc' := 4) rfl ?_
  refine aw_if_lt dX5_rulingText_4 rfl (fun c => ?_) (fun c => ?_)
  · replace h := h.1 c
    refine aw_null dX5_rulingText_30 (aw_pc (pc' := 31) rfl ?_)
    exact aw_aret rfl (Or.inl ⟨_, rfl⟩) dX5_rulingText_31 ⟨_, rfl, h⟩
  · replace h := h.2 c
    refine aw_aload_n dX5_rulingText_7 rfl rfl (aw_pc (pc' := 8) rfl ?_)
    refine ar_gI fl_RX5_65 dX5_rulingText_8 h ?_
    clear h
    intro x2 h
    refine aw_pc (pc' := 11) rfl ?_
    refine aw_aload_n dX5_rulingText_11 rfl rfl (aw_pc (pc' := 12) rfl ?_)
    refine ar_gI fl_RX5_85 dX5_rulingText_12 h ?_
    clear h
    intro x3 h
    refine aw_pc (pc' := 15) rfl ?_
    refine ac_ge rfl rfl dX5_rulingText_15 rfl (fun c => ?_) (fun c => ?_)
    · replace h := h.1 c
      refine aw_aload_n dX5_rulingText_18 rfl rfl (aw_pc (pc' := 19) rfl ?_)
      refine ar_gR fl_RX5_61 dX5_rulingText_19 h ?_
      clear h
      intro x4 h
      refine aw_pc (pc' := 22) rfl ?_
      refine aw_aload_n dX5_rulingText_22 rfl rfl (aw_pc (pc' := 23) rfl ?_)
      refine ar_gI fl_RX5_65 dX5_rulingText_23 h ?_
      clear h
      intro x5 h
      refine aw_pc (pc' := 26) rfl ?_
      refine ar_aR dX5_rulingText_26 h ?_
      clear h
      intro x6 h
      refine aw_pc (pc' := 27) rfl ?_
      refine aw_goto (tgt := 31) dX5_rulingText_27 rfl ?_
      exact aw_aret rfl (Or.inl ⟨_, rfl⟩) dX5_rulingText_31 ⟨_, rfl, h⟩
    · replace h := h.2 c
      refine aw_null dX5_rulingText_30 (aw_pc (pc' := 31) rfl ?_)
      exact aw_aret rfl (Or.inl ⟨_, rfl⟩) dX5_rulingText_31 ⟨_, rfl, h⟩
