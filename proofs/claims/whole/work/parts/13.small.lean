def mX0_init (o : Nat) (F : hp) (Q : hp → Prop) : Prop := nwc F (cA 0 64 (fun _ => 0)) (fun n1 F2 => pF F2 (some o) 0 0 (vr (some n1)) (fun F3 => nwc F3 (cA 0 64 (fun _ => 0)) (fun n4 F5 => pF F5 (some o) 0 1 (vr (some n4)) (fun F6 => Q F6))))
set_option maxHeartbeats 4000000 in
theorem tX0_init {d : Nat} {o : Nat} {F : hp} {Q : hp → Prop} (h : mX0_init o F Q) : am nX0_init (d + 1) 2 128 [vr (some o)] F (qV Q) := by
  refine am_of (by decide +kernel) (Nat.le_of_ble_eq_true rfl) ?_
  show aw nX0_init (d + 1) 2 128 0 [some (vr (some o))] [] F (qV Q)
  unfold mX0_init at h
  refine aw_aload_n dX0_init_0 rfl rfl (aw_pc (pc' := 1) rfl ?_)
  refine aw_obj qM_RX0_3 mw_obj (Nat.le_of_ble_eq_true rfl) dX0_init_1 (aw_pc (pc' := 4) rfl ?_)
  refine aw_aload_n dX0_init_4 rfl rfl (aw_pc (pc' := 5) rfl ?_)
  refine aw_bipush dX0_init_5 (by decide) (aw_pc (pc' := 7) rfl ?_)
  refine ar_newarr (k := 0) (kc := 1) (ks := 64) (ms := 64) (Or.inl rfl) rfl qY_int (by decide) dX0_init_7 h ?_
  clear h
  intro n1 F2 h
  refine aw_pc (pc' := 9) rfl ?_
  refine ar_pFF fl_RX0_11 ft_X0_0 rfl rfl (okA _ _) dX0_init_9 h ?_
  clear h
  intro F3 h
  refine aw_pc (pc' := 12) rfl ?_
  refine aw_aload_n dX0_init_12 rfl rfl (aw_pc (pc' := 13) rfl ?_)
  refine aw_bipush dX0_init_13 (by decide) (aw_pc (pc' := 15) rfl ?_)
  refine ar_newarr (k := 0) (kc := 0) (ks := 0) (ms := 64) (Or.inl rfl) rfl qY_int (by decide) dX0_init_15 h ?_
  clear h
  intro n4 F5 h
  refine aw_pc (pc' := 17) rfl ?_
  refine ar_pFF fl_RX0_15 ft_X0_1 rfl rfl (okA _ _) dX0_init_17 h ?_
  clear h
  intro F6 h
  refine aw_pc (pc' := 20) rfl ?_
  exact aw_vret rfl dX0_init_20 ⟨rfl, h⟩
def mX0_sumOf_J24 (X4 : Int → Option Nat → Int → Int → hp → Prop) (Q : Int → hp → Prop) (a0 : Int) (a1 : Option Nat) (a2 : Int) (a3 : Int) (F : hp) : Prop := X4 a0 a1 a2 (a3 + 1) F
set_option maxHeartbeats 4000000 in
theorem tX0_sumOf_J24 {d : Nat} {X4 : Int → Option Nat → Int → Int → hp → Prop} {Q : Int → hp → Prop} (hX4 : ∀ (a0 : Int) (a1 : Option Nat) (a2 : Int) (a3 : Int) (F : hp), X4 a0 a1 a2 a3 F → aw nX0_sumOf d 0 0 4 [some (vi a0), some (vr a1), some (vi a2), some (vi a3)] [] F (qI Q)) {a0 : Int} {a1 : Option Nat} {a2 : Int} {a3 : Int} {F : hp} (h : mX0_sumOf_J24 X4 Q a0 a1 a2 a3 F) : aw nX0_sumOf d 0 0 24 [some (vi a0), some (vr a1), some (vi a2), some (vi a3)] [] F (qI Q) := by
  unfold mX0_sumOf_J24 at h
  refine aw_iinc dX0_sumOf_24 rfl (by decide) (aw_pc (pc' := 27) rfl ?_)
  refine aw_goto (tgt := 4) dX0_sumOf_27 rfl ?_
  exact aw_mask [true, true, true, true] (hX4 _ _ _ _ _ h)
def mX0_sumOf_L4 (Q : Int → hp → Prop) : Nat → Int → Option Nat → Int → Int → hp → Prop
  | 0, _, _, _, _, _ => False
  | k + 1, a0, a1, a2, a3, F => (w32 a3 < 6 → (w32 (iAnd (iShr a0 a3) 1) = 0 → mX0_sumOf_J24 (fun a0' a1' a2' a3' F' => mX0_sumOf_L4 Q k a0' a1' a2' a3' F') Q a0 a1 a2 a3 F) ∧ (¬ w32 (iAnd (iShr a0 a3) 1) = 0 → aI F a1 0 a3 (fun x1 => ∀ v2 : Int, v2 = (a2 + x1) → mX0_sumOf_J24 (fun a0' a1' a2' a3' F' => mX0_sumOf_L4 Q k a0' a1' a2' a3' F') Q a0 a1 v2 a3 F))) ∧ (¬ w32 a3 < 6 → Q a2 F)
set_option maxHeartbeats 4000000 in
theorem tX0_sumOf_L4 {d : Nat} {Q : Int → hp → Prop} : ∀ (k : Nat) (a0 : Int) (a1 : Option Nat) (a2 : Int) (a3 : Int) (F : hp), mX0_sumOf_L4 Q k a0 a1 a2 a3 F → aw nX0_sumOf d 0 0 4 [some (vi a0), some (vr a1), some (vi a2), some (vi a3)] [] F (qI Q) := by
  intro k
  induction k with
  | zero => intro a0 a1 a2 a3 F h; exact h.elim
  | succ k ih =>
    intro a0 a1 a2 a3 F h
    simp only [mX0_sumOf_L4] at h
    refine aw_iload_n dX0_sumOf_4 rfl rfl (aw_pc (pc' := 5) rfl ?_)
    refine aw_bipush dX0_sumOf_5 (by decide) (aw_pc (pc' := 7) rfl ?_)
    refine ac_ge rfl wl_6 dX0_sumOf_7 rfl (fun c => ?_) (fun c => ?_)
    · replace h := h.1 c
      refine aw_iload_n dX0_sumOf_10 rfl rfl (aw_pc (pc' := 11) rfl ?_)
      refine aw_iload_n dX0_sumOf_11 rfl rfl (aw_pc (pc' := 12) rfl ?_)
      refine aw_ishr dX0_sumOf_12 (aw_pc (pc' := 13) rfl ?_)
      refine aw_iconst dX0_sumOf_13 (aw_pc (pc' := 14) rfl ?_)
      refine aw_iand dX0_sumOf_14 (aw_pc (pc' := 15) rfl ?_)
      refine aw_if_eq dX0_sumOf_15 rfl (fun c => ?_) (fun c => ?_)
      · replace h := h.1 c
        exact aw_mask [true, true, true, true] (tX0_sumOf_J24 (fun a0' a1' a2' a3' F' h' => ih a0' a1' a2' a3' F' h') h)
      · replace h := h.2 c
        refine aw_iload_n dX0_sumOf_18 rfl rfl (aw_pc (pc' := 19) rfl ?_)
        refine aw_aload_n dX0_sumOf_19 rfl rfl (aw_pc (pc' := 20) rfl ?_)
        refine aw_iload_n dX0_sumOf_20 rfl rfl (aw_pc (pc' := 21) rfl ?_)
        refine ar_aI dX0_sumOf_21 h ?_
        clear h
        intro x1 h
        refine aw_pc (pc' := 22) rfl ?_
        refine aw_iadd dX0_sumOf_22 (aw_pc (pc' := 23) rfl ?_)
        generalize hv_v2 : (a2 + x1) = v2
        replace h := h v2 hv_v2.symm
        refine aw_istore_n dX0_sumOf_23 rfl (by decide) (aw_pc (pc' := 24) rfl ?_)
        exact aw_mask [true, true, true, true] (tX0_sumOf_J24 (fun a0' a1' a2' a3' F' h' => ih a0' a1' a2' a3' F' h') h)
    · replace h := h.2 c
      refine aw_iload_n dX0_sumOf_30 rfl rfl (aw_pc (pc' := 31) rfl ?_)
      exact aw_iret rfl dX0_sumOf_31 ⟨_, rfl, h⟩
def mX0_sumOf (a0 : Int) (a1 : Option Nat) (F : hp) (Q : Int → hp → Prop) : Prop := (∃ k1, mX0_sumOf_L4 Q k1 a0 a1 0 0 F)
set_option maxHeartbeats 4000000 in
theorem tX0_sumOf {d : Nat} {a0 : Int} {a1 : Option Nat} {F : hp} {Q : Int → hp → Prop} (h : mX0_sumOf a0 a1 F Q) : am nX0_sumOf d 0 0 [vi a0, vr a1] F (qI Q) := by
  refine am_of (by decide +kernel) (Nat.le_of_ble_eq_true rfl) ?_
  show aw nX0_sumOf d 0 0 0 [some (vi a0), some (vr a1), none, none] [] F (qI Q)
  unfold mX0_sumOf at h
  refine aw_iconst dX0_sumOf_0 (aw_pc (pc' := 1) rfl ?_)
  refine aw_istore_n dX0_sumOf_1 rfl (by decide) (aw_pc (pc' := 2) rfl ?_)
  refine aw_iconst dX0_sumOf_2 (aw_pc (pc' := 3) rfl ?_)
  refine aw_istore_n dX0_sumOf_3 rfl (by decide) (aw_pc (pc' := 4) rfl ?_)
  obtain ⟨k1, h⟩ := h
  exact aw_mask [true, true, true, true] (tX0_sumOf_L4 k1 _ _ _ _ _ h)
def mX0_isGroupOf (o : Nat) (a1 : Int) (a2 : Int) (a3 : Int) (F : hp) (Q : Int → hp → Prop) : Prop := (w32 (iAnd a2 (iXor a1 (-1))) = 0 → (w32 (iAnd a2 a3) = 0 → Q 0 F) ∧ (¬ w32 (iAnd a2 a3) = 0 → gR F (some o) 0 0 (fun x1 => aI F x1 0 a2 (fun x2 => (w32 x2 = 0 → Q 1 F) ∧ (¬ w32 x2 = 0 → Q 0 F))))) ∧ (¬ w32 (iAnd a2 (iXor a1 (-1))) = 0 → Q 0 F)
set_option maxHeartbeats 4000000 in
theorem tX0_isGroupOf {d : Nat} {o : Nat} {a1 : Int} {a2 : Int} {a3 : Int} {F : hp} {Q : Int → hp → Prop} (h : mX0_isGroupOf o a1 a2 a3 F Q) : am nX0_isGroupOf d 0 0 [vr (some o), vi a1, vi a2, vi a3] F (qI Q) := by
  refine am_of (by decide +kernel) (Nat.le_of_ble_eq_true rfl) ?_
  show aw nX0_isGroupOf d 0 0 0 [some (vr (some o)), some (vi a1), some (vi a2), some (vi a3)] [] F (qI Q)
  unfold mX0_isGroupOf at h
  refine aw_iload_n dX0_isGroupOf_0 rfl rfl (aw_pc (pc' := 1) rfl ?_)
  refine aw_iload_n dX0_isGroupOf_1 rfl rfl (aw_pc (pc' := 2) rfl ?_)
  refine aw_iconst dX0_isGroupOf_2 (aw_pc (pc' := 3) rfl ?_)
  refine aw_ixor dX0_isGroupOf_3 (aw_pc (pc' := 4) rfl ?_)
  refine aw_iand dX0_isGroupOf_4 (aw_pc (pc' := 5) rfl ?_)
  refine aw_if_ne dX0_isGroupOf_5 rfl (fun c => ?_) (fun c => ?_)
  · replace h := h.1 c
    refine aw_iload_n dX0_isGroupOf_8 rfl rfl (aw_pc (pc' := 9) rfl ?_)
    refine aw_iload_n dX0_isGroupOf_9 rfl rfl (aw_pc (pc' := 10) rfl ?_)
    refine aw_iand dX0_isGroupOf_10 (aw_pc (pc' := 11) rfl ?_)
    refine aw_if_eq dX0_isGroupOf_11 rfl (fun c => ?_) (fun c => ?_)
    · replace h := h.1 c
      refine aw_iconst dX0_isGroupOf_27 (aw_pc (pc' := 28) rfl ?_)
      exact aw_zret rfl (by decide) dX0_isGroupOf_28 ⟨_, rfl, h⟩
    · replace h := h.2 c
      refine aw_aload_n dX0_isGroupOf_14 rfl rfl (aw_pc (pc' := 15) rfl ?_)
      refine ar_gR fl_RX0_11 dX0_isGroupOf_15 h ?_
      clear h
      intro x1 h
      refine aw_pc (pc' := 18) rfl ?_
      refine aw_iload_n dX0_isGroupOf_18 rfl rfl (aw_pc (pc' := 19) rfl ?_)
      refine ar_aI dX0_isGroupOf_19 h ?_
      clear h
      intro x2 h
      refine aw_pc (pc' := 20) rfl ?_
      refine aw_if_ne dX0_isGroupOf_20 rfl (fun c => ?_) (fun c => ?_)
      · replace h := h.1 c
        refine aw_iconst dX0_isGroupOf_23 (aw_pc (pc' := 24) rfl ?_)
        refine aw_goto (tgt := 28) dX0_isGroupOf_24 rfl ?_
        exact aw_zret rfl (by decide) dX0_isGroupOf_28 ⟨_, rfl, h⟩
      · replace h := h.2 c
        refine aw_iconst dX0_isGroupOf_27 (aw_pc (pc' := 28) rfl ?_)
        exact aw_zret rfl (by decide) dX0_isGroupOf_28 ⟨_, rfl, h⟩
  · replace h := h.2 c
    refine aw_iconst dX0_isGroupOf_27 (aw_pc (pc' := 28) rfl ?_)
    exact aw_zret rfl (by decide) dX0_isGroupOf_28 ⟨_, rfl, h⟩
def mX0_mostOf_J45 (X10 : Nat → Int → Int → Int → Int → hp → Prop) (Q : Int → hp → Prop) (o : Nat) (a1 : Int) (a2 : Int) (a3 : Int) (a4 : Int) (F : hp) : Prop := X10 o a1 a2 a3 (a4 + 1) F
set_option maxHeartbeats 4000000 in
theorem tX0_mostOf_J45 {d : Nat} {X10 : Nat → Int → Int → Int → Int → hp → Prop} {Q : Int → hp → Prop} (hX10 : ∀ (o : Nat) (a1 : Int) (a2 : Int) (a3 : Int) (a4 : Int) (F : hp), X10 o a1 a2 a3 a4 F → aw nX0_mostOf (d + 1) 0 0 10 [some (vr (some o)), some (vi a1), some (vi a2), some (vi a3), some (vi a4)] [] F (qI Q)) {o : Nat} {a1 : Int} {a2 : Int} {a3 : Int} {a4 : Int} {F : hp} (h : mX0_mostOf_J45 X10 Q o a1 a2 a3 a4 F) : aw nX0_mostOf (d + 1) 0 0 45 [some (vr (some o)), some (vi a1), some (vi a2), some (vi a3), some (vi a4)] [] F (qI Q) := by
  unfold mX0_mostOf_J45 at h
  refine aw_iinc dX0_mostOf_45 rfl (by decide) (aw_pc (pc' := 48) rfl ?_)
  refine aw_goto (tgt := 10) dX0_mostOf_48 rfl ?_
  exact aw_mask [true, true, true, true, true] (hX10 _ _ _ _ _ _ h)
def mX0_mostOf_L10 (Q : Int → hp → Prop) : Nat → Nat → Int → Int → Int → Int → hp → Prop
  | 0, _, _, _, _, _, _ => False
  | k + 1, o, a1, a2, a3, a4, F => (w32 a4 < w32 a1 → rcv F (some o) 0 (fun o3 => mX0_isGroupOf o3 a1 a4 a3 F (fun x2 F1 => (w32 x2 = 0 → mX0_mostOf_J45 (fun o' a1' a2' a3' a4' F' => mX0_mostOf_L10 Q k o' a1' a2' a3' a4' F') Q o a1 a2 a3 a4 F1) ∧ (¬ w32 x2 = 0 → gR F1 (some o) 0 1 (fun x4 => aI F1 x4 0 (iAnd a1 (iXor a4 (-1))) (fun x5 => ∀ v6 : Int, v6 = (iMax a2 (1 + x5)) → mX0_mostOf_J45 (fun o' a1' a2' a3' a4' F' => mX0_mostOf_L10 Q k o' a1' a2' a3' a4' F') Q o a1 v6 a3 a4 F1)))))) ∧ (¬ w32 a4 < w32 a1 → Q a2 F)
set_option maxHeartbeats 4000000 in
theorem tX0_mostOf_L10 {d : Nat} {Q : Int → hp → Prop} : ∀ (k : Nat) (o : Nat) (a1 : Int) (a2 : Int) (a3 : Int) (a4 : Int) (F : hp), mX0_mostOf_L10 Q k o a1 a2 a3 a4 F → aw nX0_mostOf (d + 1) 0 0 10 [some (vr (some o)), some (vi a1), some (vi a2), some (vi a3), some (vi a4)] [] F (qI Q) := by
  intro k
  induction k with
  | zero => intro o a1 a2 a3 a4 F h; exact h.elim
  | succ k ih =>
    intro o a1 a2 a3 a4 F h
    simp only [mX0_mostOf_L10] at h
    refine aw_iload dX0_mostOf_10 rfl (aw_pc (pc' := 12) rfl ?_)
    refine aw_iload_n dX0_mostOf_12 rfl rfl (aw_pc (pc' := 13) rfl ?_)
    refine ac_ge rfl rfl dX0_mostOf_13 rfl (fun c => ?_) (fun c => ?_)
    · replace h := h.1 c
      refine aw_aload_n dX0_mostOf_16 rfl rfl (aw_pc (pc' := 17) rfl ?_)
      refine aw_iload_n dX0_mostOf_17 rfl rfl (aw_pc (pc' := 18) rfl ?_)
      refine aw_iload dX0_mostOf_18 rfl (aw_pc (pc' := 20) rfl ?_)
      refine aw_iload_n dX0_mostOf_20 rfl rfl (aw_pc (pc' := 21) rfl ?_)
      have h0 := rcv_inv h
      clear h
      obtain ⟨o3, fs_o3, hr_o3, he_o3, h⟩ := h0
      obtain rfl : o = o3 := Option.some.inj hr_o3
      refine ar_VI (kc' := 0) (ks' := 0) (kc := 0) (ks := 0) (a := o) (ci := 0) (as := [vi a1, vi a4, vi a3]) (st := []) (tX0_isGroupOf h) mt_X0_isGroupOf rfl qM_RX0_33 qI_X0_isGroupOf qV_X0_isGroupOf he_o3 rfl (Nat.le_of_ble_eq_true rfl) dX0_mostOf_21 ?_
      clear h
      intro x2 F1 h
      refine aw_pc (pc' := 24) rfl ?_
      refine aw_if_eq dX0_mostOf_24 rfl (fun c => ?_) (fun c => ?_)
      · replace h := h.1 c
        exact aw_mask [true, true, true, true, true] (tX0_mostOf_J45 (fun o' a1' a2' a3' a4' F' h' => ih o' a1' a2' a3' a4' F' h') h)
      · replace h := h.2 c
        refine aw_iload_n dX0_mostOf_27 rfl rfl (aw_pc (pc' := 28) rfl ?_)
        refine aw_iconst dX0_mostOf_28 (aw_pc (pc' := 29) rfl ?_)
        refine aw_aload_n dX0_mostOf_29 rfl rfl (aw_pc (pc' := 30) rfl ?_)
        refine ar_gR fl_RX0_15 dX0_mostOf_30 h ?_
        clear h
        intro x4 h
        refine aw_pc (pc' := 33) rfl ?_
        refine aw_iload_n dX0_mostOf_33 rfl rfl (aw_pc (pc' := 34) rfl ?_)
        refine aw_iload dX0_mostOf_34 rfl (aw_pc (pc' := 36) rfl ?_)
        refine aw_iconst dX0_mostOf_36 (aw_pc (pc' := 37) rfl ?_)
        refine aw_ixor dX0_mostOf_37 (aw_pc (pc' := 38) rfl ?_)
        refine aw_iand dX0_mostOf_38 (aw_pc (pc' := 39) rfl ?_)
        refine ar_aI dX0_mostOf_39 h ?_
        clear h
        intro x5 h
        refine aw_pc (pc' := 40) rfl ?_
        refine aw_iadd dX0_mostOf_40 (aw_pc (pc' := 41) rfl ?_)
        refine aw_max qM_RX0_37 mw_max (Nat.le_of_ble_eq_true rfl) dX0_mostOf_41 (aw_pc (pc' := 44) rfl ?_)
        generalize hv_v6 : (iMax a2 (1 + x5)) = v6
        replace h := h v6 hv_v6.symm
        refine aw_istore_n dX0_mostOf_44 rfl (by decide) (aw_pc (pc' := 45) rfl ?_)
        exact aw_mask [true, true, true, true, true] (tX0_mostOf_J45 (fun o' a1' a2' a3' a4' F' h' => ih o' a1' a2' a3' a4' F' h') h)
    · replace h := h.2 c
      refine aw_iload_n dX0_mostOf_51 rfl rfl (aw_pc (pc' := 52) rfl ?_)
      exact aw_iret rfl dX0_mostOf_52 ⟨_, rfl, h⟩
def mX0_mostOf (o : Nat) (a1 : Int) (F : hp) (Q : Int → hp → Prop) : Prop := ∀ v1 : Int, v1 = (iAnd a1 (-a1)) → (∃ k2, mX0_mostOf_L10 Q k2 o a1 1 v1 1 F)
set_option maxHeartbeats 4000000 in
theorem tX0_mostOf {d : Nat} {o : Nat} {a1 : Int} {F : hp} {Q : Int → hp → Prop} (h : mX0_mostOf o a1 F Q) : am nX0_mostOf (d + 1) 0 0 [vr (some o), vi a1] F (qI Q) := by
  refine am_of (by decide +kernel) (Nat.le_of_ble_eq_true rfl) ?_
  show aw nX0_mostOf (d + 1) 0 0 0 [some (vr (some o)), some (vi a1), none, none, none] [] F (qI Q)
  unfold mX0_mostOf at h
  refine aw_iconst dX0_mostOf_0 (aw_pc (pc' := 1) rfl ?_)
  refine aw_istore_n dX0_mostOf_1 rfl (by decide) (aw_pc (pc' := 2) rfl ?_)
  refine aw_iload_n dX0_mostOf_2 rfl rfl (aw_pc (pc' := 3) rfl ?_)
  refine aw_iload_n dX0_mostOf_3 rfl rfl (aw_pc (pc' := 4) rfl ?_)
  refine aw_ineg dX0_mostOf_4 (aw_pc (pc' := 5) rfl ?_)
  refine aw_iand dX0_mostOf_5 (aw_pc (pc' := 6) rfl ?_)
  generalize hv_v1 : (iAnd a1 (-a1)) = v1
  replace h := h v1 hv_v1.symm
  refine aw_istore_n dX0_mostOf_6 rfl (by decide) (aw_pc (pc' := 7) rfl ?_)
  refine aw_iconst dX0_mostOf_7 (aw_pc (pc' := 8) rfl ?_)
  refine aw_istore dX0_mostOf_8 (by decide) (aw_pc (pc' := 10) rfl ?_)
  obtain ⟨k2, h⟩ := h
  exact aw_mask [true, true, true, true, true] (tX0_mostOf_L10 k2 _ _ _ _ _ _ h)
def mX0_weighSets_J42 (X2 : Nat → Option Nat → Int → hp → Prop) (Q : hp → Prop) (o : Nat) (a1 : Option Nat) (a2 : Int) (s0 : Option Nat) (s1 : Int) (s2 : Int) (F : hp) : Prop := sI F s0 0 s1 s2 (fun F1 => X2 o a1 (a2 + 1) F1)
set_option maxHeartbeats 4000000 in
theorem tX0_weighSets_J42 {d : Nat} {X2 : Nat → Option Nat → Int → hp → Prop} {Q : hp → Prop} (hX2 : ∀ (o : Nat) (a1 : Option Nat) (a2 : Int) (F : hp), X2 o a1 a2 F → aw nX0_weighSets (d + 2) 0 0 2 [some (vr (some o)), some (vr a1), some (vi a2)] [] F (qV Q)) {o : Nat} {a1 : Option Nat} {a2 : Int} {s0 : Option Nat} {s1 : Int} {s2 : Int} {F : hp} (h : mX0_weighSets_J42 X2 Q o a1 a2 s0 s1 s2 F) : aw nX0_weighSets (d + 2) 0 0 42 [some (vr (some o)), some (vr a1), some (vi a2)] [vi s2, vi s1, vr s0] F (qV Q) := by
  unfold mX0_weighSets_J42 at h
  refine ar_sI dX0_weighSets_42 h ?_
  clear h
  intro F1 h
  refine aw_pc (pc' := 43) rfl ?_
  refine aw_iinc dX0_weighSets_43 rfl (by decide) (aw_pc (pc' := 46) rfl ?_)
  refine aw_goto (tgt := 2) dX0_weighSets_46 rfl ?_
  exact aw_mask [true, true, true] (hX2 _ _ _ _ h)
def mX0_weighSets_L2 (Q : hp → Prop) : Nat → Nat → Option Nat → Int → hp → Prop
  | 0, _, _, _, _ => False
  | k + 1, o, a1, a2, F => (w32 a2 < 64 → gR F (some o) 0 0 (fun x1 => mX0_sumOf a2 a1 F (fun x3 F2 => sI F2 x1 0 a2 x3 (fun F4 => gR F4 (some o) 0 1 (fun x5 => gR F4 (some o) 0 0 (fun x6 => aI F4 x6 0 a2 (fun x7 => (w32 x7 = 0 → rcv F4 (some o) 0 (fun o10 => mX0_mostOf o10 a2 F4 (fun x9 F8 => mX0_weighSets_J42 (fun o' a1' a2' F' => mX0_weighSets_L2 Q k o' a1' a2' F') Q o a1 a2 x5 a2 x9 F8))) ∧ (¬ w32 x7 = 0 → mX0_weighSets_J42 (fun o' a1' a2' F' => mX0_weighSets_L2 Q k o' a1' a2' F') Q o a1 a2 x5 a2 (-1) F4)))))))) ∧ (¬ w32 a2 < 64 → Q F)
set_option maxHeartbeats 4000000 in
theorem tX0_weighSets_L2 {d : Nat} {Q : hp → Prop} : ∀ (k : Nat) (o : Nat) (a1 : Option Nat) (a2 : Int) (F : hp), mX0_weighSets_L2 Q k o a1 a2 F → aw nX0_weighSets (d + 2) 0 0 2 [some (vr (some o)), some (vr a1), some (vi a2)] [] F (qV Q) := by
  intro k
  induction k with
  | zero => intro o a1 a2 F h; exact h.elim
  | succ k ih =>
    intro o a1 a2 F h
    simp only [mX0_weighSets_L2] at h
    refine aw_iload_n dX0_weighSets_2 rfl rfl (aw_pc (pc' := 3) rfl ?_)
    refine aw_bipush dX0_weighSets_3 (by decide) (aw_pc (pc' := 5) rfl ?_)
    refine ac_ge rfl wl_64 dX0_weighSets_5 rfl (fun c => ?_) (fun c => ?_)
    · replace h := h.1 c
      refine aw_aload_n dX0_weighSets_8 rfl rfl (aw_pc (pc' := 9) rfl ?_)
      refine ar_gR fl_RX0_11 dX0_weighSets_9 h ?_
      clear h
      intro x1 h
      refine aw_pc (pc' := 12) rfl ?_
      refine aw_iload_n dX0_weighSets_12 rfl rfl (aw_pc (pc' := 13) rfl ?_)
      refine aw_iload_n dX0_weighSets_13 rfl rfl (aw_pc (pc' := 14) rfl ?_)
      refine aw_aload_n dX0_weighSets_14 rfl rfl (aw_pc (pc' := 15) rfl ?_)
      refine ar_SI (kc' := 0) (ks' := 0) (kc := 0) (ks := 0) (as := [vi a2, vr a1]) (st := [vi a2, vr x1]) (tX0_sumOf h) mt_X0_sumOf qM_RX0_26 qS_X0_sumOf rfl (Nat.le_of_ble_eq_true rfl) dX0_weighSets_15 ?_
      clear h
      intro x3 F2 h
      refine aw_pc (pc' := 18) rfl ?_
      refine ar_sI dX0_weighSets_18 h ?_
      clear h
      intro F4 h
      refine aw_pc (pc' := 19) rfl ?_
      refine aw_aload_n dX0_weighSets_19 rfl rfl (aw_pc (pc' := 20) rfl ?_)
      refine ar_gR fl_RX0_15 dX0_weighSets_20 h ?_
      clear h
      intro x5 h
      refine aw_pc (pc' := 23) rfl ?_
      refine aw_iload_n dX0_weighSets_23 rfl rfl (aw_pc (pc' := 24) rfl ?_)
      refine aw_aload_n dX0_weighSets_24 rfl rfl (aw_pc (pc' := 25) rfl ?_)
      refine ar_gR fl_RX0_11 dX0_weighSets_25 h ?_
      clear h
      intro x6 h
      refine aw_pc (pc' := 28) rfl ?_
      refine aw_iload_n dX0_weighSets_28 rfl rfl (aw_pc (pc' := 29) rfl ?_)
      refine ar_aI dX0_weighSets_29 h ?_
      clear h
      intro x7 h
      refine aw_pc (pc' := 30) rfl ?_
      refine aw_if_ne dX0_weighSets_30 rfl (fun c => ?_) (fun c => ?_)
      · replace h := h.1 c
        refine aw_aload_n dX0_weighSets_33 rfl rfl (aw_pc (pc' := 34) rfl ?_)
        refine aw_iload_n dX0_weighSets_34 rfl rfl (aw_pc (pc' := 35) rfl ?_)
        have h0 := rcv_inv h
        clear h
        obtain ⟨o10, fs_o10, hr_o10, he_o10, h⟩ := h0
        obtain rfl : o = o10 := Option.some.inj hr_o10
        refine ar_VI (kc' := 0) (ks' := 0) (kc := 0) (ks := 0) (a := o) (ci := 0) (as := [vi a2]) (st := [vi a2, vr x5]) (tX0_mostOf h) mt_X0_mostOf rfl qM_RX0_30 qI_X0_mostOf qV_X0_mostOf he_o10 rfl (Nat.le_of_ble_eq_true rfl) dX0_weighSets_35 ?_
        clear h
        intro x9 F8 h
        refine aw_pc (pc' := 38) rfl ?_
        refine aw_goto (tgt := 42) dX0_weighSets_38 rfl ?_
        exact aw_mask [true, true, true] (tX0_weighSets_J42 (fun o' a1' a2' F' h' => ih o' a1' a2' F' h') h)
      · replace h := h.2 c
        refine aw_iconst dX0_weighSets_41 (aw_pc (pc' := 42) rfl ?_)
        exact aw_mask [true, true, true] (tX0_weighSets_J42 (fun o' a1' a2' F' h' => ih o' a1' a2' F' h') h)
    · replace h := h.2 c
      exact aw_vret rfl dX0_weighSets_49 ⟨rfl, h⟩
def mX0_weighSets (o : Nat) (a1 : Option Nat) (F : hp) (Q : hp → Prop) : Prop := (∃ k1, mX0_weighSets_L2 Q k1 o a1 1 F)
set_option maxHeartbeats 4000000 in
theorem tX0_weighSets {d : Nat} {o : Nat} {a1 : Option Nat} {F : hp} {Q : hp → Prop} (h : mX0_weighSets o a1 F Q) : am nX0_weighSets (d + 2) 0 0 [vr (some o), vr a1] F (qV Q) := by
  refine am_of (by decide +kernel) (Nat.le_of_ble_eq_true rfl) ?_
  show aw nX0_weighSets (d + 2) 0 0 0 [some (vr (some o)), some (vr a1), none] [] F (qV Q)
  unfold mX0_weighSets at h
  refine aw_iconst dX0_weighSets_0 (aw_pc (pc' := 1) rfl ?_)
  refine aw_istore_n dX0_weighSets_1 rfl (by decide) (aw_pc (pc' := 2) rfl ?_)
  obtain ⟨k1, h⟩ := h
  exact aw_mask [true, true, true] (tX0_weighSets_L2 k1 _ _ _ _ h)
def mX0_mostGroups (o : Nat) (a1 : Option Nat) (F : hp) (Q : Int → hp → Prop) : Prop := rcv F (some o) 0 (fun o2 => mX0_weighSets o2 a1 F (fun F1 => gR F1 (some o) 0 1 (fun x3 => aI F1 x3 0 63 (fun x4 => Q x4 F1))))
set_option maxHeartbeats 4000000 in
theorem tX0_mostGroups {d : Nat} {o : Nat} {a1 : Option Nat} {F : hp} {Q : Int → hp → Prop} (h : mX0_mostGroups o a1 F Q) : am nX0_mostGroups (d + 3) 0 0 [vr (some o), vr a1] F (qI Q) := by
  refine am_of (by decide +kernel) (Nat.le_of_ble_eq_true rfl) ?_
  show aw nX0_mostGroups (d + 3) 0 0 0 [some (vr (some o)), some (vr a1)] [] F (qI Q)
  unfold mX0_mostGroups at h
  refine aw_aload_n dX0_mostGroups_0 rfl rfl (aw_pc (pc' := 1) rfl ?_)
  refine aw_aload_n dX0_mostGroups_1 rfl rfl (aw_pc (pc' := 2) rfl ?_)
  have h0 := rcv_inv h
  clear h
  obtain ⟨o2, fs_o2, hr_o2, he_o2, h⟩ := h0
  obtain rfl : o = o2 := Option.some.inj hr_o2
  refine ar_VV (kc' := 0) (ks' := 0) (kc := 0) (ks := 0) (a := o) (ci := 0) (as := [vr a1]) (st := []) (tX0_weighSets h) mt_X0_weighSets rfl qM_RX0_18 qI_X0_weighSets qV_X0_weighSets he_o2 rfl (Nat.le_of_ble_eq_true rfl) dX0_mostGroups_2 ?_
  clear h
  intro F1 h
  refine aw_pc (pc' := 5) rfl ?_
  refine aw_aload_n dX0_mostGroups_5 rfl rfl (aw_pc (pc' := 6) rfl ?_)
  refine ar_gR fl_RX0_15 dX0_mostGroups_6 h ?_
  clear h
  intro x3 h
  refine aw_pc (pc' := 9) rfl ?_
  refine aw_bipush dX0_mostGroups_9 (by decide) (aw_pc (pc' := 11) rfl ?_)
  refine ar_aI dX0_mostGroups_11 h ?_
  clear h
  intro x4 h
  refine aw_pc (pc' := 12) rfl ?_
  exact aw_iret rfl dX0_mostGroups_12 ⟨_, rfl, h⟩
def mX0_lowestGroup_J45 (X7 : Nat → Int → Int → Int → hp → Prop) (Q : Int → hp → Prop) (o : Nat) (a1 : Int) (a2 : Int) (a3 : Int) (F : hp) : Prop := X7 o a1 a2 (a3 + 1) F
set_option maxHeartbeats 4000000 in
theorem tX0_lowestGroup_J45 {d : Nat} {X7 : Nat → Int → Int → Int → hp → Prop} {Q : Int → hp → Prop} (hX7 : ∀ (o : Nat) (a1 : Int) (a2 : Int) (a3 : Int) (F : hp), X7 o a1 a2 a3 F → aw nX0_lowestGroup (d + 1) 0 0 7 [some (vr (some o)), some (vi a1), some (vi a2), some (vi a3)] [] F (qI Q)) {o : Nat} {a1 : Int} {a2 : Int} {a3 : Int} {F : hp} (h : mX0_lowestGroup_J45 X7 Q o a1 a2 a3 F) : aw nX0_lowestGroup (d + 1) 0 0 45 [some (vr (some o)), some (vi a1), some (vi a2), some (vi a3)] [] F (qI Q) := by
  unfold mX0_lowestGroup_J45 at h
  refine aw_iinc dX0_lowestGroup_45 rfl (by decide) (aw_pc (pc' := 48) rfl ?_)
  refine aw_goto (tgt := 7) dX0_lowestGroup_48 rfl ?_
  exact aw_mask [true, true, true, true] (hX7 _ _ _ _ _ h)
def mX0_lowestGroup_L7 (Q : Int → hp → Prop) : Nat → Nat → Int → Int → Int → hp → Prop
  | 0, _, _, _, _, _ => False
  | k + 1, o, a1, a2, a3, F => (w32 a3 < w32 a1 → rcv F (some o) 0 (fun o3 => mX0_isGroupOf o3 a1 a3 a2 F (fun x2 F1 => (w32 x2 = 0 → mX0_lowestGroup_J45 (fun o' a1' a2' a3' F' => mX0_lowestGroup_L7 Q k o' a1' a2' a3' F') Q o a1 a2 a3 F1) ∧ (¬ w32 x2 = 0 → gR F1 (some o) 0 1 (fun x4 => aI F1 x4 0 (iAnd a1 (iXor a3 (-1))) (fun x5 => gR F1 (some o) 0 1 (fun x6 => aI F1 x6 0 a1 (fun x7 => (w32 (1 + x5) = w32 x7 → Q a3 F1) ∧ (¬ w32 (1 + x5) = w32 x7 → mX0_lowestGroup_J45 (fun o' a1' a2' a3' F' => mX0_lowestGroup_L7 Q k o' a1' a2' a3' F') Q o a1 a2 a3 F1))))))))) ∧ (¬ w32 a3 < w32 a1 → Q a1 F)
set_option maxHeartbeats 4000000 in
theorem tX0_lowestGroup_L7 {d : Nat} {Q : Int → hp → Prop} : ∀ (k : Nat) (o : Nat) (a1 : Int) (a2 : Int) (a3 : Int) (F : hp), mX0_lowestGroup_L7 Q k o a1 a2 a3 F → aw nX0_lowestGroup (d + 1) 0 0 7 [some (vr (some o)), some (vi a1), some (vi a2), some (vi a3)] [] F (qI Q) := by
  intro k
  induction k with
  | zero => intro o a1 a2 a3 F h; exact h.elim
  | succ k ih =>
    intro o a1 a2 a3 F h
    simp only [mX0_lowestGroup_L7] at h
    refine aw_iload_n dX0_lowestGroup_7 rfl rfl (aw_pc (pc' := 8) rfl ?_)
    refine aw_iload_n dX0_lowestGroup_8 rfl rfl (aw_pc (pc' := 9) rfl ?_)
    refine ac_ge rfl rfl dX0_lowestGroup_9 rfl (fun c => ?_) (fun c => ?_)
    · replace h := h.1 c
      refine aw_aload_n dX0_lowestGroup_12 rfl rfl (aw_pc (pc' := 13) rfl ?_)
      refine aw_iload_n dX0_lowestGroup_13 rfl rfl (aw_pc (pc' := 14) rfl ?_)
      refine aw_iload_n dX0_lowestGroup_14 rfl rfl (aw_pc (pc' := 15) rfl ?_)
      refine aw_iload_n dX0_lowestGroup_15 rfl rfl (aw_pc (pc' := 16) rfl ?_)
      have h0 := rcv_inv h
      clear h
      obtain ⟨o3, fs_o3, hr_o3, he_o3, h⟩ := h0
      obtain rfl : o = o3 := Option.some.inj hr_o3
      refine ar_VI (kc' := 0) (ks' := 0) (kc := 0) (ks := 0) (a := o) (ci := 0) (as := [vi a1, vi a3, vi a2]) (st := []) (tX0_isGroupOf h) mt_X0_isGroupOf rfl qM_RX0_33 qI_X0_isGroupOf qV_X0_isGroupOf he_o3 rfl (Nat.le_of_ble_eq_true rfl) dX0_lowestGroup_16 ?_
      clear h
      intro x2 F1 h
      refine aw_pc (pc' := 19) rfl ?_
      refine aw_if_eq dX0_lowestGroup_19 rfl (fun c => ?_) (fun c => ?_)
      · replace h := h.1 c
        exact aw_mask [true, true, true, true] (tX0_lowestGroup_J45 (fun o' a1' a2' a3' F' h' => ih o' a1' a2' a3' F' h') h)
      · replace h := h.2 c
        refine aw_iconst dX0_lowestGroup_22 (aw_pc (pc' := 23) rfl ?_)
        refine aw_aload_n dX0_lowestGroup_23 rfl rfl (aw_pc (pc' := 24) rfl ?_)
        refine ar_gR fl_RX0_15 dX0_lowestGroup_24 h ?_
        clear h
        intro x4 h
        refine aw_pc (pc' := 27) rfl ?_
        refine aw_iload_n dX0_lowestGroup_27 rfl rfl (aw_pc (pc' := 28) rfl ?_)
        refine aw_iload_n dX0_lowestGroup_28 rfl rfl (aw_pc (pc' := 29) rfl ?_)
        refine aw_iconst dX0_lowestGroup_29 (aw_pc (pc' := 30) rfl ?_)
        refine aw_ixor dX0_lowestGroup_30 (aw_pc (pc' := 31) rfl ?_)
        refine aw_iand dX0_lowestGroup_31 (aw_pc (pc' := 32) rfl ?_)
        refine ar_aI dX0_lowestGroup_32 h ?_
        clear h
        intro x5 h
        refine aw_pc (pc' := 33) rfl ?_
        refine aw_iadd dX0_lowestGroup_33 (aw_pc (pc' := 34) rfl ?_)
        refine aw_aload_n dX0_lowestGroup_34 rfl rfl (aw_pc (pc' := 35) rfl ?_)
        refine ar_gR fl_RX0_15 dX0_lowestGroup_35 h ?_
        clear h
        intro x6 h
        refine aw_pc (pc' := 38) rfl ?_
        refine aw_iload_n dX0_lowestGroup_38 rfl rfl (aw_pc (pc' := 39) rfl ?_)
        refine ar_aI dX0_lowestGroup_39 h ?_
        clear h
        intro x7 h
        refine aw_pc (pc' := 40) rfl ?_
        refine ac_ne rfl rfl dX0_lowestGroup_40 rfl (fun c => ?_) (fun c => ?_)
        · replace h := h.1 c
          refine aw_iload_n dX0_lowestGroup_43 rfl rfl (aw_pc (pc' := 44) rfl ?_)
          exact aw_iret rfl dX0_lowestGroup_44 ⟨_, rfl, h⟩
        · replace h := h.2 c
          exact aw_mask [true, true, true, true] (tX0_lowestGroup_J45 (fun o' a1' a2' a3' F' h' => ih o' a1' a2' a3' F' h') h)
    · replace h := h.2 c
      refine aw_iload_n dX0_lowestGroup_51 rfl rfl (aw_pc (pc' := 52) rfl ?_)
      exact aw_iret rfl dX0_lowestGroup_52 ⟨_, rfl, h⟩
def mX0_lowestGroup (o : Nat) (a1 : Int) (F : hp) (Q : Int → hp → Prop) : Prop := ∀ v1 : Int, v1 = (iAnd a1 (-a1)) → (∃ k2, mX0_lowestGroup_L7 Q k2 o a1 v1 1 F)
set_option maxHeartbeats 4000000 in
theorem tX0_lowestGroup {d : Nat} {o : Nat} {a1 : Int} {F : hp} {Q : Int → hp → Prop} (h : mX0_lowestGroup o a1 F Q) : am nX0_lowestGroup (d + 1) 0 0 [vr (some o), vi a1] F (qI Q) := by
  refine am_of (by decide +kernel) (Nat.le_of_ble_eq_true rfl) ?_
  show aw nX0_lowestGroup (d + 1) 0 0 0 [some (vr (some o)), some (vi a1), none, none] [] F (qI Q)
  unfold mX0_lowestGroup at h
  refine aw_iload_n dX0_lowestGroup_0 rfl rfl (aw_pc (pc' := 1) rfl ?_)
  refine aw_iload_n dX0_lowestGroup_1 rfl rfl (aw_pc (pc' := 2) rfl ?_)
  refine aw_ineg dX0_lowestGroup_2 (aw_pc (pc' := 3) rfl ?_)
  refine aw_iand dX0_lowestGroup_3 (aw_pc (pc' := 4) rfl ?_)
  generalize hv_v1 : (iAnd a1 (-a1)) = v1
  replace h := h v1 hv_v1.symm
  refine aw_istore_n dX0_lowestGroup_4 rfl (by decide) (aw_pc (pc' := 5) rfl ?_)
  refine aw_iconst dX0_lowestGroup_5 (aw_pc (pc' := 6) rfl ?_)
  refine aw_istore_n dX0_lowestGroup_6 rfl (by decide) (aw_pc (pc' := 7) rfl ?_)
  obtain ⟨k2, h⟩ := h
  exact aw_mask [true, true, true, true] (tX0_lowestGroup_L7 k2 _ _ _ _ _ h)
def mX0_groupOf_L11 (Q : Int → hp → Prop) : Nat → Nat → Int → Int → Int → hp → Prop
  | 0, _, _, _, _, _ => False
  | k + 1, o, a1, a3, a4, F => (w32 a4 < 6 → (w32 a3 = 0 → Q (-1) F) ∧ (¬ w32 a3 = 0 → rcv F (some o) 0 (fun o3 => mX0_lowestGroup o3 a3 F (fun x2 F1 => (w32 (iAnd (iShr x2 a1) 1) = 0 → ∀ v4 : Int, v4 = (iAnd a3 (iXor x2 (-1))) → mX0_groupOf_L11 Q k o a1 v4 (a4 + 1) F1) ∧ (¬ w32 (iAnd (iShr x2 a1) 1) = 0 → Q x2 F1))))) ∧ (¬ w32 a4 < 6 → Q (-1) F)
set_option maxHeartbeats 4000000 in
theorem tX0_groupOf_L11 {d : Nat} {Q : Int → hp → Prop} : ∀ (k : Nat) (o : Nat) (a1 : Int) (a3 : Int) (a4 : Int) (F : hp), mX0_groupOf_L11 Q k o a1 a3 a4 F → aw nX0_groupOf (d + 3) 0 0 11 [some (vr (some o)), some (vi a1), none, some (vi a3), some (vi a4), none] [] F (qI Q) := by
  intro k
  induction k with
  | zero => intro o a1 a3 a4 F h; exact h.elim
  | succ k ih =>
    intro o a1 a3 a4 F h
    simp only [mX0_groupOf_L11] at h
    refine aw_iload dX0_groupOf_11 rfl (aw_pc (pc' := 13) rfl ?_)
    refine aw_bipush dX0_groupOf_13 (by decide) (aw_pc (pc' := 15) rfl ?_)
    refine ac_ge rfl wl_6 dX0_groupOf_15 rfl (fun c => ?_) (fun c => ?_)
    · replace h := h.1 c
      refine aw_iload_n dX0_groupOf_18 rfl rfl (aw_pc (pc' := 19) rfl ?_)
      refine aw_if_eq dX0_groupOf_19 rfl (fun c => ?_) (fun c => ?_)
      · replace h := h.1 c
        refine aw_iconst dX0_groupOf_54 (aw_pc (pc' := 55) rfl ?_)
        exact aw_iret rfl dX0_groupOf_55 ⟨_, rfl, h⟩
      · replace h := h.2 c
        refine aw_aload_n dX0_groupOf_22 rfl rfl (aw_pc (pc' := 23) rfl ?_)
        refine aw_iload_n dX0_groupOf_23 rfl rfl (aw_pc (pc' := 24) rfl ?_)
        have h0 := rcv_inv h
        clear h
        obtain ⟨o3, fs_o3, hr_o3, he_o3, h⟩ := h0
        obtain rfl : o = o3 := Option.some.inj hr_o3
        refine ar_VI (kc' := 0) (ks' := 0) (kc := 0) (ks := 0) (a := o) (ci := 0) (as := [vi a3]) (st := []) (tX0_lowestGroup h) mt_X0_lowestGroup rfl qM_RX0_22 qI_X0_lowestGroup qV_X0_lowestGroup he_o3 rfl (Nat.le_of_ble_eq_true rfl) dX0_groupOf_24 ?_
        clear h
        intro x2 F1 h
        refine aw_pc (pc' := 27) rfl ?_
        refine aw_istore dX0_groupOf_27 (by decide) (aw_pc (pc' := 29) rfl ?_)
        refine aw_iload dX0_groupOf_29 rfl (aw_pc (pc' := 31) rfl ?_)
        refine aw_iload_n dX0_groupOf_31 rfl rfl (aw_pc (pc' := 32) rfl ?_)
        refine aw_ishr dX0_groupOf_32 (aw_pc (pc' := 33) rfl ?_)
        refine aw_iconst dX0_groupOf_33 (aw_pc (pc' := 34) rfl ?_)
        refine aw_iand dX0_groupOf_34 (aw_pc (pc' := 35) rfl ?_)
        refine aw_if_eq dX0_groupOf_35 rfl (fun c => ?_) (fun c => ?_)
        · replace h := h.1 c
          refine aw_iload_n dX0_groupOf_41 rfl rfl (aw_pc (pc' := 42) rfl ?_)
          refine aw_iload dX0_groupOf_42 rfl (aw_pc (pc' := 44) rfl ?_)
          refine aw_iconst dX0_groupOf_44 (aw_pc (pc' := 45) rfl ?_)
          refine aw_ixor dX0_groupOf_45 (aw_pc (pc' := 46) rfl ?_)
          refine aw_iand dX0_groupOf_46 (aw_pc (pc' := 47) rfl ?_)
          generalize hv_v4 : (iAnd a3 (iXor x2 (-1))) = v4
          replace h := h v4 hv_v4.symm
          refine aw_istore_n dX0_groupOf_47 rfl (by decide) (aw_pc (pc' := 48) rfl ?_)
          refine aw_iinc dX0_groupOf_48 rfl (by decide) (aw_pc (pc' := 51) rfl ?_)
          refine aw_goto (tgt := 11) dX0_groupOf_51 rfl ?_
          exact aw_mask [true, true, false, true, true, false] (ih _ _ _ _ _ h)
        · replace h := h.2 c
          refine aw_iload dX0_groupOf_38 rfl (aw_pc (pc' := 40) rfl ?_)
          exact aw_iret rfl dX0_groupOf_40 ⟨_, rfl, h⟩
    · replace h := h.2 c
      refine aw_iconst dX0_groupOf_54 (aw_pc (pc' := 55) rfl ?_)
      exact aw_iret rfl dX0_groupOf_55 ⟨_, rfl, h⟩
def mX0_groupOf (o : Nat) (a1 : Int) (a2 : Option Nat) (F : hp) (Q : Int → hp → Prop) : Prop := rcv F (some o) 0 (fun o2 => mX0_weighSets o2 a2 F (fun F1 => (∃ k3, mX0_groupOf_L11 Q k3 o a1 63 0 F1)))
set_option maxHeartbeats 4000000 in
theorem tX0_groupOf {d : Nat} {o : Nat} {a1 : Int} {a2 : Option Nat} {F : hp} {Q : Int → hp → Prop} (h : mX0_groupOf o a1 a2 F Q) : am nX0_groupOf (d + 3) 0 0 [vr (some o), vi a1, vr a2] F (qI Q) := by
  refine am_of (by decide +kernel) (Nat.le_of_ble_eq_true rfl) ?_
  show aw nX0_groupOf (d + 3) 0 0 0 [some (vr (some o)), some (vi a1), some (vr a2), none, none, none] [] F (qI Q)
  unfold mX0_groupOf at h
  refine aw_aload_n dX0_groupOf_0 rfl rfl (aw_pc (pc' := 1) rfl ?_)
  refine aw_aload_n dX0_groupOf_1 rfl rfl (aw_pc (pc' := 2) rfl ?_)
  have h0 := rcv_inv h
  clear h
  obtain ⟨o2, fs_o2, hr_o2, he_o2, h⟩ := h0
  obtain rfl : o = o2 := Option.some.inj hr_o2
  refine ar_VV (kc' := 0) (ks' := 0) (kc := 0) (ks := 0) (a := o) (ci := 0) (as := [vr a2]) (st := []) (tX0_weighSets h) mt_X0_weighSets rfl qM_RX0_18 qI_X0_weighSets qV_X0_weighSets he_o2 rfl (Nat.le_of_ble_eq_true rfl) dX0_groupOf_2 ?_
  clear h
  intro F1 h
  refine aw_pc (pc' := 5) rfl ?_
  refine aw_bipush dX0_groupOf_5 (by decide) (aw_pc (pc' := 7) rfl ?_)
  refine aw_istore_n dX0_groupOf_7 rfl (by decide) (aw_pc (pc' := 8) rfl ?_)
  refine aw_iconst dX0_groupOf_8 (aw_pc (pc' := 9) rfl ?_)
  refine aw_istore dX0_groupOf_9 (by decide) (aw_pc (pc' := 11) rfl ?_)
  obtain ⟨k3, h⟩ := h
  exact aw_mask [true, true, false, true, true, false] (tX0_groupOf_L11 k3 _ _ _ _ _ h)
def mX1_init (o : Nat) (F : hp) (Q : hp → Prop) : Prop := nwc F (cA 0 5 (fun _ => 0)) (fun n1 F2 => pF F2 (some o) 1 0 (vr (some n1)) (fun F3 => Q F3))
set_option maxHeartbeats 4000000 in
theorem tX1_init {d : Nat} {o : Nat} {F : hp} {Q : hp → Prop} (h : mX1_init o F Q) : am nX1_init (d + 1) 1 5 [vr (some o)] F (qV Q) := by
  refine am_of (by decide +kernel) (Nat.le_of_ble_eq_true rfl) ?_
  show aw nX1_init (d + 1) 1 5 0 [some (vr (some o))] [] F (qV Q)
  unfold mX1_init at h
  refine aw_aload_n dX1_init_0 rfl rfl (aw_pc (pc' := 1) rfl ?_)
  refine aw_obj qM_RX1_3 mw_obj (Nat.le_of_ble_eq_true rfl) dX1_init_1 (aw_pc (pc' := 4) rfl ?_)
  refine aw_aload_n dX1_init_4 rfl rfl (aw_pc (pc' := 5) rfl ?_)
  refine aw_iconst dX1_init_5 (aw_pc (pc' := 6) rfl ?_)
  refine ar_newarr (k := 0) (kc := 0) (ks := 0) (ms := 5) (Or.inl rfl) rfl qY_int (by decide) dX1_init_6 h ?_
  clear h
  intro n1 F2 h
  refine aw_pc (pc' := 8) rfl ?_
  refine ar_pFF fl_RX1_9 ft_X1_0 rfl rfl (okA _ _) dX1_init_8 h ?_
  clear h
  intro F3 h
  refine aw_pc (pc' := 11) rfl ?_
  exact aw_vret rfl dX1_init_11 ⟨rfl, h⟩
def mX1_countRows_L4 (Q : Int → hp → Prop) : Nat → Int → Int → Int → hp → Prop
  | 0, _, _, _, _ => False
  | k + 1, a0, a1, a2, F => (w32 a0 < w32 a2 → Q a1 F) ∧ (¬ w32 a0 < w32 a2 → ∀ v1 : Int, v1 = (a1 * a2) → mX1_countRows_L4 Q k a0 v1 (a2 + 1) F)
set_option maxHeartbeats 4000000 in
theorem tX1_countRows_L4 {d : Nat} {Q : Int → hp → Prop} : ∀ (k : Nat) (a0 : Int) (a1 : Int) (a2 : Int) (F : hp), mX1_countRows_L4 Q k a0 a1 a2 F → aw nX1_countRows d 0 0 4 [some (vi a0), some (vi a1), some (vi a2)] [] F (qI Q) := by
  intro k
  induction k with
  | zero => intro a0 a1 a2 F h; exact h.elim
  | succ k ih =>
    intro a0 a1 a2 F h
    simp only [mX1_countRows_L4] at h
    refine aw_iload_n dX1_countRows_4 rfl rfl (aw_pc (pc' := 5) rfl ?_)
    refine aw_iload_n dX1_countRows_5 rfl rfl (aw_pc (pc' := 6) rfl ?_)
    refine ac_gt rfl rfl dX1_countRows_6 rfl (fun c => ?_) (fun c => ?_)
    · replace h := h.1 c
      refine aw_iload_n dX1_countRows_19 rfl rfl (aw_pc (pc' := 20) rfl ?_)
      exact aw_iret rfl dX1_countRows_20 ⟨_, rfl, h⟩
    · replace h := h.2 c
      refine aw_iload_n dX1_countRows_9 rfl rfl (aw_pc (pc' := 10) rfl ?_)
      refine aw_iload_n dX1_countRows_10 rfl rfl (aw_pc (pc' := 11) rfl ?_)
      refine aw_imul dX1_countRows_11 (aw_pc (pc' := 12) rfl ?_)
      generalize hv_v1 : (a1 * a2) = v1
      replace h := h v1 hv_v1.symm
      refine aw_istore_n dX1_countRows_12 rfl (by decide) (aw_pc (pc' := 13) rfl ?_)
      refine aw_iinc dX1_countRows_13 rfl (by decide) (aw_pc (pc' := 16) rfl ?_)
      refine aw_goto (tgt := 4) dX1_countRows_16 rfl ?_
      exact aw_mask [true, true, true] (ih _ _ _ _ h)
def mX1_countRows (a0 : Int) (F : hp) (Q : Int → hp → Prop) : Prop := (∃ k1, mX1_countRows_L4 Q k1 a0 1 2 F)
set_option maxHeartbeats 4000000 in
theorem tX1_countRows {d : Nat} {a0 : Int} {F : hp} {Q : Int → hp → Prop} (h : mX1_countRows a0 F Q) : am nX1_countRows d 0 0 [vi a0] F (qI Q) := by
  refine am_of (by decide +kernel) (Nat.le_of_ble_eq_true rfl) ?_
  show aw nX1_countRows d 0 0 0 [some (vi a0), none, none] [] F (qI Q)
  unfold mX1_countRows at h
  refine aw_iconst dX1_countRows_0 (aw_pc (pc' := 1) rfl ?_)
  refine aw_istore_n dX1_countRows_1 rfl (by decide) (aw_pc (pc' := 2) rfl ?_)
  refine aw_iconst dX1_countRows_2 (aw_pc (pc' := 3) rfl ?_)
  refine aw_istore_n dX1_countRows_3 rfl (by decide) (aw_pc (pc' := 4) rfl ?_)
  obtain ⟨k1, h⟩ := h
  exact aw_mask [true, true, true] (tX1_countRows_L4 k1 _ _ _ _ h)
def mX1_carBehind_J27 (X4 : Int → Int → Int → Int → hp → Prop) (Q : Int → hp → Prop) (a0 : Int) (a1 : Int) (a2 : Int) (a3 : Int) (F : hp) : Prop := X4 a0 a1 a2 (a3 + 1) F
set_option maxHeartbeats 4000000 in
theorem tX1_carBehind_J27 {d : Nat} {X4 : Int → Int → Int → Int → hp → Prop} {Q : Int → hp → Prop} (hX4 : ∀ (a0 : Int) (a1 : Int) (a2 : Int) (a3 : Int) (F : hp), X4 a0 a1 a2 a3 F → aw nX1_carBehind d 0 0 4 [some (vi a0), some (vi a1), some (vi a2), some (vi a3)] [] F (qI Q)) {a0 : Int} {a1 : Int} {a2 : Int} {a3 : Int} {F : hp} (h : mX1_carBehind_J27 X4 Q a0 a1 a2 a3 F) : aw nX1_carBehind d 0 0 27 [some (vi a0), some (vi a1), some (vi a2), some (vi a3)] [] F (qI Q) := by
  unfold mX1_carBehind_J27 at h
  refine aw_iinc dX1_carBehind_27 rfl (by decide) (aw_pc (pc' := 30) rfl ?_)
  refine aw_goto (tgt := 4) dX1_carBehind_30 rfl ?_
  exact aw_mask [true, true, true, true] (hX4 _ _ _ _ _ h)
def mX1_carBehind_L4 (Q : Int → hp → Prop) : Nat → Int → Int → Int → Int → hp → Prop
  | 0, _, _, _, _, _ => False
  | k + 1, a0, a1, a2, a3, F => (w32 a3 < 5 → (w32 (iAnd (iShr a0 a3) 1) = 0 → mX1_carBehind_J27 (fun a0' a1' a2' a3' F' => mX1_carBehind_L4 Q k a0' a1' a2' a3' F') Q a0 a1 a2 a3 F) ∧ (¬ w32 (iAnd (iShr a0 a3) 1) = 0 → (w32 a2 = w32 a1 → Q a3 F) ∧ (¬ w32 a2 = w32 a1 → mX1_carBehind_J27 (fun a0' a1' a2' a3' F' => mX1_carBehind_L4 Q k a0' a1' a2' a3' F') Q a0 a1 (a2 + 1) a3 F))) ∧ (¬ w32 a3 < 5 → Q 0 F)
set_option maxHeartbeats 4000000 in
theorem tX1_carBehind_L4 {d : Nat} {Q : Int → hp → Prop} : ∀ (k : Nat) (a0 : Int) (a1 : Int) (a2 : Int) (a3 : Int) (F : hp), mX1_carBehind_L4 Q k a0 a1 a2 a3 F → aw nX1_carBehind d 0 0 4 [some (vi a0), some (vi a1), some (vi a2), some (vi a3)] [] F (qI Q) := by
  intro k
  induction k with
  | zero => intro a0 a1 a2 a3 F h; exact h.elim
  | succ k ih =>
    intro a0 a1 a2 a3 F h
    simp only [mX1_carBehind_L4] at h
    refine aw_iload_n dX1_carBehind_4 rfl rfl (aw_pc (pc' := 5) rfl ?_)
    refine aw_iconst dX1_carBehind_5 (aw_pc (pc' := 6) rfl ?_)
    refine ac_ge rfl wl_5 dX1_carBehind_6 rfl (fun c => ?_) (fun c => ?_)
    · replace h := h.1 c
      refine aw_iload_n dX1_carBehind_9 rfl rfl (aw_pc (pc' := 10) rfl ?_)
      refine aw_iload_n dX1_carBehind_10 rfl rfl (aw_pc (pc' := 11) rfl ?_)
      refine aw_ishr dX1_carBehind_11 (aw_pc (pc' := 12) rfl ?_)
      refine aw_iconst dX1_carBehind_12 (aw_pc (pc' := 13) rfl ?_)
      refine aw_iand dX1_carBehind_13 (aw_pc (pc' := 14) rfl ?_)
      refine aw_if_eq dX1_carBehind_14 rfl (fun c => ?_) (fun c => ?_)
      · replace h := h.1 c
        exact aw_mask [true, true, true, true] (tX1_carBehind_J27 (fun a0' a1' a2' a3' F' h' => ih a0' a1' a2' a3' F' h') h)
      · replace h := h.2 c
        refine aw_iload_n dX1_carBehind_17 rfl rfl (aw_pc (pc' := 18) rfl ?_)
        refine aw_iload_n dX1_carBehind_18 rfl rfl (aw_pc (pc' := 19) rfl ?_)
        refine ac_ne rfl rfl dX1_carBehind_19 rfl (fun c => ?_) (fun c => ?_)
        · replace h := h.1 c
          refine aw_iload_n dX1_carBehind_22 rfl rfl (aw_pc (pc' := 23) rfl ?_)
          exact aw_iret rfl dX1_carBehind_23 ⟨_, rfl, h⟩
        · replace h := h.2 c
          refine aw_iinc dX1_carBehind_24 rfl (by decide) (aw_pc (pc' := 27) rfl ?_)
          exact aw_mask [true, true, true, true] (tX1_carBehind_J27 (fun a0' a1' a2' a3' F' h' => ih a0' a1' a2' a3' F' h') h)
    · replace h := h.2 c
      refine aw_iconst dX1_carBehind_33 (aw_pc (pc' := 34) rfl ?_)
      exact aw_iret rfl dX1_carBehind_34 ⟨_, rfl, h⟩
def mX1_carBehind (a0 : Int) (a1 : Int) (F : hp) (Q : Int → hp → Prop) : Prop := (∃ k1, mX1_carBehind_L4 Q k1 a0 a1 0 0 F)
set_option maxHeartbeats 4000000 in
theorem tX1_carBehind {d : Nat} {a0 : Int} {a1 : Int} {F : hp} {Q : Int → hp → Prop} (h : mX1_carBehind a0 a1 F Q) : am nX1_carBehind d 0 0 [vi a0, vi a1] F (qI Q) := by
  refine am_of (by decide +kernel) (Nat.le_of_ble_eq_true rfl) ?_
  show aw nX1_carBehind d 0 0 0 [some (vi a0), some (vi a1), none, none] [] F (qI Q)
  unfold mX1_carBehind at h
  refine aw_iconst dX1_carBehind_0 (aw_pc (pc' := 1) rfl ?_)
  refine aw_istore_n dX1_carBehind_1 rfl (by decide) (aw_pc (pc' := 2) rfl ?_)
  refine aw_iconst dX1_carBehind_2 (aw_pc (pc' := 3) rfl ?_)
  refine aw_istore_n dX1_carBehind_3 rfl (by decide) (aw_pc (pc' := 4) rfl ?_)
  obtain ⟨k1, h⟩ := h
  exact aw_mask [true, true, true, true] (tX1_carBehind_L4 k1 _ _ _ _ _ h)
def mX1_fillRow_J74 (X12 : Nat → Int → Int → Int → Int → Int → hp → Prop) (Q : Int → hp → Prop) (o : Nat) (a2 : Int) (a3 : Int) (a4 : Int) (a5 : Int) (a6 : Int) (F : hp) : Prop := X12 o a2 a3 a4 a5 (a6 + 1) F
set_option maxHeartbeats 4000000 in
theorem tX1_fillRow_J74 {d : Nat} {X12 : Nat → Int → Int → Int → Int → Int → hp → Prop} {Q : Int → hp → Prop} (hX12 : ∀ (o : Nat) (a2 : Int) (a3 : Int) (a4 : Int) (a5 : Int) (a6 : Int) (F : hp), X12 o a2 a3 a4 a5 a6 F → aw nX1_fillRow (d + 1) 0 0 12 [some (vr (some o)), none, some (vi a2), some (vi a3), some (vi a4), some (vi a5), some (vi a6), none] [] F (qI Q)) {o : Nat} {a2 : Int} {a3 : Int} {a4 : Int} {a5 : Int} {a6 : Int} {F : hp} (h : mX1_fillRow_J74 X12 Q o a2 a3 a4 a5 a6 F) : aw nX1_fillRow (d + 1) 0 0 74 [some (vr (some o)), none, some (vi a2), some (vi a3), some (vi a4), some (vi a5), some (vi a6), none] [] F (qI Q) := by
  unfold mX1_fillRow_J74 at h
  refine aw_iinc dX1_fillRow_74 rfl (by decide) (aw_pc (pc' := 77) rfl ?_)
  refine aw_goto (tgt := 12) dX1_fillRow_77 rfl ?_
  exact aw_mask [true, false, true, true, true, true, true, false] (hX12 _ _ _ _ _ _ _ h)
def mX1_fillRow_L12 (Q : Int → hp → Prop) : Nat → Nat → Int → Int → Int → Int → Int → hp → Prop
  | 0, _, _, _, _, _, _, _ => False
  | k + 1, o, a2, a3, a4, a5, a6, F => (w32 a6 < 5 → (0 ≤ a6 ∧ a6 < 5) ∧ w32 (rowsI a6) ≠ 0 ∧ mX1_carBehind a4 ((w32 a3).tdiv (w32 (rowsI a6))) F (fun x3 F2 => (0 ≤ a6 ∧ a6 < 5) ∧ w32 (rowsI a6) ≠ 0 ∧ ∀ v5 : Int, v5 = ((w32 a3).tmod (w32 (rowsI a6))) → ∀ v6 : Int, v6 = (iAnd a4 (iXor (iShl 1 x3) (-1))) → (w32 (iAnd (iShr a2 x3) 1) = 0 → mX1_fillRow_J74 (fun o' a2' a3' a4' a5' a6' F' => mX1_fillRow_L12 Q k o' a2' a3' a4' a5' a6' F') Q o a2 v5 v6 a5 a6 F2) ∧ (¬ w32 (iAnd (iShr a2 x3) 1) = 0 → gR F2 (some o) 1 0 (fun x7 => sI F2 x7 0 a5 x3 (fun F8 => mX1_fillRow_J74 (fun o' a2' a3' a4' a5' a6' F' => mX1_fillRow_L12 Q k o' a2' a3' a4' a5' a6' F') Q o a2 v5 v6 (a5 + 1) a6 F8))))) ∧ (¬ w32 a6 < 5 → Q a5 F)
set_option maxHeartbeats 4000000 in
theorem tX1_fillRow_L12 {d : Nat} {Q : Int → hp → Prop} : ∀ (k : Nat) (o : Nat) (a2 : Int) (a3 : Int) (a4 : Int) (a5 : Int) (a6 : Int) (F : hp), mX1_fillRow_L12 Q k o a2 a3 a4 a5 a6 F → aw nX1_fillRow (d + 1) 0 0 12 [some (vr (some o)), none, some (vi a2), some (vi a3), some (vi a4), some (vi a5), some (vi a6), none] [] F (qI Q) := by
  intro k
  induction k with
  | zero => intro o a2 a3 a4 a5 a6 F h; exact h.elim
  | succ k ih =>
    intro o a2 a3 a4 a5 a6 F h
    simp only [mX1_fillRow_L12] at h
    refine aw_iload dX1_fillRow_12 rfl (aw_pc (pc' := 14) rfl ?_)
    refine aw_iconst dX1_fillRow_14 (aw_pc (pc' := 15) rfl ?_)
    refine ac_ge rfl wl_5 dX1_fillRow_15 rfl (fun c => ?_) (fun c => ?_)
    · replace h := h.1 c
      refine aw_iload dX1_fillRow_18 rfl (aw_pc (pc' := 20) rfl ?_)
      refine aw_iload_n dX1_fillRow_20 rfl rfl (aw_pc (pc' := 21) rfl ?_)
      refine aw_rows qF_RX1_15 dX1_fillRow_21 (aw_pc (pc' := 24) rfl ?_)
      refine aw_iload dX1_fillRow_24 rfl (aw_pc (pc' := 26) rfl ?_)
      refine aw_rowsI h.1.1 h.1.2 dX1_fillRow_26 (aw_pc (pc' := 27) rfl ?_)
      replace h := h.2
      refine ac_div rfl h.1 dX1_fillRow_27 (aw_pc (pc' := 28) rfl ?_)
      replace h := h.2
      refine ar_SI (kc' := 0) (ks' := 0) (kc := 0) (ks := 0) (as := [vi a4, vi ((w32 a3).tdiv (w32 (rowsI a6)))]) (st := []) (tX1_carBehind h) mt_X1_carBehind qM_RX1_18 qS_X1_carBehind rfl (Nat.le_of_ble_eq_true rfl) dX1_fillRow_28 ?_
      clear h
      intro x3 F2 h
      refine aw_pc (pc' := 31) rfl ?_
      refine aw_istore dX1_fillRow_31 (by decide) (aw_pc (pc' := 33) rfl ?_)
      refine aw_iload_n dX1_fillRow_33 rfl rfl (aw_pc (pc' := 34) rfl ?_)
      refine aw_rows qF_RX1_15 dX1_fillRow_34 (aw_pc (pc' := 37) rfl ?_)
      refine aw_iload dX1_fillRow_37 rfl (aw_pc (pc' := 39) rfl ?_)
      refine aw_rowsI h.1.1 h.1.2 dX1_fillRow_39 (aw_pc (pc' := 40) rfl ?_)
      replace h := h.2
      refine ac_rem rfl h.1 dX1_fillRow_40 (aw_pc (pc' := 41) rfl ?_)
      replace h := h.2
      generalize hv_v5 : ((w32 a3).tmod (w32 (rowsI a6))) = v5
      replace h := h v5 hv_v5.symm
      refine aw_istore_n dX1_fillRow_41 rfl (by decide) (aw_pc (pc' := 42) rfl ?_)
      refine aw_iload dX1_fillRow_42 rfl (aw_pc (pc' := 44) rfl ?_)
      refine aw_iconst dX1_fillRow_44 (aw_pc (pc' := 45) rfl ?_)
      refine aw_iload dX1_fillRow_45 rfl (aw_pc (pc' := 47) rfl ?_)
      refine aw_ishl dX1_fillRow_47 (aw_pc (pc' := 48) rfl ?_)
      refine aw_iconst dX1_fillRow_48 (aw_pc (pc' := 49) rfl ?_)
      refine aw_ixor dX1_fillRow_49 (aw_pc (pc' := 50) rfl ?_)
      refine aw_iand dX1_fillRow_50 (aw_pc (pc' := 51) rfl ?_)
      generalize hv_v6 : (iAnd a4 (iXor (iShl 1 x3) (-1))) = v6
      replace h := h v6 hv_v6.symm
      refine aw_istore dX1_fillRow_51 (by decide) (aw_pc (pc' := 53) rfl ?_)
      refine aw_iload_n dX1_fillRow_53 rfl rfl (aw_pc (pc' := 54) rfl ?_)
      refine aw_iload dX1_fillRow_54 rfl (aw_pc (pc' := 56) rfl ?_)
      refine aw_ishr dX1_fillRow_56 (aw_pc (pc' := 57) rfl ?_)
      refine aw_iconst dX1_fillRow_57 (aw_pc (pc' := 58) rfl ?_)
      refine aw_iand dX1_fillRow_58 (aw_pc (pc' := 59) rfl ?_)
      refine aw_if_eq dX1_fillRow_59 rfl (fun c => ?_) (fun c => ?_)
      · replace h := h.1 c
        exact aw_mask [true, false, true, true, true, true, true, false] (tX1_fillRow_J74 (fun o' a2' a3' a4' a5' a6' F' h' => ih o' a2' a3' a4' a5' a6' F' h') h)
      · replace h := h.2 c
        refine aw_aload_n dX1_fillRow_62 rfl rfl (aw_pc (pc' := 63) rfl ?_)
        refine ar_gR fl_RX1_9 dX1_fillRow_63 h ?_
        clear h
        intro x7 h
        refine aw_pc (pc' := 66) rfl ?_
        refine aw_iload dX1_fillRow_66 rfl (aw_pc (pc' := 68) rfl ?_)
        refine aw_iload dX1_fillRow_68 rfl (aw_pc (pc' := 70) rfl ?_)
        refine ar_sI dX1_fillRow_70 h ?_
        clear h
        intro F8 h
        refine aw_pc (pc' := 71) rfl ?_
        refine aw_iinc dX1_fillRow_71 rfl (by decide) (aw_pc (pc' := 74) rfl ?_)
        exact aw_mask [true, false, true, true, true, true, true, false] (tX1_fillRow_J74 (fun o' a2' a3' a4' a5' a6' F' h' => ih o' a2' a3' a4' a5' a6' F' h') h)
    · replace h := h.2 c
      refine aw_iload dX1_fillRow_80 rfl (aw_pc (pc' := 82) rfl ?_)
      exact aw_iret rfl dX1_fillRow_82 ⟨_, rfl, h⟩
def mX1_fillRow (o : Nat) (a1 : Int) (a2 : Int) (F : hp) (Q : Int → hp → Prop) : Prop := (∃ k1, mX1_fillRow_L12 Q k1 o a2 a1 31 0 0 F)
set_option maxHeartbeats 4000000 in
theorem tX1_fillRow {d : Nat} {o : Nat} {a1 : Int} {a2 : Int} {F : hp} {Q : Int → hp → Prop} (h : mX1_fillRow o a1 a2 F Q) : am nX1_fillRow (d + 1) 0 0 [vr (some o), vi a1, vi a2] F (qI Q) := by
  refine am_of (by decide +kernel) (Nat.le_of_ble_eq_true rfl) ?_
  show aw nX1_fillRow (d + 1) 0 0 0 [some (vr (some o)), some (vi a1), some (vi a2), none, none, none, none, none] [] F (qI Q)
  unfold mX1_fillRow at h
  refine aw_iload_n dX1_fillRow_0 rfl rfl (aw_pc (pc' := 1) rfl ?_)
  refine aw_istore_n dX1_fillRow_1 rfl (by decide) (aw_pc (pc' := 2) rfl ?_)
  refine aw_bipush dX1_fillRow_2 (by decide) (aw_pc (pc' := 4) rfl ?_)
  refine aw_istore dX1_fillRow_4 (by decide) (aw_pc (pc' := 6) rfl ?_)
  refine aw_iconst dX1_fillRow_6 (aw_pc (pc' := 7) rfl ?_)
  refine aw_istore dX1_fillRow_7 (by decide) (aw_pc (pc' := 9) rfl ?_)
  refine aw_iconst dX1_fillRow_9 (aw_pc (pc' := 10) rfl ?_)
  refine aw_istore dX1_fillRow_10 (by decide) (aw_pc (pc' := 12) rfl ?_)
  obtain ⟨k1, h⟩ := h
  exact aw_mask [true, false, true, true, true, true, true, false] (tX1_fillRow_L12 k1 _ _ _ _ _ _ _ h)
def mX1_mayStand_L11 (Q : Int → hp → Prop) : Nat → Nat → Int → Int → Int → hp → Prop
  | 0, _, _, _, _, _ => False
  | k + 1, o, a3, a4, a5, F => (w32 a5 < w32 a4 → gR F (some o) 1 0 (fun x1 => aI F x1 0 (a5 - 1) (fun x2 => gR F (some o) 1 0 (fun x3 => aI F x3 0 a5 (fun x4 => (w32 (iAnd (iShr a3 ((5 * x2) + x4)) 1) = 0 → Q 0 F) ∧ (¬ w32 (iAnd (iShr a3 ((5 * x2) + x4)) 1) = 0 → mX1_mayStand_L11 Q k o a3 a4 (a5 + 1) F)))))) ∧ (¬ w32 a5 < w32 a4 → Q 1 F)
set_option maxHeartbeats 4000000 in
theorem tX1_mayStand_L11 {d : Nat} {Q : Int → hp → Prop} : ∀ (k : Nat) (o : Nat) (a3 : Int) (a4 : Int) (a5 : Int) (F : hp), mX1_mayStand_L11 Q k o a3 a4 a5 F → aw nX1_mayStand (d + 2) 0 0 11 [some (vr (some o)), none, none, some (vi a3), some (vi a4), some (vi a5)] [] F (qI Q) := by
  intro k
  induction k with
  | zero => intro o a3 a4 a5 F h; exact h.elim
  | succ k ih =>
    intro o a3 a4 a5 F h
    simp only [mX1_mayStand_L11] at h
    refine aw_iload dX1_mayStand_11 rfl (aw_pc (pc' := 13) rfl ?_)
    refine aw_iload dX1_mayStand_13 rfl (aw_pc (pc' := 15) rfl ?_)
    refine ac_ge rfl rfl dX1_mayStand_15 rfl (fun c => ?_) (fun c => ?_)
    · replace h := h.1 c
      refine aw_iload_n dX1_mayStand_18 rfl rfl (aw_pc (pc' := 19) rfl ?_)
      refine aw_iconst dX1_mayStand_19 (aw_pc (pc' := 20) rfl ?_)
      refine aw_aload_n dX1_mayStand_20 rfl rfl (aw_pc (pc' := 21) rfl ?_)
      refine ar_gR fl_RX1_9 dX1_mayStand_21 h ?_
      clear h
      intro x1 h
      refine aw_pc (pc' := 24) rfl ?_
      refine aw_iload dX1_mayStand_24 rfl (aw_pc (pc' := 26) rfl ?_)
      refine aw_iconst dX1_mayStand_26 (aw_pc (pc' := 27) rfl ?_)
      refine aw_isub dX1_mayStand_27 (aw_pc (pc' := 28) rfl ?_)
      refine ar_aI dX1_mayStand_28 h ?_
      clear h
      intro x2 h
      refine aw_pc (pc' := 29) rfl ?_
      refine aw_imul dX1_mayStand_29 (aw_pc (pc' := 30) rfl ?_)
      refine aw_aload_n dX1_mayStand_30 rfl rfl (aw_pc (pc' := 31) rfl ?_)
      refine ar_gR fl_RX1_9 dX1_mayStand_31 h ?_
      clear h
      intro x3 h
      refine aw_pc (pc' := 34) rfl ?_
      refine aw_iload dX1_mayStand_34 rfl (aw_pc (pc' := 36) rfl ?_)
      refine ar_aI dX1_mayStand_36 h ?_
      clear h
      intro x4 h
      refine aw_pc (pc' := 37) rfl ?_
      refine aw_iadd dX1_mayStand_37 (aw_pc (pc' := 38) rfl ?_)
      refine aw_ishr dX1_mayStand_38 (aw_pc (pc' := 39) rfl ?_)
      refine aw_iconst dX1_mayStand_39 (aw_pc (pc' := 40) rfl ?_)
      refine aw_iand dX1_mayStand_40 (aw_pc (pc' := 41) rfl ?_)
      refine aw_if_ne dX1_mayStand_41 rfl (fun c => ?_) (fun c => ?_)
      · replace h := h.1 c
        refine aw_iconst dX1_mayStand_44 (aw_pc (pc' := 45) rfl ?_)
        exact aw_zret rfl (by decide) dX1_mayStand_45 ⟨_, rfl, h⟩
      · replace h := h.2 c
        refine aw_iinc dX1_mayStand_46 rfl (by decide) (aw_pc (pc' := 49) rfl ?_)
        refine aw_goto (tgt := 11) dX1_mayStand_49 rfl ?_
        exact aw_mask [true, false, false, true, true, true] (ih _ _ _ _ _ h)
    · replace h := h.2 c
      refine aw_iconst dX1_mayStand_52 (aw_pc (pc' := 53) rfl ?_)
      exact aw_zret rfl (by decide) dX1_mayStand_53 ⟨_, rfl, h⟩
def mX1_mayStand (o : Nat) (a1 : Int) (a2 : Int) (a3 : Int) (F : hp) (Q : Int → hp → Prop) : Prop := rcv F (some o) 1 (fun o3 => mX1_fillRow o3 a1 a2 F (fun x2 F1 => (∃ k4, mX1_mayStand_L11 Q k4 o a3 x2 1 F1)))
set_option maxHeartbeats 4000000 in
theorem tX1_mayStand {d : Nat} {o : Nat} {a1 : Int} {a2 : Int} {a3 : Int} {F : hp} {Q : Int → hp → Prop} (h : mX1_mayStand o a1 a2 a3 F Q) : am nX1_mayStand (d + 2) 0 0 [vr (some o), vi a1, vi a2, vi a3] F (qI Q) := by
  refine am_of (by decide +kernel) (Nat.le_of_ble_eq_true rfl) ?_
  show aw nX1_mayStand (d + 2) 0 0 0 [some (vr (some o)), some (vi a1), some (vi a2), some (vi a3), none, none] [] F (qI Q)
  unfold mX1_mayStand at h
  refine aw_aload_n dX1_mayStand_0 rfl rfl (aw_pc (pc' := 1) rfl ?_)
  refine aw_iload_n dX1_mayStand_1 rfl rfl (aw_pc (pc' := 2) rfl ?_)
  refine aw_iload_n dX1_mayStand_2 rfl rfl (aw_pc (pc' := 3) rfl ?_)
  have h0 := rcv_inv h
  clear h
  obtain ⟨o3, fs_o3, hr_o3, he_o3, h⟩ := h0
  obtain rfl : o = o3 := Option.some.inj hr_o3
  refine ar_VI (kc' := 0) (ks' := 0) (kc := 0) (ks := 0) (a := o) (ci := 1) (as := [vi a1, vi a2]) (st := []) (tX1_fillRow h) mt_X1_fillRow rfl qM_RX1_22 qI_X1_fillRow qV_X1_fillRow he_o3 rfl (Nat.le_of_ble_eq_true rfl) dX1_mayStand_3 ?_
  clear h
  intro x2 F1 h
  refine aw_pc (pc' := 6) rfl ?_
  refine aw_istore dX1_mayStand_6 (by decide) (aw_pc (pc' := 8) rfl ?_)
  refine aw_iconst dX1_mayStand_8 (aw_pc (pc' := 9) rfl ?_)
  refine aw_istore dX1_mayStand_9 (by decide) (aw_pc (pc' := 11) rfl ?_)
  obtain ⟨k4, h⟩ := h
  exact aw_mask [true, false, false, true, true, true] (tX1_mayStand_L11 k4 _ _ _ _ _ h)
def mX1_timeOf_L22 (Q : Int → hp → Prop) : Nat → Nat → Option Nat → Int → Int → Int → Int → hp → Prop
  | 0, _, _, _, _, _, _, _ => False
  | k + 1, o, a2, a3, a4, a5, a6, F => (w32 a6 < w32 a3 → gR F a2 5 4 (fun x1 => gR F (some o) 1 0 (fun x2 => aI F x2 0 a6 (fun x3 => aI F x1 0 x3 (fun x4 => ∀ v5 : Int, v5 = (a4 + x4) → gR F a2 5 5 (fun x6 => gR F (some o) 1 0 (fun x7 => aI F x7 0 a6 (fun x8 => aI F x6 0 x8 (fun x9 => ∀ v10 : Int, v10 = ((iMax v5 a5) + x9) → mX1_timeOf_L22 Q k o a2 a3 v5 v10 (a6 + 1) F))))))))) ∧ (¬ w32 a6 < w32 a3 → Q a5 F)
set_option maxHeartbeats 4000000 in
theorem tX1_timeOf_L22 {d : Nat} {Q : Int → hp → Prop} : ∀ (k : Nat) (o : Nat) (a2 : Option Nat) (a3 : Int) (a4 : Int) (a5 : Int) (a6 : Int) (F : hp), mX1_timeOf_L22 Q k o a2 a3 a4 a5 a6 F → aw nX1_timeOf (d + 2) 0 0 22 [some (vr (some o)), none, some (vr a2), some (vi a3), some (vi a4), some (vi a5), some (vi a6)] [] F (qI Q) := by
  intro k
  induction k with
  | zero => intro o a2 a3 a4 a5 a6 F h; exact h.elim
  | succ k ih =>
    intro o a2 a3 a4 a5 a6 F h
    simp only [mX1_timeOf_L22] at h
    refine aw_iload dX1_timeOf_22 rfl (aw_pc (pc' := 24) rfl ?_)
    refine aw_iload_n dX1_timeOf_24 rfl rfl (aw_pc (pc' := 25) rfl ?_)
    refine ac_ge rfl rfl dX1_timeOf_25 rfl (fun c => ?_) (fun c => ?_)
    · replace h := h.1 c
      refine aw_iload dX1_timeOf_28 rfl (aw_pc (pc' := 30) rfl ?_)
      refine aw_aload_n dX1_timeOf_30 rfl rfl (aw_pc (pc' := 31) rfl ?_)
      refine ar_gR fl_RX1_37 dX1_timeOf_31 h ?_
      clear h
      intro x1 h
      refine aw_pc (pc' := 34) rfl ?_
      refine aw_aload_n dX1_timeOf_34 rfl rfl (aw_pc (pc' := 35) rfl ?_)
      refine ar_gR fl_RX1_9 dX1_timeOf_35 h ?_
      clear h
      intro x2 h
      refine aw_pc (pc' := 38) rfl ?_
      refine aw_iload dX1_timeOf_38 rfl (aw_pc (pc' := 40) rfl ?_)
      refine ar_aI dX1_timeOf_40 h ?_
      clear h
      intro x3 h
      refine aw_pc (pc' := 41) rfl ?_
      refine ar_aI dX1_timeOf_41 h ?_
      clear h
      intro x4 h
      refine aw_pc (pc' := 42) rfl ?_
      refine aw_iadd dX1_timeOf_42 (aw_pc (pc' := 43) rfl ?_)
      generalize hv_v5 : (a4 + x4) = v5
      replace h := h v5 hv_v5.symm
      refine aw_istore dX1_timeOf_43 (by decide) (aw_pc (pc' := 45) rfl ?_)
      refine aw_iload dX1_timeOf_45 rfl (aw_pc (pc' := 47) rfl ?_)
      refine aw_iload dX1_timeOf_47 rfl (aw_pc (pc' := 49) rfl ?_)
      refine aw_max qM_RX1_40 mw_max (Nat.le_of_ble_eq_true rfl) dX1_timeOf_49 (aw_pc (pc' := 52) rfl ?_)
      refine aw_aload_n dX1_timeOf_52 rfl rfl (aw_pc (pc' := 53) rfl ?_)
      refine ar_gR fl_RX1_45 dX1_timeOf_53 h ?_
      clear h
      intro x6 h
      refine aw_pc (pc' := 56) rfl ?_
      refine aw_aload_n dX1_timeOf_56 rfl rfl (aw_pc (pc' := 57) rfl ?_)
      refine ar_gR fl_RX1_9 dX1_timeOf_57 h ?_
      clear h
      intro x7 h
      refine aw_pc (pc' := 60) rfl ?_
      refine aw_iload dX1_timeOf_60 rfl (aw_pc (pc' := 62) rfl ?_)
      refine ar_aI dX1_timeOf_62 h ?_
      clear h
      intro x8 h
      refine aw_pc (pc' := 63) rfl ?_
      refine ar_aI dX1_timeOf_63 h ?_
      clear h
      intro x9 h
      refine aw_pc (pc' := 64) rfl ?_
      refine aw_iadd dX1_timeOf_64 (aw_pc (pc' := 65) rfl ?_)
      generalize hv_v10 : ((iMax v5 a5) + x9) = v10
      replace h := h v10 hv_v10.symm
      refine aw_istore dX1_timeOf_65 (by decide) (aw_pc (pc' := 67) rfl ?_)
      refine aw_iinc dX1_timeOf_67 rfl (by decide) (aw_pc (pc' := 70) rfl ?_)
      refine aw_goto (tgt := 22) dX1_timeOf_70 rfl ?_
      exact aw_mask [true, false, true, true, true, true, true] (ih _ _ _ _ _ _ _ h)
    · replace h := h.2 c
      refine aw_iload dX1_timeOf_73 rfl (aw_pc (pc' := 75) rfl ?_)
      exact aw_iret rfl dX1_timeOf_75 ⟨_, rfl, h⟩
def mX1_timeOf (o : Nat) (a1 : Int) (a2 : Option Nat) (F : hp) (Q : Int → hp → Prop) : Prop := gR F a2 5 0 (fun x1 => rcv F x1 10 (fun o4 => mX10_toldCars o4 F (fun x3 F2 => rcv F2 (some o) 1 (fun o7 => mX1_fillRow o7 a1 x3 F2 (fun x6 F5 => (∃ k8, mX1_timeOf_L22 Q k8 o a2 x6 0 0 0 F5))))))
set_option maxHeartbeats 4000000 in
theorem tX1_timeOf {d : Nat} {o : Nat} {a1 : Int} {a2 : Option Nat} {F : hp} {Q : Int → hp → Prop} (h : mX1_timeOf o a1 a2 F Q) : am nX1_timeOf (d + 2) 0 0 [vr (some o), vi a1, vr a2] F (qI Q) := by
  refine am_of (by decide +kernel) (Nat.le_of_ble_eq_true rfl) ?_
  show aw nX1_timeOf (d + 2) 0 0 0 [some (vr (some o)), some (vi a1), some (vr a2), none, none, none, none] [] F (qI Q)
  unfold mX1_timeOf at h
  refine aw_aload_n dX1_timeOf_0 rfl rfl (aw_pc (pc' := 1) rfl ?_)
  refine aw_iload_n dX1_timeOf_1 rfl rfl (aw_pc (pc' := 2) rfl ?_)
  refine aw_aload_n dX1_timeOf_2 rfl rfl (aw_pc (pc' := 3) rfl ?_)
  refine ar_gR fl_RX1_25 dX1_timeOf_3 h ?_
  clear h
  intro x1 h
  refine aw_pc (pc' := 6) rfl ?_
  have h0 := rcv_inv h
  clear h
  obtain ⟨o4, fs_o4, hr_o4, he_o4, h⟩ := h0
  subst hr_o4
  refine ar_VI (kc' := 0) (ks' := 0) (kc := 0) (ks := 0) (a := o4) (ci := 10) (as := []) (st := [vi a1, vr (some o)]) (tX10_toldCars h) mt_X10_toldCars rfl qM_RX1_31 qI_X10_toldCars qV_X10_toldCars he_o4 rfl (Nat.le_of_ble_eq_true rfl) dX1_timeOf_6 ?_
  clear h
  intro x3 F2 h
  refine aw_pc (pc' := 9) rfl ?_
  have h0 := rcv_inv h
  clear h
  obtain ⟨o7, fs_o7, hr_o7, he_o7, h⟩ := h0
  obtain rfl : o = o7 := Option.some.inj hr_o7
  refine ar_VI (kc' := 0) (ks' := 0) (kc := 0) (ks := 0) (a := o) (ci := 1) (as := [vi a1, vi x3]) (st := []) (tX1_fillRow h) mt_X1_fillRow rfl qM_RX1_22 qI_X1_fillRow qV_X1_fillRow he_o7 rfl (Nat.le_of_ble_eq_true rfl) dX1_timeOf_9 ?_
  clear h
  intro x6 F5 h
  refine aw_pc (pc' := 12) rfl ?_
  refine aw_istore_n dX1_timeOf_12 rfl (by decide) (aw_pc (pc' := 13) rfl ?_)
  refine aw_iconst dX1_timeOf_13 (aw_pc (pc' := 14) rfl ?_)
  refine aw_istore dX1_timeOf_14 (by decide) (aw_pc (pc' := 16) rfl ?_)
  refine aw_iconst dX1_timeOf_16 (aw_pc (pc' := 17) rfl ?_)
  refine aw_istore dX1_timeOf_17 (by decide) (aw_pc (pc' := 19) rfl ?_)
  refine aw_iconst dX1_timeOf_19 (aw_pc (pc' := 20) rfl ?_)
  refine aw_istore dX1_timeOf_20 (by decide) (aw_pc (pc' := 22) rfl ?_)
  obtain ⟨k8, h⟩ := h
  exact aw_mask [true, false, true, true, true, true, true] (tX1_timeOf_L22 k8 _ _ _ _ _ _ _ h)
def mX8_init (o : Nat) (a1 : Option Nat) (a2 : Option Nat) (a3 : Option Nat) (F : hp) (Q : hp → Prop) : Prop := pF F (some o) 8 0 (vr a1) (fun F1 => pF F1 (some o) 8 1 (vr a2) (fun F2 => pF F2 (some o) 8 2 (vr a3) (fun F3 => Q F3)))
set_option maxHeartbeats 4000000 in
theorem tX8_init {d : Nat} {o : Nat} {a1 : Option Nat} {a2 : Option Nat} {a3 : Option Nat} {F : hp} {Q : hp → Prop} (h : mX8_init o a1 a2 a3 F Q) : am nX8_init (d + 1) 0 0 [vr (some o), vr a1, vr a2, vr a3] F (qV Q) := by
  refine am_of (by decide +kernel) (Nat.le_of_ble_eq_true rfl) ?_
  show aw nX8_init (d + 1) 0 0 0 [some (vr (some o)), some (vr a1), some (vr a2), some (vr a3)] [] F (qV Q)
  unfold mX8_init at h
  refine aw_aload_n dX8_init_0 rfl rfl (aw_pc (pc' := 1) rfl ?_)
  refine aw_obj qM_RX8_3 mw_obj (Nat.le_of_ble_eq_true rfl) dX8_init_1 (aw_pc (pc' := 4) rfl ?_)
  refine aw_aload_n dX8_init_4 rfl rfl (aw_pc (pc' := 5) rfl ?_)
  refine aw_aload_n dX8_init_5 rfl rfl (aw_pc (pc' := 6) rfl ?_)
  refine ar_pFF fl_RX8_9 ft_X8_0 rfl rfl (okA _ _) dX8_init_6 h ?_
  clear h
  intro F1 h
  refine aw_pc (pc' := 9) rfl ?_
  refine aw_aload_n dX8_init_9 rfl rfl (aw_pc (pc' := 10) rfl ?_)
  refine aw_aload_n dX8_init_10 rfl rfl (aw_pc (pc' := 11) rfl ?_)
  refine ar_pFF fl_RX8_15 ft_X8_1 rfl rfl (okA _ _) dX8_init_11 h ?_
  clear h
  intro F2 h
  refine aw_pc (pc' := 14) rfl ?_
  refine aw_aload_n dX8_init_14 rfl rfl (aw_pc (pc' := 15) rfl ?_)
  refine aw_aload_n dX8_init_15 rfl rfl (aw_pc (pc' := 16) rfl ?_)
  refine ar_pFF fl_RX8_18 ft_X8_2 rfl rfl (okA _ _) dX8_init_16 h ?_
  clear h
  intro F3 h
  refine aw_pc (pc' := 19) rfl ?_
  exact aw_vret rfl dX8_init_19 ⟨rfl, h⟩
def mX8_codeBehind (o : Nat) (a1 : Int) (F : hp) (Q : Int → hp → Prop) : Prop := gR F (some o) 8 2 (fun x1 => aI F x1 0 ((2 * a1) + 1) (fun x2 => Q x2 F))
set_option maxHeartbeats 4000000 in
theorem tX8_codeBehind {d : Nat} {o : Nat} {a1 : Int} {F : hp} {Q : Int → hp → Prop} (h : mX8_codeBehind o a1 F Q) : am nX8_codeBehind d 0 0 [vr (some o), vi a1] F (qI Q) := by
  refine am_of (by decide +kernel) (Nat.le_of_ble_eq_true rfl) ?_
  show aw nX8_codeBehind d 0 0 0 [some (vr (some o)), some (vi a1)] [] F (qI Q)
  unfold mX8_codeBehind at h
  refine aw_aload_n dX8_codeBehind_0 rfl rfl (aw_pc (pc' := 1) rfl ?_)
  refine ar_gR fl_RX8_18 dX8_codeBehind_1 h ?_
  clear h
  intro x1 h
  refine aw_pc (pc' := 4) rfl ?_
  refine aw_iconst dX8_codeBehind_4 (aw_pc (pc' := 5) rfl ?_)
  refine aw_iload_n dX8_codeBehind_5 rfl rfl (aw_pc (pc' := 6) rfl ?_)
  refine aw_imul dX8_codeBehind_6 (aw_pc (pc' := 7) rfl ?_)
  refine aw_iconst dX8_codeBehind_7 (aw_pc (pc' := 8) rfl ?_)
  refine aw_iadd dX8_codeBehind_8 (aw_pc (pc' := 9) rfl ?_)
  refine ar_aI dX8_codeBehind_9 h ?_
  clear h
  intro x2 h
  refine aw_pc (pc' := 10) rfl ?_
  exact aw_iret rfl dX8_codeBehind_10 ⟨_, rfl, h⟩
def mX8_codeFrom (o : Nat) (a1 : Int) (F : hp) (Q : Int → hp → Prop) : Prop := gR F (some o) 8 2 (fun x1 => aI F x1 0 (2 * a1) (fun x2 => Q x2 F))
set_option maxHeartbeats 4000000 in
theorem tX8_codeFrom {d : Nat} {o : Nat} {a1 : Int} {F : hp} {Q : Int → hp → Prop} (h : mX8_codeFrom o a1 F Q) : am nX8_codeFrom d 0 0 [vr (some o), vi a1] F (qI Q) := by
  refine am_of (by decide +kernel) (Nat.le_of_ble_eq_true rfl) ?_
  show aw nX8_codeFrom d 0 0 0 [some (vr (some o)), some (vi a1)] [] F (qI Q)
  unfold mX8_codeFrom at h
  refine aw_aload_n dX8_codeFrom_0 rfl rfl (aw_pc (pc' := 1) rfl ?_)
  refine ar_gR fl_RX8_18 dX8_codeFrom_1 h ?_
  clear h
  intro x1 h
  refine aw_pc (pc' := 4) rfl ?_
  refine aw_iconst dX8_codeFrom_4 (aw_pc (pc' := 5) rfl ?_)
  refine aw_iload_n dX8_codeFrom_5 rfl rfl (aw_pc (pc' := 6) rfl ?_)
  refine aw_imul dX8_codeFrom_6 (aw_pc (pc' := 7) rfl ?_)
  refine ar_aI dX8_codeFrom_7 h ?_
  clear h
  intro x2 h
  refine aw_pc (pc' := 8) rfl ?_
  exact aw_iret rfl dX8_codeFrom_8 ⟨_, rfl, h⟩
def mX6_init (o : Nat) (F : hp) (Q : hp → Prop) : Prop := nwc F (cA 0 1800 (fun _ => 0)) (fun n1 F2 => pF F2 (some o) 6 0 (vr (some n1)) (fun F3 => Q F3))
set_option maxHeartbeats 4000000 in
theorem tX6_init {d : Nat} {o : Nat} {F : hp} {Q : hp → Prop} (h : mX6_init o F Q) : am nX6_init (d + 1) 1 1800 [vr (some o)] F (qV Q) := by
  refine am_of (by decide +kernel) (Nat.le_of_ble_eq_true rfl) ?_
  show aw nX6_init (d + 1) 1 1800 0 [some (vr (some o))] [] F (qV Q)
  unfold mX6_init at h
  refine aw_aload_n dX6_init_0 rfl rfl (aw_pc (pc' := 1) rfl ?_)
  refine aw_obj qM_RX6_3 mw_obj (Nat.le_of_ble_eq_true rfl) dX6_init_1 (aw_pc (pc' := 4) rfl ?_)
  refine aw_aload_n dX6_init_4 rfl rfl (aw_pc (pc' := 5) rfl ?_)
  refine aw_sipush dX6_init_5 (by decide) (aw_pc (pc' := 8) rfl ?_)
  refine ar_newarr (k := 0) (kc := 0) (ks := 0) (ms := 1800) (Or.inl rfl) rfl qY_int (by decide) dX6_init_8 h ?_
  clear h
  intro n1 F2 h
  refine aw_pc (pc' := 10) rfl ?_
  refine ar_pFF fl_RX6_11 ft_X6_0 rfl rfl (okA _ _) dX6_init_10 h ?_
  clear h
  intro F3 h
  refine aw_pc (pc' := 13) rfl ?_
  exact aw_vret rfl dX6_init_13 ⟨rfl, h⟩
def mX7_init (o : Nat) (a1 : Int) (F : hp) (Q : hp → Prop) : Prop := pF F (some o) 7 1 (vi (iMax 0 a1)) (fun F1 => gI F1 (some o) 7 1 (fun x2 => (0 ≤ (3 * x2) ∧ (3 * x2) ≤ 60000000 ∧ (3 * x2).toNat ≤ 24) ∧ nwc F1 (cA 0 (3 * x2) (fun _ => 0)) (fun n3 F4 => pF F4 (some o) 7 0 (vr (some n3)) (fun F5 => Q F5))))
set_option maxHeartbeats 4000000 in
theorem tX7_init {d : Nat} {o : Nat} {a1 : Int} {F : hp} {Q : hp → Prop} (h : mX7_init o a1 F Q) : am nX7_init (d + 1) 1 24 [vr (some o), vi a1] F (qV Q) := by
  refine am_of (by decide +kernel) (Nat.le_of_ble_eq_true rfl) ?_
  show aw nX7_init (d + 1) 1 24 0 [some (vr (some o)), some (vi a1)] [] F (qV Q)
  unfold mX7_init at h
  refine aw_aload_n dX7_init_0 rfl rfl (aw_pc (pc' := 1) rfl ?_)
  refine aw_obj qM_RX7_3 mw_obj (Nat.le_of_ble_eq_true rfl) dX7_init_1 (aw_pc (pc' := 4) rfl ?_)
  refine aw_aload_n dX7_init_4 rfl rfl (aw_pc (pc' := 5) rfl ?_)
  refine aw_iconst dX7_init_5 (aw_pc (pc' := 6) rfl ?_)
  refine aw_iload_n dX7_init_6 rfl rfl (aw_pc (pc' := 7) rfl ?_)
  refine aw_max qM_RX7_9 mw_max (Nat.le_of_ble_eq_true rfl) dX7_init_7 (aw_pc (pc' := 10) rfl ?_)
  refine ar_pFF fl_RX7_15 ft_X7_1 rfl rfl (okI _) dX7_init_10 h ?_
  clear h
  intro F1 h
  refine aw_pc (pc' := 13) rfl ?_
  refine aw_aload_n dX7_init_13 rfl rfl (aw_pc (pc' := 14) rfl ?_)
  refine aw_iconst dX7_init_14 (aw_pc (pc' := 15) rfl ?_)
  refine aw_aload_n dX7_init_15 rfl rfl (aw_pc (pc' := 16) rfl ?_)
  refine ar_gI fl_RX7_15 dX7_init_16 h ?_
  clear h
  intro x2 h
  refine aw_pc (pc' := 19) rfl ?_
  refine aw_imul dX7_init_19 (aw_pc (pc' := 20) rfl ?_)
  refine ar_newarr (k := 0) (kc := 0) (ks := 0) (ms := 24) (Or.inl rfl) rfl qY_int h.1 dX7_init_20 h.2 ?_
  clear h
  intro n3 F4 h
  refine aw_pc (pc' := 22) rfl ?_
  refine ar_pFF fl_RX7_21 ft_X7_0 rfl rfl (okA _ _) dX7_init_22 h ?_
  clear h
  intro F5 h
  refine aw_pc (pc' := 25) rfl ?_
  exact aw_vret rfl dX7_init_25 ⟨rfl, h⟩
def mX6_copyFrom (o : Nat) (a1 : Option Nat) (F : hp) (Q : hp → Prop) : Prop := gR F a1 6 0 (fun x1 => gR F (some o) 6 0 (fun x2 => gR F (some o) 6 0 (fun x3 => aN F x3 (fun x4 => cpI F x1 0 x2 0 x4 (fun F5 => gI F5 a1 6 1 (fun x6 => pF F5 (some o) 6 1 (vi x6) (fun F7 => gI F7 a1 6 2 (fun x8 => pF F7 (some o) 6 2 (vi x8) (fun F9 => Q F9)))))))))
set_option maxHeartbeats 4000000 in
theorem tX6_copyFrom {d : Nat} {o : Nat} {a1 : Option Nat} {F : hp} {Q : hp → Prop} (h : mX6_copyFrom o a1 F Q) : am nX6_copyFrom (d + 1) 0 0 [vr (some o), vr a1] F (qV Q) := by
  refine am_of (by decide +kernel) (Nat.le_of_ble_eq_true rfl) ?_
  show aw nX6_copyFrom (d + 1) 0 0 0 [some (vr (some o)), some (vr a1)] [] F (qV Q)
  unfold mX6_copyFrom at h
  refine aw_aload_n dX6_copyFrom_0 rfl rfl (aw_pc (pc' := 1) rfl ?_)
  refine ar_gR fl_RX6_11 dX6_copyFrom_1 h ?_
  clear h
  intro x1 h
  refine aw_pc (pc' := 4) rfl ?_
  refine aw_iconst dX6_copyFrom_4 (aw_pc (pc' := 5) rfl ?_)
  refine aw_aload_n dX6_copyFrom_5 rfl rfl (aw_pc (pc' := 6) rfl ?_)
  refine ar_gR fl_RX6_11 dX6_copyFrom_6 h ?_
  clear h
  intro x2 h
  refine aw_pc (pc' := 9) rfl ?_
  refine aw_iconst dX6_copyFrom_9 (aw_pc (pc' := 10) rfl ?_)
  refine aw_aload_n dX6_copyFrom_10 rfl rfl (aw_pc (pc' := 11) rfl ?_)
  refine ar_gR fl_RX6_11 dX6_copyFrom_11 h ?_
  clear h
  intro x3 h
  refine aw_pc (pc' := 14) rfl ?_
  refine ar_aN dX6_copyFrom_14 h ?_
  clear h
  intro x4 h
  refine aw_pc (pc' := 15) rfl ?_
  refine ar_cpI qM_RX6_27 mw_copy (Nat.le_of_ble_eq_true rfl) dX6_copyFrom_15 h ?_
  clear h
  intro F5 h
  refine aw_pc (pc' := 18) rfl ?_
  refine aw_aload_n dX6_copyFrom_18 rfl rfl (aw_pc (pc' := 19) rfl ?_)
  refine aw_aload_n dX6_copyFrom_19 rfl rfl (aw_pc (pc' := 20) rfl ?_)
  refine ar_gI fl_RX6_17 dX6_copyFrom_20 h ?_
  clear h
  intro x6 h
  refine aw_pc (pc' := 23) rfl ?_
  refine ar_pF fl_RX6_17 ft_X6_1 (okI _) dX6_copyFrom_23 h ?_
  clear h
  intro F7 h
  refine aw_pc (pc' := 26) rfl ?_
  refine aw_aload_n dX6_copyFrom_26 rfl rfl (aw_pc (pc' := 27) rfl ?_)
  refine aw_aload_n dX6_copyFrom_27 rfl rfl (aw_pc (pc' := 28) rfl ?_)
  refine ar_gI fl_RX6_21 dX6_copyFrom_28 h ?_
  clear h
  intro x8 h
  refine aw_pc (pc' := 31) rfl ?_
  refine ar_pF fl_RX6_21 ft_X6_2 (okI _) dX6_copyFrom_31 h ?_
  clear h
  intro F9 h
  refine aw_pc (pc' := 34) rfl ?_
  exact aw_vret rfl dX6_copyFrom_34 ⟨rfl, h⟩
def mX7_copyFrom (o : Nat) (a1 : Option Nat) (F : hp) (Q : hp → Prop) : Prop := gR F a1 7 0 (fun x1 => gR F (some o) 7 0 (fun x2 => gR F (some o) 7 0 (fun x3 => aN F x3 (fun x4 => gR F a1 7 0 (fun x5 => aN F x5 (fun x6 => cpI F x1 0 x2 0 (iMin x4 x6) (fun F7 => gI F7 (some o) 7 1 (fun x8 => gI F7 a1 7 2 (fun x9 => pF F7 (some o) 7 2 (vi (iMin x8 x9)) (fun F10 => Q F10))))))))))
set_option maxHeartbeats 4000000 in
theorem tX7_copyFrom {d : Nat} {o : Nat} {a1 : Option Nat} {F : hp} {Q : hp → Prop} (h : mX7_copyFrom o a1 F Q) : am nX7_copyFrom (d + 1) 0 0 [vr (some o), vr a1] F (qV Q) := by
  refine am_of (by decide +kernel) (Nat.le_of_ble_eq_true rfl) ?_
  show aw nX7_copyFrom (d + 1) 0 0 0 [some (vr (some o)), some (vr a1)] [] F (qV Q)
  unfold mX7_copyFrom at h
  refine aw_aload_n dX7_copyFrom_0 rfl rfl (aw_pc (pc' := 1) rfl ?_)
  refine ar_gR fl_RX7_21 dX7_copyFrom_1 h ?_
  clear h
  intro x1 h
  refine aw_pc (pc' := 4) rfl ?_
  refine aw_iconst dX7_copyFrom_4 (aw_pc (pc' := 5) rfl ?_)
  refine aw_aload_n dX7_copyFrom_5 rfl rfl (aw_pc (pc' := 6) rfl ?_)
  refine ar_gR fl_RX7_21 dX7_copyFrom_6 h ?_
  clear h
  intro x2 h
  refine aw_pc (pc' := 9) rfl ?_
  refine aw_iconst dX7_copyFrom_9 (aw_pc (pc' := 10) rfl ?_)
  refine aw_aload_n dX7_copyFrom_10 rfl rfl (aw_pc (pc' := 11) rfl ?_)
  refine ar_gR fl_RX7_21 dX7_copyFrom_11 h ?_
  clear h
  intro x3 h
  refine aw_pc (pc' := 14) rfl ?_
  refine ar_aN dX7_copyFrom_14 h ?_
  clear h
  intro x4 h
  refine aw_pc (pc' := 15) rfl ?_
  refine aw_aload_n dX7_copyFrom_15 rfl rfl (aw_pc (pc' := 16) rfl ?_)
  refine ar_gR fl_RX7_21 dX7_copyFrom_16 h ?_
  clear h
  intro x5 h
  refine aw_pc (pc' := 19) rfl ?_
  refine ar_aN dX7_copyFrom_19 h ?_
  clear h
  intro x6 h
  refine aw_pc (pc' := 20) rfl ?_
  refine aw_min qM_RX7_28 mw_min (Nat.le_of_ble_eq_true rfl) dX7_copyFrom_20 (aw_pc (pc' := 23) rfl ?_)
  refine ar_cpI qM_RX7_31 mw_copy (Nat.le_of_ble_eq_true rfl) dX7_copyFrom_23 h ?_
  clear h
  intro F7 h
  refine aw_pc (pc' := 26) rfl ?_
  refine aw_aload_n dX7_copyFrom_26 rfl rfl (aw_pc (pc' := 27) rfl ?_)
  refine aw_aload_n dX7_copyFrom_27 rfl rfl (aw_pc (pc' := 28) rfl ?_)
  refine ar_gI fl_RX7_15 dX7_copyFrom_28 h ?_
  clear h
  intro x8 h
  refine aw_pc (pc' := 31) rfl ?_
  refine aw_aload_n dX7_copyFrom_31 rfl rfl (aw_pc (pc' := 32) rfl ?_)
  refine ar_gI fl_RX7_25 dX7_copyFrom_32 h ?_
  clear h
  intro x9 h
  refine aw_pc (pc' := 35) rfl ?_
  refine aw_min qM_RX7_28 mw_min (Nat.le_of_ble_eq_true rfl) dX7_copyFrom_35 (aw_pc (pc' := 38) rfl ?_)
  refine ar_pF fl_RX7_25 ft_X7_2 (okI _) dX7_copyFrom_38 h ?_
  clear h
  intro F10 h
  refine aw_pc (pc' := 41) rfl ?_
  exact aw_vret rfl dX7_copyFrom_41 ⟨rfl, h⟩
def mX6_keep (o : Nat) (a1 : Option Nat) (F : hp) (Q : hp → Prop) : Prop := gI F (some o) 6 1 (fun x1 => gI F (some o) 6 2 (fun x2 => ∀ v3 : Int, v3 = ((w32 (x1 + x2)).tmod 30) → gR F a1 10 0 (fun x4 => gR F (some o) 6 0 (fun x5 => cpI F x4 0 x5 (v3 * 60) 60 (fun F6 => gI F6 (some o) 6 2 (fun x7 => (w32 x7 < 30 → gI F6 (some o) 6 2 (fun x8 => pF F6 (some o) 6 2 (vi (x8 + 1)) (fun F9 => Q F9))) ∧ (¬ w32 x7 < 30 → gI F6 (some o) 6 1 (fun x10 => pF F6 (some o) 6 1 (vi ((w32 (x10 + 1)).tmod 30)) (fun F11 => Q F11)))))))))
set_option maxHeartbeats 4000000 in
theorem tX6_keep {d : Nat} {o : Nat} {a1 : Option Nat} {F : hp} {Q : hp → Prop} (h : mX6_keep o a1 F Q) : am nX6_keep (d + 1) 0 0 [vr (some o), vr a1] F (qV Q) := by
  refine am_of (by decide +kernel) (Nat.le_of_ble_eq_true rfl) ?_
  show aw nX6_keep (d + 1) 0 0 0 [some (vr (some o)), some (vr a1), none] [] F (qV Q)
  unfold mX6_keep at h
  refine aw_aload_n dX6_keep_0 rfl rfl (aw_pc (pc' := 1) rfl ?_)
  refine ar_gI fl_RX6_17 dX6_keep_1 h ?_
  clear h
  intro x1 h
  refine aw_pc (pc' := 4) rfl ?_
  refine aw_aload_n dX6_keep_4 rfl rfl (aw_pc (pc' := 5) rfl ?_)
  refine ar_gI fl_RX6_21 dX6_keep_5 h ?_
  clear h
  intro x2 h
  refine aw_pc (pc' := 8) rfl ?_
  refine aw_iadd dX6_keep_8 (aw_pc (pc' := 9) rfl ?_)
  refine aw_bipush dX6_keep_9 (by decide) (aw_pc (pc' := 11) rfl ?_)
  refine ac_rem wl_30 (by decide) dX6_keep_11 (aw_pc (pc' := 12) rfl ?_)
  generalize hv_v3 : ((w32 (x1 + x2)).tmod 30) = v3
  replace h := h v3 hv_v3.symm
  refine aw_istore_n dX6_keep_12 rfl (by decide) (aw_pc (pc' := 13) rfl ?_)
  refine aw_aload_n dX6_keep_13 rfl rfl (aw_pc (pc' := 14) rfl ?_)
  refine ar_gR fl_RX6_24 dX6_keep_14 h ?_
  clear h
  intro x4 h
  refine aw_pc (pc' := 17) rfl ?_
  refine aw_iconst dX6_keep_17 (aw_pc (pc' := 18) rfl ?_)
  refine aw_aload_n dX6_keep_18 rfl rfl (aw_pc (pc' := 19) rfl ?_)
  refine ar_gR fl_RX6_11 dX6_keep_19 h ?_
  clear h
  intro x5 h
  refine aw_pc (pc' := 22) rfl ?_
  refine aw_iload_n dX6_keep_22 rfl rfl (aw_pc (pc' := 23) rfl ?_)
  refine aw_bipush dX6_keep_23 (by decide) (aw_pc (pc' := 25) rfl ?_)
  refine aw_imul dX6_keep_25 (aw_pc (pc' := 26) rfl ?_)
  refine aw_bipush dX6_keep_26 (by decide) (aw_pc (pc' := 28) rfl ?_)
  refine ar_cpI qM_RX6_27 mw_copy (Nat.le_of_ble_eq_true rfl) dX6_keep_28 h ?_
  clear h
  intro F6 h
  refine aw_pc (pc' := 31) rfl ?_
  refine aw_aload_n dX6_keep_31 rfl rfl (aw_pc (pc' := 32) rfl ?_)
  refine ar_gI fl_RX6_21 dX6_keep_32 h ?_
  clear h
  intro x7 h
  refine aw_pc (pc' := 35) rfl ?_
  refine aw_bipush dX6_keep_35 (by decide) (aw_pc (pc' := 37) rfl ?_)
  refine ac_ge rfl wl_30 dX6_keep_37 rfl (fun c => ?_) (fun c => ?_)
  · replace h := h.1 c
    refine aw_aload_n dX6_keep_40 rfl rfl (aw_pc (pc' := 41) rfl ?_)
    refine aw_dup dX6_keep_41 trivial (aw_pc (pc' := 42) rfl ?_)
    refine ar_gI fl_RX6_21 dX6_keep_42 h ?_
    clear h
    intro x8 h
    refine aw_pc (pc' := 45) rfl ?_
    refine aw_iconst dX6_keep_45 (aw_pc (pc' := 46) rfl ?_)
    refine aw_iadd dX6_keep_46 (aw_pc (pc' := 47) rfl ?_)
    refine ar_pF fl_RX6_21 ft_X6_2 (okI _) dX6_keep_47 h ?_
    clear h
    intro F9 h
    refine aw_pc (pc' := 50) rfl ?_
    refine aw_goto (tgt := 66) dX6_keep_50 rfl ?_
    exact aw_vret rfl dX6_keep_66 ⟨rfl, h⟩
  · replace h := h.2 c
    refine aw_aload_n dX6_keep_53 rfl rfl (aw_pc (pc' := 54) rfl ?_)
    refine aw_aload_n dX6_keep_54 rfl rfl (aw_pc (pc' := 55) rfl ?_)
    refine ar_gI fl_RX6_17 dX6_keep_55 h ?_
    clear h
    intro x10 h
    refine aw_pc (pc' := 58) rfl ?_
    refine aw_iconst dX6_keep_58 (aw_pc (pc' := 59) rfl ?_)
    refine aw_iadd dX6_keep_59 (aw_pc (pc' := 60) rfl ?_)
    refine aw_bipush dX6_keep_60 (by decide) (aw_pc (pc' := 62) rfl ?_)
    refine ac_rem wl_30 (by decide) dX6_keep_62 (aw_pc (pc' := 63) rfl ?_)
    refine ar_pF fl_RX6_17 ft_X6_1 (okI _) dX6_keep_63 h ?_
    clear h
    intro F11 h
    refine aw_pc (pc' := 66) rfl ?_
    exact aw_vret rfl dX6_keep_66 ⟨rfl, h⟩
def mX6_takeBack_L61 (Q : Int → hp → Prop) : Nat → Option Nat → Int → Int → hp → Prop
  | 0, _, _, _, _ => False
  | k + 1, a1, a3, a4, F => (w32 a4 < w32 a3 → rcv F a1 10 (fun o3 => mX10_addCar o3 F (fun x2 F1 => mX6_takeBack_L61 Q k (some o3) a3 (a4 + 1) F1))) ∧ (¬ w32 a4 < w32 a3 → Q 1 F)
set_option maxHeartbeats 4000000 in
theorem tX6_takeBack_L61 {d : Nat} {Q : Int → hp → Prop} : ∀ (k : Nat) (a1 : Option Nat) (a3 : Int) (a4 : Int) (F : hp), mX6_takeBack_L61 Q k a1 a3 a4 F → aw nX6_takeBack (d + 3) 0 0 61 [none, some (vr a1), none, some (vi a3), some (vi a4)] [] F (qI Q) := by
  intro k
  induction k with
  | zero => intro a1 a3 a4 F h; exact h.elim
  | succ k ih =>
    intro a1 a3 a4 F h
    simp only [mX6_takeBack_L61] at h
    refine aw_iload dX6_takeBack_61 rfl (aw_pc (pc' := 63) rfl ?_)
    refine aw_iload_n dX6_takeBack_63 rfl rfl (aw_pc (pc' := 64) rfl ?_)
    refine ac_ge rfl rfl dX6_takeBack_64 rfl (fun c => ?_) (fun c => ?_)
    · replace h := h.1 c
      refine aw_aload_n dX6_takeBack_67 rfl rfl (aw_pc (pc' := 68) rfl ?_)
      have h0 := rcv_inv h
      clear h
      obtain ⟨o3, fs_o3, hr_o3, he_o3, h⟩ := h0
      subst hr_o3
      refine ar_VI (kc' := 0) (ks' := 0) (kc := 0) (ks := 0) (a := o3) (ci := 10) (as := []) (st := []) (tX10_addCar h) mt_X10_addCar rfl qM_RX6_37 qI_X10_addCar qV_X10_addCar he_o3 rfl (Nat.le_of_ble_eq_true rfl) dX6_takeBack_68 ?_
      clear h
      intro x2 F1 h
      refine aw_pc (pc' := 71) rfl ?_
      refine aw_pop dX6_takeBack_71 trivial (aw_pc (pc' := 72) rfl ?_)
      refine aw_iinc dX6_takeBack_72 rfl (by decide) (aw_pc (pc' := 75) rfl ?_)
      refine aw_goto (tgt := 61) dX6_takeBack_75 rfl ?_
      exact aw_mask [false, true, false, true, true] (ih _ _ _ _ h)
    · replace h := h.2 c
      refine aw_iconst dX6_takeBack_78 (aw_pc (pc' := 79) rfl ?_)
      exact aw_zret rfl (by decide) dX6_takeBack_79 ⟨_, rfl, h⟩
def mX6_takeBack (o : Nat) (a1 : Option Nat) (F : hp) (Q : Int → hp → Prop) : Prop := gI F (some o) 6 2 (fun x1 => (w32 x1 = 0 → Q 0 F) ∧ (¬ w32 x1 = 0 → gI F (some o) 6 2 (fun x2 => pF F (some o) 6 2 (vi (x2 - 1)) (fun F3 => gI F3 (some o) 6 1 (fun x4 => gI F3 (some o) 6 2 (fun x5 => ∀ v6 : Int, v6 = ((w32 (x4 + x5)).tmod 30) → rcv F3 a1 10 (fun o9 => mX10_countCars o9 F3 (fun x8 F7 => gR F7 (some o) 6 0 (fun x10 => gR F7 (some o9) 10 0 (fun x11 => cpI F7 x10 (v6 * 60) x11 0 60 (fun F12 => rcv F12 (some o9) 10 (fun o15 => mX10_countCars o15 F12 (fun x14 F13 => (∃ k16, mX6_takeBack_L61 Q k16 (some o9) x8 x14 F13))))))))))))))
set_option maxHeartbeats 4000000 in
theorem tX6_takeBack {d : Nat} {o : Nat} {a1 : Option Nat} {F : hp} {Q : Int → hp → Prop} (h : mX6_takeBack o a1 F Q) : am nX6_takeBack (d + 3) 0 0 [vr (some o), vr a1] F (qI Q) := by
  refine am_of (by decide +kernel) (Nat.le_of_ble_eq_true rfl) ?_
  show aw nX6_takeBack (d + 3) 0 0 0 [some (vr (some o)), some (vr a1), none, none, none] [] F (qI Q)
  unfold mX6_takeBack at h
  refine aw_aload_n dX6_takeBack_0 rfl rfl (aw_pc (pc' := 1) rfl ?_)
  refine ar_gI fl_RX6_21 dX6_takeBack_1 h ?_
  clear h
  intro x1 h
  refine aw_pc (pc' := 4) rfl ?_
  refine aw_if_ne dX6_takeBack_4 rfl (fun c => ?_) (fun c => ?_)
  · replace h := h.1 c
    refine aw_iconst dX6_takeBack_7 (aw_pc (pc' := 8) rfl ?_)
    exact aw_zret rfl (by decide) dX6_takeBack_8 ⟨_, rfl, h⟩
  · replace h := h.2 c
    refine aw_aload_n dX6_takeBack_9 rfl rfl (aw_pc (pc' := 10) rfl ?_)
    refine aw_dup dX6_takeBack_10 trivial (aw_pc (pc' := 11) rfl ?_)
    refine ar_gI fl_RX6_21 dX6_takeBack_11 h ?_
    clear h
    intro x2 h
    refine aw_pc (pc' := 14) rfl ?_
    refine aw_iconst dX6_takeBack_14 (aw_pc (pc' := 15) rfl ?_)
    refine aw_isub dX6_takeBack_15 (aw_pc (pc' := 16) rfl ?_)
    refine ar_pF fl_RX6_21 ft_X6_2 (okI _) dX6_takeBack_16 h ?_
    clear h
    intro F3 h
    refine aw_pc (pc' := 19) rfl ?_
    refine aw_aload_n dX6_takeBack_19 rfl rfl (aw_pc (pc' := 20) rfl ?_)
    refine ar_gI fl_RX6_17 dX6_takeBack_20 h ?_
    clear h
    intro x4 h
    refine aw_pc (pc' := 23) rfl ?_
    refine aw_aload_n dX6_takeBack_23 rfl rfl (aw_pc (pc' := 24) rfl ?_)
    refine ar_gI fl_RX6_21 dX6_takeBack_24 h ?_
    clear h
    intro x5 h
    refine aw_pc (pc' := 27) rfl ?_
    refine aw_iadd dX6_takeBack_27 (aw_pc (pc' := 28) rfl ?_)
    refine aw_bipush dX6_takeBack_28 (by decide) (aw_pc (pc' := 30) rfl ?_)
    refine ac_rem wl_30 (by decide) dX6_takeBack_30 (aw_pc (pc' := 31) rfl ?_)
    generalize hv_v6 : ((w32 (x4 + x5)).tmod 30) = v6
    replace h := h v6 hv_v6.symm
    refine aw_istore_n dX6_takeBack_31 rfl (by decide) (aw_pc (pc' := 32) rfl ?_)
    refine aw_aload_n dX6_takeBack_32 rfl rfl (aw_pc (pc' := 33) rfl ?_)
    have h0 := rcv_inv h
    clear h
    obtain ⟨o9, fs_o9, hr_o9, he_o9, h⟩ := h0
    subst hr_o9
    refine ar_VI (kc' := 0) (ks' := 0) (kc := 0) (ks := 0) (a := o9) (ci := 10) (as := []) (st := []) (tX10_countCars h) mt_X10_countCars rfl qM_RX6_33 qI_X10_countCars qV_X10_countCars he_o9 rfl (Nat.le_of_ble_eq_true rfl) dX6_takeBack_33 ?_
    clear h
    intro x8 F7 h
    refine aw_pc (pc' := 36) rfl ?_
    refine aw_istore_n dX6_takeBack_36 rfl (by decide) (aw_pc (pc' := 37) rfl ?_)
    refine aw_aload_n dX6_takeBack_37 rfl rfl (aw_pc (pc' := 38) rfl ?_)
    refine ar_gR fl_RX6_11 dX6_takeBack_38 h ?_
    clear h
    intro x10 h
    refine aw_pc (pc' := 41) rfl ?_
    refine aw_iload_n dX6_takeBack_41 rfl rfl (aw_pc (pc' := 42) rfl ?_)
    refine aw_bipush dX6_takeBack_42 (by decide) (aw_pc (pc' := 44) rfl ?_)
    refine aw_imul dX6_takeBack_44 (aw_pc (pc' := 45) rfl ?_)
    refine aw_aload_n dX6_takeBack_45 rfl rfl (aw_pc (pc' := 46) rfl ?_)
    refine ar_gR fl_RX6_24 dX6_takeBack_46 h ?_
    clear h
    intro x11 h
    refine aw_pc (pc' := 49) rfl ?_
    refine aw_iconst dX6_takeBack_49 (aw_pc (pc' := 50) rfl ?_)
    refine aw_bipush dX6_takeBack_50 (by decide) (aw_pc (pc' := 52) rfl ?_)
    refine ar_cpI qM_RX6_27 mw_copy (Nat.le_of_ble_eq_true rfl) dX6_takeBack_52 h ?_
    clear h
    intro F12 h
    refine aw_pc (pc' := 55) rfl ?_
    refine aw_aload_n dX6_takeBack_55 rfl rfl (aw_pc (pc' := 56) rfl ?_)
    have h0 := rcv_inv h
    clear h
    obtain ⟨o15, fs_o15, hr_o15, he_o15, h⟩ := h0
    obtain rfl : o9 = o15 := Option.some.inj hr_o15
    refine ar_VI (kc' := 0) (ks' := 0) (kc := 0) (ks := 0) (a := o9) (ci := 10) (as := []) (st := []) (tX10_countCars h) mt_X10_countCars rfl qM_RX6_33 qI_X10_countCars qV_X10_countCars he_o15 rfl (Nat.le_of_ble_eq_true rfl) dX6_takeBack_56 ?_
    clear h
    intro x14 F13 h
    refine aw_pc (pc' := 59) rfl ?_
    refine aw_istore dX6_takeBack_59 (by decide) (aw_pc (pc' := 61) rfl ?_)
    obtain ⟨k16, h⟩ := h
    exact aw_mask [false, true, false, true, true] (tX6_takeBack_L61 k16 _ _ _ _ h)
def mX7_add (o : Nat) (a1 : Int) (a2 : Int) (a3 : Int) (F : hp) (Q : Int → hp → Prop) : Prop := gI F (some o) 7 2 (fun x1 => gI F (some o) 7 1 (fun x2 => (w32 x1 < w32 x2 → gR F (some o) 7 0 (fun x3 => gI F (some o) 7 2 (fun x4 => sI F x3 0 (3 * x4) a1 (fun F5 => gR F5 (some o) 7 0 (fun x6 => gI F5 (some o) 7 2 (fun x7 => sI F5 x6 0 ((3 * x7) + 1) a2 (fun F8 => gR F8 (some o) 7 0 (fun x9 => gI F8 (some o) 7 2 (fun x10 => sI F8 x9 0 ((3 * x10) + 2) a3 (fun F11 => gI F11 (some o) 7 2 (fun x12 => pF F11 (some o) 7 2 (vi (x12 + 1)) (fun F13 => gI F13 (some o) 7 2 (fun x14 => Q x14 F13))))))))))))) ∧ (¬ w32 x1 < w32 x2 → Q (-2) F)))
set_option maxHeartbeats 4000000 in
theorem tX7_add {d : Nat} {o : Nat} {a1 : Int} {a2 : Int} {a3 : Int} {F : hp} {Q : Int → hp → Prop} (h : mX7_add o a1 a2 a3 F Q) : am nX7_add d 0 0 [vr (some o), vi a1, vi a2, vi a3] F (qI Q) := by
  refine am_of (by decide +kernel) (Nat.le_of_ble_eq_true rfl) ?_
  show aw nX7_add d 0 0 0 [some (vr (some o)), some (vi a1), some (vi a2), some (vi a3)] [] F (qI Q)
  unfold mX7_add at h
  refine aw_aload_n dX7_add_0 rfl rfl (aw_pc (pc' := 1) rfl ?_)
  refine ar_gI fl_RX7_25 dX7_add_1 h ?_
  clear h
  intro x1 h
  refine aw_pc (pc' := 4) rfl ?_
  refine aw_aload_n dX7_add_4 rfl rfl (aw_pc (pc' := 5) rfl ?_)
  refine ar_gI fl_RX7_15 dX7_add_5 h ?_
  clear h
  intro x2 h
  refine aw_pc (pc' := 8) rfl ?_
  refine ac_lt rfl rfl dX7_add_8 rfl (fun c => ?_) (fun c => ?_)
  · replace h := h.1 c
    refine aw_aload_n dX7_add_14 rfl rfl (aw_pc (pc' := 15) rfl ?_)
    refine ar_gR fl_RX7_21 dX7_add_15 h ?_
    clear h
    intro x3 h
    refine aw_pc (pc' := 18) rfl ?_
    refine aw_iconst dX7_add_18 (aw_pc (pc' := 19) rfl ?_)
    refine aw_aload_n dX7_add_19 rfl rfl (aw_pc (pc' := 20) rfl ?_)
    refine ar_gI fl_RX7_25 dX7_add_20 h ?_
    clear h
    intro x4 h
    refine aw_pc (pc' := 23) rfl ?_
    refine aw_imul dX7_add_23 (aw_pc (pc' := 24) rfl ?_)
    refine aw_iload_n dX7_add_24 rfl rfl (aw_pc (pc' := 25) rfl ?_)
    refine ar_sI dX7_add_25 h ?_
    clear h
    intro F5 h
    refine aw_pc (pc' := 26) rfl ?_
    refine aw_aload_n dX7_add_26 rfl rfl (aw_pc (pc' := 27) rfl ?_)
    refine ar_gR fl_RX7_21 dX7_add_27 h ?_
    clear h
    intro x6 h
    refine aw_pc (pc' := 30) rfl ?_
    refine aw_iconst dX7_add_30 (aw_pc (pc' := 31) rfl ?_)
    refine aw_aload_n dX7_add_31 rfl rfl (aw_pc (pc' := 32) rfl ?_)
    refine ar_gI fl_RX7_25 dX7_add_32 h ?_
    clear h
    intro x7 h
    refine aw_pc (pc' := 35) rfl ?_
    refine aw_imul dX7_add_35 (aw_pc (pc' := 36) rfl ?_)
    refine aw_iconst dX7_add_36 (aw_pc (pc' := 37) rfl ?_)
    refine aw_iadd dX7_add_37 (aw_pc (pc' := 38) rfl ?_)
    refine aw_iload_n dX7_add_38 rfl rfl (aw_pc (pc' := 39) rfl ?_)
    refine ar_sI dX7_add_39 h ?_
    clear h
    intro F8 h
    refine aw_pc (pc' := 40) rfl ?_
    refine aw_aload_n dX7_add_40 rfl rfl (aw_pc (pc' := 41) rfl ?_)
    refine ar_gR fl_RX7_21 dX7_add_41 h ?_
    clear h
    intro x9 h
    refine aw_pc (pc' := 44) rfl ?_
    refine aw_iconst dX7_add_44 (aw_pc (pc' := 45) rfl ?_)
    refine aw_aload_n dX7_add_45 rfl rfl (aw_pc (pc' := 46) rfl ?_)
    refine ar_gI fl_RX7_25 dX7_add_46 h ?_
    clear h
    intro x10 h
    refine aw_pc (pc' := 49) rfl ?_
    refine aw_imul dX7_add_49 (aw_pc (pc' := 50) rfl ?_)
    refine aw_iconst dX7_add_50 (aw_pc (pc' := 51) rfl ?_)
    refine aw_iadd dX7_add_51 (aw_pc (pc' := 52) rfl ?_)
    refine aw_iload_n dX7_add_52 rfl rfl (aw_pc (pc' := 53) rfl ?_)
    refine ar_sI dX7_add_53 h ?_
    clear h
    intro F11 h
    refine aw_pc (pc' := 54) rfl ?_
    refine aw_aload_n dX7_add_54 rfl rfl (aw_pc (pc' := 55) rfl ?_)
    refine aw_dup dX7_add_55 trivial (aw_pc (pc' := 56) rfl ?_)
    refine ar_gI fl_RX7_25 dX7_add_56 h ?_
    clear h
    intro x12 h
    refine aw_pc (pc' := 59) rfl ?_
    refine aw_iconst dX7_add_59 (aw_pc (pc' := 60) rfl ?_)
    refine aw_iadd dX7_add_60 (aw_pc (pc' := 61) rfl ?_)
    refine ar_pF fl_RX7_25 ft_X7_2 (okI _) dX7_add_61 h ?_
    clear h
    intro F13 h
    refine aw_pc (pc' := 64) rfl ?_
    refine aw_aload_n dX7_add_64 rfl rfl (aw_pc (pc' := 65) rfl ?_)
    refine ar_gI fl_RX7_25 dX7_add_65 h ?_
    clear h
    intro x14 h
    refine aw_pc (pc' := 68) rfl ?_
    exact aw_iret rfl dX7_add_68 ⟨_, rfl, h⟩
  · replace h := h.2 c
    refine aw_bipush dX7_add_11 (by decide) (aw_pc (pc' := 13) rfl ?_)
    exact aw_iret rfl dX7_add_13 ⟨_, rfl, h⟩
def mX7_empty (o : Nat) (F : hp) (Q : Int → hp → Prop) : Prop := pF F (some o) 7 2 (vi 0) (fun F1 => Q 0 F1)
set_option maxHeartbeats 4000000 in
theorem tX7_empty {d : Nat} {o : Nat} {F : hp} {Q : Int → hp → Prop} (h : mX7_empty o F Q) : am nX7_empty d 0 0 [vr (some o)] F (qI Q) := by
  refine am_of (by decide +kernel) (Nat.le_of_ble_eq_true rfl) ?_
  show aw nX7_empty d 0 0 0 [some (vr (some o))] [] F (qI Q)
  unfold mX7_empty at h
  refine aw_aload_n dX7_empty_0 rfl rfl (aw_pc (pc' := 1) rfl ?_)
  refine aw_iconst dX7_empty_1 (aw_pc (pc' := 2) rfl ?_)
  refine ar_pF fl_RX7_25 ft_X7_2 (okI _) dX7_empty_2 h ?_
  clear h
  intro F1 h
  refine aw_pc (pc' := 5) rfl ?_
  refine aw_iconst dX7_empty_5 (aw_pc (pc' := 6) rfl ?_)
  exact aw_iret rfl dX7_empty_6 ⟨_, rfl, h⟩
def mX7_cell (o : Nat) (a1 : Int) (a2 : Int) (F : hp) (Q : Int → hp → Prop) : Prop := gR F (some o) 7 0 (fun x1 => aI F x1 0 ((3 * a1) + a2) (fun x2 => Q x2 F))
set_option maxHeartbeats 4000000 in
theorem tX7_cell {d : Nat} {o : Nat} {a1 : Int} {a2 : Int} {F : hp} {Q : Int → hp → Prop} (h : mX7_cell o a1 a2 F Q) : am nX7_cell d 0 0 [vr (some o), vi a1, vi a2] F (qI Q) := by
  refine am_of (by decide +kernel) (Nat.le_of_ble_eq_true rfl) ?_
  show aw nX7_cell d 0 0 0 [some (vr (some o)), some (vi a1), some (vi a2)] [] F (qI Q)
  unfold mX7_cell at h
  refine aw_aload_n dX7_cell_0 rfl rfl (aw_pc (pc' := 1) rfl ?_)
  refine ar_gR fl_RX7_21 dX7_cell_1 h ?_
  clear h
  intro x1 h
  refine aw_pc (pc' := 4) rfl ?_
  refine aw_iconst dX7_cell_4 (aw_pc (pc' := 5) rfl ?_)
  refine aw_iload_n dX7_cell_5 rfl rfl (aw_pc (pc' := 6) rfl ?_)
  refine aw_imul dX7_cell_6 (aw_pc (pc' := 7) rfl ?_)
  refine aw_iload_n dX7_cell_7 rfl rfl (aw_pc (pc' := 8) rfl ?_)
  refine aw_iadd dX7_cell_8 (aw_pc (pc' := 9) rfl ?_)
  refine ar_aI dX7_cell_9 h ?_
  clear h
  intro x2 h
  refine aw_pc (pc' := 10) rfl ?_
  exact aw_iret rfl dX7_cell_10 ⟨_, rfl, h⟩
def mX8_countClauses (o : Nat) (F : hp) (Q : Int → hp → Prop) : Prop := gR F (some o) 8 0 (fun x1 => aN F x1 (fun x2 => Q ((w32 x2).tdiv 3) F))
set_option maxHeartbeats 4000000 in
theorem tX8_countClauses {d : Nat} {o : Nat} {F : hp} {Q : Int → hp → Prop} (h : mX8_countClauses o F Q) : am nX8_countClauses d 0 0 [vr (some o)] F (qI Q) := by
  refine am_of (by decide +kernel) (Nat.le_of_ble_eq_true rfl) ?_
  show aw nX8_countClauses d 0 0 0 [some (vr (some o))] [] F (qI Q)
  unfold mX8_countClauses at h
  refine aw_aload_n dX8_countClauses_0 rfl rfl (aw_pc (pc' := 1) rfl ?_)
  refine ar_gR fl_RX8_9 dX8_countClauses_1 h ?_
  clear h
  intro x1 h
  refine aw_pc (pc' := 4) rfl ?_
  refine ar_aN dX8_countClauses_4 h ?_
  clear h
  intro x2 h
  refine aw_pc (pc' := 5) rfl ?_
  refine aw_iconst dX8_countClauses_5 (aw_pc (pc' := 6) rfl ?_)
  refine ac_div wl_3 (by decide) dX8_countClauses_6 (aw_pc (pc' := 7) rfl ?_)
  exact aw_iret rfl dX8_countClauses_7 ⟨_, rfl, h⟩
def mX8_clausePart (o : Nat) (a1 : Int) (a2 : Int) (F : hp) (Q : Int → hp → Prop) : Prop := gR F (some o) 8 0 (fun x1 => aI F x1 0 ((3 * a1) + a2) (fun x2 => Q x2 F))
set_option maxHeartbeats 4000000 in
theorem tX8_clausePart {d : Nat} {o : Nat} {a1 : Int} {a2 : Int} {F : hp} {Q : Int → hp → Prop} (h : mX8_clausePart o a1 a2 F Q) : am nX8_clausePart d 0 0 [vr (some o), vi a1, vi a2] F (qI Q) := by
  refine am_of (by decide +kernel) (Nat.le_of_ble_eq_true rfl) ?_
  show aw nX8_clausePart d 0 0 0 [some (vr (some o)), some (vi a1), some (vi a2)] [] F (qI Q)
  unfold mX8_clausePart at h
  refine aw_aload_n dX8_clausePart_0 rfl rfl (aw_pc (pc' := 1) rfl ?_)
  refine ar_gR fl_RX8_9 dX8_clausePart_1 h ?_
  clear h
  intro x1 h
  refine aw_pc (pc' := 4) rfl ?_
  refine aw_iconst dX8_clausePart_4 (aw_pc (pc' := 5) rfl ?_)
  refine aw_iload_n dX8_clausePart_5 rfl rfl (aw_pc (pc' := 6) rfl ?_)
  refine aw_imul dX8_clausePart_6 (aw_pc (pc' := 7) rfl ?_)
  refine aw_iload_n dX8_clausePart_7 rfl rfl (aw_pc (pc' := 8) rfl ?_)
  refine aw_iadd dX8_clausePart_8 (aw_pc (pc' := 9) rfl ?_)
  refine ar_aI dX8_clausePart_9 h ?_
  clear h
  intro x2 h
  refine aw_pc (pc' := 10) rfl ?_
  exact aw_iret rfl dX8_clausePart_10 ⟨_, rfl, h⟩
def mX8_hasLaw (o : Nat) (a1 : Int) (F : hp) (Q : Int → hp → Prop) : Prop := gR F (some o) 8 2 (fun x1 => aI F x1 0 (2 * a1) (fun x2 => (w32 x2 = (-1) → Q 0 F) ∧ (¬ w32 x2 = (-1) → Q 1 F)))
set_option maxHeartbeats 4000000 in
theorem tX8_hasLaw {d : Nat} {o : Nat} {a1 : Int} {F : hp} {Q : Int → hp → Prop} (h : mX8_hasLaw o a1 F Q) : am nX8_hasLaw d 0 0 [vr (some o), vi a1] F (qI Q) := by
  refine am_of (by decide +kernel) (Nat.le_of_ble_eq_true rfl) ?_
  show aw nX8_hasLaw d 0 0 0 [some (vr (some o)), some (vi a1)] [] F (qI Q)
  unfold mX8_hasLaw at h
  refine aw_aload_n dX8_hasLaw_0 rfl rfl (aw_pc (pc' := 1) rfl ?_)
  refine ar_gR fl_RX8_18 dX8_hasLaw_1 h ?_
  clear h
  intro x1 h
  refine aw_pc (pc' := 4) rfl ?_
  refine aw_iconst dX8_hasLaw_4 (aw_pc (pc' := 5) rfl ?_)
  refine aw_iload_n dX8_hasLaw_5 rfl rfl (aw_pc (pc' := 6) rfl ?_)
  refine aw_imul dX8_hasLaw_6 (aw_pc (pc' := 7) rfl ?_)
  refine ar_aI dX8_hasLaw_7 h ?_
  clear h
  intro x2 h
  refine aw_pc (pc' := 8) rfl ?_
  refine aw_iconst dX8_hasLaw_8 (aw_pc (pc' := 9) rfl ?_)
  refine ac_eq rfl wl_m1 dX8_hasLaw_9 rfl (fun c => ?_) (fun c => ?_)
  · replace h := h.1 c
    refine aw_iconst dX8_hasLaw_16 (aw_pc (pc' := 17) rfl ?_)
    exact aw_zret rfl (by decide) dX8_hasLaw_17 ⟨_, rfl, h⟩
  · replace h := h.2 c
    refine aw_iconst dX8_hasLaw_12 (aw_pc (pc' := 13) rfl ?_)
    refine aw_goto (tgt := 17) dX8_hasLaw_13 rfl ?_
    exact aw_zret rfl (by decide) dX8_hasLaw_17 ⟨_, rfl, h⟩
