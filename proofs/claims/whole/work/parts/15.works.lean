def mX9_init (o : Nat) (F : hp) (Q : hp → Prop) : Prop := nwc F (cO 5 [vr none, vr none, vr none, vr none, vr none, vr none, vr none, vr none, vr none, vr none, vr none, vr none, vi 0, vi 0, vi 0, vi 0]) (fun n1 F2 => mX5_init n1 F2 (fun F3 => pF F3 (some o) 9 0 (vr (some n1)) (fun F4 => nwc F4 (cO 3 [vr none, vr none, vi 0]) (fun n5 F6 => mX3_init n5 F6 (fun F7 => pF F7 (some o) 9 1 (vr (some n5)) (fun F8 => Q F8))))))
set_option maxHeartbeats 4000000 in
theorem tX9_init {d : Nat} {o : Nat} {F : hp} {Q : hp → Prop} (h : mX9_init o F Q) : am nX9_init (d + 3) 21 2313 [vr (some o)] F (qV Q) := by
  refine am_of (by decide +kernel) (Nat.le_of_ble_eq_true rfl) ?_
  show aw nX9_init (d + 3) 21 2313 0 [some (vr (some o))] [] F (qV Q)
  unfold mX9_init at h
  refine aw_aload_n dX9_init_0 rfl rfl (aw_pc (pc' := 1) rfl ?_)
  refine aw_obj qM_RX9_3 mw_obj (Nat.le_of_ble_eq_true rfl) dX9_init_1 (aw_pc (pc' := 4) rfl ?_)
  refine aw_aload_n dX9_init_4 rfl rfl (aw_pc (pc' := 5) rfl ?_)
  refine ar_new (kc := 20) (ks := 2297) nl_RX9_9 16 rfl dX9_init_5 h ?_
  clear h
  intro n1 F2 h
  refine aw_pc (pc' := 8) rfl ?_
  refine aw_dup dX9_init_8 trivial (aw_pc (pc' := 9) rfl ?_)
  refine ar_INV (kc' := 17) (ks' := 1980) (kc := 3) (ks := 317) (a := n1) (as := []) (st := [vr (some n1), vr (some o)]) (tX5_init h) mt_X5_init rfl rfl qN_RX9_11 qI_X5_init rfl (Nat.le_of_ble_eq_true rfl) dX9_init_9 ?_
  clear h
  intro F3 h
  refine aw_pc (pc' := 12) rfl ?_
  refine ar_pFF fl_RX9_12 ft_X9_0 rfl rfl (okO _ _) dX9_init_12 h ?_
  clear h
  intro F4 h
  refine aw_pc (pc' := 15) rfl ?_
  refine aw_aload_n dX9_init_15 rfl rfl (aw_pc (pc' := 16) rfl ?_)
  refine ar_new (kc := 2) (ks := 314) nl_RX9_18 3 rfl dX9_init_16 h ?_
  clear h
  intro n5 F6 h
  refine aw_pc (pc' := 19) rfl ?_
  refine aw_dup dX9_init_19 trivial (aw_pc (pc' := 20) rfl ?_)
  refine ar_INV (kc' := 2) (ks' := 314) (kc := 0) (ks := 0) (a := n5) (as := []) (st := [vr (some n5), vr (some o)]) (tX3_init h) mt_X3_init rfl rfl qN_RX9_20 qI_X3_init rfl (Nat.le_of_ble_eq_true rfl) dX9_init_20 ?_
  clear h
  intro F7 h
  refine aw_pc (pc' := 23) rfl ?_
  refine ar_pFF fl_RX9_21 ft_X9_1 rfl rfl (okO _ _) dX9_init_23 h ?_
  clear h
  intro F8 h
  refine aw_pc (pc' := 26) rfl ?_
  exact aw_vret rfl dX9_init_26 ⟨rfl, h⟩
def mX9_nameCar_L105 (Q : hp → Prop) : Nat → Nat → Int → hp → Prop
  | 0, _, _, _ => False
  | k + 1, o, a3, F => (w32 a3 < 3 → gR F (some o) 9 1 (fun x1 => gR F x1 3 0 (fun x2 => gR F (some o) 9 0 (fun x3 => rcv F x3 5 (fun o6 => mX5_loadOfUppermost o6 a3 F (fun x5 F4 => sI F4 x2 0 (11 + a3) x5 (fun F7 => mX9_nameCar_L105 Q k o (a3 + 1) F7))))))) ∧ (¬ w32 a3 < 3 → Q F)
set_option maxHeartbeats 4000000 in
theorem tX9_nameCar_L105 {d : Nat} {Q : hp → Prop} : ∀ (k : Nat) (o : Nat) (a3 : Int) (F : hp), mX9_nameCar_L105 Q k o a3 F → aw nX9_nameCar (d + 2) 0 0 105 [some (vr (some o)), none, none, some (vi a3)] [] F (qV Q) := by
  intro k
  induction k with
  | zero => intro o a3 F h; exact h.elim
  | succ k ih =>
    intro o a3 F h
    simp only [mX9_nameCar_L105] at h
    refine aw_iload_n dX9_nameCar_105 rfl rfl (aw_pc (pc' := 106) rfl ?_)
    refine aw_iconst dX9_nameCar_106 (aw_pc (pc' := 107) rfl ?_)
    refine ac_ge rfl wl_3 dX9_nameCar_107 rfl (fun c => ?_) (fun c => ?_)
    · replace h := h.1 c
      refine aw_aload_n dX9_nameCar_110 rfl rfl (aw_pc (pc' := 111) rfl ?_)
      refine ar_gR fl_RX9_21 dX9_nameCar_111 h ?_
      clear h
      intro x1 h
      refine aw_pc (pc' := 114) rfl ?_
      refine ar_gR fl_RX9_39 dX9_nameCar_114 h ?_
      clear h
      intro x2 h
      refine aw_pc (pc' := 117) rfl ?_
      refine aw_bipush dX9_nameCar_117 (by decide) (aw_pc (pc' := 119) rfl ?_)
      refine aw_iload_n dX9_nameCar_119 rfl rfl (aw_pc (pc' := 120) rfl ?_)
      refine aw_iadd dX9_nameCar_120 (aw_pc (pc' := 121) rfl ?_)
      refine aw_aload_n dX9_nameCar_121 rfl rfl (aw_pc (pc' := 122) rfl ?_)
      refine ar_gR fl_RX9_12 dX9_nameCar_122 h ?_
      clear h
      intro x3 h
      refine aw_pc (pc' := 125) rfl ?_
      refine aw_iload_n dX9_nameCar_125 rfl rfl (aw_pc (pc' := 126) rfl ?_)
      have h0 := rcv_inv h
      clear h
      obtain ⟨o6, fs_o6, hr_o6, he_o6, h⟩ := h0
      subst hr_o6
      refine ar_VI (kc' := 0) (ks' := 0) (kc := 0) (ks := 0) (a := o6) (ci := 5) (as := [vi a3]) (st := [vi (11 + a3), vr x2]) (tX5_loadOfUppermost h) mt_X5_loadOfUppermost rfl qM_RX9_76 qI_X5_loadOfUppermost qV_X5_loadOfUppermost he_o6 rfl (Nat.le_of_ble_eq_true rfl) dX9_nameCar_126 ?_
      clear h
      intro x5 F4 h
      refine aw_pc (pc' := 129) rfl ?_
      refine ar_sI dX9_nameCar_129 h ?_
      clear h
      intro F7 h
      refine aw_pc (pc' := 130) rfl ?_
      refine aw_iinc dX9_nameCar_130 rfl (by decide) (aw_pc (pc' := 133) rfl ?_)
      refine aw_goto (tgt := 105) dX9_nameCar_133 rfl ?_
      exact aw_mask [true, false, false, true] (ih _ _ _ h)
    · replace h := h.2 c
      exact aw_vret rfl dX9_nameCar_136 ⟨rfl, h⟩
def mX9_nameCar_J88 (Q : hp → Prop) (o : Nat) (a1 : Int) (a2 : Option Nat) (s0 : Option Nat) (s1 : Int) (s2 : Int) (F : hp) : Prop := sI F s0 0 s1 s2 (fun F1 => gR F1 (some o) 9 1 (fun x2 => gR F1 x2 3 0 (fun x3 => rcv F1 a2 10 (fun o6 => mX10_wornOf o6 a1 F1 (fun x5 F4 => sI F4 x3 0 5 x5 (fun F7 => (∃ k8, mX9_nameCar_L105 Q k8 o 0 F7)))))))
set_option maxHeartbeats 4000000 in
theorem tX9_nameCar_J88 {d : Nat} {Q : hp → Prop} {o : Nat} {a1 : Int} {a2 : Option Nat} {s0 : Option Nat} {s1 : Int} {s2 : Int} {F : hp} (h : mX9_nameCar_J88 Q o a1 a2 s0 s1 s2 F) : aw nX9_nameCar (d + 2) 0 0 88 [some (vr (some o)), some (vi a1), some (vr a2), none] [vi s2, vi s1, vr s0] F (qV Q) := by
  unfold mX9_nameCar_J88 at h
  refine ar_sI dX9_nameCar_88 h ?_
  clear h
  intro F1 h
  refine aw_pc (pc' := 89) rfl ?_
  refine aw_aload_n dX9_nameCar_89 rfl rfl (aw_pc (pc' := 90) rfl ?_)
  refine ar_gR fl_RX9_21 dX9_nameCar_90 h ?_
  clear h
  intro x2 h
  refine aw_pc (pc' := 93) rfl ?_
  refine ar_gR fl_RX9_39 dX9_nameCar_93 h ?_
  clear h
  intro x3 h
  refine aw_pc (pc' := 96) rfl ?_
  refine aw_iconst dX9_nameCar_96 (aw_pc (pc' := 97) rfl ?_)
  refine aw_aload_n dX9_nameCar_97 rfl rfl (aw_pc (pc' := 98) rfl ?_)
  refine aw_iload_n dX9_nameCar_98 rfl rfl (aw_pc (pc' := 99) rfl ?_)
  have h0 := rcv_inv h
  clear h
  obtain ⟨o6, fs_o6, hr_o6, he_o6, h⟩ := h0
  subst hr_o6
  refine ar_VI (kc' := 0) (ks' := 0) (kc := 0) (ks := 0) (a := o6) (ci := 10) (as := [vi a1]) (st := [vi 5, vr x3]) (tX10_wornOf h) mt_X10_wornOf rfl qM_RX9_73 qI_X10_wornOf qV_X10_wornOf he_o6 rfl (Nat.le_of_ble_eq_true rfl) dX9_nameCar_99 ?_
  clear h
  intro x5 F4 h
  refine aw_pc (pc' := 102) rfl ?_
  refine ar_sI dX9_nameCar_102 h ?_
  clear h
  intro F7 h
  refine aw_pc (pc' := 103) rfl ?_
  refine aw_iconst dX9_nameCar_103 (aw_pc (pc' := 104) rfl ?_)
  refine aw_istore_n dX9_nameCar_104 rfl (by decide) (aw_pc (pc' := 105) rfl ?_)
  obtain ⟨k8, h⟩ := h
  exact aw_mask [true, false, false, true] (tX9_nameCar_L105 k8 _ _ _ h)
def mX9_nameCar (o : Nat) (a1 : Int) (F : hp) (Q : hp → Prop) : Prop := gR F (some o) 9 0 (fun x1 => gR F x1 5 0 (fun x2 => gR F (some o) 9 1 (fun x3 => gR F x3 3 0 (fun x4 => rcv F x2 10 (fun o7 => mX10_hourNow o7 F (fun x6 F5 => sI F5 x4 0 0 x6 (fun F8 => gR F8 (some o) 9 1 (fun x9 => gR F8 x9 3 0 (fun x10 => sI F8 x10 0 1 a1 (fun F11 => gR F11 (some o) 9 1 (fun x12 => gR F11 x12 3 0 (fun x13 => gR F11 (some o) 9 0 (fun x14 => gR F11 x14 5 3 (fun x15 => aI F11 x15 0 a1 (fun x16 => sI F11 x13 0 2 x16 (fun F17 => gR F17 (some o) 9 1 (fun x18 => gR F17 x18 3 0 (fun x19 => gR F17 (some o) 9 0 (fun x20 => gR F17 x20 5 2 (fun x21 => aI F17 x21 0 a1 (fun x22 => sI F17 x19 0 3 x22 (fun F23 => gR F23 (some o) 9 1 (fun x24 => gR F23 x24 3 0 (fun x25 => rcv F23 (some o7) 10 (fun o28 => mX10_isWide o28 a1 F23 (fun x27 F26 => (w32 x27 = 0 → mX9_nameCar_J88 Q o a1 (some o7) x25 4 0 F26) ∧ (¬ w32 x27 = 0 → mX9_nameCar_J88 Q o a1 (some o7) x25 4 1 F26)))))))))))))))))))))))))))
set_option maxHeartbeats 4000000 in
theorem tX9_nameCar {d : Nat} {o : Nat} {a1 : Int} {F : hp} {Q : hp → Prop} (h : mX9_nameCar o a1 F Q) : am nX9_nameCar (d + 2) 0 0 [vr (some o), vi a1] F (qV Q) := by
  refine am_of (by decide +kernel) (Nat.le_of_ble_eq_true rfl) ?_
  show aw nX9_nameCar (d + 2) 0 0 0 [some (vr (some o)), some (vi a1), none, none] [] F (qV Q)
  unfold mX9_nameCar at h
  refine aw_aload_n dX9_nameCar_0 rfl rfl (aw_pc (pc' := 1) rfl ?_)
  refine ar_gR fl_RX9_12 dX9_nameCar_1 h ?_
  clear h
  intro x1 h
  refine aw_pc (pc' := 4) rfl ?_
  refine ar_gR fl_RX9_43 dX9_nameCar_4 h ?_
  clear h
  intro x2 h
  refine aw_pc (pc' := 7) rfl ?_
  refine aw_astore_n dX9_nameCar_7 rfl (by decide) (aw_pc (pc' := 8) rfl ?_)
  refine aw_aload_n dX9_nameCar_8 rfl rfl (aw_pc (pc' := 9) rfl ?_)
  refine ar_gR fl_RX9_21 dX9_nameCar_9 h ?_
  clear h
  intro x3 h
  refine aw_pc (pc' := 12) rfl ?_
  refine ar_gR fl_RX9_39 dX9_nameCar_12 h ?_
  clear h
  intro x4 h
  refine aw_pc (pc' := 15) rfl ?_
  refine aw_iconst dX9_nameCar_15 (aw_pc (pc' := 16) rfl ?_)
  refine aw_aload_n dX9_nameCar_16 rfl rfl (aw_pc (pc' := 17) rfl ?_)
  have h0 := rcv_inv h
  clear h
  obtain ⟨o7, fs_o7, hr_o7, he_o7, h⟩ := h0
  subst hr_o7
  refine ar_VI (kc' := 0) (ks' := 0) (kc := 0) (ks := 0) (a := o7) (ci := 10) (as := []) (st := [vi 0, vr x4]) (tX10_hourNow h) mt_X10_hourNow rfl qM_RX9_60 qI_X10_hourNow qV_X10_hourNow he_o7 rfl (Nat.le_of_ble_eq_true rfl) dX9_nameCar_17 ?_
  clear h
  intro x6 F5 h
  refine aw_pc (pc' := 20) rfl ?_
  refine ar_sI dX9_nameCar_20 h ?_
  clear h
  intro F8 h
  refine aw_pc (pc' := 21) rfl ?_
  refine aw_aload_n dX9_nameCar_21 rfl rfl (aw_pc (pc' := 22) rfl ?_)
  refine ar_gR fl_RX9_21 dX9_nameCar_22 h ?_
  clear h
  intro x9 h
  refine aw_pc (pc' := 25) rfl ?_
  refine ar_gR fl_RX9_39 dX9_nameCar_25 h ?_
  clear h
  intro x10 h
  refine aw_pc (pc' := 28) rfl ?_
  refine aw_iconst dX9_nameCar_28 (aw_pc (pc' := 29) rfl ?_)
  refine aw_iload_n dX9_nameCar_29 rfl rfl (aw_pc (pc' := 30) rfl ?_)
  refine ar_sI dX9_nameCar_30 h ?_
  clear h
  intro F11 h
  refine aw_pc (pc' := 31) rfl ?_
  refine aw_aload_n dX9_nameCar_31 rfl rfl (aw_pc (pc' := 32) rfl ?_)
  refine ar_gR fl_RX9_21 dX9_nameCar_32 h ?_
  clear h
  intro x12 h
  refine aw_pc (pc' := 35) rfl ?_
  refine ar_gR fl_RX9_39 dX9_nameCar_35 h ?_
  clear h
  intro x13 h
  refine aw_pc (pc' := 38) rfl ?_
  refine aw_iconst dX9_nameCar_38 (aw_pc (pc' := 39) rfl ?_)
  refine aw_aload_n dX9_nameCar_39 rfl rfl (aw_pc (pc' := 40) rfl ?_)
  refine ar_gR fl_RX9_12 dX9_nameCar_40 h ?_
  clear h
  intro x14 h
  refine aw_pc (pc' := 43) rfl ?_
  refine ar_gR fl_RX9_64 dX9_nameCar_43 h ?_
  clear h
  intro x15 h
  refine aw_pc (pc' := 46) rfl ?_
  refine aw_iload_n dX9_nameCar_46 rfl rfl (aw_pc (pc' := 47) rfl ?_)
  refine ar_aI dX9_nameCar_47 h ?_
  clear h
  intro x16 h
  refine aw_pc (pc' := 48) rfl ?_
  refine ar_sI dX9_nameCar_48 h ?_
  clear h
  intro F17 h
  refine aw_pc (pc' := 49) rfl ?_
  refine aw_aload_n dX9_nameCar_49 rfl rfl (aw_pc (pc' := 50) rfl ?_)
  refine ar_gR fl_RX9_21 dX9_nameCar_50 h ?_
  clear h
  intro x18 h
  refine aw_pc (pc' := 53) rfl ?_
  refine ar_gR fl_RX9_39 dX9_nameCar_53 h ?_
  clear h
  intro x19 h
  refine aw_pc (pc' := 56) rfl ?_
  refine aw_iconst dX9_nameCar_56 (aw_pc (pc' := 57) rfl ?_)
  refine aw_aload_n dX9_nameCar_57 rfl rfl (aw_pc (pc' := 58) rfl ?_)
  refine ar_gR fl_RX9_12 dX9_nameCar_58 h ?_
  clear h
  intro x20 h
  refine aw_pc (pc' := 61) rfl ?_
  refine ar_gR fl_RX9_67 dX9_nameCar_61 h ?_
  clear h
  intro x21 h
  refine aw_pc (pc' := 64) rfl ?_
  refine aw_iload_n dX9_nameCar_64 rfl rfl (aw_pc (pc' := 65) rfl ?_)
  refine ar_aI dX9_nameCar_65 h ?_
  clear h
  intro x22 h
  refine aw_pc (pc' := 66) rfl ?_
  refine ar_sI dX9_nameCar_66 h ?_
  clear h
  intro F23 h
  refine aw_pc (pc' := 67) rfl ?_
  refine aw_aload_n dX9_nameCar_67 rfl rfl (aw_pc (pc' := 68) rfl ?_)
  refine ar_gR fl_RX9_21 dX9_nameCar_68 h ?_
  clear h
  intro x24 h
  refine aw_pc (pc' := 71) rfl ?_
  refine ar_gR fl_RX9_39 dX9_nameCar_71 h ?_
  clear h
  intro x25 h
  refine aw_pc (pc' := 74) rfl ?_
  refine aw_iconst dX9_nameCar_74 (aw_pc (pc' := 75) rfl ?_)
  refine aw_aload_n dX9_nameCar_75 rfl rfl (aw_pc (pc' := 76) rfl ?_)
  refine aw_iload_n dX9_nameCar_76 rfl rfl (aw_pc (pc' := 77) rfl ?_)
  have h0 := rcv_inv h
  clear h
  obtain ⟨o28, fs_o28, hr_o28, he_o28, h⟩ := h0
  obtain rfl : o7 = o28 := Option.some.inj hr_o28
  refine ar_VI (kc' := 0) (ks' := 0) (kc := 0) (ks := 0) (a := o7) (ci := 10) (as := [vi a1]) (st := [vi 4, vr x25]) (tX10_isWide h) mt_X10_isWide rfl qM_RX9_70 qI_X10_isWide qV_X10_isWide he_o28 rfl (Nat.le_of_ble_eq_true rfl) dX9_nameCar_77 ?_
  clear h
  intro x27 F26 h
  refine aw_pc (pc' := 80) rfl ?_
  refine aw_if_eq dX9_nameCar_80 rfl (fun c => ?_) (fun c => ?_)
  · replace h := h.1 c
    refine aw_iconst dX9_nameCar_87 (aw_pc (pc' := 88) rfl ?_)
    exact aw_mask [true, true, true, false] (tX9_nameCar_J88 h)
  · replace h := h.2 c
    refine aw_iconst dX9_nameCar_83 (aw_pc (pc' := 84) rfl ?_)
    refine aw_goto (tgt := 88) dX9_nameCar_84 rfl ?_
    exact aw_mask [true, true, true, false] (tX9_nameCar_J88 h)
def mX9_movesSays (o : Nat) (a1 : Int) (a2 : Int) (a3 : Int) (F : hp) (Q : Int → hp → Prop) : Prop := gR F (some o) 9 0 (fun x1 => rcv F x1 5 (fun o4 => mX5_rulingText o4 F (fun x3 F2 => (x3 = none → Q 1 F2) ∧ (∀ n6 : Nat, x3 = some n6 → rcv F2 (some n6) 8 (fun o9 => mX8_hasLaw o9 0 F2 (fun x8 F7 => (w32 x8 = 0 → Q 1 F7) ∧ (¬ w32 x8 = 0 → rcv F7 (some o) 9 (fun o11 => mX9_nameCar o11 a1 F7 (fun F10 => gR F10 (some o) 9 1 (fun x12 => gR F10 x12 3 0 (fun x13 => sI F10 x13 0 6 a2 (fun F14 => gR F14 (some o) 9 1 (fun x15 => gR F14 x15 3 0 (fun x16 => sI F14 x16 0 7 a3 (fun F17 => gR F17 (some o) 9 1 (fun x18 => gR F17 x18 3 0 (fun x19 => gR F17 (some o) 9 0 (fun x20 => gR F17 x20 5 0 (fun x21 => rcv F17 x21 10 (fun o24 => mX10_countOn o24 a3 F17 (fun x23 F22 => sI F22 x19 0 8 x23 (fun F25 => gR F25 (some o) 9 1 (fun x26 => rcv F25 x26 3 (fun o29 => mX3_weigh o29 (some n6) 0 F25 (fun x28 F27 => Q x28 F27)))))))))))))))))))))))))
set_option maxHeartbeats 4000000 in
theorem tX9_movesSays {d : Nat} {o : Nat} {a1 : Int} {a2 : Int} {a3 : Int} {F : hp} {Q : Int → hp → Prop} (h : mX9_movesSays o a1 a2 a3 F Q) : am nX9_movesSays (d + 3) 0 0 [vr (some o), vi a1, vi a2, vi a3] F (qI Q) := by
  refine am_of (by decide +kernel) (Nat.le_of_ble_eq_true rfl) ?_
  show aw nX9_movesSays (d + 3) 0 0 0 [some (vr (some o)), some (vi a1), some (vi a2), some (vi a3), none] [] F (qI Q)
  unfold mX9_movesSays at h
  refine aw_aload_n dX9_movesSays_0 rfl rfl (aw_pc (pc' := 1) rfl ?_)
  refine ar_gR fl_RX9_12 dX9_movesSays_1 h ?_
  clear h
  intro x1 h
  refine aw_pc (pc' := 4) rfl ?_
  have h0 := rcv_inv h
  clear h
  obtain ⟨o4, fs_o4, hr_o4, he_o4, h⟩ := h0
  subst hr_o4
  refine ar_VR (kc' := 0) (ks' := 0) (kc := 0) (ks := 0) (a := o4) (ci := 5) (as := []) (st := []) (tX5_rulingText h) mt_X5_rulingText rfl qM_RX9_25 qI_X5_rulingText qV_X5_rulingText he_o4 rfl (Nat.le_of_ble_eq_true rfl) dX9_movesSays_4 ?_
  clear h
  intro x3 F2 h
  refine aw_pc (pc' := 7) rfl ?_
  refine aw_astore dX9_movesSays_7 (by decide) (aw_pc (pc' := 9) rfl ?_)
  refine aw_aload dX9_movesSays_9 rfl (aw_pc (pc' := 11) rfl ?_)
  refine aw_ifnull (tgt := 23) dX9_movesSays_11 rfl (fun c => ?_) (fun n6 c => ?_)
  · replace h := h.1 c
    refine aw_iconst dX9_movesSays_23 (aw_pc (pc' := 24) rfl ?_)
    exact aw_iret rfl dX9_movesSays_24 ⟨_, rfl, h⟩
  · replace h := h.2 n6 c
    subst c
    refine aw_aload dX9_movesSays_14 rfl (aw_pc (pc' := 16) rfl ?_)
    refine aw_iconst dX9_movesSays_16 (aw_pc (pc' := 17) rfl ?_)
    have h0 := rcv_inv h
    clear h
    obtain ⟨o9, fs_o9, hr_o9, he_o9, h⟩ := h0
    obtain rfl : n6 = o9 := Option.some.inj hr_o9
    refine ar_VI (kc' := 0) (ks' := 0) (kc := 0) (ks := 0) (a := n6) (ci := 8) (as := [vi 0]) (st := []) (tX8_hasLaw h) mt_X8_hasLaw rfl qM_RX9_29 qI_X8_hasLaw qV_X8_hasLaw he_o9 rfl (Nat.le_of_ble_eq_true rfl) dX9_movesSays_17 ?_
    clear h
    intro x8 F7 h
    refine aw_pc (pc' := 20) rfl ?_
    refine aw_if_ne dX9_movesSays_20 rfl (fun c => ?_) (fun c => ?_)
    · replace h := h.1 c
      refine aw_iconst dX9_movesSays_23 (aw_pc (pc' := 24) rfl ?_)
      exact aw_iret rfl dX9_movesSays_24 ⟨_, rfl, h⟩
    · replace h := h.2 c
      refine aw_aload_n dX9_movesSays_25 rfl rfl (aw_pc (pc' := 26) rfl ?_)
      refine aw_iload_n dX9_movesSays_26 rfl rfl (aw_pc (pc' := 27) rfl ?_)
      have h0 := rcv_inv h
      clear h
      obtain ⟨o11, fs_o11, hr_o11, he_o11, h⟩ := h0
      obtain rfl : o = o11 := Option.some.inj hr_o11
      refine ar_VV (kc' := 0) (ks' := 0) (kc := 0) (ks := 0) (a := o) (ci := 9) (as := [vi a1]) (st := []) (tX9_nameCar h) mt_X9_nameCar rfl qM_RX9_35 qI_X9_nameCar qV_X9_nameCar he_o11 rfl (Nat.le_of_ble_eq_true rfl) dX9_movesSays_27 ?_
      clear h
      intro F10 h
      refine aw_pc (pc' := 30) rfl ?_
      refine aw_aload_n dX9_movesSays_30 rfl rfl (aw_pc (pc' := 31) rfl ?_)
      refine ar_gR fl_RX9_21 dX9_movesSays_31 h ?_
      clear h
      intro x12 h
      refine aw_pc (pc' := 34) rfl ?_
      refine ar_gR fl_RX9_39 dX9_movesSays_34 h ?_
      clear h
      intro x13 h
      refine aw_pc (pc' := 37) rfl ?_
      refine aw_bipush dX9_movesSays_37 (by decide) (aw_pc (pc' := 39) rfl ?_)
      refine aw_iload_n dX9_movesSays_39 rfl rfl (aw_pc (pc' := 40) rfl ?_)
      refine ar_sI dX9_movesSays_40 h ?_
      clear h
      intro F14 h
      refine aw_pc (pc' := 41) rfl ?_
      refine aw_aload_n dX9_movesSays_41 rfl rfl (aw_pc (pc' := 42) rfl ?_)
      refine ar_gR fl_RX9_21 dX9_movesSays_42 h ?_
      clear h
      intro x15 h
      refine aw_pc (pc' := 45) rfl ?_
      refine ar_gR fl_RX9_39 dX9_movesSays_45 h ?_
      clear h
      intro x16 h
      refine aw_pc (pc' := 48) rfl ?_
      refine aw_bipush dX9_movesSays_48 (by decide) (aw_pc (pc' := 50) rfl ?_)
      refine aw_iload_n dX9_movesSays_50 rfl rfl (aw_pc (pc' := 51) rfl ?_)
      refine ar_sI dX9_movesSays_51 h ?_
      clear h
      intro F17 h
      refine aw_pc (pc' := 52) rfl ?_
      refine aw_aload_n dX9_movesSays_52 rfl rfl (aw_pc (pc' := 53) rfl ?_)
      refine ar_gR fl_RX9_21 dX9_movesSays_53 h ?_
      clear h
      intro x18 h
      refine aw_pc (pc' := 56) rfl ?_
      refine ar_gR fl_RX9_39 dX9_movesSays_56 h ?_
      clear h
      intro x19 h
      refine aw_pc (pc' := 59) rfl ?_
      refine aw_bipush dX9_movesSays_59 (by decide) (aw_pc (pc' := 61) rfl ?_)
      refine aw_aload_n dX9_movesSays_61 rfl rfl (aw_pc (pc' := 62) rfl ?_)
      refine ar_gR fl_RX9_12 dX9_movesSays_62 h ?_
      clear h
      intro x20 h
      refine aw_pc (pc' := 65) rfl ?_
      refine ar_gR fl_RX9_43 dX9_movesSays_65 h ?_
      clear h
      intro x21 h
      refine aw_pc (pc' := 68) rfl ?_
      refine aw_iload_n dX9_movesSays_68 rfl rfl (aw_pc (pc' := 69) rfl ?_)
      have h0 := rcv_inv h
      clear h
      obtain ⟨o24, fs_o24, hr_o24, he_o24, h⟩ := h0
      subst hr_o24
      refine ar_VI (kc' := 0) (ks' := 0) (kc := 0) (ks := 0) (a := o24) (ci := 10) (as := [vi a3]) (st := [vi 8, vr x19]) (tX10_countOn h) mt_X10_countOn rfl qM_RX9_47 qI_X10_countOn qV_X10_countOn he_o24 rfl (Nat.le_of_ble_eq_true rfl) dX9_movesSays_69 ?_
      clear h
      intro x23 F22 h
      refine aw_pc (pc' := 72) rfl ?_
      refine ar_sI dX9_movesSays_72 h ?_
      clear h
      intro F25 h
      refine aw_pc (pc' := 73) rfl ?_
      refine aw_aload_n dX9_movesSays_73 rfl rfl (aw_pc (pc' := 74) rfl ?_)
      refine ar_gR fl_RX9_21 dX9_movesSays_74 h ?_
      clear h
      intro x26 h
      refine aw_pc (pc' := 77) rfl ?_
      refine aw_aload dX9_movesSays_77 rfl (aw_pc (pc' := 79) rfl ?_)
      refine aw_iconst dX9_movesSays_79 (aw_pc (pc' := 80) rfl ?_)
      have h0 := rcv_inv h
      clear h
      obtain ⟨o29, fs_o29, hr_o29, he_o29, h⟩ := h0
      subst hr_o29
      refine ar_VI (kc' := 0) (ks' := 0) (kc := 0) (ks := 0) (a := o29) (ci := 3) (as := [vr (some n6), vi 0]) (st := []) (tX3_weigh h) mt_X3_weigh rfl qM_RX9_53 qI_X3_weigh qV_X3_weigh he_o29 rfl (Nat.le_of_ble_eq_true rfl) dX9_movesSays_80 ?_
      clear h
      intro x28 F27 h
      refine aw_pc (pc' := 83) rfl ?_
      exact aw_iret rfl dX9_movesSays_83 ⟨_, rfl, h⟩
def mX9_changesSays (o : Nat) (a1 : Option Nat) (a2 : Int) (F : hp) (Q : Int → hp → Prop) : Prop := (a1 = none → Q 1 F) ∧ (∀ n2 : Nat, a1 = some n2 → rcv F (some n2) 8 (fun o5 => mX8_hasLaw o5 1 F (fun x4 F3 => (w32 x4 = 0 → Q 1 F3) ∧ (¬ w32 x4 = 0 → rcv F3 (some o) 9 (fun o7 => mX9_nameCar o7 a2 F3 (fun F6 => gR F6 (some o) 9 1 (fun x8 => gR F6 x8 3 0 (fun x9 => gR F6 (some o) 9 0 (fun x10 => gR F6 x10 5 0 (fun x11 => rcv F6 x11 10 (fun o14 => mX10_wheelsOf o14 0 F6 (fun x13 F12 => sI F12 x9 0 9 x13 (fun F15 => gR F15 (some o) 9 1 (fun x16 => gR F15 x16 3 0 (fun x17 => gR F15 (some o) 9 0 (fun x18 => gR F15 x18 5 0 (fun x19 => rcv F15 x19 10 (fun o22 => mX10_wheelsOf o22 1 F15 (fun x21 F20 => sI F20 x17 0 10 x21 (fun F23 => gR F23 (some o) 9 1 (fun x24 => rcv F23 x24 3 (fun o27 => mX3_weigh o27 (some n2) 1 F23 (fun x26 F25 => Q x26 F25)))))))))))))))))))))))
set_option maxHeartbeats 4000000 in
theorem tX9_changesSays {d : Nat} {o : Nat} {a1 : Option Nat} {a2 : Int} {F : hp} {Q : Int → hp → Prop} (h : mX9_changesSays o a1 a2 F Q) : am nX9_changesSays (d + 3) 0 0 [vr (some o), vr a1, vi a2] F (qI Q) := by
  refine am_of (by decide +kernel) (Nat.le_of_ble_eq_true rfl) ?_
  show aw nX9_changesSays (d + 3) 0 0 0 [some (vr (some o)), some (vr a1), some (vi a2)] [] F (qI Q)
  unfold mX9_changesSays at h
  refine aw_aload_n dX9_changesSays_0 rfl rfl (aw_pc (pc' := 1) rfl ?_)
  refine aw_ifnull (tgt := 12) dX9_changesSays_1 rfl (fun c => ?_) (fun n2 c => ?_)
  · replace h := h.1 c
    refine aw_iconst dX9_changesSays_12 (aw_pc (pc' := 13) rfl ?_)
    exact aw_iret rfl dX9_changesSays_13 ⟨_, rfl, h⟩
  · replace h := h.2 n2 c
    subst c
    refine aw_aload_n dX9_changesSays_4 rfl rfl (aw_pc (pc' := 5) rfl ?_)
    refine aw_iconst dX9_changesSays_5 (aw_pc (pc' := 6) rfl ?_)
    have h0 := rcv_inv h
    clear h
    obtain ⟨o5, fs_o5, hr_o5, he_o5, h⟩ := h0
    obtain rfl : n2 = o5 := Option.some.inj hr_o5
    refine ar_VI (kc' := 0) (ks' := 0) (kc := 0) (ks := 0) (a := n2) (ci := 8) (as := [vi 1]) (st := []) (tX8_hasLaw h) mt_X8_hasLaw rfl qM_RX9_29 qI_X8_hasLaw qV_X8_hasLaw he_o5 rfl (Nat.le_of_ble_eq_true rfl) dX9_changesSays_6 ?_
    clear h
    intro x4 F3 h
    refine aw_pc (pc' := 9) rfl ?_
    refine aw_if_ne dX9_changesSays_9 rfl (fun c => ?_) (fun c => ?_)
    · replace h := h.1 c
      refine aw_iconst dX9_changesSays_12 (aw_pc (pc' := 13) rfl ?_)
      exact aw_iret rfl dX9_changesSays_13 ⟨_, rfl, h⟩
    · replace h := h.2 c
      refine aw_aload_n dX9_changesSays_14 rfl rfl (aw_pc (pc' := 15) rfl ?_)
      refine aw_iload_n dX9_changesSays_15 rfl rfl (aw_pc (pc' := 16) rfl ?_)
      have h0 := rcv_inv h
      clear h
      obtain ⟨o7, fs_o7, hr_o7, he_o7, h⟩ := h0
      obtain rfl : o = o7 := Option.some.inj hr_o7
      refine ar_VV (kc' := 0) (ks' := 0) (kc := 0) (ks := 0) (a := o) (ci := 9) (as := [vi a2]) (st := []) (tX9_nameCar h) mt_X9_nameCar rfl qM_RX9_35 qI_X9_nameCar qV_X9_nameCar he_o7 rfl (Nat.le_of_ble_eq_true rfl) dX9_changesSays_16 ?_
      clear h
      intro F6 h
      refine aw_pc (pc' := 19) rfl ?_
      refine aw_aload_n dX9_changesSays_19 rfl rfl (aw_pc (pc' := 20) rfl ?_)
      refine ar_gR fl_RX9_21 dX9_changesSays_20 h ?_
      clear h
      intro x8 h
      refine aw_pc (pc' := 23) rfl ?_
      refine ar_gR fl_RX9_39 dX9_changesSays_23 h ?_
      clear h
      intro x9 h
      refine aw_pc (pc' := 26) rfl ?_
      refine aw_bipush dX9_changesSays_26 (by decide) (aw_pc (pc' := 28) rfl ?_)
      refine aw_aload_n dX9_changesSays_28 rfl rfl (aw_pc (pc' := 29) rfl ?_)
      refine ar_gR fl_RX9_12 dX9_changesSays_29 h ?_
      clear h
      intro x10 h
      refine aw_pc (pc' := 32) rfl ?_
      refine ar_gR fl_RX9_43 dX9_changesSays_32 h ?_
      clear h
      intro x11 h
      refine aw_pc (pc' := 35) rfl ?_
      refine aw_iconst dX9_changesSays_35 (aw_pc (pc' := 36) rfl ?_)
      have h0 := rcv_inv h
      clear h
      obtain ⟨o14, fs_o14, hr_o14, he_o14, h⟩ := h0
      subst hr_o14
      refine ar_VI (kc' := 0) (ks' := 0) (kc := 0) (ks := 0) (a := o14) (ci := 10) (as := [vi 0]) (st := [vi 9, vr x9]) (tX10_wheelsOf h) mt_X10_wheelsOf rfl qM_RX9_57 qI_X10_wheelsOf qV_X10_wheelsOf he_o14 rfl (Nat.le_of_ble_eq_true rfl) dX9_changesSays_36 ?_
      clear h
      intro x13 F12 h
      refine aw_pc (pc' := 39) rfl ?_
      refine ar_sI dX9_changesSays_39 h ?_
      clear h
      intro F15 h
      refine aw_pc (pc' := 40) rfl ?_
      refine aw_aload_n dX9_changesSays_40 rfl rfl (aw_pc (pc' := 41) rfl ?_)
      refine ar_gR fl_RX9_21 dX9_changesSays_41 h ?_
      clear h
      intro x16 h
      refine aw_pc (pc' := 44) rfl ?_
      refine ar_gR fl_RX9_39 dX9_changesSays_44 h ?_
      clear h
      intro x17 h
      refine aw_pc (pc' := 47) rfl ?_
      refine aw_bipush dX9_changesSays_47 (by decide) (aw_pc (pc' := 49) rfl ?_)
      refine aw_aload_n dX9_changesSays_49 rfl rfl (aw_pc (pc' := 50) rfl ?_)
      refine ar_gR fl_RX9_12 dX9_changesSays_50 h ?_
      clear h
      intro x18 h
      refine aw_pc (pc' := 53) rfl ?_
      refine ar_gR fl_RX9_43 dX9_changesSays_53 h ?_
      clear h
      intro x19 h
      refine aw_pc (pc' := 56) rfl ?_
      refine aw_iconst dX9_changesSays_56 (aw_pc (pc' := 57) rfl ?_)
      have h0 := rcv_inv h
      clear h
      obtain ⟨o22, fs_o22, hr_o22, he_o22, h⟩ := h0
      subst hr_o22
      refine ar_VI (kc' := 0) (ks' := 0) (kc := 0) (ks := 0) (a := o22) (ci := 10) (as := [vi 1]) (st := [vi 10, vr x17]) (tX10_wheelsOf h) mt_X10_wheelsOf rfl qM_RX9_57 qI_X10_wheelsOf qV_X10_wheelsOf he_o22 rfl (Nat.le_of_ble_eq_true rfl) dX9_changesSays_57 ?_
      clear h
      intro x21 F20 h
      refine aw_pc (pc' := 60) rfl ?_
      refine ar_sI dX9_changesSays_60 h ?_
      clear h
      intro F23 h
      refine aw_pc (pc' := 61) rfl ?_
      refine aw_aload_n dX9_changesSays_61 rfl rfl (aw_pc (pc' := 62) rfl ?_)
      refine ar_gR fl_RX9_21 dX9_changesSays_62 h ?_
      clear h
      intro x24 h
      refine aw_pc (pc' := 65) rfl ?_
      refine aw_aload_n dX9_changesSays_65 rfl rfl (aw_pc (pc' := 66) rfl ?_)
      refine aw_iconst dX9_changesSays_66 (aw_pc (pc' := 67) rfl ?_)
      have h0 := rcv_inv h
      clear h
      obtain ⟨o27, fs_o27, hr_o27, he_o27, h⟩ := h0
      subst hr_o27
      refine ar_VI (kc' := 0) (ks' := 0) (kc := 0) (ks := 0) (a := o27) (ci := 3) (as := [vr (some n2), vi 1]) (st := []) (tX3_weigh h) mt_X3_weigh rfl qM_RX9_53 qI_X3_weigh qV_X3_weigh he_o27 rfl (Nat.le_of_ble_eq_true rfl) dX9_changesSays_67 ?_
      clear h
      intro x26 F25 h
      refine aw_pc (pc' := 70) rfl ?_
      exact aw_iret rfl dX9_changesSays_70 ⟨_, rfl, h⟩
def mX9_feetFit_J29 (Q : Int → hp → Prop) (F : hp) : Prop := Q 1 F
set_option maxHeartbeats 4000000 in
theorem tX9_feetFit_J29 {d : Nat} {Q : Int → hp → Prop} {F : hp} (h : mX9_feetFit_J29 Q F) : aw nX9_feetFit (d + 1) 0 0 29 [none, none, none] [] F (qI Q) := by
  unfold mX9_feetFit_J29 at h
  refine aw_iconst dX9_feetFit_29 (aw_pc (pc' := 30) rfl ?_)
  refine aw_goto (tgt := 34) dX9_feetFit_30 rfl ?_
  exact aw_zret rfl (by decide) dX9_feetFit_34 ⟨_, rfl, h⟩
def mX9_feetFit_J26 (Q : Int → hp → Prop) (s0 : Int) (s1 : Int) (F : hp) : Prop := (w32 s0 = w32 s1 → mX9_feetFit_J29 Q F) ∧ (¬ w32 s0 = w32 s1 → Q 0 F)
set_option maxHeartbeats 4000000 in
theorem tX9_feetFit_J26 {d : Nat} {Q : Int → hp → Prop} {s0 : Int} {s1 : Int} {F : hp} (h : mX9_feetFit_J26 Q s0 s1 F) : aw nX9_feetFit (d + 1) 0 0 26 [none, none, none] [vi s1, vi s0] F (qI Q) := by
  unfold mX9_feetFit_J26 at h
  refine ac_ne rfl rfl dX9_feetFit_26 rfl (fun c => ?_) (fun c => ?_)
  · replace h := h.1 c
    exact aw_mask [false, false, false] (tX9_feetFit_J29 h)
  · replace h := h.2 c
    refine aw_iconst dX9_feetFit_33 (aw_pc (pc' := 34) rfl ?_)
    exact aw_zret rfl (by decide) dX9_feetFit_34 ⟨_, rfl, h⟩
def mX9_feetFit (o : Nat) (a1 : Int) (a2 : Int) (F : hp) (Q : Int → hp → Prop) : Prop := (w32 a2 = 1 → mX9_feetFit_J29 Q F) ∧ (¬ w32 a2 = 1 → gR F (some o) 9 0 (fun x1 => gR F x1 5 0 (fun x2 => rcv F x2 10 (fun o5 => mX10_isWide o5 a1 F (fun x4 F3 => (w32 a2 = 2 → mX9_feetFit_J26 Q x4 1 F3) ∧ (¬ w32 a2 = 2 → mX9_feetFit_J26 Q x4 0 F3))))))
set_option maxHeartbeats 4000000 in
theorem tX9_feetFit {d : Nat} {o : Nat} {a1 : Int} {a2 : Int} {F : hp} {Q : Int → hp → Prop} (h : mX9_feetFit o a1 a2 F Q) : am nX9_feetFit (d + 1) 0 0 [vr (some o), vi a1, vi a2] F (qI Q) := by
  refine am_of (by decide +kernel) (Nat.le_of_ble_eq_true rfl) ?_
  show aw nX9_feetFit (d + 1) 0 0 0 [some (vr (some o)), some (vi a1), some (vi a2)] [] F (qI Q)
  unfold mX9_feetFit at h
  refine aw_iload_n dX9_feetFit_0 rfl rfl (aw_pc (pc' := 1) rfl ?_)
  refine aw_iconst dX9_feetFit_1 (aw_pc (pc' := 2) rfl ?_)
  refine ac_eq rfl wl_1 dX9_feetFit_2 rfl (fun c => ?_) (fun c => ?_)
  · replace h := h.1 c
    exact aw_mask [false, false, false] (tX9_feetFit_J29 h)
  · replace h := h.2 c
    refine aw_aload_n dX9_feetFit_5 rfl rfl (aw_pc (pc' := 6) rfl ?_)
    refine ar_gR fl_RX9_12 dX9_feetFit_6 h ?_
    clear h
    intro x1 h
    refine aw_pc (pc' := 9) rfl ?_
    refine ar_gR fl_RX9_43 dX9_feetFit_9 h ?_
    clear h
    intro x2 h
    refine aw_pc (pc' := 12) rfl ?_
    refine aw_iload_n dX9_feetFit_12 rfl rfl (aw_pc (pc' := 13) rfl ?_)
    have h0 := rcv_inv h
    clear h
    obtain ⟨o5, fs_o5, hr_o5, he_o5, h⟩ := h0
    subst hr_o5
    refine ar_VI (kc' := 0) (ks' := 0) (kc := 0) (ks := 0) (a := o5) (ci := 10) (as := [vi a1]) (st := []) (tX10_isWide h) mt_X10_isWide rfl qM_RX9_70 qI_X10_isWide qV_X10_isWide he_o5 rfl (Nat.le_of_ble_eq_true rfl) dX9_feetFit_13 ?_
    clear h
    intro x4 F3 h
    refine aw_pc (pc' := 16) rfl ?_
    refine aw_iload_n dX9_feetFit_16 rfl rfl (aw_pc (pc' := 17) rfl ?_)
    refine aw_iconst dX9_feetFit_17 (aw_pc (pc' := 18) rfl ?_)
    refine ac_ne rfl wl_2 dX9_feetFit_18 rfl (fun c => ?_) (fun c => ?_)
    · replace h := h.1 c
      refine aw_iconst dX9_feetFit_21 (aw_pc (pc' := 22) rfl ?_)
      refine aw_goto (tgt := 26) dX9_feetFit_22 rfl ?_
      exact aw_mask [false, false, false] (tX9_feetFit_J26 h)
    · replace h := h.2 c
      refine aw_iconst dX9_feetFit_25 (aw_pc (pc' := 26) rfl ?_)
      exact aw_mask [false, false, false] (tX9_feetFit_J26 h)
def mX9_shift_J99 (Q : Int → hp → Prop) (a1 : Int) (a2 : Int) (a4 : Option Nat) (a5 : Int) (F : hp) : Prop := rcv F a4 10 (fun o2 => mX10_moveUppermost o2 a1 a2 F (fun F1 => Q a5 F1))
set_option maxHeartbeats 4000000 in
theorem tX9_shift_J99 {d : Nat} {Q : Int → hp → Prop} {a1 : Int} {a2 : Int} {a4 : Option Nat} {a5 : Int} {F : hp} (h : mX9_shift_J99 Q a1 a2 a4 a5 F) : aw nX9_shift (d + 4) 0 0 99 [none, some (vi a1), some (vi a2), none, some (vr a4), some (vi a5), none] [] F (qI Q) := by
  unfold mX9_shift_J99 at h
  refine aw_aload dX9_shift_99 rfl (aw_pc (pc' := 101) rfl ?_)
  refine aw_iload_n dX9_shift_101 rfl rfl (aw_pc (pc' := 102) rfl ?_)
  refine aw_iload_n dX9_shift_102 rfl rfl (aw_pc (pc' := 103) rfl ?_)
  have h0 := rcv_inv h
  clear h
  obtain ⟨o2, fs_o2, hr_o2, he_o2, h⟩ := h0
  subst hr_o2
  refine ar_VV (kc' := 0) (ks' := 0) (kc := 0) (ks := 0) (a := o2) (ci := 10) (as := [vi a1, vi a2]) (st := []) (tX10_moveUppermost h) mt_X10_moveUppermost rfl qM_RX9_103 qI_X10_moveUppermost qV_X10_moveUppermost he_o2 rfl (Nat.le_of_ble_eq_true rfl) dX9_shift_103 ?_
  clear h
  intro F1 h
  refine aw_pc (pc' := 106) rfl ?_
  refine aw_iload dX9_shift_106 rfl (aw_pc (pc' := 108) rfl ?_)
  exact aw_iret rfl dX9_shift_108 ⟨_, rfl, h⟩
def mX9_shift_J70 (Q : Int → hp → Prop) (o : Nat) (a1 : Int) (a2 : Int) (a3 : Int) (a4 : Option Nat) (a5 : Int) (F : hp) : Prop := rcv F (some o) 9 (fun o3 => mX9_movesSays o3 a5 a1 a2 F (fun x2 F1 => (0 < w32 x2 → (w32 a3 = 0 → mX9_shift_J99 Q a1 a2 a4 a5 F1) ∧ (¬ w32 a3 = 0 → gR F1 (some o) 9 0 (fun x4 => gR F1 x4 5 1 (fun x5 => rcv F1 x5 6 (fun o7 => mX6_keep o7 a4 F1 (fun F6 => mX9_shift_J99 Q a1 a2 a4 a5 F6)))))) ∧ (¬ 0 < w32 x2 → Q (-1) F1)))
set_option maxHeartbeats 4000000 in
theorem tX9_shift_J70 {d : Nat} {Q : Int → hp → Prop} {o : Nat} {a1 : Int} {a2 : Int} {a3 : Int} {a4 : Option Nat} {a5 : Int} {F : hp} (h : mX9_shift_J70 Q o a1 a2 a3 a4 a5 F) : aw nX9_shift (d + 4) 0 0 70 [some (vr (some o)), some (vi a1), some (vi a2), some (vi a3), some (vr a4), some (vi a5), none] [] F (qI Q) := by
  unfold mX9_shift_J70 at h
  refine aw_aload_n dX9_shift_70 rfl rfl (aw_pc (pc' := 71) rfl ?_)
  refine aw_iload dX9_shift_71 rfl (aw_pc (pc' := 73) rfl ?_)
  refine aw_iload_n dX9_shift_73 rfl rfl (aw_pc (pc' := 74) rfl ?_)
  refine aw_iload_n dX9_shift_74 rfl rfl (aw_pc (pc' := 75) rfl ?_)
  have h0 := rcv_inv h
  clear h
  obtain ⟨o3, fs_o3, hr_o3, he_o3, h⟩ := h0
  obtain rfl : o = o3 := Option.some.inj hr_o3
  refine ar_VI (kc' := 0) (ks' := 0) (kc := 0) (ks := 0) (a := o) (ci := 9) (as := [vi a5, vi a1, vi a2]) (st := []) (tX9_movesSays h) mt_X9_movesSays rfl qM_RX9_89 qI_X9_movesSays qV_X9_movesSays he_o3 rfl (Nat.le_of_ble_eq_true rfl) dX9_shift_75 ?_
  clear h
  intro x2 F1 h
  refine aw_pc (pc' := 78) rfl ?_
  refine aw_if_gt dX9_shift_78 rfl (fun c => ?_) (fun c => ?_)
  · replace h := h.1 c
    refine aw_iload_n dX9_shift_83 rfl rfl (aw_pc (pc' := 84) rfl ?_)
    refine aw_if_eq dX9_shift_84 rfl (fun c => ?_) (fun c => ?_)
    · replace h := h.1 c
      exact aw_mask [false, true, true, false, true, true, false] (tX9_shift_J99 h)
    · replace h := h.2 c
      refine aw_aload_n dX9_shift_87 rfl rfl (aw_pc (pc' := 88) rfl ?_)
      refine ar_gR fl_RX9_12 dX9_shift_88 h ?_
      clear h
      intro x4 h
      refine aw_pc (pc' := 91) rfl ?_
      refine ar_gR fl_RX9_93 dX9_shift_91 h ?_
      clear h
      intro x5 h
      refine aw_pc (pc' := 94) rfl ?_
      refine aw_aload dX9_shift_94 rfl (aw_pc (pc' := 96) rfl ?_)
      have h0 := rcv_inv h
      clear h
      obtain ⟨o7, fs_o7, hr_o7, he_o7, h⟩ := h0
      subst hr_o7
      refine ar_VV (kc' := 0) (ks' := 0) (kc := 0) (ks := 0) (a := o7) (ci := 6) (as := [vr a4]) (st := []) (tX6_keep h) mt_X6_keep rfl qM_RX9_97 qI_X6_keep qV_X6_keep he_o7 rfl (Nat.le_of_ble_eq_true rfl) dX9_shift_96 ?_
      clear h
      intro F6 h
      refine aw_pc (pc' := 99) rfl ?_
      exact aw_mask [false, true, true, false, true, true, false] (tX9_shift_J99 h)
  · replace h := h.2 c
    refine aw_iconst dX9_shift_81 (aw_pc (pc' := 82) rfl ?_)
    exact aw_iret rfl dX9_shift_82 ⟨_, rfl, h⟩
def mX9_shift (o : Nat) (a1 : Int) (a2 : Int) (a3 : Int) (F : hp) (Q : Int → hp → Prop) : Prop := gR F (some o) 9 0 (fun x1 => gR F x1 5 0 (fun x2 => rcv F x2 10 (fun o5 => mX10_uppermost o5 a1 F (fun x4 F3 => (w32 a1 = w32 a2 → Q (-1) F3) ∧ (¬ w32 a1 = w32 a2 → (w32 x4 = (-1) → Q (-1) F3) ∧ (¬ w32 x4 = (-1) → rcv F3 (some o) 9 (fun o8 => mX9_feetFit o8 x4 a2 F3 (fun x7 F6 => (w32 x7 = 0 → Q (-1) F6) ∧ (¬ w32 x7 = 0 → rcv F6 (some o5) 10 (fun o11 => mX10_uppermost o11 a2 F6 (fun x10 F9 => (w32 x10 = (-1) → mX9_shift_J70 Q o a1 a2 a3 (some o5) x4 F9) ∧ (¬ w32 x10 = (-1) → gR F9 (some o) 9 0 (fun x12 => rcv F9 x12 5 (fun o15 => mX5_mayStandBeside o15 x4 x10 F9 (fun x14 F13 => (w32 x14 = 0 → Q (-1) F13) ∧ (¬ w32 x14 = 0 → mX9_shift_J70 Q o a1 a2 a3 (some o5) x4 F13))))))))))))))))
set_option maxHeartbeats 4000000 in
theorem tX9_shift {d : Nat} {o : Nat} {a1 : Int} {a2 : Int} {a3 : Int} {F : hp} {Q : Int → hp → Prop} (h : mX9_shift o a1 a2 a3 F Q) : am nX9_shift (d + 4) 0 0 [vr (some o), vi a1, vi a2, vi a3] F (qI Q) := by
  refine am_of (by decide +kernel) (Nat.le_of_ble_eq_true rfl) ?_
  show aw nX9_shift (d + 4) 0 0 0 [some (vr (some o)), some (vi a1), some (vi a2), some (vi a3), none, none, none] [] F (qI Q)
  unfold mX9_shift at h
  refine aw_aload_n dX9_shift_0 rfl rfl (aw_pc (pc' := 1) rfl ?_)
  refine ar_gR fl_RX9_12 dX9_shift_1 h ?_
  clear h
  intro x1 h
  refine aw_pc (pc' := 4) rfl ?_
  refine ar_gR fl_RX9_43 dX9_shift_4 h ?_
  clear h
  intro x2 h
  refine aw_pc (pc' := 7) rfl ?_
  refine aw_astore dX9_shift_7 (by decide) (aw_pc (pc' := 9) rfl ?_)
  refine aw_aload dX9_shift_9 rfl (aw_pc (pc' := 11) rfl ?_)
  refine aw_iload_n dX9_shift_11 rfl rfl (aw_pc (pc' := 12) rfl ?_)
  have h0 := rcv_inv h
  clear h
  obtain ⟨o5, fs_o5, hr_o5, he_o5, h⟩ := h0
  subst hr_o5
  refine ar_VI (kc' := 0) (ks' := 0) (kc := 0) (ks := 0) (a := o5) (ci := 10) (as := [vi a1]) (st := []) (tX10_uppermost h) mt_X10_uppermost rfl qM_RX9_79 qI_X10_uppermost qV_X10_uppermost he_o5 rfl (Nat.le_of_ble_eq_true rfl) dX9_shift_12 ?_
  clear h
  intro x4 F3 h
  refine aw_pc (pc' := 15) rfl ?_
  refine aw_istore dX9_shift_15 (by decide) (aw_pc (pc' := 17) rfl ?_)
  refine aw_iload_n dX9_shift_17 rfl rfl (aw_pc (pc' := 18) rfl ?_)
  refine aw_iload_n dX9_shift_18 rfl rfl (aw_pc (pc' := 19) rfl ?_)
  refine ac_eq rfl rfl dX9_shift_19 rfl (fun c => ?_) (fun c => ?_)
  · replace h := h.1 c
    refine aw_iconst dX9_shift_38 (aw_pc (pc' := 39) rfl ?_)
    exact aw_iret rfl dX9_shift_39 ⟨_, rfl, h⟩
  · replace h := h.2 c
    refine aw_iload dX9_shift_22 rfl (aw_pc (pc' := 24) rfl ?_)
    refine aw_iconst dX9_shift_24 (aw_pc (pc' := 25) rfl ?_)
    refine ac_eq rfl wl_m1 dX9_shift_25 rfl (fun c => ?_) (fun c => ?_)
    · replace h := h.1 c
      refine aw_iconst dX9_shift_38 (aw_pc (pc' := 39) rfl ?_)
      exact aw_iret rfl dX9_shift_39 ⟨_, rfl, h⟩
    · replace h := h.2 c
      refine aw_aload_n dX9_shift_28 rfl rfl (aw_pc (pc' := 29) rfl ?_)
      refine aw_iload dX9_shift_29 rfl (aw_pc (pc' := 31) rfl ?_)
      refine aw_iload_n dX9_shift_31 rfl rfl (aw_pc (pc' := 32) rfl ?_)
      have h0 := rcv_inv h
      clear h
      obtain ⟨o8, fs_o8, hr_o8, he_o8, h⟩ := h0
      obtain rfl : o = o8 := Option.some.inj hr_o8
      refine ar_VI (kc' := 0) (ks' := 0) (kc := 0) (ks := 0) (a := o) (ci := 9) (as := [vi x4, vi a2]) (st := []) (tX9_feetFit h) mt_X9_feetFit rfl qM_RX9_82 qI_X9_feetFit qV_X9_feetFit he_o8 rfl (Nat.le_of_ble_eq_true rfl) dX9_shift_32 ?_
      clear h
      intro x7 F6 h
      refine aw_pc (pc' := 35) rfl ?_
      refine aw_if_ne dX9_shift_35 rfl (fun c => ?_) (fun c => ?_)
      · replace h := h.1 c
        refine aw_iconst dX9_shift_38 (aw_pc (pc' := 39) rfl ?_)
        exact aw_iret rfl dX9_shift_39 ⟨_, rfl, h⟩
      · replace h := h.2 c
        refine aw_aload dX9_shift_40 rfl (aw_pc (pc' := 42) rfl ?_)
        refine aw_iload_n dX9_shift_42 rfl rfl (aw_pc (pc' := 43) rfl ?_)
        have h0 := rcv_inv h
        clear h
        obtain ⟨o11, fs_o11, hr_o11, he_o11, h⟩ := h0
        obtain rfl : o5 = o11 := Option.some.inj hr_o11
        refine ar_VI (kc' := 0) (ks' := 0) (kc := 0) (ks := 0) (a := o5) (ci := 10) (as := [vi a2]) (st := []) (tX10_uppermost h) mt_X10_uppermost rfl qM_RX9_79 qI_X10_uppermost qV_X10_uppermost he_o11 rfl (Nat.le_of_ble_eq_true rfl) dX9_shift_43 ?_
        clear h
        intro x10 F9 h
        refine aw_pc (pc' := 46) rfl ?_
        refine aw_istore dX9_shift_46 (by decide) (aw_pc (pc' := 48) rfl ?_)
        refine aw_iload dX9_shift_48 rfl (aw_pc (pc' := 50) rfl ?_)
        refine aw_iconst dX9_shift_50 (aw_pc (pc' := 51) rfl ?_)
        refine ac_eq rfl wl_m1 dX9_shift_51 rfl (fun c => ?_) (fun c => ?_)
        · replace h := h.1 c
          exact aw_mask [true, true, true, true, true, true, false] (tX9_shift_J70 h)
        · replace h := h.2 c
          refine aw_aload_n dX9_shift_54 rfl rfl (aw_pc (pc' := 55) rfl ?_)
          refine ar_gR fl_RX9_12 dX9_shift_55 h ?_
          clear h
          intro x12 h
          refine aw_pc (pc' := 58) rfl ?_
          refine aw_iload dX9_shift_58 rfl (aw_pc (pc' := 60) rfl ?_)
          refine aw_iload dX9_shift_60 rfl (aw_pc (pc' := 62) rfl ?_)
          have h0 := rcv_inv h
          clear h
          obtain ⟨o15, fs_o15, hr_o15, he_o15, h⟩ := h0
          subst hr_o15
          refine ar_VI (kc' := 0) (ks' := 0) (kc := 0) (ks := 0) (a := o15) (ci := 5) (as := [vi x4, vi x10]) (st := []) (tX5_mayStandBeside h) mt_X5_mayStandBeside rfl qM_RX9_86 qI_X5_mayStandBeside qV_X5_mayStandBeside he_o15 rfl (Nat.le_of_ble_eq_true rfl) dX9_shift_62 ?_
          clear h
          intro x14 F13 h
          refine aw_pc (pc' := 65) rfl ?_
          refine aw_if_ne dX9_shift_65 rfl (fun c => ?_) (fun c => ?_)
          · replace h := h.1 c
            refine aw_iconst dX9_shift_68 (aw_pc (pc' := 69) rfl ?_)
            exact aw_iret rfl dX9_shift_69 ⟨_, rfl, h⟩
          · replace h := h.2 c
            exact aw_mask [true, true, true, true, true, true, false] (tX9_shift_J70 h)
def mX9_swapFeet_J73 (Q : Int → hp → Prop) (a2 : Option Nat) (a3 : Int) (F : hp) : Prop := rcv F a2 10 (fun o2 => mX10_changeFeet o2 a3 F (fun F1 => Q a3 F1))
set_option maxHeartbeats 4000000 in
theorem tX9_swapFeet_J73 {d : Nat} {Q : Int → hp → Prop} {a2 : Option Nat} {a3 : Int} {F : hp} (h : mX9_swapFeet_J73 Q a2 a3 F) : aw nX9_swapFeet (d + 4) 0 0 73 [none, none, some (vr a2), some (vi a3)] [] F (qI Q) := by
  unfold mX9_swapFeet_J73 at h
  refine aw_aload_n dX9_swapFeet_73 rfl rfl (aw_pc (pc' := 74) rfl ?_)
  refine aw_iload_n dX9_swapFeet_74 rfl rfl (aw_pc (pc' := 75) rfl ?_)
  have h0 := rcv_inv h
  clear h
  obtain ⟨o2, fs_o2, hr_o2, he_o2, h⟩ := h0
  subst hr_o2
  refine ar_VV (kc' := 0) (ks' := 0) (kc := 0) (ks := 0) (a := o2) (ci := 10) (as := [vi a3]) (st := []) (tX10_changeFeet h) mt_X10_changeFeet rfl qM_RX9_110 qI_X10_changeFeet qV_X10_changeFeet he_o2 rfl (Nat.le_of_ble_eq_true rfl) dX9_swapFeet_75 ?_
  clear h
  intro F1 h
  refine aw_pc (pc' := 78) rfl ?_
  refine aw_iload_n dX9_swapFeet_78 rfl rfl (aw_pc (pc' := 79) rfl ?_)
  exact aw_iret rfl dX9_swapFeet_79 ⟨_, rfl, h⟩
def mX9_swapFeet_J33 (Q : Int → hp → Prop) (o : Nat) (a1 : Int) (a2 : Option Nat) (a3 : Int) (s0 : Option Nat) (s1 : Int) (F : hp) : Prop := rcv F s0 10 (fun o3 => mX10_wheelsOf o3 s1 F (fun x2 F1 => (w32 x2 = 0 → Q (-1) F1) ∧ (¬ w32 x2 = 0 → gR F1 (some o) 9 0 (fun x4 => rcv F1 x4 5 (fun o7 => mX5_rulingText o7 F1 (fun x6 F5 => rcv F5 (some o) 9 (fun o10 => mX9_changesSays o10 x6 a3 F5 (fun x9 F8 => (0 < w32 x9 → (w32 a1 = 0 → mX9_swapFeet_J73 Q a2 a3 F8) ∧ (¬ w32 a1 = 0 → gR F8 (some o) 9 0 (fun x11 => gR F8 x11 5 1 (fun x12 => rcv F8 x12 6 (fun o14 => mX6_keep o14 a2 F8 (fun F13 => mX9_swapFeet_J73 Q a2 a3 F13)))))) ∧ (¬ 0 < w32 x9 → Q (-1) F8)))))))))
set_option maxHeartbeats 4000000 in
theorem tX9_swapFeet_J33 {d : Nat} {Q : Int → hp → Prop} {o : Nat} {a1 : Int} {a2 : Option Nat} {a3 : Int} {s0 : Option Nat} {s1 : Int} {F : hp} (h : mX9_swapFeet_J33 Q o a1 a2 a3 s0 s1 F) : aw nX9_swapFeet (d + 4) 0 0 33 [some (vr (some o)), some (vi a1), some (vr a2), some (vi a3)] [vi s1, vr s0] F (qI Q) := by
  unfold mX9_swapFeet_J33 at h
  have h0 := rcv_inv h
  clear h
  obtain ⟨o3, fs_o3, hr_o3, he_o3, h⟩ := h0
  subst hr_o3
  refine ar_VI (kc' := 0) (ks' := 0) (kc := 0) (ks := 0) (a := o3) (ci := 10) (as := [vi s1]) (st := []) (tX10_wheelsOf h) mt_X10_wheelsOf rfl qM_RX9_57 qI_X10_wheelsOf qV_X10_wheelsOf he_o3 rfl (Nat.le_of_ble_eq_true rfl) dX9_swapFeet_33 ?_
  clear h
  intro x2 F1 h
  refine aw_pc (pc' := 36) rfl ?_
  refine aw_if_ne dX9_swapFeet_36 rfl (fun c => ?_) (fun c => ?_)
  · replace h := h.1 c
    refine aw_iconst dX9_swapFeet_39 (aw_pc (pc' := 40) rfl ?_)
    exact aw_iret rfl dX9_swapFeet_40 ⟨_, rfl, h⟩
  · replace h := h.2 c
    refine aw_aload_n dX9_swapFeet_41 rfl rfl (aw_pc (pc' := 42) rfl ?_)
    refine aw_aload_n dX9_swapFeet_42 rfl rfl (aw_pc (pc' := 43) rfl ?_)
    refine ar_gR fl_RX9_12 dX9_swapFeet_43 h ?_
    clear h
    intro x4 h
    refine aw_pc (pc' := 46) rfl ?_
    have h0 := rcv_inv h
    clear h
    obtain ⟨o7, fs_o7, hr_o7, he_o7, h⟩ := h0
    subst hr_o7
    refine ar_VR (kc' := 0) (ks' := 0) (kc := 0) (ks := 0) (a := o7) (ci := 5) (as := []) (st := [vr (some o)]) (tX5_rulingText h) mt_X5_rulingText rfl qM_RX9_25 qI_X5_rulingText qV_X5_rulingText he_o7 rfl (Nat.le_of_ble_eq_true rfl) dX9_swapFeet_46 ?_
    clear h
    intro x6 F5 h
    refine aw_pc (pc' := 49) rfl ?_
    refine aw_iload_n dX9_swapFeet_49 rfl rfl (aw_pc (pc' := 50) rfl ?_)
    have h0 := rcv_inv h
    clear h
    obtain ⟨o10, fs_o10, hr_o10, he_o10, h⟩ := h0
    obtain rfl : o = o10 := Option.some.inj hr_o10
    refine ar_VI (kc' := 0) (ks' := 0) (kc := 0) (ks := 0) (a := o) (ci := 9) (as := [vr x6, vi a3]) (st := []) (tX9_changesSays h) mt_X9_changesSays rfl qM_RX9_107 qI_X9_changesSays qV_X9_changesSays he_o10 rfl (Nat.le_of_ble_eq_true rfl) dX9_swapFeet_50 ?_
    clear h
    intro x9 F8 h
    refine aw_pc (pc' := 53) rfl ?_
    refine aw_if_gt dX9_swapFeet_53 rfl (fun c => ?_) (fun c => ?_)
    · replace h := h.1 c
      refine aw_iload_n dX9_swapFeet_58 rfl rfl (aw_pc (pc' := 59) rfl ?_)
      refine aw_if_eq dX9_swapFeet_59 rfl (fun c => ?_) (fun c => ?_)
      · replace h := h.1 c
        exact aw_mask [false, false, true, true] (tX9_swapFeet_J73 h)
      · replace h := h.2 c
        refine aw_aload_n dX9_swapFeet_62 rfl rfl (aw_pc (pc' := 63) rfl ?_)
        refine ar_gR fl_RX9_12 dX9_swapFeet_63 h ?_
        clear h
        intro x11 h
        refine aw_pc (pc' := 66) rfl ?_
        refine ar_gR fl_RX9_93 dX9_swapFeet_66 h ?_
        clear h
        intro x12 h
        refine aw_pc (pc' := 69) rfl ?_
        refine aw_aload_n dX9_swapFeet_69 rfl rfl (aw_pc (pc' := 70) rfl ?_)
        have h0 := rcv_inv h
        clear h
        obtain ⟨o14, fs_o14, hr_o14, he_o14, h⟩ := h0
        subst hr_o14
        refine ar_VV (kc' := 0) (ks' := 0) (kc := 0) (ks := 0) (a := o14) (ci := 6) (as := [vr a2]) (st := []) (tX6_keep h) mt_X6_keep rfl qM_RX9_97 qI_X6_keep qV_X6_keep he_o14 rfl (Nat.le_of_ble_eq_true rfl) dX9_swapFeet_70 ?_
        clear h
        intro F13 h
        refine aw_pc (pc' := 73) rfl ?_
        exact aw_mask [false, false, true, true] (tX9_swapFeet_J73 h)
    · replace h := h.2 c
      refine aw_iconst dX9_swapFeet_56 (aw_pc (pc' := 57) rfl ?_)
      exact aw_iret rfl dX9_swapFeet_57 ⟨_, rfl, h⟩
def mX9_swapFeet (o : Nat) (a1 : Int) (F : hp) (Q : Int → hp → Prop) : Prop := gR F (some o) 9 0 (fun x1 => gR F x1 5 0 (fun x2 => rcv F x2 10 (fun o5 => mX10_uppermost o5 1 F (fun x4 F3 => (w32 x4 = (-1) → Q (-1) F3) ∧ (¬ w32 x4 = (-1) → rcv F3 (some o5) 10 (fun o8 => mX10_isWide o8 x4 F3 (fun x7 F6 => (w32 x7 = 0 → mX9_swapFeet_J33 Q o a1 (some o5) x4 (some o5) 1 F6) ∧ (¬ w32 x7 = 0 → mX9_swapFeet_J33 Q o a1 (some o5) x4 (some o5) 0 F6))))))))
set_option maxHeartbeats 4000000 in
theorem tX9_swapFeet {d : Nat} {o : Nat} {a1 : Int} {F : hp} {Q : Int → hp → Prop} (h : mX9_swapFeet o a1 F Q) : am nX9_swapFeet (d + 4) 0 0 [vr (some o), vi a1] F (qI Q) := by
  refine am_of (by decide +kernel) (Nat.le_of_ble_eq_true rfl) ?_
  show aw nX9_swapFeet (d + 4) 0 0 0 [some (vr (some o)), some (vi a1), none, none] [] F (qI Q)
  unfold mX9_swapFeet at h
  refine aw_aload_n dX9_swapFeet_0 rfl rfl (aw_pc (pc' := 1) rfl ?_)
  refine ar_gR fl_RX9_12 dX9_swapFeet_1 h ?_
  clear h
  intro x1 h
  refine aw_pc (pc' := 4) rfl ?_
  refine ar_gR fl_RX9_43 dX9_swapFeet_4 h ?_
  clear h
  intro x2 h
  refine aw_pc (pc' := 7) rfl ?_
  refine aw_astore_n dX9_swapFeet_7 rfl (by decide) (aw_pc (pc' := 8) rfl ?_)
  refine aw_aload_n dX9_swapFeet_8 rfl rfl (aw_pc (pc' := 9) rfl ?_)
  refine aw_iconst dX9_swapFeet_9 (aw_pc (pc' := 10) rfl ?_)
  have h0 := rcv_inv h
  clear h
  obtain ⟨o5, fs_o5, hr_o5, he_o5, h⟩ := h0
  subst hr_o5
  refine ar_VI (kc' := 0) (ks' := 0) (kc := 0) (ks := 0) (a := o5) (ci := 10) (as := [vi 1]) (st := []) (tX10_uppermost h) mt_X10_uppermost rfl qM_RX9_79 qI_X10_uppermost qV_X10_uppermost he_o5 rfl (Nat.le_of_ble_eq_true rfl) dX9_swapFeet_10 ?_
  clear h
  intro x4 F3 h
  refine aw_pc (pc' := 13) rfl ?_
  refine aw_istore_n dX9_swapFeet_13 rfl (by decide) (aw_pc (pc' := 14) rfl ?_)
  refine aw_iload_n dX9_swapFeet_14 rfl rfl (aw_pc (pc' := 15) rfl ?_)
  refine aw_iconst dX9_swapFeet_15 (aw_pc (pc' := 16) rfl ?_)
  refine ac_eq rfl wl_m1 dX9_swapFeet_16 rfl (fun c => ?_) (fun c => ?_)
  · replace h := h.1 c
    refine aw_iconst dX9_swapFeet_39 (aw_pc (pc' := 40) rfl ?_)
    exact aw_iret rfl dX9_swapFeet_40 ⟨_, rfl, h⟩
  · replace h := h.2 c
    refine aw_aload_n dX9_swapFeet_19 rfl rfl (aw_pc (pc' := 20) rfl ?_)
    refine aw_aload_n dX9_swapFeet_20 rfl rfl (aw_pc (pc' := 21) rfl ?_)
    refine aw_iload_n dX9_swapFeet_21 rfl rfl (aw_pc (pc' := 22) rfl ?_)
    have h0 := rcv_inv h
    clear h
    obtain ⟨o8, fs_o8, hr_o8, he_o8, h⟩ := h0
    obtain rfl : o5 = o8 := Option.some.inj hr_o8
    refine ar_VI (kc' := 0) (ks' := 0) (kc := 0) (ks := 0) (a := o5) (ci := 10) (as := [vi x4]) (st := [vr (some o5)]) (tX10_isWide h) mt_X10_isWide rfl qM_RX9_70 qI_X10_isWide qV_X10_isWide he_o8 rfl (Nat.le_of_ble_eq_true rfl) dX9_swapFeet_22 ?_
    clear h
    intro x7 F6 h
    refine aw_pc (pc' := 25) rfl ?_
    refine aw_if_eq dX9_swapFeet_25 rfl (fun c => ?_) (fun c => ?_)
    · replace h := h.1 c
      refine aw_iconst dX9_swapFeet_32 (aw_pc (pc' := 33) rfl ?_)
      exact aw_mask [true, true, true, true] (tX9_swapFeet_J33 h)
    · replace h := h.2 c
      refine aw_iconst dX9_swapFeet_28 (aw_pc (pc' := 29) rfl ?_)
      refine aw_goto (tgt := 33) dX9_swapFeet_29 rfl ?_
      exact aw_mask [true, true, true, true] (tX9_swapFeet_J33 h)
def mX9_lendWheels (o : Nat) (a1 : Int) (a2 : Int) (F : hp) (Q : Int → hp → Prop) : Prop := gR F (some o) 9 0 (fun x1 => gR F x1 5 0 (fun x2 => rcv F x2 10 (fun o5 => mX10_wheelsOf o5 a1 F (fun x4 F3 => ∀ v6 : Int, v6 = (x4 + a2) → (w32 v6 < 0 → Q 0 F3) ∧ (¬ w32 v6 < 0 → (9 < w32 v6 → Q 0 F3) ∧ (¬ 9 < w32 v6 → gR F3 (some o) 9 0 (fun x7 => gR F3 x7 5 1 (fun x8 => gR F3 (some o) 9 0 (fun x9 => gR F3 x9 5 0 (fun x10 => rcv F3 x8 6 (fun o12 => mX6_keep o12 x10 F3 (fun F11 => gR F11 (some o) 9 0 (fun x13 => gR F11 x13 5 0 (fun x14 => gR F11 x14 10 0 (fun x15 => sI F11 x15 0 (2 + a1) v6 (fun F16 => Q 1 F16))))))))))))))))
set_option maxHeartbeats 4000000 in
theorem tX9_lendWheels {d : Nat} {o : Nat} {a1 : Int} {a2 : Int} {F : hp} {Q : Int → hp → Prop} (h : mX9_lendWheels o a1 a2 F Q) : am nX9_lendWheels (d + 2) 0 0 [vr (some o), vi a1, vi a2] F (qI Q) := by
  refine am_of (by decide +kernel) (Nat.le_of_ble_eq_true rfl) ?_
  show aw nX9_lendWheels (d + 2) 0 0 0 [some (vr (some o)), some (vi a1), some (vi a2), none] [] F (qI Q)
  unfold mX9_lendWheels at h
  refine aw_aload_n dX9_lendWheels_0 rfl rfl (aw_pc (pc' := 1) rfl ?_)
  refine ar_gR fl_RX9_12 dX9_lendWheels_1 h ?_
  clear h
  intro x1 h
  refine aw_pc (pc' := 4) rfl ?_
  refine ar_gR fl_RX9_43 dX9_lendWheels_4 h ?_
  clear h
  intro x2 h
  refine aw_pc (pc' := 7) rfl ?_
  refine aw_iload_n dX9_lendWheels_7 rfl rfl (aw_pc (pc' := 8) rfl ?_)
  have h0 := rcv_inv h
  clear h
  obtain ⟨o5, fs_o5, hr_o5, he_o5, h⟩ := h0
  subst hr_o5
  refine ar_VI (kc' := 0) (ks' := 0) (kc := 0) (ks := 0) (a := o5) (ci := 10) (as := [vi a1]) (st := []) (tX10_wheelsOf h) mt_X10_wheelsOf rfl qM_RX9_57 qI_X10_wheelsOf qV_X10_wheelsOf he_o5 rfl (Nat.le_of_ble_eq_true rfl) dX9_lendWheels_8 ?_
  clear h
  intro x4 F3 h
  refine aw_pc (pc' := 11) rfl ?_
  refine aw_iload_n dX9_lendWheels_11 rfl rfl (aw_pc (pc' := 12) rfl ?_)
  refine aw_iadd dX9_lendWheels_12 (aw_pc (pc' := 13) rfl ?_)
  generalize hv_v6 : (x4 + a2) = v6
  replace h := h v6 hv_v6.symm
  refine aw_istore_n dX9_lendWheels_13 rfl (by decide) (aw_pc (pc' := 14) rfl ?_)
  refine aw_iload_n dX9_lendWheels_14 rfl rfl (aw_pc (pc' := 15) rfl ?_)
  refine aw_if_lt dX9_lendWheels_15 rfl (fun c => ?_) (fun c => ?_)
  · replace h := h.1 c
    refine aw_iconst dX9_lendWheels_24 (aw_pc (pc' := 25) rfl ?_)
    exact aw_zret rfl (by decide) dX9_lendWheels_25 ⟨_, rfl, h⟩
  · replace h := h.2 c
    refine aw_iload_n dX9_lendWheels_18 rfl rfl (aw_pc (pc' := 19) rfl ?_)
    refine aw_bipush dX9_lendWheels_19 (by decide) (aw_pc (pc' := 21) rfl ?_)
    refine ac_le rfl wl_9 dX9_lendWheels_21 rfl (fun c => ?_) (fun c => ?_)
    · replace h := h.1 c
      refine aw_iconst dX9_lendWheels_24 (aw_pc (pc' := 25) rfl ?_)
      exact aw_zret rfl (by decide) dX9_lendWheels_25 ⟨_, rfl, h⟩
    · replace h := h.2 c
      refine aw_aload_n dX9_lendWheels_26 rfl rfl (aw_pc (pc' := 27) rfl ?_)
      refine ar_gR fl_RX9_12 dX9_lendWheels_27 h ?_
      clear h
      intro x7 h
      refine aw_pc (pc' := 30) rfl ?_
      refine ar_gR fl_RX9_93 dX9_lendWheels_30 h ?_
      clear h
      intro x8 h
      refine aw_pc (pc' := 33) rfl ?_
      refine aw_aload_n dX9_lendWheels_33 rfl rfl (aw_pc (pc' := 34) rfl ?_)
      refine ar_gR fl_RX9_12 dX9_lendWheels_34 h ?_
      clear h
      intro x9 h
      refine aw_pc (pc' := 37) rfl ?_
      refine ar_gR fl_RX9_43 dX9_lendWheels_37 h ?_
      clear h
      intro x10 h
      refine aw_pc (pc' := 40) rfl ?_
      have h0 := rcv_inv h
      clear h
      obtain ⟨o12, fs_o12, hr_o12, he_o12, h⟩ := h0
      subst hr_o12
      refine ar_VV (kc' := 0) (ks' := 0) (kc := 0) (ks := 0) (a := o12) (ci := 6) (as := [vr x10]) (st := []) (tX6_keep h) mt_X6_keep rfl qM_RX9_97 qI_X6_keep qV_X6_keep he_o12 rfl (Nat.le_of_ble_eq_true rfl) dX9_lendWheels_40 ?_
      clear h
      intro F11 h
      refine aw_pc (pc' := 43) rfl ?_
      refine aw_aload_n dX9_lendWheels_43 rfl rfl (aw_pc (pc' := 44) rfl ?_)
      refine ar_gR fl_RX9_12 dX9_lendWheels_44 h ?_
      clear h
      intro x13 h
      refine aw_pc (pc' := 47) rfl ?_
      refine ar_gR fl_RX9_43 dX9_lendWheels_47 h ?_
      clear h
      intro x14 h
      refine aw_pc (pc' := 50) rfl ?_
      refine ar_gR fl_RX9_113 dX9_lendWheels_50 h ?_
      clear h
      intro x15 h
      refine aw_pc (pc' := 53) rfl ?_
      refine aw_iconst dX9_lendWheels_53 (aw_pc (pc' := 54) rfl ?_)
      refine aw_iload_n dX9_lendWheels_54 rfl rfl (aw_pc (pc' := 55) rfl ?_)
      refine aw_iadd dX9_lendWheels_55 (aw_pc (pc' := 56) rfl ?_)
      refine aw_iload_n dX9_lendWheels_56 rfl rfl (aw_pc (pc' := 57) rfl ?_)
      refine ar_sI dX9_lendWheels_57 h ?_
      clear h
      intro F16 h
      refine aw_pc (pc' := 58) rfl ?_
      refine aw_iconst dX9_lendWheels_58 (aw_pc (pc' := 59) rfl ?_)
      exact aw_zret rfl (by decide) dX9_lendWheels_59 ⟨_, rfl, h⟩
def mX9_passHours_L4 (Q : Int → hp → Prop) : Nat → Nat → Int → Int → Int → hp → Prop
  | 0, _, _, _, _, _ => False
  | k + 1, o, a1, a2, a3, F => (w32 a3 < w32 a1 → gR F (some o) 9 0 (fun x1 => gR F x1 5 0 (fun x2 => rcv F x2 10 (fun o5 => mX10_hourCanPass o5 F (fun x4 F3 => (w32 x4 = 0 → Q a2 F3) ∧ (¬ w32 x4 = 0 → gR F3 (some o) 9 0 (fun x6 => gR F3 x6 5 1 (fun x7 => gR F3 (some o) 9 0 (fun x8 => gR F3 x8 5 0 (fun x9 => rcv F3 x7 6 (fun o11 => mX6_keep o11 x9 F3 (fun F10 => gR F10 (some o) 9 0 (fun x12 => gR F10 x12 5 0 (fun x13 => rcv F10 x13 10 (fun o16 => mX10_passHour o16 F10 (fun x15 F14 => ∀ v17 : Int, v17 = (a2 + x15) → mX9_passHours_L4 Q k o a1 v17 (a3 + 1) F14)))))))))))))))) ∧ (¬ w32 a3 < w32 a1 → Q a2 F)
set_option maxHeartbeats 4000000 in
theorem tX9_passHours_L4 {d : Nat} {Q : Int → hp → Prop} : ∀ (k : Nat) (o : Nat) (a1 : Int) (a2 : Int) (a3 : Int) (F : hp), mX9_passHours_L4 Q k o a1 a2 a3 F → aw nX9_passHours (d + 3) 0 0 4 [some (vr (some o)), some (vi a1), some (vi a2), some (vi a3)] [] F (qI Q) := by
  intro k
  induction k with
  | zero => intro o a1 a2 a3 F h; exact h.elim
  | succ k ih =>
    intro o a1 a2 a3 F h
    simp only [mX9_passHours_L4] at h
    refine aw_iload_n dX9_passHours_4 rfl rfl (aw_pc (pc' := 5) rfl ?_)
    refine aw_iload_n dX9_passHours_5 rfl rfl (aw_pc (pc' := 6) rfl ?_)
    refine ac_ge rfl rfl dX9_passHours_6 rfl (fun c => ?_) (fun c => ?_)
    · replace h := h.1 c
      refine aw_aload_n dX9_passHours_9 rfl rfl (aw_pc (pc' := 10) rfl ?_)
      refine ar_gR fl_RX9_12 dX9_passHours_10 h ?_
      clear h
      intro x1 h
      refine aw_pc (pc' := 13) rfl ?_
      refine ar_gR fl_RX9_43 dX9_passHours_13 h ?_
      clear h
      intro x2 h
      refine aw_pc (pc' := 16) rfl ?_
      have h0 := rcv_inv h
      clear h
      obtain ⟨o5, fs_o5, hr_o5, he_o5, h⟩ := h0
      subst hr_o5
      refine ar_VI (kc' := 0) (ks' := 0) (kc := 0) (ks := 0) (a := o5) (ci := 10) (as := []) (st := []) (tX10_hourCanPass h) mt_X10_hourCanPass rfl qM_RX9_116 qI_X10_hourCanPass qV_X10_hourCanPass he_o5 rfl (Nat.le_of_ble_eq_true rfl) dX9_passHours_16 ?_
      clear h
      intro x4 F3 h
      refine aw_pc (pc' := 19) rfl ?_
      refine aw_if_eq dX9_passHours_19 rfl (fun c => ?_) (fun c => ?_)
      · replace h := h.1 c
        refine aw_iload_n dX9_passHours_58 rfl rfl (aw_pc (pc' := 59) rfl ?_)
        exact aw_iret rfl dX9_passHours_59 ⟨_, rfl, h⟩
      · replace h := h.2 c
        refine aw_aload_n dX9_passHours_22 rfl rfl (aw_pc (pc' := 23) rfl ?_)
        refine ar_gR fl_RX9_12 dX9_passHours_23 h ?_
        clear h
        intro x6 h
        refine aw_pc (pc' := 26) rfl ?_
        refine ar_gR fl_RX9_93 dX9_passHours_26 h ?_
        clear h
        intro x7 h
        refine aw_pc (pc' := 29) rfl ?_
        refine aw_aload_n dX9_passHours_29 rfl rfl (aw_pc (pc' := 30) rfl ?_)
        refine ar_gR fl_RX9_12 dX9_passHours_30 h ?_
        clear h
        intro x8 h
        refine aw_pc (pc' := 33) rfl ?_
        refine ar_gR fl_RX9_43 dX9_passHours_33 h ?_
        clear h
        intro x9 h
        refine aw_pc (pc' := 36) rfl ?_
        have h0 := rcv_inv h
        clear h
        obtain ⟨o11, fs_o11, hr_o11, he_o11, h⟩ := h0
        subst hr_o11
        refine ar_VV (kc' := 0) (ks' := 0) (kc := 0) (ks := 0) (a := o11) (ci := 6) (as := [vr x9]) (st := []) (tX6_keep h) mt_X6_keep rfl qM_RX9_97 qI_X6_keep qV_X6_keep he_o11 rfl (Nat.le_of_ble_eq_true rfl) dX9_passHours_36 ?_
        clear h
        intro F10 h
        refine aw_pc (pc' := 39) rfl ?_
        refine aw_iload_n dX9_passHours_39 rfl rfl (aw_pc (pc' := 40) rfl ?_)
        refine aw_aload_n dX9_passHours_40 rfl rfl (aw_pc (pc' := 41) rfl ?_)
        refine ar_gR fl_RX9_12 dX9_passHours_41 h ?_
        clear h
        intro x12 h
        refine aw_pc (pc' := 44) rfl ?_
        refine ar_gR fl_RX9_43 dX9_passHours_44 h ?_
        clear h
        intro x13 h
        refine aw_pc (pc' := 47) rfl ?_
        have h0 := rcv_inv h
        clear h
        obtain ⟨o16, fs_o16, hr_o16, he_o16, h⟩ := h0
        subst hr_o16
        refine ar_VI (kc' := 0) (ks' := 0) (kc := 0) (ks := 0) (a := o16) (ci := 10) (as := []) (st := [vi a2]) (tX10_passHour h) mt_X10_passHour rfl qM_RX9_120 qI_X10_passHour qV_X10_passHour he_o16 rfl (Nat.le_of_ble_eq_true rfl) dX9_passHours_47 ?_
        clear h
        intro x15 F14 h
        refine aw_pc (pc' := 50) rfl ?_
        refine aw_iadd dX9_passHours_50 (aw_pc (pc' := 51) rfl ?_)
        generalize hv_v17 : (a2 + x15) = v17
        replace h := h v17 hv_v17.symm
        refine aw_istore_n dX9_passHours_51 rfl (by decide) (aw_pc (pc' := 52) rfl ?_)
        refine aw_iinc dX9_passHours_52 rfl (by decide) (aw_pc (pc' := 55) rfl ?_)
        refine aw_goto (tgt := 4) dX9_passHours_55 rfl ?_
        exact aw_mask [true, true, true, true] (ih _ _ _ _ _ h)
    · replace h := h.2 c
      refine aw_iload_n dX9_passHours_58 rfl rfl (aw_pc (pc' := 59) rfl ?_)
      exact aw_iret rfl dX9_passHours_59 ⟨_, rfl, h⟩
def mX9_passHours (o : Nat) (a1 : Int) (F : hp) (Q : Int → hp → Prop) : Prop := (∃ k1, mX9_passHours_L4 Q k1 o a1 0 0 F)
set_option maxHeartbeats 4000000 in
theorem tX9_passHours {d : Nat} {o : Nat} {a1 : Int} {F : hp} {Q : Int → hp → Prop} (h : mX9_passHours o a1 F Q) : am nX9_passHours (d + 3) 0 0 [vr (some o), vi a1] F (qI Q) := by
  refine am_of (by decide +kernel) (Nat.le_of_ble_eq_true rfl) ?_
  show aw nX9_passHours (d + 3) 0 0 0 [some (vr (some o)), some (vi a1), none, none] [] F (qI Q)
  unfold mX9_passHours at h
  refine aw_iconst dX9_passHours_0 (aw_pc (pc' := 1) rfl ?_)
  refine aw_istore_n dX9_passHours_1 rfl (by decide) (aw_pc (pc' := 2) rfl ?_)
  refine aw_iconst dX9_passHours_2 (aw_pc (pc' := 3) rfl ?_)
  refine aw_istore_n dX9_passHours_3 rfl (by decide) (aw_pc (pc' := 4) rfl ?_)
  obtain ⟨k1, h⟩ := h
  exact aw_mask [true, true, true, true] (tX9_passHours_L4 k1 _ _ _ _ _ h)
def mX9_passHoursThatCan_J23 (Q : Int → hp → Prop) (o : Nat) (a1 : Int) (s0 : Int) (F : hp) : Prop := rcv F (some o) 9 (fun o3 => mX9_passHours o3 a1 F (fun x2 F1 => (((s0 : Int) = 0 ∨ (s0 : Int) = 1) ∧ Q s0 F1)))
set_option maxHeartbeats 4000000 in
theorem tX9_passHoursThatCan_J23 {d : Nat} {Q : Int → hp → Prop} {o : Nat} {a1 : Int} {s0 : Int} {F : hp} (h : mX9_passHoursThatCan_J23 Q o a1 s0 F) : aw nX9_passHoursThatCan (d + 4) 0 0 23 [some (vr (some o)), some (vi a1), none] [vi s0] F (qI Q) := by
  unfold mX9_passHoursThatCan_J23 at h
  refine aw_istore_n dX9_passHoursThatCan_23 rfl (by decide) (aw_pc (pc' := 24) rfl ?_)
  refine aw_aload_n dX9_passHoursThatCan_24 rfl rfl (aw_pc (pc' := 25) rfl ?_)
  refine aw_iload_n dX9_passHoursThatCan_25 rfl rfl (aw_pc (pc' := 26) rfl ?_)
  have h0 := rcv_inv h
  clear h
  obtain ⟨o3, fs_o3, hr_o3, he_o3, h⟩ := h0
  obtain rfl : o = o3 := Option.some.inj hr_o3
  refine ar_VI (kc' := 0) (ks' := 0) (kc := 0) (ks := 0) (a := o) (ci := 9) (as := [vi a1]) (st := []) (tX9_passHours h) mt_X9_passHours rfl qM_RX9_148 qI_X9_passHours qV_X9_passHours he_o3 rfl (Nat.le_of_ble_eq_true rfl) dX9_passHoursThatCan_26 ?_
  clear h
  intro x2 F1 h
  refine aw_pc (pc' := 29) rfl ?_
  refine aw_pop dX9_passHoursThatCan_29 trivial (aw_pc (pc' := 30) rfl ?_)
  refine aw_iload_n dX9_passHoursThatCan_30 rfl rfl (aw_pc (pc' := 31) rfl ?_)
  exact aw_zret rfl (nz h.1) dX9_passHoursThatCan_31 ⟨_, rfl, h.2⟩
def mX9_passHoursThatCan (o : Nat) (a1 : Int) (F : hp) (Q : Int → hp → Prop) : Prop := gR F (some o) 9 0 (fun x1 => gR F x1 5 0 (fun x2 => rcv F x2 10 (fun o5 => mX10_hourNow o5 F (fun x4 F3 => (9999 < w32 (x4 + a1) → mX9_passHoursThatCan_J23 Q o a1 0 F3) ∧ (¬ 9999 < w32 (x4 + a1) → mX9_passHoursThatCan_J23 Q o a1 1 F3)))))
set_option maxHeartbeats 4000000 in
theorem tX9_passHoursThatCan {d : Nat} {o : Nat} {a1 : Int} {F : hp} {Q : Int → hp → Prop} (h : mX9_passHoursThatCan o a1 F Q) : am nX9_passHoursThatCan (d + 4) 0 0 [vr (some o), vi a1] F (qI Q) := by
  refine am_of (by decide +kernel) (Nat.le_of_ble_eq_true rfl) ?_
  show aw nX9_passHoursThatCan (d + 4) 0 0 0 [some (vr (some o)), some (vi a1), none] [] F (qI Q)
  unfold mX9_passHoursThatCan at h
  refine aw_aload_n dX9_passHoursThatCan_0 rfl rfl (aw_pc (pc' := 1) rfl ?_)
  refine ar_gR fl_RX9_12 dX9_passHoursThatCan_1 h ?_
  clear h
  intro x1 h
  refine aw_pc (pc' := 4) rfl ?_
  refine ar_gR fl_RX9_43 dX9_passHoursThatCan_4 h ?_
  clear h
  intro x2 h
  refine aw_pc (pc' := 7) rfl ?_
  have h0 := rcv_inv h
  clear h
  obtain ⟨o5, fs_o5, hr_o5, he_o5, h⟩ := h0
  subst hr_o5
  refine ar_VI (kc' := 0) (ks' := 0) (kc := 0) (ks := 0) (a := o5) (ci := 10) (as := []) (st := []) (tX10_hourNow h) mt_X10_hourNow rfl qM_RX9_60 qI_X10_hourNow qV_X10_hourNow he_o5 rfl (Nat.le_of_ble_eq_true rfl) dX9_passHoursThatCan_7 ?_
  clear h
  intro x4 F3 h
  refine aw_pc (pc' := 10) rfl ?_
  refine aw_iload_n dX9_passHoursThatCan_10 rfl rfl (aw_pc (pc' := 11) rfl ?_)
  refine aw_iadd dX9_passHoursThatCan_11 (aw_pc (pc' := 12) rfl ?_)
  refine aw_sipush dX9_passHoursThatCan_12 (by decide) (aw_pc (pc' := 15) rfl ?_)
  refine ac_gt rfl wl_9999 dX9_passHoursThatCan_15 rfl (fun c => ?_) (fun c => ?_)
  · replace h := h.1 c
    refine aw_iconst dX9_passHoursThatCan_22 (aw_pc (pc' := 23) rfl ?_)
    exact aw_mask [true, true, false] (tX9_passHoursThatCan_J23 h)
  · replace h := h.2 c
    refine aw_iconst dX9_passHoursThatCan_18 (aw_pc (pc' := 19) rfl ?_)
    refine aw_goto (tgt := 23) dX9_passHoursThatCan_19 rfl ?_
    exact aw_mask [true, true, false] (tX9_passHoursThatCan_J23 h)
def mX9_playClause (o : Nat) (a1 : Option Nat) (a2 : Int) (F : hp) (Q : Int → hp → Prop) : Prop := rcv F a1 8 (fun o3 => mX8_clausePart o3 a2 1 F (fun x2 F1 => rcv F1 (some o3) 8 (fun o6 => mX8_clausePart o6 a2 2 F1 (fun x5 F4 => rcv F4 (some o3) 8 (fun o9 => mX8_clausePart o9 a2 0 F4 (fun x8 F7 => (w32 x8 = 0 → rcv F7 (some o) 9 (fun o12 => mX9_passHoursThatCan o12 x2 F7 (fun x11 F10 => (((x11 : Int) = 0 ∨ (x11 : Int) = 1) ∧ Q x11 F10)))) ∧ (w32 x8 = 1 → Q 1 F7) ∧ (w32 x8 = 2 → Q 1 F7) ∧ (w32 x8 = 3 → Q 1 F7) ∧ (w32 x8 = 4 → Q 1 F7) ∧ (w32 x8 = 5 → Q 1 F7) ∧ (w32 x8 = 6 → Q 1 F7) ∧ (w32 x8 = 7 → Q 1 F7) ∧ (w32 x8 = 8 → Q 1 F7) ∧ (w32 x8 = 9 → Q 1 F7) ∧ (w32 x8 = 10 → Q 1 F7) ∧ (w32 x8 = 11 → Q 1 F7) ∧ (w32 x8 = 12 → Q 1 F7) ∧ (w32 x8 = 13 → gR F7 (some o) 9 0 (fun x13 => rcv F7 x13 5 (fun o16 => mX5_addCar o16 x2 x5 F7 (fun x15 F14 => (w32 x15 = (-1) → Q 0 F14) ∧ (¬ w32 x15 = (-1) → Q 1 F14))))) ∧ (w32 x8 = 14 → gR F7 (some o) 9 0 (fun x17 => rcv F7 x17 5 (fun o20 => mX5_setForbidden o20 x2 x5 1 F7 (fun x19 F18 => (((x19 : Int) = 0 ∨ (x19 : Int) = 1) ∧ Q x19 F18))))) ∧ (w32 x8 = 15 → rcv F7 (some o) 9 (fun o23 => mX9_shift o23 x2 x5 1 F7 (fun x22 F21 => (w32 x22 = (-1) → Q 0 F21) ∧ (¬ w32 x22 = (-1) → Q 1 F21)))) ∧ (w32 x8 = 16 → rcv F7 (some o) 9 (fun o26 => mX9_swapFeet o26 1 F7 (fun x25 F24 => (w32 x25 = (-1) → Q 0 F24) ∧ (¬ w32 x25 = (-1) → Q 1 F24)))) ∧ (w32 x8 = 17 → rcv F7 (some o) 9 (fun o29 => mX9_lendWheels o29 x5 x2 F7 (fun x28 F27 => (((x28 : Int) = 0 ∨ (x28 : Int) = 1) ∧ Q x28 F27)))) ∧ (w32 x8 < 0 ∨ 17 < w32 x8 → Q 1 F7)))))))
set_option maxHeartbeats 4000000 in
theorem tX9_playClause {d : Nat} {o : Nat} {a1 : Option Nat} {a2 : Int} {F : hp} {Q : Int → hp → Prop} (h : mX9_playClause o a1 a2 F Q) : am nX9_playClause (d + 5) 0 0 [vr (some o), vr a1, vi a2] F (qI Q) := by
  refine am_of (by decide +kernel) (Nat.le_of_ble_eq_true rfl) ?_
  show aw nX9_playClause (d + 5) 0 0 0 [some (vr (some o)), some (vr a1), some (vi a2), none, none] [] F (qI Q)
  unfold mX9_playClause at h
  refine aw_aload_n dX9_playClause_0 rfl rfl (aw_pc (pc' := 1) rfl ?_)
  refine aw_iload_n dX9_playClause_1 rfl rfl (aw_pc (pc' := 2) rfl ?_)
  refine aw_iconst dX9_playClause_2 (aw_pc (pc' := 3) rfl ?_)
  have h0 := rcv_inv h
  clear h
  obtain ⟨o3, fs_o3, hr_o3, he_o3, h⟩ := h0
  subst hr_o3
  refine ar_VI (kc' := 0) (ks' := 0) (kc := 0) (ks := 0) (a := o3) (ci := 8) (as := [vi a2, vi 1]) (st := []) (tX8_clausePart h) mt_X8_clausePart rfl qM_RX9_123 qI_X8_clausePart qV_X8_clausePart he_o3 rfl (Nat.le_of_ble_eq_true rfl) dX9_playClause_3 ?_
  clear h
  intro x2 F1 h
  refine aw_pc (pc' := 6) rfl ?_
  refine aw_istore_n dX9_playClause_6 rfl (by decide) (aw_pc (pc' := 7) rfl ?_)
  refine aw_aload_n dX9_playClause_7 rfl rfl (aw_pc (pc' := 8) rfl ?_)
  refine aw_iload_n dX9_playClause_8 rfl rfl (aw_pc (pc' := 9) rfl ?_)
  refine aw_iconst dX9_playClause_9 (aw_pc (pc' := 10) rfl ?_)
  have h0 := rcv_inv h
  clear h
  obtain ⟨o6, fs_o6, hr_o6, he_o6, h⟩ := h0
  obtain rfl : o3 = o6 := Option.some.inj hr_o6
  refine ar_VI (kc' := 0) (ks' := 0) (kc := 0) (ks := 0) (a := o3) (ci := 8) (as := [vi a2, vi 2]) (st := []) (tX8_clausePart h) mt_X8_clausePart rfl qM_RX9_123 qI_X8_clausePart qV_X8_clausePart he_o6 rfl (Nat.le_of_ble_eq_true rfl) dX9_playClause_10 ?_
  clear h
  intro x5 F4 h
  refine aw_pc (pc' := 13) rfl ?_
  refine aw_istore dX9_playClause_13 (by decide) (aw_pc (pc' := 15) rfl ?_)
  refine aw_aload_n dX9_playClause_15 rfl rfl (aw_pc (pc' := 16) rfl ?_)
  refine aw_iload_n dX9_playClause_16 rfl rfl (aw_pc (pc' := 17) rfl ?_)
  refine aw_iconst dX9_playClause_17 (aw_pc (pc' := 18) rfl ?_)
  have h0 := rcv_inv h
  clear h
  obtain ⟨o9, fs_o9, hr_o9, he_o9, h⟩ := h0
  obtain rfl : o3 = o9 := Option.some.inj hr_o9
  refine ar_VI (kc' := 0) (ks' := 0) (kc := 0) (ks := 0) (a := o3) (ci := 8) (as := [vi a2, vi 0]) (st := []) (tX8_clausePart h) mt_X8_clausePart rfl qM_RX9_123 qI_X8_clausePart qV_X8_clausePart he_o9 rfl (Nat.le_of_ble_eq_true rfl) dX9_playClause_18 ?_
  clear h
  intro x8 F7 h
  refine aw_pc (pc' := 21) rfl ?_
  refine aw_table dX9_playClause_21 (td := 187) rfl (fun j => [181, 187, 187, 187, 187, 187, 187, 187, 187, 187, 187, 187, 187, 108, 128, 140, 158, 173].getD j 0) rfl (by decide) (fun j hj hx => ?_) (fun hx => ?_)
  · have hj : j = 0 ∨ j = 1 ∨ j = 2 ∨ j = 3 ∨ j = 4 ∨ j = 5 ∨ j = 6 ∨ j = 7 ∨ j = 8 ∨ j = 9 ∨ j = 10 ∨ j = 11 ∨ j = 12 ∨ j = 13 ∨ j = 14 ∨ j = 15 ∨ j = 16 ∨ j = 17 := by (simp at hj; omega)
    rcases hj with rfl | rfl | rfl | rfl | rfl | rfl | rfl | rfl | rfl | rfl | rfl | rfl | rfl | rfl | rfl | rfl | rfl | rfl
    · replace h := h.1 (by omega)
      refine aw_pc (pc' := 181) rfl ?_
      refine aw_aload_n dX9_playClause_181 rfl rfl (aw_pc (pc' := 182) rfl ?_)
      refine aw_iload_n dX9_playClause_182 rfl rfl (aw_pc (pc' := 183) rfl ?_)
      have h0 := rcv_inv h
      clear h
      obtain ⟨o12, fs_o12, hr_o12, he_o12, h⟩ := h0
      obtain rfl : o = o12 := Option.some.inj hr_o12
      refine ar_VI (kc' := 0) (ks' := 0) (kc := 0) (ks := 0) (a := o) (ci := 9) (as := [vi x2]) (st := []) (tX9_passHoursThatCan h) mt_X9_passHoursThatCan rfl qM_RX9_145 qI_X9_passHoursThatCan qV_X9_passHoursThatCan he_o12 rfl (Nat.le_of_ble_eq_true rfl) dX9_playClause_183 ?_
      clear h
      intro x11 F10 h
      refine aw_pc (pc' := 186) rfl ?_
      exact aw_zret rfl (nz h.1) dX9_playClause_186 ⟨_, rfl, h.2⟩
    · replace h := h.2.1 (by omega)
      refine aw_pc (pc' := 187) rfl ?_
      refine aw_iconst dX9_playClause_187 (aw_pc (pc' := 188) rfl ?_)
      exact aw_zret rfl (by decide) dX9_playClause_188 ⟨_, rfl, h⟩
    · replace h := h.2.2.1 (by omega)
      refine aw_pc (pc' := 187) rfl ?_
      refine aw_iconst dX9_playClause_187 (aw_pc (pc' := 188) rfl ?_)
      exact aw_zret rfl (by decide) dX9_playClause_188 ⟨_, rfl, h⟩
    · replace h := h.2.2.2.1 (by omega)
      refine aw_pc (pc' := 187) rfl ?_
      refine aw_iconst dX9_playClause_187 (aw_pc (pc' := 188) rfl ?_)
      exact aw_zret rfl (by decide) dX9_playClause_188 ⟨_, rfl, h⟩
    · replace h := h.2.2.2.2.1 (by omega)
      refine aw_pc (pc' := 187) rfl ?_
      refine aw_iconst dX9_playClause_187 (aw_pc (pc' := 188) rfl ?_)
      exact aw_zret rfl (by decide) dX9_playClause_188 ⟨_, rfl, h⟩
    · replace h := h.2.2.2.2.2.1 (by omega)
      refine aw_pc (pc' := 187) rfl ?_
      refine aw_iconst dX9_playClause_187 (aw_pc (pc' := 188) rfl ?_)
      exact aw_zret rfl (by decide) dX9_playClause_188 ⟨_, rfl, h⟩
    · replace h := h.2.2.2.2.2.2.1 (by omega)
      refine aw_pc (pc' := 187) rfl ?_
      refine aw_iconst dX9_playClause_187 (aw_pc (pc' := 188) rfl ?_)
      exact aw_zret rfl (by decide) dX9_playClause_188 ⟨_, rfl, h⟩
    · replace h := h.2.2.2.2.2.2.2.1 (by omega)
      refine aw_pc (pc' := 187) rfl ?_
      refine aw_iconst dX9_playClause_187 (aw_pc (pc' := 188) rfl ?_)
      exact aw_zret rfl (by decide) dX9_playClause_188 ⟨_, rfl, h⟩
    · replace h := h.2.2.2.2.2.2.2.2.1 (by omega)
      refine aw_pc (pc' := 187) rfl ?_
      refine aw_iconst dX9_playClause_187 (aw_pc (pc' := 188) rfl ?_)
      exact aw_zret rfl (by decide) dX9_playClause_188 ⟨_, rfl, h⟩
    · replace h := h.2.2.2.2.2.2.2.2.2.1 (by omega)
      refine aw_pc (pc' := 187) rfl ?_
      refine aw_iconst dX9_playClause_187 (aw_pc (pc' := 188) rfl ?_)
      exact aw_zret rfl (by decide) dX9_playClause_188 ⟨_, rfl, h⟩
    · replace h := h.2.2.2.2.2.2.2.2.2.2.1 (by omega)
      refine aw_pc (pc' := 187) rfl ?_
      refine aw_iconst dX9_playClause_187 (aw_pc (pc' := 188) rfl ?_)
      exact aw_zret rfl (by decide) dX9_playClause_188 ⟨_, rfl, h⟩
    · replace h := h.2.2.2.2.2.2.2.2.2.2.2.1 (by omega)
      refine aw_pc (pc' := 187) rfl ?_
      refine aw_iconst dX9_playClause_187 (aw_pc (pc' := 188) rfl ?_)
      exact aw_zret rfl (by decide) dX9_playClause_188 ⟨_, rfl, h⟩
    · replace h := h.2.2.2.2.2.2.2.2.2.2.2.2.1 (by omega)
      refine aw_pc (pc' := 187) rfl ?_
      refine aw_iconst dX9_playClause_187 (aw_pc (pc' := 188) rfl ?_)
      exact aw_zret rfl (by decide) dX9_playClause_188 ⟨_, rfl, h⟩
    · replace h := h.2.2.2.2.2.2.2.2.2.2.2.2.2.1 (by omega)
      refine aw_pc (pc' := 108) rfl ?_
      refine aw_aload_n dX9_playClause_108 rfl rfl (aw_pc (pc' := 109) rfl ?_)
      refine ar_gR fl_RX9_12 dX9_playClause_109 h ?_
      clear h
      intro x13 h
      refine aw_pc (pc' := 112) rfl ?_
      refine aw_iload_n dX9_playClause_112 rfl rfl (aw_pc (pc' := 113) rfl ?_)
      refine aw_iload dX9_playClause_113 rfl (aw_pc (pc' := 115) rfl ?_)
      have h0 := rcv_inv h
      clear h
      obtain ⟨o16, fs_o16, hr_o16, he_o16, h⟩ := h0
      subst hr_o16
      refine ar_VI (kc' := 0) (ks' := 0) (kc := 0) (ks := 0) (a := o16) (ci := 5) (as := [vi x2, vi x5]) (st := []) (tX5_addCar h) mt_X5_addCar rfl qM_RX9_127 qI_X5_addCar qV_X5_addCar he_o16 rfl (Nat.le_of_ble_eq_true rfl) dX9_playClause_115 ?_
      clear h
      intro x15 F14 h
      refine aw_pc (pc' := 118) rfl ?_
      refine aw_iconst dX9_playClause_118 (aw_pc (pc' := 119) rfl ?_)
      refine ac_eq rfl wl_m1 dX9_playClause_119 rfl (fun c => ?_) (fun c => ?_)
      · replace h := h.1 c
        refine aw_iconst dX9_playClause_126 (aw_pc (pc' := 127) rfl ?_)
        exact aw_zret rfl (by decide) dX9_playClause_127 ⟨_, rfl, h⟩
      · replace h := h.2 c
        refine aw_iconst dX9_playClause_122 (aw_pc (pc' := 123) rfl ?_)
        refine aw_goto (tgt := 127) dX9_playClause_123 rfl ?_
        exact aw_zret rfl (by decide) dX9_playClause_127 ⟨_, rfl, h⟩
    · replace h := h.2.2.2.2.2.2.2.2.2.2.2.2.2.2.1 (by omega)
      refine aw_pc (pc' := 128) rfl ?_
      refine aw_aload_n dX9_playClause_128 rfl rfl (aw_pc (pc' := 129) rfl ?_)
      refine ar_gR fl_RX9_12 dX9_playClause_129 h ?_
      clear h
      intro x17 h
      refine aw_pc (pc' := 132) rfl ?_
      refine aw_iload_n dX9_playClause_132 rfl rfl (aw_pc (pc' := 133) rfl ?_)
      refine aw_iload dX9_playClause_133 rfl (aw_pc (pc' := 135) rfl ?_)
      refine aw_iconst dX9_playClause_135 (aw_pc (pc' := 136) rfl ?_)
      have h0 := rcv_inv h
      clear h
      obtain ⟨o20, fs_o20, hr_o20, he_o20, h⟩ := h0
      subst hr_o20
      refine ar_VI (kc' := 0) (ks' := 0) (kc := 0) (ks := 0) (a := o20) (ci := 5) (as := [vi x2, vi x5, vi 1]) (st := []) (tX5_setForbidden h) mt_X5_setForbidden rfl qM_RX9_130 qI_X5_setForbidden qV_X5_setForbidden he_o20 rfl (Nat.le_of_ble_eq_true rfl) dX9_playClause_136 ?_
      clear h
      intro x19 F18 h
      refine aw_pc (pc' := 139) rfl ?_
      exact aw_zret rfl (nz h.1) dX9_playClause_139 ⟨_, rfl, h.2⟩
    · replace h := h.2.2.2.2.2.2.2.2.2.2.2.2.2.2.2.1 (by omega)
      refine aw_pc (pc' := 140) rfl ?_
      refine aw_aload_n dX9_playClause_140 rfl rfl (aw_pc (pc' := 141) rfl ?_)
      refine aw_iload_n dX9_playClause_141 rfl rfl (aw_pc (pc' := 142) rfl ?_)
      refine aw_iload dX9_playClause_142 rfl (aw_pc (pc' := 144) rfl ?_)
      refine aw_iconst dX9_playClause_144 (aw_pc (pc' := 145) rfl ?_)
      have h0 := rcv_inv h
      clear h
      obtain ⟨o23, fs_o23, hr_o23, he_o23, h⟩ := h0
      obtain rfl : o = o23 := Option.some.inj hr_o23
      refine ar_VI (kc' := 0) (ks' := 0) (kc := 0) (ks := 0) (a := o) (ci := 9) (as := [vi x2, vi x5, vi 1]) (st := []) (tX9_shift h) mt_X9_shift rfl qM_RX9_134 qI_X9_shift qV_X9_shift he_o23 rfl (Nat.le_of_ble_eq_true rfl) dX9_playClause_145 ?_
      clear h
      intro x22 F21 h
      refine aw_pc (pc' := 148) rfl ?_
      refine aw_iconst dX9_playClause_148 (aw_pc (pc' := 149) rfl ?_)
      refine ac_eq rfl wl_m1 dX9_playClause_149 rfl (fun c => ?_) (fun c => ?_)
      · replace h := h.1 c
        refine aw_iconst dX9_playClause_156 (aw_pc (pc' := 157) rfl ?_)
        exact aw_zret rfl (by decide) dX9_playClause_157 ⟨_, rfl, h⟩
      · replace h := h.2 c
        refine aw_iconst dX9_playClause_152 (aw_pc (pc' := 153) rfl ?_)
        refine aw_goto (tgt := 157) dX9_playClause_153 rfl ?_
        exact aw_zret rfl (by decide) dX9_playClause_157 ⟨_, rfl, h⟩
    · replace h := h.2.2.2.2.2.2.2.2.2.2.2.2.2.2.2.2.1 (by omega)
      refine aw_pc (pc' := 158) rfl ?_
      refine aw_aload_n dX9_playClause_158 rfl rfl (aw_pc (pc' := 159) rfl ?_)
      refine aw_iconst dX9_playClause_159 (aw_pc (pc' := 160) rfl ?_)
      have h0 := rcv_inv h
      clear h
      obtain ⟨o26, fs_o26, hr_o26, he_o26, h⟩ := h0
      obtain rfl : o = o26 := Option.some.inj hr_o26
      refine ar_VI (kc' := 0) (ks' := 0) (kc := 0) (ks := 0) (a := o) (ci := 9) (as := [vi 1]) (st := []) (tX9_swapFeet h) mt_X9_swapFeet rfl qM_RX9_138 qI_X9_swapFeet qV_X9_swapFeet he_o26 rfl (Nat.le_of_ble_eq_true rfl) dX9_playClause_160 ?_
      clear h
      intro x25 F24 h
      refine aw_pc (pc' := 163) rfl ?_
      refine aw_iconst dX9_playClause_163 (aw_pc (pc' := 164) rfl ?_)
      refine ac_eq rfl wl_m1 dX9_playClause_164 rfl (fun c => ?_) (fun c => ?_)
      · replace h := h.1 c
        refine aw_iconst dX9_playClause_171 (aw_pc (pc' := 172) rfl ?_)
        exact aw_zret rfl (by decide) dX9_playClause_172 ⟨_, rfl, h⟩
      · replace h := h.2 c
        refine aw_iconst dX9_playClause_167 (aw_pc (pc' := 168) rfl ?_)
        refine aw_goto (tgt := 172) dX9_playClause_168 rfl ?_
        exact aw_zret rfl (by decide) dX9_playClause_172 ⟨_, rfl, h⟩
    · replace h := h.2.2.2.2.2.2.2.2.2.2.2.2.2.2.2.2.2.1 (by omega)
      refine aw_pc (pc' := 173) rfl ?_
      refine aw_aload_n dX9_playClause_173 rfl rfl (aw_pc (pc' := 174) rfl ?_)
      refine aw_iload dX9_playClause_174 rfl (aw_pc (pc' := 176) rfl ?_)
      refine aw_iload_n dX9_playClause_176 rfl rfl (aw_pc (pc' := 177) rfl ?_)
      have h0 := rcv_inv h
      clear h
      obtain ⟨o29, fs_o29, hr_o29, he_o29, h⟩ := h0
      obtain rfl : o = o29 := Option.some.inj hr_o29
      refine ar_VI (kc' := 0) (ks' := 0) (kc := 0) (ks := 0) (a := o) (ci := 9) (as := [vi x5, vi x2]) (st := []) (tX9_lendWheels h) mt_X9_lendWheels rfl qM_RX9_142 qI_X9_lendWheels qV_X9_lendWheels he_o29 rfl (Nat.le_of_ble_eq_true rfl) dX9_playClause_177 ?_
      clear h
      intro x28 F27 h
      refine aw_pc (pc' := 180) rfl ?_
      exact aw_zret rfl (nz h.1) dX9_playClause_180 ⟨_, rfl, h.2⟩
  · replace h := h.2.2.2.2.2.2.2.2.2.2.2.2.2.2.2.2.2.2 hx
    refine aw_iconst dX9_playClause_187 (aw_pc (pc' := 188) rfl ?_)
    exact aw_zret rfl (by decide) dX9_playClause_188 ⟨_, rfl, h⟩
def mX9_beginYears (o : Nat) (a1 : Int) (F : hp) (Q : hp → Prop) : Prop := gR F (some o) 9 0 (fun x1 => gR F x1 5 1 (fun x2 => gR F (some o) 9 0 (fun x3 => gR F x3 5 0 (fun x4 => rcv F x2 6 (fun o6 => mX6_keep o6 x4 F (fun F5 => gR F5 (some o) 9 0 (fun x7 => gR F5 x7 5 0 (fun x8 => gR F5 x8 10 0 (fun x9 => sI F5 x9 0 1 ((a1 * 2) + 353) (fun F10 => Q F10))))))))))
set_option maxHeartbeats 4000000 in
theorem tX9_beginYears {d : Nat} {o : Nat} {a1 : Int} {F : hp} {Q : hp → Prop} (h : mX9_beginYears o a1 F Q) : am nX9_beginYears (d + 2) 0 0 [vr (some o), vi a1] F (qV Q) := by
  refine am_of (by decide +kernel) (Nat.le_of_ble_eq_true rfl) ?_
  show aw nX9_beginYears (d + 2) 0 0 0 [some (vr (some o)), some (vi a1)] [] F (qV Q)
  unfold mX9_beginYears at h
  refine aw_aload_n dX9_beginYears_0 rfl rfl (aw_pc (pc' := 1) rfl ?_)
  refine ar_gR fl_RX9_12 dX9_beginYears_1 h ?_
  clear h
  intro x1 h
  refine aw_pc (pc' := 4) rfl ?_
  refine ar_gR fl_RX9_93 dX9_beginYears_4 h ?_
  clear h
  intro x2 h
  refine aw_pc (pc' := 7) rfl ?_
  refine aw_aload_n dX9_beginYears_7 rfl rfl (aw_pc (pc' := 8) rfl ?_)
  refine ar_gR fl_RX9_12 dX9_beginYears_8 h ?_
  clear h
  intro x3 h
  refine aw_pc (pc' := 11) rfl ?_
  refine ar_gR fl_RX9_43 dX9_beginYears_11 h ?_
  clear h
  intro x4 h
  refine aw_pc (pc' := 14) rfl ?_
  have h0 := rcv_inv h
  clear h
  obtain ⟨o6, fs_o6, hr_o6, he_o6, h⟩ := h0
  subst hr_o6
  refine ar_VV (kc' := 0) (ks' := 0) (kc := 0) (ks := 0) (a := o6) (ci := 6) (as := [vr x4]) (st := []) (tX6_keep h) mt_X6_keep rfl qM_RX9_97 qI_X6_keep qV_X6_keep he_o6 rfl (Nat.le_of_ble_eq_true rfl) dX9_beginYears_14 ?_
  clear h
  intro F5 h
  refine aw_pc (pc' := 17) rfl ?_
  refine aw_aload_n dX9_beginYears_17 rfl rfl (aw_pc (pc' := 18) rfl ?_)
  refine ar_gR fl_RX9_12 dX9_beginYears_18 h ?_
  clear h
  intro x7 h
  refine aw_pc (pc' := 21) rfl ?_
  refine ar_gR fl_RX9_43 dX9_beginYears_21 h ?_
  clear h
  intro x8 h
  refine aw_pc (pc' := 24) rfl ?_
  refine ar_gR fl_RX9_113 dX9_beginYears_24 h ?_
  clear h
  intro x9 h
  refine aw_pc (pc' := 27) rfl ?_
  refine aw_iconst dX9_beginYears_27 (aw_pc (pc' := 28) rfl ?_)
  refine aw_iload_n dX9_beginYears_28 rfl rfl (aw_pc (pc' := 29) rfl ?_)
  refine aw_iconst dX9_beginYears_29 (aw_pc (pc' := 30) rfl ?_)
  refine aw_imul dX9_beginYears_30 (aw_pc (pc' := 31) rfl ?_)
  refine aw_sipush dX9_beginYears_31 (by decide) (aw_pc (pc' := 34) rfl ?_)
  refine aw_iadd dX9_beginYears_34 (aw_pc (pc' := 35) rfl ?_)
  refine ar_sI dX9_beginYears_35 h ?_
  clear h
  intro F10 h
  refine aw_pc (pc' := 36) rfl ?_
  exact aw_vret rfl dX9_beginYears_36 ⟨rfl, h⟩
def mX9_passYear_J70 (Q : hp → Prop) (s0 : Option Nat) (s1 : Int) (s2 : Int) (s3 : Int) (F : hp) : Prop := rcv F s0 9 (fun o3 => mX9_shift o3 s1 ((w32 (s2 + s3)).tmod 3) 0 F (fun x2 F1 => Q F1))
set_option maxHeartbeats 4000000 in
theorem tX9_passYear_J70 {d : Nat} {Q : hp → Prop} {s0 : Option Nat} {s1 : Int} {s2 : Int} {s3 : Int} {F : hp} (h : mX9_passYear_J70 Q s0 s1 s2 s3 F) : aw nX9_passYear (d + 5) 0 0 70 [none, none, none, none] [vi s3, vi s2, vi s1, vr s0] F (qV Q) := by
  unfold mX9_passYear_J70 at h
  refine aw_iadd dX9_passYear_70 (aw_pc (pc' := 71) rfl ?_)
  refine aw_iconst dX9_passYear_71 (aw_pc (pc' := 72) rfl ?_)
  refine ac_rem wl_3 (by decide) dX9_passYear_72 (aw_pc (pc' := 73) rfl ?_)
  refine aw_iconst dX9_passYear_73 (aw_pc (pc' := 74) rfl ?_)
  have h0 := rcv_inv h
  clear h
  obtain ⟨o3, fs_o3, hr_o3, he_o3, h⟩ := h0
  subst hr_o3
  refine ar_VI (kc' := 0) (ks' := 0) (kc := 0) (ks := 0) (a := o3) (ci := 9) (as := [vi s1, vi ((w32 (s2 + s3)).tmod 3), vi 0]) (st := []) (tX9_shift h) mt_X9_shift rfl qM_RX9_134 qI_X9_shift qV_X9_shift he_o3 rfl (Nat.le_of_ble_eq_true rfl) dX9_passYear_74 ?_
  clear h
  intro x2 F1 h
  refine aw_pc (pc' := 77) rfl ?_
  refine aw_pop dX9_passYear_77 trivial (aw_pc (pc' := 78) rfl ?_)
  refine aw_goto (tgt := 115) dX9_passYear_78 rfl ?_
  exact aw_vret rfl dX9_passYear_115 ⟨rfl, h⟩
def mX9_passYear (o : Nat) (F : hp) (Q : hp → Prop) : Prop := gR F (some o) 9 0 (fun x1 => gR F x1 5 0 (fun x2 => rcv F x2 10 (fun o5 => mX10_drawnX o5 F (fun x4 F3 => (w32 ((w32 x4).tmod 6) = 0 → ∀ v6 : Int, v6 = ((w32 ((w32 x4).tdiv 6)).tmod 3) → (1 < w32 ((w32 x4).tmod 4) → mX9_passYear_J70 Q (some o) v6 v6 2 F3) ∧ (¬ 1 < w32 ((w32 x4).tmod 4) → mX9_passYear_J70 Q (some o) v6 v6 1 F3)) ∧ (w32 ((w32 x4).tmod 6) = 1 → ∀ v7 : Int, v7 = ((w32 ((w32 x4).tdiv 6)).tmod 3) → (1 < w32 ((w32 x4).tmod 4) → mX9_passYear_J70 Q (some o) v7 v7 2 F3) ∧ (¬ 1 < w32 ((w32 x4).tmod 4) → mX9_passYear_J70 Q (some o) v7 v7 1 F3)) ∧ (w32 ((w32 x4).tmod 6) = 2 → rcv F3 (some o) 9 (fun o10 => mX9_swapFeet o10 0 F3 (fun x9 F8 => Q F8))) ∧ (w32 ((w32 x4).tmod 6) = 3 → rcv F3 (some o5) 10 (fun o12 => mX10_gainWheel o12 ((w32 ((w32 x4).tdiv 6)).tmod 2) F3 (fun F11 => Q F11))) ∧ (w32 ((w32 x4).tmod 6) < 0 ∨ 3 < w32 ((w32 x4).tmod 6) → rcv F3 (some o5) 10 (fun o15 => mX10_hourCanPass o15 F3 (fun x14 F13 => (w32 x14 = 0 → Q F13) ∧ (¬ w32 x14 = 0 → rcv F13 (some o5) 10 (fun o18 => mX10_passHour o18 F13 (fun x17 F16 => Q F16))))))))))
set_option maxHeartbeats 4000000 in
theorem tX9_passYear {d : Nat} {o : Nat} {F : hp} {Q : hp → Prop} (h : mX9_passYear o F Q) : am nX9_passYear (d + 5) 0 0 [vr (some o)] F (qV Q) := by
  refine am_of (by decide +kernel) (Nat.le_of_ble_eq_true rfl) ?_
  show aw nX9_passYear (d + 5) 0 0 0 [some (vr (some o)), none, none, none] [] F (qV Q)
  unfold mX9_passYear at h
  refine aw_aload_n dX9_passYear_0 rfl rfl (aw_pc (pc' := 1) rfl ?_)
  refine ar_gR fl_RX9_12 dX9_passYear_1 h ?_
  clear h
  intro x1 h
  refine aw_pc (pc' := 4) rfl ?_
  refine ar_gR fl_RX9_43 dX9_passYear_4 h ?_
  clear h
  intro x2 h
  refine aw_pc (pc' := 7) rfl ?_
  refine aw_astore_n dX9_passYear_7 rfl (by decide) (aw_pc (pc' := 8) rfl ?_)
  refine aw_aload_n dX9_passYear_8 rfl rfl (aw_pc (pc' := 9) rfl ?_)
  have h0 := rcv_inv h
  clear h
  obtain ⟨o5, fs_o5, hr_o5, he_o5, h⟩ := h0
  subst hr_o5
  refine ar_VI (kc' := 0) (ks' := 0) (kc := 0) (ks := 0) (a := o5) (ci := 10) (as := []) (st := []) (tX10_drawnX h) mt_X10_drawnX rfl qM_RX9_151 qI_X10_drawnX qV_X10_drawnX he_o5 rfl (Nat.le_of_ble_eq_true rfl) dX9_passYear_9 ?_
  clear h
  intro x4 F3 h
  refine aw_pc (pc' := 12) rfl ?_
  refine aw_istore_n dX9_passYear_12 rfl (by decide) (aw_pc (pc' := 13) rfl ?_)
  refine aw_iload_n dX9_passYear_13 rfl rfl (aw_pc (pc' := 14) rfl ?_)
  refine aw_bipush dX9_passYear_14 (by decide) (aw_pc (pc' := 16) rfl ?_)
  refine ac_rem wl_6 (by decide) dX9_passYear_16 (aw_pc (pc' := 17) rfl ?_)
  refine aw_table dX9_passYear_17 (td := 103) rfl (fun j => [48, 48, 81, 90].getD j 0) rfl (by decide) (fun j hj hx => ?_) (fun hx => ?_)
  · have hj : j = 0 ∨ j = 1 ∨ j = 2 ∨ j = 3 := by (simp at hj; omega)
    rcases hj with rfl | rfl | rfl | rfl
    · replace h := h.1 (by omega)
      refine aw_pc (pc' := 48) rfl ?_
      refine aw_iload_n dX9_passYear_48 rfl rfl (aw_pc (pc' := 49) rfl ?_)
      refine aw_bipush dX9_passYear_49 (by decide) (aw_pc (pc' := 51) rfl ?_)
      refine ac_div wl_6 (by decide) dX9_passYear_51 (aw_pc (pc' := 52) rfl ?_)
      refine aw_iconst dX9_passYear_52 (aw_pc (pc' := 53) rfl ?_)
      refine ac_rem wl_3 (by decide) dX9_passYear_53 (aw_pc (pc' := 54) rfl ?_)
      generalize hv_v6 : ((w32 ((w32 x4).tdiv 6)).tmod 3) = v6
      replace h := h v6 hv_v6.symm
      refine aw_istore_n dX9_passYear_54 rfl (by decide) (aw_pc (pc' := 55) rfl ?_)
      refine aw_aload_n dX9_passYear_55 rfl rfl (aw_pc (pc' := 56) rfl ?_)
      refine aw_iload_n dX9_passYear_56 rfl rfl (aw_pc (pc' := 57) rfl ?_)
      refine aw_iload_n dX9_passYear_57 rfl rfl (aw_pc (pc' := 58) rfl ?_)
      refine aw_iload_n dX9_passYear_58 rfl rfl (aw_pc (pc' := 59) rfl ?_)
      refine aw_iconst dX9_passYear_59 (aw_pc (pc' := 60) rfl ?_)
      refine ac_rem wl_4 (by decide) dX9_passYear_60 (aw_pc (pc' := 61) rfl ?_)
      refine aw_iconst dX9_passYear_61 (aw_pc (pc' := 62) rfl ?_)
      refine ac_le rfl wl_1 dX9_passYear_62 rfl (fun c => ?_) (fun c => ?_)
      · replace h := h.1 c
        refine aw_iconst dX9_passYear_65 (aw_pc (pc' := 66) rfl ?_)
        refine aw_goto (tgt := 70) dX9_passYear_66 rfl ?_
        exact aw_mask [false, false, false, false] (tX9_passYear_J70 h)
      · replace h := h.2 c
        refine aw_iconst dX9_passYear_69 (aw_pc (pc' := 70) rfl ?_)
        exact aw_mask [false, false, false, false] (tX9_passYear_J70 h)
    · replace h := h.2.1 (by omega)
      refine aw_pc (pc' := 48) rfl ?_
      refine aw_iload_n dX9_passYear_48 rfl rfl (aw_pc (pc' := 49) rfl ?_)
      refine aw_bipush dX9_passYear_49 (by decide) (aw_pc (pc' := 51) rfl ?_)
      refine ac_div wl_6 (by decide) dX9_passYear_51 (aw_pc (pc' := 52) rfl ?_)
      refine aw_iconst dX9_passYear_52 (aw_pc (pc' := 53) rfl ?_)
      refine ac_rem wl_3 (by decide) dX9_passYear_53 (aw_pc (pc' := 54) rfl ?_)
      generalize hv_v7 : ((w32 ((w32 x4).tdiv 6)).tmod 3) = v7
      replace h := h v7 hv_v7.symm
      refine aw_istore_n dX9_passYear_54 rfl (by decide) (aw_pc (pc' := 55) rfl ?_)
      refine aw_aload_n dX9_passYear_55 rfl rfl (aw_pc (pc' := 56) rfl ?_)
      refine aw_iload_n dX9_passYear_56 rfl rfl (aw_pc (pc' := 57) rfl ?_)
      refine aw_iload_n dX9_passYear_57 rfl rfl (aw_pc (pc' := 58) rfl ?_)
      refine aw_iload_n dX9_passYear_58 rfl rfl (aw_pc (pc' := 59) rfl ?_)
      refine aw_iconst dX9_passYear_59 (aw_pc (pc' := 60) rfl ?_)
      refine ac_rem wl_4 (by decide) dX9_passYear_60 (aw_pc (pc' := 61) rfl ?_)
      refine aw_iconst dX9_passYear_61 (aw_pc (pc' := 62) rfl ?_)
      refine ac_le rfl wl_1 dX9_passYear_62 rfl (fun c => ?_) (fun c => ?_)
      · replace h := h.1 c
        refine aw_iconst dX9_passYear_65 (aw_pc (pc' := 66) rfl ?_)
        refine aw_goto (tgt := 70) dX9_passYear_66 rfl ?_
        exact aw_mask [false, false, false, false] (tX9_passYear_J70 h)
      · replace h := h.2 c
        refine aw_iconst dX9_passYear_69 (aw_pc (pc' := 70) rfl ?_)
        exact aw_mask [false, false, false, false] (tX9_passYear_J70 h)
    · replace h := h.2.2.1 (by omega)
      refine aw_pc (pc' := 81) rfl ?_
      refine aw_aload_n dX9_passYear_81 rfl rfl (aw_pc (pc' := 82) rfl ?_)
      refine aw_iconst dX9_passYear_82 (aw_pc (pc' := 83) rfl ?_)
      have h0 := rcv_inv h
      clear h
      obtain ⟨o10, fs_o10, hr_o10, he_o10, h⟩ := h0
      obtain rfl : o = o10 := Option.some.inj hr_o10
      refine ar_VI (kc' := 0) (ks' := 0) (kc := 0) (ks := 0) (a := o) (ci := 9) (as := [vi 0]) (st := []) (tX9_swapFeet h) mt_X9_swapFeet rfl qM_RX9_138 qI_X9_swapFeet qV_X9_swapFeet he_o10 rfl (Nat.le_of_ble_eq_true rfl) dX9_passYear_83 ?_
      clear h
      intro x9 F8 h
      refine aw_pc (pc' := 86) rfl ?_
      refine aw_pop dX9_passYear_86 trivial (aw_pc (pc' := 87) rfl ?_)
      refine aw_goto (tgt := 115) dX9_passYear_87 rfl ?_
      exact aw_vret rfl dX9_passYear_115 ⟨rfl, h⟩
    · replace h := h.2.2.2.1 (by omega)
      refine aw_pc (pc' := 90) rfl ?_
      refine aw_aload_n dX9_passYear_90 rfl rfl (aw_pc (pc' := 91) rfl ?_)
      refine aw_iload_n dX9_passYear_91 rfl rfl (aw_pc (pc' := 92) rfl ?_)
      refine aw_bipush dX9_passYear_92 (by decide) (aw_pc (pc' := 94) rfl ?_)
      refine ac_div wl_6 (by decide) dX9_passYear_94 (aw_pc (pc' := 95) rfl ?_)
      refine aw_iconst dX9_passYear_95 (aw_pc (pc' := 96) rfl ?_)
      refine ac_rem wl_2 (by decide) dX9_passYear_96 (aw_pc (pc' := 97) rfl ?_)
      have h0 := rcv_inv h
      clear h
      obtain ⟨o12, fs_o12, hr_o12, he_o12, h⟩ := h0
      obtain rfl : o5 = o12 := Option.some.inj hr_o12
      refine ar_VV (kc' := 0) (ks' := 0) (kc := 0) (ks := 0) (a := o5) (ci := 10) (as := [vi ((w32 ((w32 x4).tdiv 6)).tmod 2)]) (st := []) (tX10_gainWheel h) mt_X10_gainWheel rfl qM_RX9_154 qI_X10_gainWheel qV_X10_gainWheel he_o12 rfl (Nat.le_of_ble_eq_true rfl) dX9_passYear_97 ?_
      clear h
      intro F11 h
      refine aw_pc (pc' := 100) rfl ?_
      refine aw_goto (tgt := 115) dX9_passYear_100 rfl ?_
      exact aw_vret rfl dX9_passYear_115 ⟨rfl, h⟩
  · replace h := h.2.2.2.2 hx
    refine aw_aload_n dX9_passYear_103 rfl rfl (aw_pc (pc' := 104) rfl ?_)
    have h0 := rcv_inv h
    clear h
    obtain ⟨o15, fs_o15, hr_o15, he_o15, h⟩ := h0
    obtain rfl : o5 = o15 := Option.some.inj hr_o15
    refine ar_VI (kc' := 0) (ks' := 0) (kc := 0) (ks := 0) (a := o5) (ci := 10) (as := []) (st := []) (tX10_hourCanPass h) mt_X10_hourCanPass rfl qM_RX9_116 qI_X10_hourCanPass qV_X10_hourCanPass he_o15 rfl (Nat.le_of_ble_eq_true rfl) dX9_passYear_104 ?_
    clear h
    intro x14 F13 h
    refine aw_pc (pc' := 107) rfl ?_
    refine aw_if_eq dX9_passYear_107 rfl (fun c => ?_) (fun c => ?_)
    · replace h := h.1 c
      exact aw_vret rfl dX9_passYear_115 ⟨rfl, h⟩
    · replace h := h.2 c
      refine aw_aload_n dX9_passYear_110 rfl rfl (aw_pc (pc' := 111) rfl ?_)
      have h0 := rcv_inv h
      clear h
      obtain ⟨o18, fs_o18, hr_o18, he_o18, h⟩ := h0
      obtain rfl : o5 = o18 := Option.some.inj hr_o18
      refine ar_VI (kc' := 0) (ks' := 0) (kc := 0) (ks := 0) (a := o5) (ci := 10) (as := []) (st := []) (tX10_passHour h) mt_X10_passHour rfl qM_RX9_120 qI_X10_passHour qV_X10_passHour he_o18 rfl (Nat.le_of_ble_eq_true rfl) dX9_passYear_111 ?_
      clear h
      intro x17 F16 h
      refine aw_pc (pc' := 114) rfl ?_
      refine aw_pop dX9_passYear_114 trivial (aw_pc (pc' := 115) rfl ?_)
      exact aw_vret rfl dX9_passYear_115 ⟨rfl, h⟩
