def mX11_init (o : Nat) (F : hp) (Q : hp → Prop) : Prop := nwc F (cO 9 [vr none, vr none]) (fun n1 F2 => mX9_init n1 F2 (fun F3 => pF F3 (some o) 11 2 (vr (some n1)) (fun F4 => gR F4 (some o) 11 2 (fun x5 => gR F4 x5 9 0 (fun x6 => pF F4 (some o) 11 0 (vr x6) (fun F7 => nwc F7 (cO 5 [vr none, vr none, vr none, vr none, vr none, vr none, vr none, vr none, vr none, vr none, vr none, vr none, vi 0, vi 0, vi 0, vi 0]) (fun n8 F9 => mX5_init n8 F9 (fun F10 => pF F10 (some o) 11 1 (vr (some n8)) (fun F11 => nwc F11 (cO 2 [vr none, vr none, vr none, vr none, vr none, vr none, vi 0, vi 0, vi 0, vi 0, vi 0, vi 0, vi 0, vi 0, vi 0]) (fun n12 F13 => mX2_init n12 F13 (fun F14 => pF F14 (some o) 11 3 (vr (some n12)) (fun F15 => nwc F15 (cO 4 [vr none, vr none, vr none, vr none, vr none, vi 0, vi 0, vi 0]) (fun n16 F17 => mX4_init n16 F17 (fun F18 => pF F18 (some o) 11 4 (vr (some n16)) (fun F19 => nwc F19 (cO 1 [vr none]) (fun n20 F21 => mX1_init n20 F21 (fun F22 => pF F22 (some o) 11 5 (vr (some n20)) (fun F23 => nwc F23 (cO 0 [vr none, vr none]) (fun n24 F25 => mX0_init n24 F25 (fun F26 => pF F26 (some o) 11 6 (vr (some n24)) (fun F27 => nwc F27 (cO 10 [vr none]) (fun n28 F29 => mX10_init n28 F29 (fun F30 => pF F30 (some o) 11 7 (vr (some n28)) (fun F31 => Q F31))))))))))))))))))))))))
set_option maxHeartbeats 4000000 in
theorem tX11_init {d : Nat} {o : Nat} {F : hp} {Q : hp → Prop} (h : mX11_init o F Q) : am nX11_init (d + 4) 60 11884 [vr (some o)] F (qV Q) := by
  refine am_of (by decide +kernel) (Nat.le_of_ble_eq_true rfl) ?_
  show aw nX11_init (d + 4) 60 11884 0 [some (vr (some o))] [] F (qV Q)
  unfold mX11_init at h
  refine aw_aload_n dX11_init_0 rfl rfl (aw_pc (pc' := 1) rfl ?_)
  refine aw_obj qM_RX11_1 mw_obj (Nat.le_of_ble_eq_true rfl) dX11_init_1 (aw_pc (pc' := 4) rfl ?_)
  refine aw_aload_n dX11_init_4 rfl rfl (aw_pc (pc' := 5) rfl ?_)
  refine ar_new (kc := 59) (ks := 11882) nl_RX11_7 2 rfl dX11_init_5 h ?_
  clear h
  intro n1 F2 h
  refine aw_pc (pc' := 8) rfl ?_
  refine aw_dup dX11_init_8 trivial (aw_pc (pc' := 9) rfl ?_)
  refine ar_INV (kc' := 21) (ks' := 2313) (kc := 38) (ks := 9569) (a := n1) (as := []) (st := [vr (some n1), vr (some o)]) (tX9_init h) mt_X9_init rfl rfl qN_RX11_9 qI_X9_init rfl (Nat.le_of_ble_eq_true rfl) dX11_init_9 ?_
  clear h
  intro F3 h
  refine aw_pc (pc' := 12) rfl ?_
  refine ar_pFF fl_RX11_10 ft_X11_2 rfl rfl (okO _ _) dX11_init_12 h ?_
  clear h
  intro F4 h
  refine aw_pc (pc' := 15) rfl ?_
  refine aw_aload_n dX11_init_15 rfl rfl (aw_pc (pc' := 16) rfl ?_)
  refine aw_aload_n dX11_init_16 rfl rfl (aw_pc (pc' := 17) rfl ?_)
  refine ar_gR fl_RX11_10 dX11_init_17 h ?_
  clear h
  intro x5 h
  refine aw_pc (pc' := 20) rfl ?_
  refine ar_gR fl_RX11_16 dX11_init_20 h ?_
  clear h
  intro x6 h
  refine aw_pc (pc' := 23) rfl ?_
  refine ar_pFF fl_RX11_20 ft_X11_0 rfl rfl (okO _ _) dX11_init_23 h ?_
  clear h
  intro F7 h
  refine aw_pc (pc' := 26) rfl ?_
  refine aw_aload_n dX11_init_26 rfl rfl (aw_pc (pc' := 27) rfl ?_)
  refine ar_new (kc := 37) (ks := 9553) nl_RX11_21 16 rfl dX11_init_27 h ?_
  clear h
  intro n8 F9 h
  refine aw_pc (pc' := 30) rfl ?_
  refine aw_dup dX11_init_30 trivial (aw_pc (pc' := 31) rfl ?_)
  refine ar_INV (kc' := 17) (ks' := 1980) (kc := 20) (ks := 7573) (a := n8) (as := []) (st := [vr (some n8), vr (some o)]) (tX5_init h) mt_X5_init rfl rfl qN_RX11_23 qI_X5_init rfl (Nat.le_of_ble_eq_true rfl) dX11_init_31 ?_
  clear h
  intro F10 h
  refine aw_pc (pc' := 34) rfl ?_
  refine ar_pFF fl_RX11_24 ft_X11_1 rfl rfl (okO _ _) dX11_init_34 h ?_
  clear h
  intro F11 h
  refine aw_pc (pc' := 37) rfl ?_
  refine aw_aload_n dX11_init_37 rfl rfl (aw_pc (pc' := 38) rfl ?_)
  refine ar_new (kc := 19) (ks := 7558) nl_RX11_27 15 rfl dX11_init_38 h ?_
  clear h
  intro n12 F13 h
  refine aw_pc (pc' := 41) rfl ?_
  refine aw_dup dX11_init_41 trivial (aw_pc (pc' := 42) rfl ?_)
  refine ar_INV (kc' := 6) (ks' := 1278) (kc := 13) (ks := 6280) (a := n12) (as := []) (st := [vr (some n12), vr (some o)]) (tX2_init h) mt_X2_init rfl rfl qN_RX11_29 qI_X2_init rfl (Nat.le_of_ble_eq_true rfl) dX11_init_42 ?_
  clear h
  intro F14 h
  refine aw_pc (pc' := 45) rfl ?_
  refine ar_pFF fl_RX11_30 ft_X11_3 rfl rfl (okO _ _) dX11_init_45 h ?_
  clear h
  intro F15 h
  refine aw_pc (pc' := 48) rfl ?_
  refine aw_aload_n dX11_init_48 rfl rfl (aw_pc (pc' := 49) rfl ?_)
  refine ar_new (kc := 12) (ks := 6272) nl_RX11_34 8 rfl dX11_init_49 h ?_
  clear h
  intro n16 F17 h
  refine aw_pc (pc' := 52) rfl ?_
  refine aw_dup dX11_init_52 trivial (aw_pc (pc' := 53) rfl ?_)
  refine ar_INV (kc' := 5) (ks' := 6075) (kc := 7) (ks := 197) (a := n16) (as := []) (st := [vr (some n16), vr (some o)]) (tX4_init h) mt_X4_init rfl rfl qN_RX11_36 qI_X4_init rfl (Nat.le_of_ble_eq_true rfl) dX11_init_53 ?_
  clear h
  intro F18 h
  refine aw_pc (pc' := 56) rfl ?_
  refine ar_pFF fl_RX11_37 ft_X11_4 rfl rfl (okO _ _) dX11_init_56 h ?_
  clear h
  intro F19 h
  refine aw_pc (pc' := 59) rfl ?_
  refine aw_aload_n dX11_init_59 rfl rfl (aw_pc (pc' := 60) rfl ?_)
  refine ar_new (kc := 6) (ks := 196) nl_RX11_41 1 rfl dX11_init_60 h ?_
  clear h
  intro n20 F21 h
  refine aw_pc (pc' := 63) rfl ?_
  refine aw_dup dX11_init_63 trivial (aw_pc (pc' := 64) rfl ?_)
  refine ar_INV (kc' := 1) (ks' := 5) (kc := 5) (ks := 191) (a := n20) (as := []) (st := [vr (some n20), vr (some o)]) (tX1_init h) mt_X1_init rfl rfl qN_RX11_43 qI_X1_init rfl (Nat.le_of_ble_eq_true rfl) dX11_init_64 ?_
  clear h
  intro F22 h
  refine aw_pc (pc' := 67) rfl ?_
  refine ar_pFF fl_RX11_44 ft_X11_5 rfl rfl (okO _ _) dX11_init_67 h ?_
  clear h
  intro F23 h
  refine aw_pc (pc' := 70) rfl ?_
  refine aw_aload_n dX11_init_70 rfl rfl (aw_pc (pc' := 71) rfl ?_)
  refine ar_new (kc := 4) (ks := 189) nl_RX11_48 2 rfl dX11_init_71 h ?_
  clear h
  intro n24 F25 h
  refine aw_pc (pc' := 74) rfl ?_
  refine aw_dup dX11_init_74 trivial (aw_pc (pc' := 75) rfl ?_)
  refine ar_INV (kc' := 2) (ks' := 128) (kc := 2) (ks := 61) (a := n24) (as := []) (st := [vr (some n24), vr (some o)]) (tX0_init h) mt_X0_init rfl rfl qN_RX11_50 qI_X0_init rfl (Nat.le_of_ble_eq_true rfl) dX11_init_75 ?_
  clear h
  intro F26 h
  refine aw_pc (pc' := 78) rfl ?_
  refine ar_pFF fl_RX11_51 ft_X11_6 rfl rfl (okO _ _) dX11_init_78 h ?_
  clear h
  intro F27 h
  refine aw_pc (pc' := 81) rfl ?_
  refine aw_aload_n dX11_init_81 rfl rfl (aw_pc (pc' := 82) rfl ?_)
  refine ar_new (kc := 1) (ks := 60) nl_RX11_55 1 rfl dX11_init_82 h ?_
  clear h
  intro n28 F29 h
  refine aw_pc (pc' := 85) rfl ?_
  refine aw_dup dX11_init_85 trivial (aw_pc (pc' := 86) rfl ?_)
  refine ar_IV (kc' := 1) (ks' := 60) (kc := 0) (ks := 0) (a := n28) (as := []) (st := [vr (some n28), vr (some o)]) (tX10_init h) mt_X10_init rfl rfl qM_RX11_57 qI_X10_init rfl (Nat.le_of_ble_eq_true rfl) dX11_init_86 ?_
  clear h
  intro F30 h
  refine aw_pc (pc' := 89) rfl ?_
  refine ar_pFF fl_RX11_58 ft_X11_7 rfl rfl (okO _ _) dX11_init_89 h ?_
  clear h
  intro F31 h
  refine aw_pc (pc' := 92) rfl ?_
  exact aw_vret rfl dX11_init_92 ⟨rfl, h⟩
def mX11_isCar (o : Nat) (a1 : Int) (F : hp) (Q : Int → hp → Prop) : Prop := gR F (some o) 11 0 (fun x1 => gR F x1 5 0 (fun x2 => rcv F x2 10 (fun o5 => mX10_countCars o5 F (fun x4 F3 => mX11_within a1 0 (x4 - 1) F3 (fun x7 F6 => (((x7 : Int) = 0 ∨ (x7 : Int) = 1) ∧ Q x7 F6))))))
set_option maxHeartbeats 4000000 in
theorem tX11_isCar {d : Nat} {o : Nat} {a1 : Int} {F : hp} {Q : Int → hp → Prop} (h : mX11_isCar o a1 F Q) : am nX11_isCar (d + 1) 0 0 [vr (some o), vi a1] F (qI Q) := by
  refine am_of (by decide +kernel) (Nat.le_of_ble_eq_true rfl) ?_
  show aw nX11_isCar (d + 1) 0 0 0 [some (vr (some o)), some (vi a1)] [] F (qI Q)
  unfold mX11_isCar at h
  refine aw_iload_n dX11_isCar_0 rfl rfl (aw_pc (pc' := 1) rfl ?_)
  refine aw_iconst dX11_isCar_1 (aw_pc (pc' := 2) rfl ?_)
  refine aw_aload_n dX11_isCar_2 rfl rfl (aw_pc (pc' := 3) rfl ?_)
  refine ar_gR fl_RX11_20 dX11_isCar_3 h ?_
  clear h
  intro x1 h
  refine aw_pc (pc' := 6) rfl ?_
  refine ar_gR fl_RX11_66 dX11_isCar_6 h ?_
  clear h
  intro x2 h
  refine aw_pc (pc' := 9) rfl ?_
  have h0 := rcv_inv h
  clear h
  obtain ⟨o5, fs_o5, hr_o5, he_o5, h⟩ := h0
  subst hr_o5
  refine ar_VI (kc' := 0) (ks' := 0) (kc := 0) (ks := 0) (a := o5) (ci := 10) (as := []) (st := [vi 0, vi a1]) (tX10_countCars h) mt_X10_countCars rfl qM_RX11_69 qI_X10_countCars qV_X10_countCars he_o5 rfl (Nat.le_of_ble_eq_true rfl) dX11_isCar_9 ?_
  clear h
  intro x4 F3 h
  refine aw_pc (pc' := 12) rfl ?_
  refine aw_iconst dX11_isCar_12 (aw_pc (pc' := 13) rfl ?_)
  refine aw_isub dX11_isCar_13 (aw_pc (pc' := 14) rfl ?_)
  refine ar_SI (kc' := 0) (ks' := 0) (kc := 0) (ks := 0) (as := [vi a1, vi 0, vi (x4 - 1)]) (st := []) (tX11_within h) mt_X11_within qM_RX11_62 qS_X11_within rfl (Nat.le_of_ble_eq_true rfl) dX11_isCar_14 ?_
  clear h
  intro x7 F6 h
  refine aw_pc (pc' := 17) rfl ?_
  exact aw_zret rfl (nz h.1) dX11_isCar_17 ⟨_, rfl, h.2⟩
def mX11_isText (o : Nat) (a1 : Int) (F : hp) (Q : Int → hp → Prop) : Prop := gR F (some o) 11 0 (fun x1 => gI F x1 5 12 (fun x2 => mX11_within a1 0 (x2 - 1) F (fun x4 F3 => (w32 x4 = 0 → Q 0 F3) ∧ (¬ w32 x4 = 0 → gR F3 (some o) 11 0 (fun x5 => gR F3 x5 5 11 (fun x6 => aR F3 x6 a1 (fun x7 => (x7 = none → Q 0 F3) ∧ (∀ n9 : Nat, x7 = some n9 → Q 1 F3))))))))
set_option maxHeartbeats 4000000 in
theorem tX11_isText {d : Nat} {o : Nat} {a1 : Int} {F : hp} {Q : Int → hp → Prop} (h : mX11_isText o a1 F Q) : am nX11_isText (d + 1) 0 0 [vr (some o), vi a1] F (qI Q) := by
  refine am_of (by decide +kernel) (Nat.le_of_ble_eq_true rfl) ?_
  show aw nX11_isText (d + 1) 0 0 0 [some (vr (some o)), some (vi a1)] [] F (qI Q)
  unfold mX11_isText at h
  refine aw_iload_n dX11_isText_0 rfl rfl (aw_pc (pc' := 1) rfl ?_)
  refine aw_iconst dX11_isText_1 (aw_pc (pc' := 2) rfl ?_)
  refine aw_aload_n dX11_isText_2 rfl rfl (aw_pc (pc' := 3) rfl ?_)
  refine ar_gR fl_RX11_20 dX11_isText_3 h ?_
  clear h
  intro x1 h
  refine aw_pc (pc' := 6) rfl ?_
  refine ar_gI fl_RX11_73 dX11_isText_6 h ?_
  clear h
  intro x2 h
  refine aw_pc (pc' := 9) rfl ?_
  refine aw_iconst dX11_isText_9 (aw_pc (pc' := 10) rfl ?_)
  refine aw_isub dX11_isText_10 (aw_pc (pc' := 11) rfl ?_)
  refine ar_SI (kc' := 0) (ks' := 0) (kc := 0) (ks := 0) (as := [vi a1, vi 0, vi (x2 - 1)]) (st := []) (tX11_within h) mt_X11_within qM_RX11_62 qS_X11_within rfl (Nat.le_of_ble_eq_true rfl) dX11_isText_11 ?_
  clear h
  intro x4 F3 h
  refine aw_pc (pc' := 14) rfl ?_
  refine aw_if_eq dX11_isText_14 rfl (fun c => ?_) (fun c => ?_)
  · replace h := h.1 c
    refine aw_iconst dX11_isText_33 (aw_pc (pc' := 34) rfl ?_)
    exact aw_zret rfl (by decide) dX11_isText_34 ⟨_, rfl, h⟩
  · replace h := h.2 c
    refine aw_aload_n dX11_isText_17 rfl rfl (aw_pc (pc' := 18) rfl ?_)
    refine ar_gR fl_RX11_20 dX11_isText_18 h ?_
    clear h
    intro x5 h
    refine aw_pc (pc' := 21) rfl ?_
    refine ar_gR fl_RX11_77 dX11_isText_21 h ?_
    clear h
    intro x6 h
    refine aw_pc (pc' := 24) rfl ?_
    refine aw_iload_n dX11_isText_24 rfl rfl (aw_pc (pc' := 25) rfl ?_)
    refine ar_aR dX11_isText_25 h ?_
    clear h
    intro x7 h
    refine aw_pc (pc' := 26) rfl ?_
    refine aw_ifnull (tgt := 33) dX11_isText_26 rfl (fun c => ?_) (fun n9 c => ?_)
    · replace h := h.1 c
      refine aw_iconst dX11_isText_33 (aw_pc (pc' := 34) rfl ?_)
      exact aw_zret rfl (by decide) dX11_isText_34 ⟨_, rfl, h⟩
    · replace h := h.2 n9 c
      subst c
      refine aw_iconst dX11_isText_29 (aw_pc (pc' := 30) rfl ?_)
      refine aw_goto (tgt := 34) dX11_isText_30 rfl ?_
      exact aw_zret rfl (by decide) dX11_isText_34 ⟨_, rfl, h⟩
def mX11_car (o : Nat) (a1 : Int) (a2 : Int) (F : hp) (Q : Int → hp → Prop) : Prop := mX11_within a1 0 3 F (fun x2 F1 => (w32 x2 = 0 → Q (-1) F1) ∧ (¬ w32 x2 = 0 → mX11_within a2 1 9 F1 (fun x4 F3 => (w32 x4 = 0 → Q (-1) F3) ∧ (¬ w32 x4 = 0 → gR F3 (some o) 11 0 (fun x5 => rcv F3 x5 5 (fun o8 => mX5_addCar o8 a1 a2 F3 (fun x7 F6 => Q x7 F6)))))))
set_option maxHeartbeats 4000000 in
theorem tX11_car {d : Nat} {o : Nat} {a1 : Int} {a2 : Int} {F : hp} {Q : Int → hp → Prop} (h : mX11_car o a1 a2 F Q) : am nX11_car (d + 4) 0 0 [vr (some o), vi a1, vi a2] F (qI Q) := by
  refine am_of (by decide +kernel) (Nat.le_of_ble_eq_true rfl) ?_
  show aw nX11_car (d + 4) 0 0 0 [some (vr (some o)), some (vi a1), some (vi a2)] [] F (qI Q)
  unfold mX11_car at h
  refine aw_iload_n dX11_car_0 rfl rfl (aw_pc (pc' := 1) rfl ?_)
  refine aw_iconst dX11_car_1 (aw_pc (pc' := 2) rfl ?_)
  refine aw_iconst dX11_car_2 (aw_pc (pc' := 3) rfl ?_)
  refine ar_SI (kc' := 0) (ks' := 0) (kc := 0) (ks := 0) (as := [vi a1, vi 0, vi 3]) (st := []) (tX11_within h) mt_X11_within qM_RX11_62 qS_X11_within rfl (Nat.le_of_ble_eq_true rfl) dX11_car_3 ?_
  clear h
  intro x2 F1 h
  refine aw_pc (pc' := 6) rfl ?_
  refine aw_if_eq dX11_car_6 rfl (fun c => ?_) (fun c => ?_)
  · replace h := h.1 c
    refine aw_iconst dX11_car_19 (aw_pc (pc' := 20) rfl ?_)
    exact aw_iret rfl dX11_car_20 ⟨_, rfl, h⟩
  · replace h := h.2 c
    refine aw_iload_n dX11_car_9 rfl rfl (aw_pc (pc' := 10) rfl ?_)
    refine aw_iconst dX11_car_10 (aw_pc (pc' := 11) rfl ?_)
    refine aw_bipush dX11_car_11 (by decide) (aw_pc (pc' := 13) rfl ?_)
    refine ar_SI (kc' := 0) (ks' := 0) (kc := 0) (ks := 0) (as := [vi a2, vi 1, vi 9]) (st := []) (tX11_within h) mt_X11_within qM_RX11_62 qS_X11_within rfl (Nat.le_of_ble_eq_true rfl) dX11_car_13 ?_
    clear h
    intro x4 F3 h
    refine aw_pc (pc' := 16) rfl ?_
    refine aw_if_ne dX11_car_16 rfl (fun c => ?_) (fun c => ?_)
    · replace h := h.1 c
      refine aw_iconst dX11_car_19 (aw_pc (pc' := 20) rfl ?_)
      exact aw_iret rfl dX11_car_20 ⟨_, rfl, h⟩
    · replace h := h.2 c
      refine aw_aload_n dX11_car_21 rfl rfl (aw_pc (pc' := 22) rfl ?_)
      refine ar_gR fl_RX11_20 dX11_car_22 h ?_
      clear h
      intro x5 h
      refine aw_pc (pc' := 25) rfl ?_
      refine aw_iload_n dX11_car_25 rfl rfl (aw_pc (pc' := 26) rfl ?_)
      refine aw_iload_n dX11_car_26 rfl rfl (aw_pc (pc' := 27) rfl ?_)
      have h0 := rcv_inv h
      clear h
      obtain ⟨o8, fs_o8, hr_o8, he_o8, h⟩ := h0
      subst hr_o8
      refine ar_VI (kc' := 0) (ks' := 0) (kc := 0) (ks := 0) (a := o8) (ci := 5) (as := [vi a1, vi a2]) (st := []) (tX5_addCar h) mt_X5_addCar rfl qM_RX11_81 qI_X5_addCar qV_X5_addCar he_o8 rfl (Nat.le_of_ble_eq_true rfl) dX11_car_27 ?_
      clear h
      intro x7 F6 h
      refine aw_pc (pc' := 30) rfl ?_
      exact aw_iret rfl dX11_car_30 ⟨_, rfl, h⟩
def mX11_forbid (o : Nat) (a1 : Int) (a2 : Int) (a3 : Int) (F : hp) (Q : Int → hp → Prop) : Prop := mX11_within a1 0 3 F (fun x2 F1 => (w32 x2 = 0 → Q 0 F1) ∧ (¬ w32 x2 = 0 → mX11_within a2 0 3 F1 (fun x4 F3 => (w32 x4 = 0 → Q 0 F3) ∧ (¬ w32 x4 = 0 → gR F3 (some o) 11 0 (fun x5 => rcv F3 x5 5 (fun o8 => mX5_setForbidden o8 a1 a2 a3 F3 (fun x7 F6 => (((x7 : Int) = 0 ∨ (x7 : Int) = 1) ∧ Q x7 F6))))))))
set_option maxHeartbeats 4000000 in
theorem tX11_forbid {d : Nat} {o : Nat} {a1 : Int} {a2 : Int} {a3 : Int} {F : hp} {Q : Int → hp → Prop} (h : mX11_forbid o a1 a2 a3 F Q) : am nX11_forbid (d + 1) 0 0 [vr (some o), vi a1, vi a2, vi a3] F (qI Q) := by
  refine am_of (by decide +kernel) (Nat.le_of_ble_eq_true rfl) ?_
  show aw nX11_forbid (d + 1) 0 0 0 [some (vr (some o)), some (vi a1), some (vi a2), some (vi a3)] [] F (qI Q)
  unfold mX11_forbid at h
  refine aw_iload_n dX11_forbid_0 rfl rfl (aw_pc (pc' := 1) rfl ?_)
  refine aw_iconst dX11_forbid_1 (aw_pc (pc' := 2) rfl ?_)
  refine aw_iconst dX11_forbid_2 (aw_pc (pc' := 3) rfl ?_)
  refine ar_SI (kc' := 0) (ks' := 0) (kc := 0) (ks := 0) (as := [vi a1, vi 0, vi 3]) (st := []) (tX11_within h) mt_X11_within qM_RX11_62 qS_X11_within rfl (Nat.le_of_ble_eq_true rfl) dX11_forbid_3 ?_
  clear h
  intro x2 F1 h
  refine aw_pc (pc' := 6) rfl ?_
  refine aw_if_eq dX11_forbid_6 rfl (fun c => ?_) (fun c => ?_)
  · replace h := h.1 c
    refine aw_iconst dX11_forbid_18 (aw_pc (pc' := 19) rfl ?_)
    exact aw_zret rfl (by decide) dX11_forbid_19 ⟨_, rfl, h⟩
  · replace h := h.2 c
    refine aw_iload_n dX11_forbid_9 rfl rfl (aw_pc (pc' := 10) rfl ?_)
    refine aw_iconst dX11_forbid_10 (aw_pc (pc' := 11) rfl ?_)
    refine aw_iconst dX11_forbid_11 (aw_pc (pc' := 12) rfl ?_)
    refine ar_SI (kc' := 0) (ks' := 0) (kc := 0) (ks := 0) (as := [vi a2, vi 0, vi 3]) (st := []) (tX11_within h) mt_X11_within qM_RX11_62 qS_X11_within rfl (Nat.le_of_ble_eq_true rfl) dX11_forbid_12 ?_
    clear h
    intro x4 F3 h
    refine aw_pc (pc' := 15) rfl ?_
    refine aw_if_ne dX11_forbid_15 rfl (fun c => ?_) (fun c => ?_)
    · replace h := h.1 c
      refine aw_iconst dX11_forbid_18 (aw_pc (pc' := 19) rfl ?_)
      exact aw_zret rfl (by decide) dX11_forbid_19 ⟨_, rfl, h⟩
    · replace h := h.2 c
      refine aw_aload_n dX11_forbid_20 rfl rfl (aw_pc (pc' := 21) rfl ?_)
      refine ar_gR fl_RX11_20 dX11_forbid_21 h ?_
      clear h
      intro x5 h
      refine aw_pc (pc' := 24) rfl ?_
      refine aw_iload_n dX11_forbid_24 rfl rfl (aw_pc (pc' := 25) rfl ?_)
      refine aw_iload_n dX11_forbid_25 rfl rfl (aw_pc (pc' := 26) rfl ?_)
      refine aw_iload_n dX11_forbid_26 rfl rfl (aw_pc (pc' := 27) rfl ?_)
      have h0 := rcv_inv h
      clear h
      obtain ⟨o8, fs_o8, hr_o8, he_o8, h⟩ := h0
      subst hr_o8
      refine ar_VI (kc' := 0) (ks' := 0) (kc := 0) (ks := 0) (a := o8) (ci := 5) (as := [vi a1, vi a2, vi a3]) (st := []) (tX5_setForbidden h) mt_X5_setForbidden rfl qM_RX11_85 qI_X5_setForbidden qV_X5_setForbidden he_o8 rfl (Nat.le_of_ble_eq_true rfl) dX11_forbid_27 ?_
      clear h
      intro x7 F6 h
      refine aw_pc (pc' := 30) rfl ?_
      exact aw_zret rfl (nz h.1) dX11_forbid_30 ⟨_, rfl, h.2⟩
def mX11_times (o : Nat) (a1 : Int) (a2 : Int) (a3 : Int) (F : hp) (Q : Int → hp → Prop) : Prop := rcv F (some o) 11 (fun o3 => mX11_isCar o3 a1 F (fun x2 F1 => (w32 x2 = 0 → Q 0 F1) ∧ (¬ w32 x2 = 0 → mX11_within a2 1 20 F1 (fun x5 F4 => (w32 x5 = 0 → Q 0 F4) ∧ (¬ w32 x5 = 0 → mX11_within a3 1 20 F4 (fun x7 F6 => (w32 x7 = 0 → Q 0 F6) ∧ (¬ w32 x7 = 0 → gR F6 (some o) 11 0 (fun x8 => gR F6 x8 5 4 (fun x9 => sI F6 x9 0 a1 a2 (fun F10 => gR F10 (some o) 11 0 (fun x11 => gR F10 x11 5 5 (fun x12 => sI F10 x12 0 a1 a3 (fun F13 => Q 1 F13)))))))))))))
set_option maxHeartbeats 4000000 in
theorem tX11_times {d : Nat} {o : Nat} {a1 : Int} {a2 : Int} {a3 : Int} {F : hp} {Q : Int → hp → Prop} (h : mX11_times o a1 a2 a3 F Q) : am nX11_times (d + 2) 0 0 [vr (some o), vi a1, vi a2, vi a3] F (qI Q) := by
  refine am_of (by decide +kernel) (Nat.le_of_ble_eq_true rfl) ?_
  show aw nX11_times (d + 2) 0 0 0 [some (vr (some o)), some (vi a1), some (vi a2), some (vi a3)] [] F (qI Q)
  unfold mX11_times at h
  refine aw_aload_n dX11_times_0 rfl rfl (aw_pc (pc' := 1) rfl ?_)
  refine aw_iload_n dX11_times_1 rfl rfl (aw_pc (pc' := 2) rfl ?_)
  have h0 := rcv_inv h
  clear h
  obtain ⟨o3, fs_o3, hr_o3, he_o3, h⟩ := h0
  obtain rfl : o = o3 := Option.some.inj hr_o3
  refine ar_VI (kc' := 0) (ks' := 0) (kc := 0) (ks := 0) (a := o) (ci := 11) (as := [vi a1]) (st := []) (tX11_isCar h) mt_X11_isCar rfl qM_RX11_89 qI_X11_isCar qV_X11_isCar he_o3 rfl (Nat.le_of_ble_eq_true rfl) dX11_times_2 ?_
  clear h
  intro x2 F1 h
  refine aw_pc (pc' := 5) rfl ?_
  refine aw_if_eq dX11_times_5 rfl (fun c => ?_) (fun c => ?_)
  · replace h := h.1 c
    refine aw_iconst dX11_times_28 (aw_pc (pc' := 29) rfl ?_)
    exact aw_zret rfl (by decide) dX11_times_29 ⟨_, rfl, h⟩
  · replace h := h.2 c
    refine aw_iload_n dX11_times_8 rfl rfl (aw_pc (pc' := 9) rfl ?_)
    refine aw_iconst dX11_times_9 (aw_pc (pc' := 10) rfl ?_)
    refine aw_bipush dX11_times_10 (by decide) (aw_pc (pc' := 12) rfl ?_)
    refine ar_SI (kc' := 0) (ks' := 0) (kc := 0) (ks := 0) (as := [vi a2, vi 1, vi 20]) (st := []) (tX11_within h) mt_X11_within qM_RX11_62 qS_X11_within rfl (Nat.le_of_ble_eq_true rfl) dX11_times_12 ?_
    clear h
    intro x5 F4 h
    refine aw_pc (pc' := 15) rfl ?_
    refine aw_if_eq dX11_times_15 rfl (fun c => ?_) (fun c => ?_)
    · replace h := h.1 c
      refine aw_iconst dX11_times_28 (aw_pc (pc' := 29) rfl ?_)
      exact aw_zret rfl (by decide) dX11_times_29 ⟨_, rfl, h⟩
    · replace h := h.2 c
      refine aw_iload_n dX11_times_18 rfl rfl (aw_pc (pc' := 19) rfl ?_)
      refine aw_iconst dX11_times_19 (aw_pc (pc' := 20) rfl ?_)
      refine aw_bipush dX11_times_20 (by decide) (aw_pc (pc' := 22) rfl ?_)
      refine ar_SI (kc' := 0) (ks' := 0) (kc := 0) (ks := 0) (as := [vi a3, vi 1, vi 20]) (st := []) (tX11_within h) mt_X11_within qM_RX11_62 qS_X11_within rfl (Nat.le_of_ble_eq_true rfl) dX11_times_22 ?_
      clear h
      intro x7 F6 h
      refine aw_pc (pc' := 25) rfl ?_
      refine aw_if_ne dX11_times_25 rfl (fun c => ?_) (fun c => ?_)
      · replace h := h.1 c
        refine aw_iconst dX11_times_28 (aw_pc (pc' := 29) rfl ?_)
        exact aw_zret rfl (by decide) dX11_times_29 ⟨_, rfl, h⟩
      · replace h := h.2 c
        refine aw_aload_n dX11_times_30 rfl rfl (aw_pc (pc' := 31) rfl ?_)
        refine ar_gR fl_RX11_20 dX11_times_31 h ?_
        clear h
        intro x8 h
        refine aw_pc (pc' := 34) rfl ?_
        refine ar_gR fl_RX11_93 dX11_times_34 h ?_
        clear h
        intro x9 h
        refine aw_pc (pc' := 37) rfl ?_
        refine aw_iload_n dX11_times_37 rfl rfl (aw_pc (pc' := 38) rfl ?_)
        refine aw_iload_n dX11_times_38 rfl rfl (aw_pc (pc' := 39) rfl ?_)
        refine ar_sI dX11_times_39 h ?_
        clear h
        intro F10 h
        refine aw_pc (pc' := 40) rfl ?_
        refine aw_aload_n dX11_times_40 rfl rfl (aw_pc (pc' := 41) rfl ?_)
        refine ar_gR fl_RX11_20 dX11_times_41 h ?_
        clear h
        intro x11 h
        refine aw_pc (pc' := 44) rfl ?_
        refine ar_gR fl_RX11_97 dX11_times_44 h ?_
        clear h
        intro x12 h
        refine aw_pc (pc' := 47) rfl ?_
        refine aw_iload_n dX11_times_47 rfl rfl (aw_pc (pc' := 48) rfl ?_)
        refine aw_iload_n dX11_times_48 rfl rfl (aw_pc (pc' := 49) rfl ?_)
        refine ar_sI dX11_times_49 h ?_
        clear h
        intro F13 h
        refine aw_pc (pc' := 50) rfl ?_
        refine aw_iconst dX11_times_50 (aw_pc (pc' := 51) rfl ?_)
        exact aw_zret rfl (by decide) dX11_times_51 ⟨_, rfl, h⟩
def mX11_feed (o : Nat) (a1 : Int) (a2 : Int) (a3 : Int) (a4 : Int) (a5 : Int) (F : hp) (Q : Int → hp → Prop) : Prop := gR F (some o) 11 3 (fun x1 => gI F x1 2 6 (fun x2 => (300 < w32 (x2 + 20) → Q (-1) F) ∧ (¬ 300 < w32 (x2 + 20) → gR F (some o) 11 3 (fun x3 => rcv F x3 2 (fun o5 => mX2_takeFour o5 a1 F (fun F4 => gR F4 (some o) 11 3 (fun x6 => rcv F4 x6 2 (fun o8 => mX2_takeFour o8 a2 F4 (fun F7 => gR F7 (some o) 11 3 (fun x9 => rcv F7 x9 2 (fun o11 => mX2_takeFour o11 a3 F7 (fun F10 => gR F10 (some o) 11 3 (fun x12 => rcv F10 x12 2 (fun o14 => mX2_takeFour o14 a4 F10 (fun F13 => gR F13 (some o) 11 3 (fun x15 => rcv F13 x15 2 (fun o17 => mX2_takeFour o17 a5 F13 (fun F16 => gR F16 (some o) 11 3 (fun x18 => gI F16 x18 2 6 (fun x19 => Q x19 F16))))))))))))))))))))
set_option maxHeartbeats 4000000 in
theorem tX11_feed {d : Nat} {o : Nat} {a1 : Int} {a2 : Int} {a3 : Int} {a4 : Int} {a5 : Int} {F : hp} {Q : Int → hp → Prop} (h : mX11_feed o a1 a2 a3 a4 a5 F Q) : am nX11_feed (d + 1) 0 0 [vr (some o), vi a1, vi a2, vi a3, vi a4, vi a5] F (qI Q) := by
  refine am_of (by decide +kernel) (Nat.le_of_ble_eq_true rfl) ?_
  show aw nX11_feed (d + 1) 0 0 0 [some (vr (some o)), some (vi a1), some (vi a2), some (vi a3), some (vi a4), some (vi a5)] [] F (qI Q)
  unfold mX11_feed at h
  refine aw_aload_n dX11_feed_0 rfl rfl (aw_pc (pc' := 1) rfl ?_)
  refine ar_gR fl_RX11_30 dX11_feed_1 h ?_
  clear h
  intro x1 h
  refine aw_pc (pc' := 4) rfl ?_
  refine ar_gI fl_RX11_100 dX11_feed_4 h ?_
  clear h
  intro x2 h
  refine aw_pc (pc' := 7) rfl ?_
  refine aw_bipush dX11_feed_7 (by decide) (aw_pc (pc' := 9) rfl ?_)
  refine aw_iadd dX11_feed_9 (aw_pc (pc' := 10) rfl ?_)
  refine aw_sipush dX11_feed_10 (by decide) (aw_pc (pc' := 13) rfl ?_)
  refine ac_le rfl wl_300 dX11_feed_13 rfl (fun c => ?_) (fun c => ?_)
  · replace h := h.1 c
    refine aw_iconst dX11_feed_16 (aw_pc (pc' := 17) rfl ?_)
    exact aw_iret rfl dX11_feed_17 ⟨_, rfl, h⟩
  · replace h := h.2 c
    refine aw_aload_n dX11_feed_18 rfl rfl (aw_pc (pc' := 19) rfl ?_)
    refine ar_gR fl_RX11_30 dX11_feed_19 h ?_
    clear h
    intro x3 h
    refine aw_pc (pc' := 22) rfl ?_
    refine aw_iload_n dX11_feed_22 rfl rfl (aw_pc (pc' := 23) rfl ?_)
    have h0 := rcv_inv h
    clear h
    obtain ⟨o5, fs_o5, hr_o5, he_o5, h⟩ := h0
    subst hr_o5
    refine ar_VV (kc' := 0) (ks' := 0) (kc := 0) (ks := 0) (a := o5) (ci := 2) (as := [vi a1]) (st := []) (tX2_takeFour h) mt_X2_takeFour rfl qM_RX11_103 qI_X2_takeFour qV_X2_takeFour he_o5 rfl (Nat.le_of_ble_eq_true rfl) dX11_feed_23 ?_
    clear h
    intro F4 h
    refine aw_pc (pc' := 26) rfl ?_
    refine aw_aload_n dX11_feed_26 rfl rfl (aw_pc (pc' := 27) rfl ?_)
    refine ar_gR fl_RX11_30 dX11_feed_27 h ?_
    clear h
    intro x6 h
    refine aw_pc (pc' := 30) rfl ?_
    refine aw_iload_n dX11_feed_30 rfl rfl (aw_pc (pc' := 31) rfl ?_)
    have h0 := rcv_inv h
    clear h
    obtain ⟨o8, fs_o8, hr_o8, he_o8, h⟩ := h0
    subst hr_o8
    refine ar_VV (kc' := 0) (ks' := 0) (kc := 0) (ks := 0) (a := o8) (ci := 2) (as := [vi a2]) (st := []) (tX2_takeFour h) mt_X2_takeFour rfl qM_RX11_103 qI_X2_takeFour qV_X2_takeFour he_o8 rfl (Nat.le_of_ble_eq_true rfl) dX11_feed_31 ?_
    clear h
    intro F7 h
    refine aw_pc (pc' := 34) rfl ?_
    refine aw_aload_n dX11_feed_34 rfl rfl (aw_pc (pc' := 35) rfl ?_)
    refine ar_gR fl_RX11_30 dX11_feed_35 h ?_
    clear h
    intro x9 h
    refine aw_pc (pc' := 38) rfl ?_
    refine aw_iload_n dX11_feed_38 rfl rfl (aw_pc (pc' := 39) rfl ?_)
    have h0 := rcv_inv h
    clear h
    obtain ⟨o11, fs_o11, hr_o11, he_o11, h⟩ := h0
    subst hr_o11
    refine ar_VV (kc' := 0) (ks' := 0) (kc := 0) (ks := 0) (a := o11) (ci := 2) (as := [vi a3]) (st := []) (tX2_takeFour h) mt_X2_takeFour rfl qM_RX11_103 qI_X2_takeFour qV_X2_takeFour he_o11 rfl (Nat.le_of_ble_eq_true rfl) dX11_feed_39 ?_
    clear h
    intro F10 h
    refine aw_pc (pc' := 42) rfl ?_
    refine aw_aload_n dX11_feed_42 rfl rfl (aw_pc (pc' := 43) rfl ?_)
    refine ar_gR fl_RX11_30 dX11_feed_43 h ?_
    clear h
    intro x12 h
    refine aw_pc (pc' := 46) rfl ?_
    refine aw_iload dX11_feed_46 rfl (aw_pc (pc' := 48) rfl ?_)
    have h0 := rcv_inv h
    clear h
    obtain ⟨o14, fs_o14, hr_o14, he_o14, h⟩ := h0
    subst hr_o14
    refine ar_VV (kc' := 0) (ks' := 0) (kc := 0) (ks := 0) (a := o14) (ci := 2) (as := [vi a4]) (st := []) (tX2_takeFour h) mt_X2_takeFour rfl qM_RX11_103 qI_X2_takeFour qV_X2_takeFour he_o14 rfl (Nat.le_of_ble_eq_true rfl) dX11_feed_48 ?_
    clear h
    intro F13 h
    refine aw_pc (pc' := 51) rfl ?_
    refine aw_aload_n dX11_feed_51 rfl rfl (aw_pc (pc' := 52) rfl ?_)
    refine ar_gR fl_RX11_30 dX11_feed_52 h ?_
    clear h
    intro x15 h
    refine aw_pc (pc' := 55) rfl ?_
    refine aw_iload dX11_feed_55 rfl (aw_pc (pc' := 57) rfl ?_)
    have h0 := rcv_inv h
    clear h
    obtain ⟨o17, fs_o17, hr_o17, he_o17, h⟩ := h0
    subst hr_o17
    refine ar_VV (kc' := 0) (ks' := 0) (kc := 0) (ks := 0) (a := o17) (ci := 2) (as := [vi a5]) (st := []) (tX2_takeFour h) mt_X2_takeFour rfl qM_RX11_103 qI_X2_takeFour qV_X2_takeFour he_o17 rfl (Nat.le_of_ble_eq_true rfl) dX11_feed_57 ?_
    clear h
    intro F16 h
    refine aw_pc (pc' := 60) rfl ?_
    refine aw_aload_n dX11_feed_60 rfl rfl (aw_pc (pc' := 61) rfl ?_)
    refine ar_gR fl_RX11_30 dX11_feed_61 h ?_
    clear h
    intro x18 h
    refine aw_pc (pc' := 64) rfl ?_
    refine ar_gI fl_RX11_100 dX11_feed_64 h ?_
    clear h
    intro x19 h
    refine aw_pc (pc' := 67) rfl ?_
    exact aw_iret rfl dX11_feed_67 ⟨_, rfl, h⟩
def mX11_end (o : Nat) (a1 : Int) (F : hp) (Q : Int → hp → Prop) : Prop := gR F (some o) 11 3 (fun x1 => gI F x1 2 6 (fun x2 => mX11_within a1 0 x2 F (fun x4 F3 => (w32 x4 = 0 → Q (-1) F3) ∧ (¬ w32 x4 = 0 → gR F3 (some o) 11 3 (fun x5 => pF F3 x5 2 6 (vi a1) (fun F6 => Q a1 F6))))))
set_option maxHeartbeats 4000000 in
theorem tX11_end {d : Nat} {o : Nat} {a1 : Int} {F : hp} {Q : Int → hp → Prop} (h : mX11_end o a1 F Q) : am nX11_end (d + 1) 0 0 [vr (some o), vi a1] F (qI Q) := by
  refine am_of (by decide +kernel) (Nat.le_of_ble_eq_true rfl) ?_
  show aw nX11_end (d + 1) 0 0 0 [some (vr (some o)), some (vi a1)] [] F (qI Q)
  unfold mX11_end at h
  refine aw_iload_n dX11_end_0 rfl rfl (aw_pc (pc' := 1) rfl ?_)
  refine aw_iconst dX11_end_1 (aw_pc (pc' := 2) rfl ?_)
  refine aw_aload_n dX11_end_2 rfl rfl (aw_pc (pc' := 3) rfl ?_)
  refine ar_gR fl_RX11_30 dX11_end_3 h ?_
  clear h
  intro x1 h
  refine aw_pc (pc' := 6) rfl ?_
  refine ar_gI fl_RX11_100 dX11_end_6 h ?_
  clear h
  intro x2 h
  refine aw_pc (pc' := 9) rfl ?_
  refine ar_SI (kc' := 0) (ks' := 0) (kc := 0) (ks := 0) (as := [vi a1, vi 0, vi x2]) (st := []) (tX11_within h) mt_X11_within qM_RX11_62 qS_X11_within rfl (Nat.le_of_ble_eq_true rfl) dX11_end_9 ?_
  clear h
  intro x4 F3 h
  refine aw_pc (pc' := 12) rfl ?_
  refine aw_if_ne dX11_end_12 rfl (fun c => ?_) (fun c => ?_)
  · replace h := h.1 c
    refine aw_iconst dX11_end_15 (aw_pc (pc' := 16) rfl ?_)
    exact aw_iret rfl dX11_end_16 ⟨_, rfl, h⟩
  · replace h := h.2 c
    refine aw_aload_n dX11_end_17 rfl rfl (aw_pc (pc' := 18) rfl ?_)
    refine ar_gR fl_RX11_30 dX11_end_18 h ?_
    clear h
    intro x5 h
    refine aw_pc (pc' := 21) rfl ?_
    refine aw_iload_n dX11_end_21 rfl rfl (aw_pc (pc' := 22) rfl ?_)
    refine ar_pF fl_RX11_100 ft_X2_6 (okI _) dX11_end_22 h ?_
    clear h
    intro F6 h
    refine aw_pc (pc' := 25) rfl ?_
    refine aw_iload_n dX11_end_25 rfl rfl (aw_pc (pc' := 26) rfl ?_)
    exact aw_iret rfl dX11_end_26 ⟨_, rfl, h⟩
def mX11_text (o : Nat) (F : hp) (Q : Int → hp → Prop) : Prop := gR F (some o) 11 0 (fun x1 => gI F x1 5 12 (fun x2 => (w32 x2 < 4 → gR F (some o) 11 3 (fun x3 => rcv F x3 2 (fun o6 => mX2_readTape o6 F (fun x5 F4 => gR F4 (some o) 11 3 (fun x7 => pF F4 x7 2 6 (vi 0) (fun F8 => (x5 = none → Q (-1) F8) ∧ (∀ n10 : Nat, x5 = some n10 → gR F8 (some o) 11 0 (fun x11 => gR F8 x11 5 11 (fun x12 => gR F8 (some o) 11 0 (fun x13 => gI F8 x13 5 12 (fun x14 => sR F8 x12 x14 (some n10) (fun F15 => gR F15 (some o) 11 0 (fun x16 => gI F15 x16 5 12 (fun x17 => pF F15 x16 5 12 (vi (x17 + 1)) (fun F18 => gR F18 (some o) 11 0 (fun x19 => gI F18 x19 5 12 (fun x20 => Q (x20 - 1) F18))))))))))))))))) ∧ (¬ w32 x2 < 4 → Q (-1) F)))
set_option maxHeartbeats 4000000 in
theorem tX11_text {d : Nat} {o : Nat} {F : hp} {Q : Int → hp → Prop} (h : mX11_text o F Q) : am nX11_text (d + 107) 4 379 [vr (some o)] F (qI Q) := by
  refine am_of (by decide +kernel) (Nat.le_of_ble_eq_true rfl) ?_
  show aw nX11_text (d + 107) 4 379 0 [some (vr (some o)), none] [] F (qI Q)
  unfold mX11_text at h
  refine aw_aload_n dX11_text_0 rfl rfl (aw_pc (pc' := 1) rfl ?_)
  refine ar_gR fl_RX11_20 dX11_text_1 h ?_
  clear h
  intro x1 h
  refine aw_pc (pc' := 4) rfl ?_
  refine ar_gI fl_RX11_73 dX11_text_4 h ?_
  clear h
  intro x2 h
  refine aw_pc (pc' := 7) rfl ?_
  refine aw_iconst dX11_text_7 (aw_pc (pc' := 8) rfl ?_)
  refine ac_lt rfl wl_4 dX11_text_8 rfl (fun c => ?_) (fun c => ?_)
  · replace h := h.1 c
    refine aw_aload_n dX11_text_13 rfl rfl (aw_pc (pc' := 14) rfl ?_)
    refine ar_gR fl_RX11_30 dX11_text_14 h ?_
    clear h
    intro x3 h
    refine aw_pc (pc' := 17) rfl ?_
    have h0 := rcv_inv h
    clear h
    obtain ⟨o6, fs_o6, hr_o6, he_o6, h⟩ := h0
    subst hr_o6
    refine ar_VR (kc' := 4) (ks' := 379) (kc := 0) (ks := 0) (a := o6) (ci := 2) (as := []) (st := []) (tX2_readTape h) mt_X2_readTape rfl qM_RX11_107 qI_X2_readTape qV_X2_readTape he_o6 rfl (Nat.le_of_ble_eq_true rfl) dX11_text_17 ?_
    clear h
    intro x5 F4 h
    refine aw_pc (pc' := 20) rfl ?_
    refine aw_astore_n dX11_text_20 rfl (by decide) (aw_pc (pc' := 21) rfl ?_)
    refine aw_aload_n dX11_text_21 rfl rfl (aw_pc (pc' := 22) rfl ?_)
    refine ar_gR fl_RX11_30 dX11_text_22 h ?_
    clear h
    intro x7 h
    refine aw_pc (pc' := 25) rfl ?_
    refine aw_iconst dX11_text_25 (aw_pc (pc' := 26) rfl ?_)
    refine ar_pF fl_RX11_100 ft_X2_6 (okI _) dX11_text_26 h ?_
    clear h
    intro F8 h
    refine aw_pc (pc' := 29) rfl ?_
    refine aw_aload_n dX11_text_29 rfl rfl (aw_pc (pc' := 30) rfl ?_)
    refine aw_ifnonnull (tgt := 35) dX11_text_30 rfl (fun c => ?_) (fun n10 c => ?_)
    · replace h := h.1 c
      refine aw_iconst dX11_text_33 (aw_pc (pc' := 34) rfl ?_)
      exact aw_iret rfl dX11_text_34 ⟨_, rfl, h⟩
    · replace h := h.2 n10 c
      subst c
      refine aw_aload_n dX11_text_35 rfl rfl (aw_pc (pc' := 36) rfl ?_)
      refine ar_gR fl_RX11_20 dX11_text_36 h ?_
      clear h
      intro x11 h
      refine aw_pc (pc' := 39) rfl ?_
      refine ar_gR fl_RX11_77 dX11_text_39 h ?_
      clear h
      intro x12 h
      refine aw_pc (pc' := 42) rfl ?_
      refine aw_aload_n dX11_text_42 rfl rfl (aw_pc (pc' := 43) rfl ?_)
      refine ar_gR fl_RX11_20 dX11_text_43 h ?_
      clear h
      intro x13 h
      refine aw_pc (pc' := 46) rfl ?_
      refine ar_gI fl_RX11_73 dX11_text_46 h ?_
      clear h
      intro x14 h
      refine aw_pc (pc' := 49) rfl ?_
      refine aw_aload_n dX11_text_49 rfl rfl (aw_pc (pc' := 50) rfl ?_)
      refine ar_sR dX11_text_50 h ?_
      clear h
      intro F15 h
      refine aw_pc (pc' := 51) rfl ?_
      refine aw_aload_n dX11_text_51 rfl rfl (aw_pc (pc' := 52) rfl ?_)
      refine ar_gR fl_RX11_20 dX11_text_52 h ?_
      clear h
      intro x16 h
      refine aw_pc (pc' := 55) rfl ?_
      refine aw_dup dX11_text_55 trivial (aw_pc (pc' := 56) rfl ?_)
      refine ar_gI fl_RX11_73 dX11_text_56 h ?_
      clear h
      intro x17 h
      refine aw_pc (pc' := 59) rfl ?_
      refine aw_iconst dX11_text_59 (aw_pc (pc' := 60) rfl ?_)
      refine aw_iadd dX11_text_60 (aw_pc (pc' := 61) rfl ?_)
      refine ar_pF fl_RX11_73 ft_X5_12 (okI _) dX11_text_61 h ?_
      clear h
      intro F18 h
      refine aw_pc (pc' := 64) rfl ?_
      refine aw_aload_n dX11_text_64 rfl rfl (aw_pc (pc' := 65) rfl ?_)
      refine ar_gR fl_RX11_20 dX11_text_65 h ?_
      clear h
      intro x19 h
      refine aw_pc (pc' := 68) rfl ?_
      refine ar_gI fl_RX11_73 dX11_text_68 h ?_
      clear h
      intro x20 h
      refine aw_pc (pc' := 71) rfl ?_
      refine aw_iconst dX11_text_71 (aw_pc (pc' := 72) rfl ?_)
      refine aw_isub dX11_text_72 (aw_pc (pc' := 73) rfl ?_)
      exact aw_iret rfl dX11_text_73 ⟨_, rfl, h⟩
  · replace h := h.2 c
    refine aw_iconst dX11_text_11 (aw_pc (pc' := 12) rfl ?_)
    exact aw_iret rfl dX11_text_12 ⟨_, rfl, h⟩
def mX11_fault (o : Nat) (a1 : Int) (F : hp) (Q : Int → hp → Prop) : Prop := (w32 a1 = 0 → gR F (some o) 11 3 (fun x1 => gI F x1 2 7 (fun x2 => Q x2 F))) ∧ (¬ w32 a1 = 0 → (w32 a1 = 1 → gR F (some o) 11 3 (fun x3 => gI F x3 2 8 (fun x4 => Q x4 F))) ∧ (¬ w32 a1 = 1 → Q (-1) F))
set_option maxHeartbeats 4000000 in
theorem tX11_fault {d : Nat} {o : Nat} {a1 : Int} {F : hp} {Q : Int → hp → Prop} (h : mX11_fault o a1 F Q) : am nX11_fault d 0 0 [vr (some o), vi a1] F (qI Q) := by
  refine am_of (by decide +kernel) (Nat.le_of_ble_eq_true rfl) ?_
  show aw nX11_fault d 0 0 0 [some (vr (some o)), some (vi a1)] [] F (qI Q)
  unfold mX11_fault at h
  refine aw_iload_n dX11_fault_0 rfl rfl (aw_pc (pc' := 1) rfl ?_)
  refine aw_if_ne dX11_fault_1 rfl (fun c => ?_) (fun c => ?_)
  · replace h := h.1 c
    refine aw_aload_n dX11_fault_4 rfl rfl (aw_pc (pc' := 5) rfl ?_)
    refine ar_gR fl_RX11_30 dX11_fault_5 h ?_
    clear h
    intro x1 h
    refine aw_pc (pc' := 8) rfl ?_
    refine ar_gI fl_RX11_111 dX11_fault_8 h ?_
    clear h
    intro x2 h
    refine aw_pc (pc' := 11) rfl ?_
    exact aw_iret rfl dX11_fault_11 ⟨_, rfl, h⟩
  · replace h := h.2 c
    refine aw_iload_n dX11_fault_12 rfl rfl (aw_pc (pc' := 13) rfl ?_)
    refine aw_iconst dX11_fault_13 (aw_pc (pc' := 14) rfl ?_)
    refine ac_ne rfl wl_1 dX11_fault_14 rfl (fun c => ?_) (fun c => ?_)
    · replace h := h.1 c
      refine aw_aload_n dX11_fault_17 rfl rfl (aw_pc (pc' := 18) rfl ?_)
      refine ar_gR fl_RX11_30 dX11_fault_18 h ?_
      clear h
      intro x3 h
      refine aw_pc (pc' := 21) rfl ?_
      refine ar_gI fl_RX11_114 dX11_fault_21 h ?_
      clear h
      intro x4 h
      refine aw_pc (pc' := 24) rfl ?_
      refine aw_goto (tgt := 28) dX11_fault_24 rfl ?_
      exact aw_iret rfl dX11_fault_28 ⟨_, rfl, h⟩
    · replace h := h.2 c
      refine aw_iconst dX11_fault_27 (aw_pc (pc' := 28) rfl ?_)
      exact aw_iret rfl dX11_fault_28 ⟨_, rfl, h⟩
def mX11_by_J15 (Q : Int → hp → Prop) (o : Nat) (a1 : Int) (F : hp) : Prop := gR F (some o) 11 0 (fun x1 => pF F x1 5 13 (vi a1) (fun F2 => Q 1 F2))
set_option maxHeartbeats 4000000 in
theorem tX11_by_J15 {d : Nat} {Q : Int → hp → Prop} {o : Nat} {a1 : Int} {F : hp} (h : mX11_by_J15 Q o a1 F) : aw nX11_by (d + 2) 0 0 15 [some (vr (some o)), some (vi a1)] [] F (qI Q) := by
  unfold mX11_by_J15 at h
  refine aw_aload_n dX11_by_15 rfl rfl (aw_pc (pc' := 16) rfl ?_)
  refine ar_gR fl_RX11_20 dX11_by_16 h ?_
  clear h
  intro x1 h
  refine aw_pc (pc' := 19) rfl ?_
  refine aw_iload_n dX11_by_19 rfl rfl (aw_pc (pc' := 20) rfl ?_)
  refine ar_pF fl_RX11_120 ft_X5_13 (okI _) dX11_by_20 h ?_
  clear h
  intro F2 h
  refine aw_pc (pc' := 23) rfl ?_
  refine aw_iconst dX11_by_23 (aw_pc (pc' := 24) rfl ?_)
  exact aw_zret rfl (by decide) dX11_by_24 ⟨_, rfl, h⟩
def mX11_by (o : Nat) (a1 : Int) (F : hp) (Q : Int → hp → Prop) : Prop := (w32 a1 = (-1) → mX11_by_J15 Q o a1 F) ∧ (¬ w32 a1 = (-1) → rcv F (some o) 11 (fun o3 => mX11_isText o3 a1 F (fun x2 F1 => (w32 x2 = 0 → Q 0 F1) ∧ (¬ w32 x2 = 0 → mX11_by_J15 Q o a1 F1))))
set_option maxHeartbeats 4000000 in
theorem tX11_by {d : Nat} {o : Nat} {a1 : Int} {F : hp} {Q : Int → hp → Prop} (h : mX11_by o a1 F Q) : am nX11_by (d + 2) 0 0 [vr (some o), vi a1] F (qI Q) := by
  refine am_of (by decide +kernel) (Nat.le_of_ble_eq_true rfl) ?_
  show aw nX11_by (d + 2) 0 0 0 [some (vr (some o)), some (vi a1)] [] F (qI Q)
  unfold mX11_by at h
  refine aw_iload_n dX11_by_0 rfl rfl (aw_pc (pc' := 1) rfl ?_)
  refine aw_iconst dX11_by_1 (aw_pc (pc' := 2) rfl ?_)
  refine ac_eq rfl wl_m1 dX11_by_2 rfl (fun c => ?_) (fun c => ?_)
  · replace h := h.1 c
    exact aw_mask [true, true] (tX11_by_J15 h)
  · replace h := h.2 c
    refine aw_aload_n dX11_by_5 rfl rfl (aw_pc (pc' := 6) rfl ?_)
    refine aw_iload_n dX11_by_6 rfl rfl (aw_pc (pc' := 7) rfl ?_)
    have h0 := rcv_inv h
    clear h
    obtain ⟨o3, fs_o3, hr_o3, he_o3, h⟩ := h0
    obtain rfl : o = o3 := Option.some.inj hr_o3
    refine ar_VI (kc' := 0) (ks' := 0) (kc := 0) (ks := 0) (a := o) (ci := 11) (as := [vi a1]) (st := []) (tX11_isText h) mt_X11_isText rfl qM_RX11_117 qI_X11_isText qV_X11_isText he_o3 rfl (Nat.le_of_ble_eq_true rfl) dX11_by_7 ?_
    clear h
    intro x2 F1 h
    refine aw_pc (pc' := 10) rfl ?_
    refine aw_if_ne dX11_by_10 rfl (fun c => ?_) (fun c => ?_)
    · replace h := h.1 c
      refine aw_iconst dX11_by_13 (aw_pc (pc' := 14) rfl ?_)
      exact aw_zret rfl (by decide) dX11_by_14 ⟨_, rfl, h⟩
    · replace h := h.2 c
      exact aw_mask [true, true] (tX11_by_J15 h)
def mX11_move (o : Nat) (a1 : Int) (a2 : Int) (F : hp) (Q : Int → hp → Prop) : Prop := mX11_isTrack a1 F (fun x2 F1 => (w32 x2 = 0 → Q (-1) F1) ∧ (¬ w32 x2 = 0 → mX11_isTrack a2 F1 (fun x4 F3 => (w32 x4 = 0 → Q (-1) F3) ∧ (¬ w32 x4 = 0 → gR F3 (some o) 11 2 (fun x5 => rcv F3 x5 9 (fun o8 => mX9_shift o8 a1 a2 1 F3 (fun x7 F6 => Q x7 F6)))))))
set_option maxHeartbeats 4000000 in
theorem tX11_move {d : Nat} {o : Nat} {a1 : Int} {a2 : Int} {F : hp} {Q : Int → hp → Prop} (h : mX11_move o a1 a2 F Q) : am nX11_move (d + 5) 0 0 [vr (some o), vi a1, vi a2] F (qI Q) := by
  refine am_of (by decide +kernel) (Nat.le_of_ble_eq_true rfl) ?_
  show aw nX11_move (d + 5) 0 0 0 [some (vr (some o)), some (vi a1), some (vi a2)] [] F (qI Q)
  unfold mX11_move at h
  refine aw_iload_n dX11_move_0 rfl rfl (aw_pc (pc' := 1) rfl ?_)
  refine ar_SI (kc' := 0) (ks' := 0) (kc := 0) (ks := 0) (as := [vi a1]) (st := []) (tX11_isTrack h) mt_X11_isTrack qM_RX11_123 qS_X11_isTrack rfl (Nat.le_of_ble_eq_true rfl) dX11_move_1 ?_
  clear h
  intro x2 F1 h
  refine aw_pc (pc' := 4) rfl ?_
  refine aw_if_eq dX11_move_4 rfl (fun c => ?_) (fun c => ?_)
  · replace h := h.1 c
    refine aw_iconst dX11_move_14 (aw_pc (pc' := 15) rfl ?_)
    exact aw_iret rfl dX11_move_15 ⟨_, rfl, h⟩
  · replace h := h.2 c
    refine aw_iload_n dX11_move_7 rfl rfl (aw_pc (pc' := 8) rfl ?_)
    refine ar_SI (kc' := 0) (ks' := 0) (kc := 0) (ks := 0) (as := [vi a2]) (st := []) (tX11_isTrack h) mt_X11_isTrack qM_RX11_123 qS_X11_isTrack rfl (Nat.le_of_ble_eq_true rfl) dX11_move_8 ?_
    clear h
    intro x4 F3 h
    refine aw_pc (pc' := 11) rfl ?_
    refine aw_if_ne dX11_move_11 rfl (fun c => ?_) (fun c => ?_)
    · replace h := h.1 c
      refine aw_iconst dX11_move_14 (aw_pc (pc' := 15) rfl ?_)
      exact aw_iret rfl dX11_move_15 ⟨_, rfl, h⟩
    · replace h := h.2 c
      refine aw_aload_n dX11_move_16 rfl rfl (aw_pc (pc' := 17) rfl ?_)
      refine ar_gR fl_RX11_10 dX11_move_17 h ?_
      clear h
      intro x5 h
      refine aw_pc (pc' := 20) rfl ?_
      refine aw_iload_n dX11_move_20 rfl rfl (aw_pc (pc' := 21) rfl ?_)
      refine aw_iload_n dX11_move_21 rfl rfl (aw_pc (pc' := 22) rfl ?_)
      refine aw_iconst dX11_move_22 (aw_pc (pc' := 23) rfl ?_)
      have h0 := rcv_inv h
      clear h
      obtain ⟨o8, fs_o8, hr_o8, he_o8, h⟩ := h0
      subst hr_o8
      refine ar_VI (kc' := 0) (ks' := 0) (kc := 0) (ks := 0) (a := o8) (ci := 9) (as := [vi a1, vi a2, vi 1]) (st := []) (tX9_shift h) mt_X9_shift rfl qM_RX11_126 qI_X9_shift qV_X9_shift he_o8 rfl (Nat.le_of_ble_eq_true rfl) dX11_move_23 ?_
      clear h
      intro x7 F6 h
      refine aw_pc (pc' := 26) rfl ?_
      exact aw_iret rfl dX11_move_26 ⟨_, rfl, h⟩
def mX11_change (o : Nat) (F : hp) (Q : Int → hp → Prop) : Prop := gR F (some o) 11 2 (fun x1 => rcv F x1 9 (fun o4 => mX9_swapFeet o4 1 F (fun x3 F2 => Q x3 F2)))
set_option maxHeartbeats 4000000 in
theorem tX11_change {d : Nat} {o : Nat} {F : hp} {Q : Int → hp → Prop} (h : mX11_change o F Q) : am nX11_change (d + 5) 0 0 [vr (some o)] F (qI Q) := by
  refine am_of (by decide +kernel) (Nat.le_of_ble_eq_true rfl) ?_
  show aw nX11_change (d + 5) 0 0 0 [some (vr (some o))] [] F (qI Q)
  unfold mX11_change at h
  refine aw_aload_n dX11_change_0 rfl rfl (aw_pc (pc' := 1) rfl ?_)
  refine ar_gR fl_RX11_10 dX11_change_1 h ?_
  clear h
  intro x1 h
  refine aw_pc (pc' := 4) rfl ?_
  refine aw_iconst dX11_change_4 (aw_pc (pc' := 5) rfl ?_)
  have h0 := rcv_inv h
  clear h
  obtain ⟨o4, fs_o4, hr_o4, he_o4, h⟩ := h0
  subst hr_o4
  refine ar_VI (kc' := 0) (ks' := 0) (kc := 0) (ks := 0) (a := o4) (ci := 9) (as := [vi 1]) (st := []) (tX9_swapFeet h) mt_X9_swapFeet rfl qM_RX11_130 qI_X9_swapFeet qV_X9_swapFeet he_o4 rfl (Nat.le_of_ble_eq_true rfl) dX11_change_5 ?_
  clear h
  intro x3 F2 h
  refine aw_pc (pc' := 8) rfl ?_
  exact aw_iret rfl dX11_change_8 ⟨_, rfl, h⟩
def mX11_lend (o : Nat) (a1 : Int) (a2 : Int) (F : hp) (Q : Int → hp → Prop) : Prop := mX11_within a1 0 1 F (fun x2 F1 => (w32 x2 = 0 → Q 0 F1) ∧ (¬ w32 x2 = 0 → mX11_within a2 (-9) 9 F1 (fun x4 F3 => (w32 x4 = 0 → Q 0 F3) ∧ (¬ w32 x4 = 0 → (w32 a2 = 0 → Q 0 F3) ∧ (¬ w32 a2 = 0 → gR F3 (some o) 11 2 (fun x5 => rcv F3 x5 9 (fun o8 => mX9_lendWheels o8 a1 a2 F3 (fun x7 F6 => (((x7 : Int) = 0 ∨ (x7 : Int) = 1) ∧ Q x7 F6)))))))))
set_option maxHeartbeats 4000000 in
theorem tX11_lend {d : Nat} {o : Nat} {a1 : Int} {a2 : Int} {F : hp} {Q : Int → hp → Prop} (h : mX11_lend o a1 a2 F Q) : am nX11_lend (d + 3) 0 0 [vr (some o), vi a1, vi a2] F (qI Q) := by
  refine am_of (by decide +kernel) (Nat.le_of_ble_eq_true rfl) ?_
  show aw nX11_lend (d + 3) 0 0 0 [some (vr (some o)), some (vi a1), some (vi a2)] [] F (qI Q)
  unfold mX11_lend at h
  refine aw_iload_n dX11_lend_0 rfl rfl (aw_pc (pc' := 1) rfl ?_)
  refine aw_iconst dX11_lend_1 (aw_pc (pc' := 2) rfl ?_)
  refine aw_iconst dX11_lend_2 (aw_pc (pc' := 3) rfl ?_)
  refine ar_SI (kc' := 0) (ks' := 0) (kc := 0) (ks := 0) (as := [vi a1, vi 0, vi 1]) (st := []) (tX11_within h) mt_X11_within qM_RX11_62 qS_X11_within rfl (Nat.le_of_ble_eq_true rfl) dX11_lend_3 ?_
  clear h
  intro x2 F1 h
  refine aw_pc (pc' := 6) rfl ?_
  refine aw_if_eq dX11_lend_6 rfl (fun c => ?_) (fun c => ?_)
  · replace h := h.1 c
    refine aw_iconst dX11_lend_24 (aw_pc (pc' := 25) rfl ?_)
    exact aw_zret rfl (by decide) dX11_lend_25 ⟨_, rfl, h⟩
  · replace h := h.2 c
    refine aw_iload_n dX11_lend_9 rfl rfl (aw_pc (pc' := 10) rfl ?_)
    refine aw_bipush dX11_lend_10 (by decide) (aw_pc (pc' := 12) rfl ?_)
    refine aw_bipush dX11_lend_12 (by decide) (aw_pc (pc' := 14) rfl ?_)
    refine ar_SI (kc' := 0) (ks' := 0) (kc := 0) (ks := 0) (as := [vi a2, vi (-9), vi 9]) (st := []) (tX11_within h) mt_X11_within qM_RX11_62 qS_X11_within rfl (Nat.le_of_ble_eq_true rfl) dX11_lend_14 ?_
    clear h
    intro x4 F3 h
    refine aw_pc (pc' := 17) rfl ?_
    refine aw_if_eq dX11_lend_17 rfl (fun c => ?_) (fun c => ?_)
    · replace h := h.1 c
      refine aw_iconst dX11_lend_24 (aw_pc (pc' := 25) rfl ?_)
      exact aw_zret rfl (by decide) dX11_lend_25 ⟨_, rfl, h⟩
    · replace h := h.2 c
      refine aw_iload_n dX11_lend_20 rfl rfl (aw_pc (pc' := 21) rfl ?_)
      refine aw_if_ne dX11_lend_21 rfl (fun c => ?_) (fun c => ?_)
      · replace h := h.1 c
        refine aw_iconst dX11_lend_24 (aw_pc (pc' := 25) rfl ?_)
        exact aw_zret rfl (by decide) dX11_lend_25 ⟨_, rfl, h⟩
      · replace h := h.2 c
        refine aw_aload_n dX11_lend_26 rfl rfl (aw_pc (pc' := 27) rfl ?_)
        refine ar_gR fl_RX11_10 dX11_lend_27 h ?_
        clear h
        intro x5 h
        refine aw_pc (pc' := 30) rfl ?_
        refine aw_iload_n dX11_lend_30 rfl rfl (aw_pc (pc' := 31) rfl ?_)
        refine aw_iload_n dX11_lend_31 rfl rfl (aw_pc (pc' := 32) rfl ?_)
        have h0 := rcv_inv h
        clear h
        obtain ⟨o8, fs_o8, hr_o8, he_o8, h⟩ := h0
        subst hr_o8
        refine ar_VI (kc' := 0) (ks' := 0) (kc := 0) (ks := 0) (a := o8) (ci := 9) (as := [vi a1, vi a2]) (st := []) (tX9_lendWheels h) mt_X9_lendWheels rfl qM_RX11_134 qI_X9_lendWheels qV_X9_lendWheels he_o8 rfl (Nat.le_of_ble_eq_true rfl) dX11_lend_32 ?_
        clear h
        intro x7 F6 h
        refine aw_pc (pc' := 35) rfl ?_
        exact aw_zret rfl (nz h.1) dX11_lend_35 ⟨_, rfl, h.2⟩
def mX11_hour (o : Nat) (a1 : Int) (F : hp) (Q : Int → hp → Prop) : Prop := mX11_within a1 1 60 F (fun x2 F1 => (w32 x2 = 0 → Q (-1) F1) ∧ (¬ w32 x2 = 0 → gR F1 (some o) 11 0 (fun x3 => gR F1 x3 5 0 (fun x4 => rcv F1 x4 10 (fun o7 => mX10_hourNow o7 F1 (fun x6 F5 => (9999 < w32 (x6 + a1) → Q (-1) F5) ∧ (¬ 9999 < w32 (x6 + a1) → gR F5 (some o) 11 2 (fun x8 => rcv F5 x8 9 (fun o11 => mX9_passHours o11 a1 F5 (fun x10 F9 => Q x10 F9))))))))))
set_option maxHeartbeats 4000000 in
theorem tX11_hour {d : Nat} {o : Nat} {a1 : Int} {F : hp} {Q : Int → hp → Prop} (h : mX11_hour o a1 F Q) : am nX11_hour (d + 4) 0 0 [vr (some o), vi a1] F (qI Q) := by
  refine am_of (by decide +kernel) (Nat.le_of_ble_eq_true rfl) ?_
  show aw nX11_hour (d + 4) 0 0 0 [some (vr (some o)), some (vi a1)] [] F (qI Q)
  unfold mX11_hour at h
  refine aw_iload_n dX11_hour_0 rfl rfl (aw_pc (pc' := 1) rfl ?_)
  refine aw_iconst dX11_hour_1 (aw_pc (pc' := 2) rfl ?_)
  refine aw_bipush dX11_hour_2 (by decide) (aw_pc (pc' := 4) rfl ?_)
  refine ar_SI (kc' := 0) (ks' := 0) (kc := 0) (ks := 0) (as := [vi a1, vi 1, vi 60]) (st := []) (tX11_within h) mt_X11_within qM_RX11_62 qS_X11_within rfl (Nat.le_of_ble_eq_true rfl) dX11_hour_4 ?_
  clear h
  intro x2 F1 h
  refine aw_pc (pc' := 7) rfl ?_
  refine aw_if_eq dX11_hour_7 rfl (fun c => ?_) (fun c => ?_)
  · replace h := h.1 c
    refine aw_iconst dX11_hour_28 (aw_pc (pc' := 29) rfl ?_)
    exact aw_iret rfl dX11_hour_29 ⟨_, rfl, h⟩
  · replace h := h.2 c
    refine aw_aload_n dX11_hour_10 rfl rfl (aw_pc (pc' := 11) rfl ?_)
    refine ar_gR fl_RX11_20 dX11_hour_11 h ?_
    clear h
    intro x3 h
    refine aw_pc (pc' := 14) rfl ?_
    refine ar_gR fl_RX11_66 dX11_hour_14 h ?_
    clear h
    intro x4 h
    refine aw_pc (pc' := 17) rfl ?_
    have h0 := rcv_inv h
    clear h
    obtain ⟨o7, fs_o7, hr_o7, he_o7, h⟩ := h0
    subst hr_o7
    refine ar_VI (kc' := 0) (ks' := 0) (kc := 0) (ks := 0) (a := o7) (ci := 10) (as := []) (st := []) (tX10_hourNow h) mt_X10_hourNow rfl qM_RX11_138 qI_X10_hourNow qV_X10_hourNow he_o7 rfl (Nat.le_of_ble_eq_true rfl) dX11_hour_17 ?_
    clear h
    intro x6 F5 h
    refine aw_pc (pc' := 20) rfl ?_
    refine aw_iload_n dX11_hour_20 rfl rfl (aw_pc (pc' := 21) rfl ?_)
    refine aw_iadd dX11_hour_21 (aw_pc (pc' := 22) rfl ?_)
    refine aw_sipush dX11_hour_22 (by decide) (aw_pc (pc' := 25) rfl ?_)
    refine ac_le rfl wl_9999 dX11_hour_25 rfl (fun c => ?_) (fun c => ?_)
    · replace h := h.1 c
      refine aw_iconst dX11_hour_28 (aw_pc (pc' := 29) rfl ?_)
      exact aw_iret rfl dX11_hour_29 ⟨_, rfl, h⟩
    · replace h := h.2 c
      refine aw_aload_n dX11_hour_30 rfl rfl (aw_pc (pc' := 31) rfl ?_)
      refine ar_gR fl_RX11_10 dX11_hour_31 h ?_
      clear h
      intro x8 h
      refine aw_pc (pc' := 34) rfl ?_
      refine aw_iload_n dX11_hour_34 rfl rfl (aw_pc (pc' := 35) rfl ?_)
      have h0 := rcv_inv h
      clear h
      obtain ⟨o11, fs_o11, hr_o11, he_o11, h⟩ := h0
      subst hr_o11
      refine ar_VI (kc' := 0) (ks' := 0) (kc := 0) (ks := 0) (a := o11) (ci := 9) (as := [vi a1]) (st := []) (tX9_passHours h) mt_X9_passHours rfl qM_RX11_141 qI_X9_passHours qV_X9_passHours he_o11 rfl (Nat.le_of_ble_eq_true rfl) dX11_hour_35 ?_
      clear h
      intro x10 F9 h
      refine aw_pc (pc' := 38) rfl ?_
      exact aw_iret rfl dX11_hour_38 ⟨_, rfl, h⟩
def mX11_played_L23 (Q : Int → hp → Prop) : Nat → Nat → Option Nat → Int → hp → Prop
  | 0, _, _, _, _ => False
  | k + 1, o, a2, a3, F => rcv F a2 8 (fun o3 => mX8_countClauses o3 F (fun x2 F1 => (w32 a3 < w32 x2 → gR F1 (some o) 11 2 (fun x4 => rcv F1 x4 9 (fun o7 => mX9_playClause o7 (some o3) a3 F1 (fun x6 F5 => (w32 x6 = 0 → Q a3 F5) ∧ (¬ w32 x6 = 0 → mX11_played_L23 Q k o (some o3) (a3 + 1) F5))))) ∧ (¬ w32 a3 < w32 x2 → Q (-1) F1)))
set_option maxHeartbeats 4000000 in
theorem tX11_played_L23 {d : Nat} {Q : Int → hp → Prop} : ∀ (k : Nat) (o : Nat) (a2 : Option Nat) (a3 : Int) (F : hp), mX11_played_L23 Q k o a2 a3 F → aw nX11_played (d + 6) 0 0 23 [some (vr (some o)), none, some (vr a2), some (vi a3)] [] F (qI Q) := by
  intro k
  induction k with
  | zero => intro o a2 a3 F h; exact h.elim
  | succ k ih =>
    intro o a2 a3 F h
    simp only [mX11_played_L23] at h
    refine aw_iload_n dX11_played_23 rfl rfl (aw_pc (pc' := 24) rfl ?_)
    refine aw_aload_n dX11_played_24 rfl rfl (aw_pc (pc' := 25) rfl ?_)
    have h0 := rcv_inv h
    clear h
    obtain ⟨o3, fs_o3, hr_o3, he_o3, h⟩ := h0
    subst hr_o3
    refine ar_VI (kc' := 0) (ks' := 0) (kc := 0) (ks := 0) (a := o3) (ci := 8) (as := []) (st := [vi a3]) (tX8_countClauses h) mt_X8_countClauses rfl qM_RX11_145 qI_X8_countClauses qV_X8_countClauses he_o3 rfl (Nat.le_of_ble_eq_true rfl) dX11_played_25 ?_
    clear h
    intro x2 F1 h
    refine aw_pc (pc' := 28) rfl ?_
    refine ac_ge rfl rfl dX11_played_28 rfl (fun c => ?_) (fun c => ?_)
    · replace h := h.1 c
      refine aw_aload_n dX11_played_31 rfl rfl (aw_pc (pc' := 32) rfl ?_)
      refine ar_gR fl_RX11_10 dX11_played_32 h ?_
      clear h
      intro x4 h
      refine aw_pc (pc' := 35) rfl ?_
      refine aw_aload_n dX11_played_35 rfl rfl (aw_pc (pc' := 36) rfl ?_)
      refine aw_iload_n dX11_played_36 rfl rfl (aw_pc (pc' := 37) rfl ?_)
      have h0 := rcv_inv h
      clear h
      obtain ⟨o7, fs_o7, hr_o7, he_o7, h⟩ := h0
      subst hr_o7
      refine ar_VI (kc' := 0) (ks' := 0) (kc := 0) (ks := 0) (a := o7) (ci := 9) (as := [vr (some o3), vi a3]) (st := []) (tX9_playClause h) mt_X9_playClause rfl qM_RX11_150 qI_X9_playClause qV_X9_playClause he_o7 rfl (Nat.le_of_ble_eq_true rfl) dX11_played_37 ?_
      clear h
      intro x6 F5 h
      refine aw_pc (pc' := 40) rfl ?_
      refine aw_if_ne dX11_played_40 rfl (fun c => ?_) (fun c => ?_)
      · replace h := h.1 c
        refine aw_iload_n dX11_played_43 rfl rfl (aw_pc (pc' := 44) rfl ?_)
        exact aw_iret rfl dX11_played_44 ⟨_, rfl, h⟩
      · replace h := h.2 c
        refine aw_iinc dX11_played_45 rfl (by decide) (aw_pc (pc' := 48) rfl ?_)
        refine aw_goto (tgt := 23) dX11_played_48 rfl ?_
        exact aw_mask [true, false, true, true] (ih _ _ _ _ h)
    · replace h := h.2 c
      refine aw_iconst dX11_played_51 (aw_pc (pc' := 52) rfl ?_)
      exact aw_iret rfl dX11_played_52 ⟨_, rfl, h⟩
def mX11_played (o : Nat) (a1 : Int) (F : hp) (Q : Int → hp → Prop) : Prop := rcv F (some o) 11 (fun o3 => mX11_isText o3 a1 F (fun x2 F1 => (w32 x2 = 0 → Q (-2) F1) ∧ (¬ w32 x2 = 0 → gR F1 (some o) 11 0 (fun x4 => gR F1 x4 5 11 (fun x5 => aR F1 x5 a1 (fun x6 => (∃ k7, mX11_played_L23 Q k7 o x6 0 F1)))))))
set_option maxHeartbeats 4000000 in
theorem tX11_played {d : Nat} {o : Nat} {a1 : Int} {F : hp} {Q : Int → hp → Prop} (h : mX11_played o a1 F Q) : am nX11_played (d + 6) 0 0 [vr (some o), vi a1] F (qI Q) := by
  refine am_of (by decide +kernel) (Nat.le_of_ble_eq_true rfl) ?_
  show aw nX11_played (d + 6) 0 0 0 [some (vr (some o)), some (vi a1), none, none] [] F (qI Q)
  unfold mX11_played at h
  refine aw_aload_n dX11_played_0 rfl rfl (aw_pc (pc' := 1) rfl ?_)
  refine aw_iload_n dX11_played_1 rfl rfl (aw_pc (pc' := 2) rfl ?_)
  have h0 := rcv_inv h
  clear h
  obtain ⟨o3, fs_o3, hr_o3, he_o3, h⟩ := h0
  obtain rfl : o = o3 := Option.some.inj hr_o3
  refine ar_VI (kc' := 0) (ks' := 0) (kc := 0) (ks := 0) (a := o) (ci := 11) (as := [vi a1]) (st := []) (tX11_isText h) mt_X11_isText rfl qM_RX11_117 qI_X11_isText qV_X11_isText he_o3 rfl (Nat.le_of_ble_eq_true rfl) dX11_played_2 ?_
  clear h
  intro x2 F1 h
  refine aw_pc (pc' := 5) rfl ?_
  refine aw_if_ne dX11_played_5 rfl (fun c => ?_) (fun c => ?_)
  · replace h := h.1 c
    refine aw_bipush dX11_played_8 (by decide) (aw_pc (pc' := 10) rfl ?_)
    exact aw_iret rfl dX11_played_10 ⟨_, rfl, h⟩
  · replace h := h.2 c
    refine aw_aload_n dX11_played_11 rfl rfl (aw_pc (pc' := 12) rfl ?_)
    refine ar_gR fl_RX11_20 dX11_played_12 h ?_
    clear h
    intro x4 h
    refine aw_pc (pc' := 15) rfl ?_
    refine ar_gR fl_RX11_77 dX11_played_15 h ?_
    clear h
    intro x5 h
    refine aw_pc (pc' := 18) rfl ?_
    refine aw_iload_n dX11_played_18 rfl rfl (aw_pc (pc' := 19) rfl ?_)
    refine ar_aR dX11_played_19 h ?_
    clear h
    intro x6 h
    refine aw_pc (pc' := 20) rfl ?_
    refine aw_astore_n dX11_played_20 rfl (by decide) (aw_pc (pc' := 21) rfl ?_)
    refine aw_iconst dX11_played_21 (aw_pc (pc' := 22) rfl ?_)
    refine aw_istore_n dX11_played_22 rfl (by decide) (aw_pc (pc' := 23) rfl ?_)
    obtain ⟨k7, h⟩ := h
    exact aw_mask [true, false, true, true] (tX11_played_L23 k7 _ _ _ _ h)
def mX11_years_L33 (Q : Int → hp → Prop) : Nat → Nat → Int → Int → hp → Prop
  | 0, _, _, _, _ => False
  | k + 1, o, a2, a3, F => (w32 a3 < w32 a2 → gR F (some o) 11 2 (fun x1 => rcv F x1 9 (fun o3 => mX9_passYear o3 F (fun F2 => mX11_years_L33 Q k o a2 (a3 + 1) F2)))) ∧ (¬ w32 a3 < w32 a2 → gR F (some o) 11 0 (fun x4 => gR F x4 5 0 (fun x5 => rcv F x5 10 (fun o8 => mX10_hourNow o8 F (fun x7 F6 => Q x7 F6)))))
set_option maxHeartbeats 4000000 in
theorem tX11_years_L33 {d : Nat} {Q : Int → hp → Prop} : ∀ (k : Nat) (o : Nat) (a2 : Int) (a3 : Int) (F : hp), mX11_years_L33 Q k o a2 a3 F → aw nX11_years (d + 6) 0 0 33 [some (vr (some o)), none, some (vi a2), some (vi a3)] [] F (qI Q) := by
  intro k
  induction k with
  | zero => intro o a2 a3 F h; exact h.elim
  | succ k ih =>
    intro o a2 a3 F h
    simp only [mX11_years_L33] at h
    refine aw_iload_n dX11_years_33 rfl rfl (aw_pc (pc' := 34) rfl ?_)
    refine aw_iload_n dX11_years_34 rfl rfl (aw_pc (pc' := 35) rfl ?_)
    refine ac_ge rfl rfl dX11_years_35 rfl (fun c => ?_) (fun c => ?_)
    · replace h := h.1 c
      refine aw_aload_n dX11_years_38 rfl rfl (aw_pc (pc' := 39) rfl ?_)
      refine ar_gR fl_RX11_10 dX11_years_39 h ?_
      clear h
      intro x1 h
      refine aw_pc (pc' := 42) rfl ?_
      have h0 := rcv_inv h
      clear h
      obtain ⟨o3, fs_o3, hr_o3, he_o3, h⟩ := h0
      subst hr_o3
      refine ar_VV (kc' := 0) (ks' := 0) (kc := 0) (ks := 0) (a := o3) (ci := 9) (as := []) (st := []) (tX9_passYear h) mt_X9_passYear rfl qM_RX11_157 qI_X9_passYear qV_X9_passYear he_o3 rfl (Nat.le_of_ble_eq_true rfl) dX11_years_42 ?_
      clear h
      intro F2 h
      refine aw_pc (pc' := 45) rfl ?_
      refine aw_iinc dX11_years_45 rfl (by decide) (aw_pc (pc' := 48) rfl ?_)
      refine aw_goto (tgt := 33) dX11_years_48 rfl ?_
      exact aw_mask [true, false, true, true] (ih _ _ _ _ h)
    · replace h := h.2 c
      refine aw_aload_n dX11_years_51 rfl rfl (aw_pc (pc' := 52) rfl ?_)
      refine ar_gR fl_RX11_20 dX11_years_52 h ?_
      clear h
      intro x4 h
      refine aw_pc (pc' := 55) rfl ?_
      refine ar_gR fl_RX11_66 dX11_years_55 h ?_
      clear h
      intro x5 h
      refine aw_pc (pc' := 58) rfl ?_
      have h0 := rcv_inv h
      clear h
      obtain ⟨o8, fs_o8, hr_o8, he_o8, h⟩ := h0
      subst hr_o8
      refine ar_VI (kc' := 0) (ks' := 0) (kc := 0) (ks := 0) (a := o8) (ci := 10) (as := []) (st := []) (tX10_hourNow h) mt_X10_hourNow rfl qM_RX11_138 qI_X10_hourNow qV_X10_hourNow he_o8 rfl (Nat.le_of_ble_eq_true rfl) dX11_years_58 ?_
      clear h
      intro x7 F6 h
      refine aw_pc (pc' := 61) rfl ?_
      exact aw_iret rfl dX11_years_61 ⟨_, rfl, h⟩
def mX11_years (o : Nat) (a1 : Int) (a2 : Int) (F : hp) (Q : Int → hp → Prop) : Prop := mX11_within a1 0 9999 F (fun x2 F1 => (w32 x2 = 0 → Q (-1) F1) ∧ (¬ w32 x2 = 0 → mX11_within a2 1 40 F1 (fun x4 F3 => (w32 x4 = 0 → Q (-1) F3) ∧ (¬ w32 x4 = 0 → gR F3 (some o) 11 2 (fun x5 => rcv F3 x5 9 (fun o7 => mX9_beginYears o7 a1 F3 (fun F6 => (∃ k8, mX11_years_L33 Q k8 o a2 0 F6))))))))
set_option maxHeartbeats 4000000 in
theorem tX11_years {d : Nat} {o : Nat} {a1 : Int} {a2 : Int} {F : hp} {Q : Int → hp → Prop} (h : mX11_years o a1 a2 F Q) : am nX11_years (d + 6) 0 0 [vr (some o), vi a1, vi a2] F (qI Q) := by
  refine am_of (by decide +kernel) (Nat.le_of_ble_eq_true rfl) ?_
  show aw nX11_years (d + 6) 0 0 0 [some (vr (some o)), some (vi a1), some (vi a2), none] [] F (qI Q)
  unfold mX11_years at h
  refine aw_iload_n dX11_years_0 rfl rfl (aw_pc (pc' := 1) rfl ?_)
  refine aw_iconst dX11_years_1 (aw_pc (pc' := 2) rfl ?_)
  refine aw_sipush dX11_years_2 (by decide) (aw_pc (pc' := 5) rfl ?_)
  refine ar_SI (kc' := 0) (ks' := 0) (kc := 0) (ks := 0) (as := [vi a1, vi 0, vi 9999]) (st := []) (tX11_within h) mt_X11_within qM_RX11_62 qS_X11_within rfl (Nat.le_of_ble_eq_true rfl) dX11_years_5 ?_
  clear h
  intro x2 F1 h
  refine aw_pc (pc' := 8) rfl ?_
  refine aw_if_eq dX11_years_8 rfl (fun c => ?_) (fun c => ?_)
  · replace h := h.1 c
    refine aw_iconst dX11_years_21 (aw_pc (pc' := 22) rfl ?_)
    exact aw_iret rfl dX11_years_22 ⟨_, rfl, h⟩
  · replace h := h.2 c
    refine aw_iload_n dX11_years_11 rfl rfl (aw_pc (pc' := 12) rfl ?_)
    refine aw_iconst dX11_years_12 (aw_pc (pc' := 13) rfl ?_)
    refine aw_bipush dX11_years_13 (by decide) (aw_pc (pc' := 15) rfl ?_)
    refine ar_SI (kc' := 0) (ks' := 0) (kc := 0) (ks := 0) (as := [vi a2, vi 1, vi 40]) (st := []) (tX11_within h) mt_X11_within qM_RX11_62 qS_X11_within rfl (Nat.le_of_ble_eq_true rfl) dX11_years_15 ?_
    clear h
    intro x4 F3 h
    refine aw_pc (pc' := 18) rfl ?_
    refine aw_if_ne dX11_years_18 rfl (fun c => ?_) (fun c => ?_)
    · replace h := h.1 c
      refine aw_iconst dX11_years_21 (aw_pc (pc' := 22) rfl ?_)
      exact aw_iret rfl dX11_years_22 ⟨_, rfl, h⟩
    · replace h := h.2 c
      refine aw_aload_n dX11_years_23 rfl rfl (aw_pc (pc' := 24) rfl ?_)
      refine ar_gR fl_RX11_10 dX11_years_24 h ?_
      clear h
      intro x5 h
      refine aw_pc (pc' := 27) rfl ?_
      refine aw_iload_n dX11_years_27 rfl rfl (aw_pc (pc' := 28) rfl ?_)
      have h0 := rcv_inv h
      clear h
      obtain ⟨o7, fs_o7, hr_o7, he_o7, h⟩ := h0
      subst hr_o7
      refine ar_VV (kc' := 0) (ks' := 0) (kc := 0) (ks := 0) (a := o7) (ci := 9) (as := [vi a1]) (st := []) (tX9_beginYears h) mt_X9_beginYears rfl qM_RX11_154 qI_X9_beginYears qV_X9_beginYears he_o7 rfl (Nat.le_of_ble_eq_true rfl) dX11_years_28 ?_
      clear h
      intro F6 h
      refine aw_pc (pc' := 31) rfl ?_
      refine aw_iconst dX11_years_31 (aw_pc (pc' := 32) rfl ?_)
      refine aw_istore_n dX11_years_32 rfl (by decide) (aw_pc (pc' := 33) rfl ?_)
      obtain ⟨k8, h⟩ := h
      exact aw_mask [true, false, true, true] (tX11_years_L33 k8 _ _ _ _ h)
def mX11_undo (o : Nat) (F : hp) (Q : Int → hp → Prop) : Prop := gR F (some o) 11 0 (fun x1 => gR F x1 5 1 (fun x2 => gR F (some o) 11 0 (fun x3 => gR F x3 5 0 (fun x4 => rcv F x2 6 (fun o7 => mX6_takeBack o7 x4 F (fun x6 F5 => (w32 x6 = 0 → Q (-1) F5) ∧ (¬ w32 x6 = 0 → gR F5 (some o) 11 0 (fun x8 => gR F5 x8 5 1 (fun x9 => gI F5 x9 6 2 (fun x10 => Q x10 F5))))))))))
set_option maxHeartbeats 4000000 in
theorem tX11_undo {d : Nat} {o : Nat} {F : hp} {Q : Int → hp → Prop} (h : mX11_undo o F Q) : am nX11_undo (d + 4) 0 0 [vr (some o)] F (qI Q) := by
  refine am_of (by decide +kernel) (Nat.le_of_ble_eq_true rfl) ?_
  show aw nX11_undo (d + 4) 0 0 0 [some (vr (some o))] [] F (qI Q)
  unfold mX11_undo at h
  refine aw_aload_n dX11_undo_0 rfl rfl (aw_pc (pc' := 1) rfl ?_)
  refine ar_gR fl_RX11_20 dX11_undo_1 h ?_
  clear h
  intro x1 h
  refine aw_pc (pc' := 4) rfl ?_
  refine ar_gR fl_RX11_160 dX11_undo_4 h ?_
  clear h
  intro x2 h
  refine aw_pc (pc' := 7) rfl ?_
  refine aw_aload_n dX11_undo_7 rfl rfl (aw_pc (pc' := 8) rfl ?_)
  refine ar_gR fl_RX11_20 dX11_undo_8 h ?_
  clear h
  intro x3 h
  refine aw_pc (pc' := 11) rfl ?_
  refine ar_gR fl_RX11_66 dX11_undo_11 h ?_
  clear h
  intro x4 h
  refine aw_pc (pc' := 14) rfl ?_
  have h0 := rcv_inv h
  clear h
  obtain ⟨o7, fs_o7, hr_o7, he_o7, h⟩ := h0
  subst hr_o7
  refine ar_VI (kc' := 0) (ks' := 0) (kc := 0) (ks := 0) (a := o7) (ci := 6) (as := [vr x4]) (st := []) (tX6_takeBack h) mt_X6_takeBack rfl qM_RX11_164 qI_X6_takeBack qV_X6_takeBack he_o7 rfl (Nat.le_of_ble_eq_true rfl) dX11_undo_14 ?_
  clear h
  intro x6 F5 h
  refine aw_pc (pc' := 17) rfl ?_
  refine aw_if_eq dX11_undo_17 rfl (fun c => ?_) (fun c => ?_)
  · replace h := h.1 c
    refine aw_iconst dX11_undo_33 (aw_pc (pc' := 34) rfl ?_)
    exact aw_iret rfl dX11_undo_34 ⟨_, rfl, h⟩
  · replace h := h.2 c
    refine aw_aload_n dX11_undo_20 rfl rfl (aw_pc (pc' := 21) rfl ?_)
    refine ar_gR fl_RX11_20 dX11_undo_21 h ?_
    clear h
    intro x8 h
    refine aw_pc (pc' := 24) rfl ?_
    refine ar_gR fl_RX11_160 dX11_undo_24 h ?_
    clear h
    intro x9 h
    refine aw_pc (pc' := 27) rfl ?_
    refine ar_gI fl_RX11_170 dX11_undo_27 h ?_
    clear h
    intro x10 h
    refine aw_pc (pc' := 30) rfl ?_
    refine aw_goto (tgt := 34) dX11_undo_30 rfl ?_
    exact aw_iret rfl dX11_undo_34 ⟨_, rfl, h⟩
def mX11_of (o : Nat) (a1 : Int) (a2 : Int) (F : hp) (Q : Int → hp → Prop) : Prop := rcv F (some o) 11 (fun o3 => mX11_isCar o3 a1 F (fun x2 F1 => (w32 x2 = 0 → Q (-1) F1) ∧ (¬ w32 x2 = 0 → (w32 a2 = 0 → gR F1 (some o) 11 0 (fun x4 => gR F1 x4 5 2 (fun x5 => aI F1 x5 0 a1 (fun x6 => Q x6 F1)))) ∧ (w32 a2 = 1 → gR F1 (some o) 11 0 (fun x7 => gR F1 x7 5 3 (fun x8 => aI F1 x8 0 a1 (fun x9 => Q x9 F1)))) ∧ (w32 a2 = 2 → gR F1 (some o) 11 0 (fun x10 => gR F1 x10 5 0 (fun x11 => rcv F1 x11 10 (fun o14 => mX10_trackOf o14 a1 F1 (fun x13 F12 => Q x13 F12))))) ∧ (w32 a2 = 3 → gR F1 (some o) 11 0 (fun x15 => gR F1 x15 5 0 (fun x16 => rcv F1 x16 10 (fun o19 => mX10_placeOf o19 a1 F1 (fun x18 F17 => Q x18 F17))))) ∧ (w32 a2 = 4 → gR F1 (some o) 11 0 (fun x20 => gR F1 x20 5 0 (fun x21 => rcv F1 x21 10 (fun o24 => mX10_isWide o24 a1 F1 (fun x23 F22 => (w32 x23 = 0 → Q 0 F22) ∧ (¬ w32 x23 = 0 → Q 1 F22)))))) ∧ (w32 a2 = 5 → gR F1 (some o) 11 0 (fun x25 => gR F1 x25 5 0 (fun x26 => rcv F1 x26 10 (fun o29 => mX10_wornOf o29 a1 F1 (fun x28 F27 => Q x28 F27))))) ∧ (w32 a2 < 0 ∨ 5 < w32 a2 → Q (-1) F1))))
set_option maxHeartbeats 4000000 in
theorem tX11_of {d : Nat} {o : Nat} {a1 : Int} {a2 : Int} {F : hp} {Q : Int → hp → Prop} (h : mX11_of o a1 a2 F Q) : am nX11_of (d + 4) 0 0 [vr (some o), vi a1, vi a2] F (qI Q) := by
  refine am_of (by decide +kernel) (Nat.le_of_ble_eq_true rfl) ?_
  show aw nX11_of (d + 4) 0 0 0 [some (vr (some o)), some (vi a1), some (vi a2)] [] F (qI Q)
  unfold mX11_of at h
  refine aw_aload_n dX11_of_0 rfl rfl (aw_pc (pc' := 1) rfl ?_)
  refine aw_iload_n dX11_of_1 rfl rfl (aw_pc (pc' := 2) rfl ?_)
  have h0 := rcv_inv h
  clear h
  obtain ⟨o3, fs_o3, hr_o3, he_o3, h⟩ := h0
  obtain rfl : o = o3 := Option.some.inj hr_o3
  refine ar_VI (kc' := 0) (ks' := 0) (kc := 0) (ks := 0) (a := o) (ci := 11) (as := [vi a1]) (st := []) (tX11_isCar h) mt_X11_isCar rfl qM_RX11_89 qI_X11_isCar qV_X11_isCar he_o3 rfl (Nat.le_of_ble_eq_true rfl) dX11_of_2 ?_
  clear h
  intro x2 F1 h
  refine aw_pc (pc' := 5) rfl ?_
  refine aw_if_ne dX11_of_5 rfl (fun c => ?_) (fun c => ?_)
  · replace h := h.1 c
    refine aw_iconst dX11_of_8 (aw_pc (pc' := 9) rfl ?_)
    exact aw_iret rfl dX11_of_9 ⟨_, rfl, h⟩
  · replace h := h.2 c
    refine aw_iload_n dX11_of_10 rfl rfl (aw_pc (pc' := 11) rfl ?_)
    refine aw_table dX11_of_11 (td := 124) rfl (fun j => [48, 58, 68, 80, 92, 112].getD j 0) rfl (by decide) (fun j hj hx => ?_) (fun hx => ?_)
    · have hj : j = 0 ∨ j = 1 ∨ j = 2 ∨ j = 3 ∨ j = 4 ∨ j = 5 := by (simp at hj; omega)
      rcases hj with rfl | rfl | rfl | rfl | rfl | rfl
      · replace h := h.1 (by omega)
        refine aw_pc (pc' := 48) rfl ?_
        refine aw_aload_n dX11_of_48 rfl rfl (aw_pc (pc' := 49) rfl ?_)
        refine ar_gR fl_RX11_20 dX11_of_49 h ?_
        clear h
        intro x4 h
        refine aw_pc (pc' := 52) rfl ?_
        refine ar_gR fl_RX11_173 dX11_of_52 h ?_
        clear h
        intro x5 h
        refine aw_pc (pc' := 55) rfl ?_
        refine aw_iload_n dX11_of_55 rfl rfl (aw_pc (pc' := 56) rfl ?_)
        refine ar_aI dX11_of_56 h ?_
        clear h
        intro x6 h
        refine aw_pc (pc' := 57) rfl ?_
        exact aw_iret rfl dX11_of_57 ⟨_, rfl, h⟩
      · replace h := h.2.1 (by omega)
        refine aw_pc (pc' := 58) rfl ?_
        refine aw_aload_n dX11_of_58 rfl rfl (aw_pc (pc' := 59) rfl ?_)
        refine ar_gR fl_RX11_20 dX11_of_59 h ?_
        clear h
        intro x7 h
        refine aw_pc (pc' := 62) rfl ?_
        refine ar_gR fl_RX11_176 dX11_of_62 h ?_
        clear h
        intro x8 h
        refine aw_pc (pc' := 65) rfl ?_
        refine aw_iload_n dX11_of_65 rfl rfl (aw_pc (pc' := 66) rfl ?_)
        refine ar_aI dX11_of_66 h ?_
        clear h
        intro x9 h
        refine aw_pc (pc' := 67) rfl ?_
        exact aw_iret rfl dX11_of_67 ⟨_, rfl, h⟩
      · replace h := h.2.2.1 (by omega)
        refine aw_pc (pc' := 68) rfl ?_
        refine aw_aload_n dX11_of_68 rfl rfl (aw_pc (pc' := 69) rfl ?_)
        refine ar_gR fl_RX11_20 dX11_of_69 h ?_
        clear h
        intro x10 h
        refine aw_pc (pc' := 72) rfl ?_
        refine ar_gR fl_RX11_66 dX11_of_72 h ?_
        clear h
        intro x11 h
        refine aw_pc (pc' := 75) rfl ?_
        refine aw_iload_n dX11_of_75 rfl rfl (aw_pc (pc' := 76) rfl ?_)
        have h0 := rcv_inv h
        clear h
        obtain ⟨o14, fs_o14, hr_o14, he_o14, h⟩ := h0
        subst hr_o14
        refine ar_VI (kc' := 0) (ks' := 0) (kc := 0) (ks := 0) (a := o14) (ci := 10) (as := [vi a1]) (st := []) (tX10_trackOf h) mt_X10_trackOf rfl qM_RX11_179 qI_X10_trackOf qV_X10_trackOf he_o14 rfl (Nat.le_of_ble_eq_true rfl) dX11_of_76 ?_
        clear h
        intro x13 F12 h
        refine aw_pc (pc' := 79) rfl ?_
        exact aw_iret rfl dX11_of_79 ⟨_, rfl, h⟩
      · replace h := h.2.2.2.1 (by omega)
        refine aw_pc (pc' := 80) rfl ?_
        refine aw_aload_n dX11_of_80 rfl rfl (aw_pc (pc' := 81) rfl ?_)
        refine ar_gR fl_RX11_20 dX11_of_81 h ?_
        clear h
        intro x15 h
        refine aw_pc (pc' := 84) rfl ?_
        refine ar_gR fl_RX11_66 dX11_of_84 h ?_
        clear h
        intro x16 h
        refine aw_pc (pc' := 87) rfl ?_
        refine aw_iload_n dX11_of_87 rfl rfl (aw_pc (pc' := 88) rfl ?_)
        have h0 := rcv_inv h
        clear h
        obtain ⟨o19, fs_o19, hr_o19, he_o19, h⟩ := h0
        subst hr_o19
        refine ar_VI (kc' := 0) (ks' := 0) (kc := 0) (ks := 0) (a := o19) (ci := 10) (as := [vi a1]) (st := []) (tX10_placeOf h) mt_X10_placeOf rfl qM_RX11_182 qI_X10_placeOf qV_X10_placeOf he_o19 rfl (Nat.le_of_ble_eq_true rfl) dX11_of_88 ?_
        clear h
        intro x18 F17 h
        refine aw_pc (pc' := 91) rfl ?_
        exact aw_iret rfl dX11_of_91 ⟨_, rfl, h⟩
      · replace h := h.2.2.2.2.1 (by omega)
        refine aw_pc (pc' := 92) rfl ?_
        refine aw_aload_n dX11_of_92 rfl rfl (aw_pc (pc' := 93) rfl ?_)
        refine ar_gR fl_RX11_20 dX11_of_93 h ?_
        clear h
        intro x20 h
        refine aw_pc (pc' := 96) rfl ?_
        refine ar_gR fl_RX11_66 dX11_of_96 h ?_
        clear h
        intro x21 h
        refine aw_pc (pc' := 99) rfl ?_
        refine aw_iload_n dX11_of_99 rfl rfl (aw_pc (pc' := 100) rfl ?_)
        have h0 := rcv_inv h
        clear h
        obtain ⟨o24, fs_o24, hr_o24, he_o24, h⟩ := h0
        subst hr_o24
        refine ar_VI (kc' := 0) (ks' := 0) (kc := 0) (ks := 0) (a := o24) (ci := 10) (as := [vi a1]) (st := []) (tX10_isWide h) mt_X10_isWide rfl qM_RX11_185 qI_X10_isWide qV_X10_isWide he_o24 rfl (Nat.le_of_ble_eq_true rfl) dX11_of_100 ?_
        clear h
        intro x23 F22 h
        refine aw_pc (pc' := 103) rfl ?_
        refine aw_if_eq dX11_of_103 rfl (fun c => ?_) (fun c => ?_)
        · replace h := h.1 c
          refine aw_iconst dX11_of_110 (aw_pc (pc' := 111) rfl ?_)
          exact aw_iret rfl dX11_of_111 ⟨_, rfl, h⟩
        · replace h := h.2 c
          refine aw_iconst dX11_of_106 (aw_pc (pc' := 107) rfl ?_)
          refine aw_goto (tgt := 111) dX11_of_107 rfl ?_
          exact aw_iret rfl dX11_of_111 ⟨_, rfl, h⟩
      · replace h := h.2.2.2.2.2.1 (by omega)
        refine aw_pc (pc' := 112) rfl ?_
        refine aw_aload_n dX11_of_112 rfl rfl (aw_pc (pc' := 113) rfl ?_)
        refine ar_gR fl_RX11_20 dX11_of_113 h ?_
        clear h
        intro x25 h
        refine aw_pc (pc' := 116) rfl ?_
        refine ar_gR fl_RX11_66 dX11_of_116 h ?_
        clear h
        intro x26 h
        refine aw_pc (pc' := 119) rfl ?_
        refine aw_iload_n dX11_of_119 rfl rfl (aw_pc (pc' := 120) rfl ?_)
        have h0 := rcv_inv h
        clear h
        obtain ⟨o29, fs_o29, hr_o29, he_o29, h⟩ := h0
        subst hr_o29
        refine ar_VI (kc' := 0) (ks' := 0) (kc := 0) (ks := 0) (a := o29) (ci := 10) (as := [vi a1]) (st := []) (tX10_wornOf h) mt_X10_wornOf rfl qM_RX11_188 qI_X10_wornOf qV_X10_wornOf he_o29 rfl (Nat.le_of_ble_eq_true rfl) dX11_of_120 ?_
        clear h
        intro x28 F27 h
        refine aw_pc (pc' := 123) rfl ?_
        exact aw_iret rfl dX11_of_123 ⟨_, rfl, h⟩
    · replace h := h.2.2.2.2.2.2 hx
      refine aw_iconst dX11_of_124 (aw_pc (pc' := 125) rfl ?_)
      exact aw_iret rfl dX11_of_125 ⟨_, rfl, h⟩
def mX11_track (o : Nat) (a1 : Int) (a2 : Int) (F : hp) (Q : Int → hp → Prop) : Prop := mX11_isTrack a1 F (fun x2 F1 => (w32 x2 = 0 → Q (-2) F1) ∧ (¬ w32 x2 = 0 → gR F1 (some o) 11 0 (fun x3 => gR F1 x3 5 0 (fun x4 => rcv F1 x4 10 (fun o7 => mX10_countOn o7 a1 F1 (fun x6 F5 => (w32 a2 = (-1) → Q x6 F5) ∧ (¬ w32 a2 = (-1) → mX11_within a2 0 (x6 - 1) F5 (fun x9 F8 => (w32 x9 = 0 → Q (-2) F8) ∧ (¬ w32 x9 = 0 → gR F8 (some o) 11 0 (fun x10 => gR F8 x10 5 0 (fun x11 => rcv F8 x11 10 (fun o14 => mX10_carAt o14 a1 a2 F8 (fun x13 F12 => Q x13 F12)))))))))))))
set_option maxHeartbeats 4000000 in
theorem tX11_track {d : Nat} {o : Nat} {a1 : Int} {a2 : Int} {F : hp} {Q : Int → hp → Prop} (h : mX11_track o a1 a2 F Q) : am nX11_track (d + 2) 0 0 [vr (some o), vi a1, vi a2] F (qI Q) := by
  refine am_of (by decide +kernel) (Nat.le_of_ble_eq_true rfl) ?_
  show aw nX11_track (d + 2) 0 0 0 [some (vr (some o)), some (vi a1), some (vi a2), none] [] F (qI Q)
  unfold mX11_track at h
  refine aw_iload_n dX11_track_0 rfl rfl (aw_pc (pc' := 1) rfl ?_)
  refine ar_SI (kc' := 0) (ks' := 0) (kc := 0) (ks := 0) (as := [vi a1]) (st := []) (tX11_isTrack h) mt_X11_isTrack qM_RX11_123 qS_X11_isTrack rfl (Nat.le_of_ble_eq_true rfl) dX11_track_1 ?_
  clear h
  intro x2 F1 h
  refine aw_pc (pc' := 4) rfl ?_
  refine aw_if_ne dX11_track_4 rfl (fun c => ?_) (fun c => ?_)
  · replace h := h.1 c
    refine aw_bipush dX11_track_7 (by decide) (aw_pc (pc' := 9) rfl ?_)
    exact aw_iret rfl dX11_track_9 ⟨_, rfl, h⟩
  · replace h := h.2 c
    refine aw_aload_n dX11_track_10 rfl rfl (aw_pc (pc' := 11) rfl ?_)
    refine ar_gR fl_RX11_20 dX11_track_11 h ?_
    clear h
    intro x3 h
    refine aw_pc (pc' := 14) rfl ?_
    refine ar_gR fl_RX11_66 dX11_track_14 h ?_
    clear h
    intro x4 h
    refine aw_pc (pc' := 17) rfl ?_
    refine aw_iload_n dX11_track_17 rfl rfl (aw_pc (pc' := 18) rfl ?_)
    have h0 := rcv_inv h
    clear h
    obtain ⟨o7, fs_o7, hr_o7, he_o7, h⟩ := h0
    subst hr_o7
    refine ar_VI (kc' := 0) (ks' := 0) (kc := 0) (ks := 0) (a := o7) (ci := 10) (as := [vi a1]) (st := []) (tX10_countOn h) mt_X10_countOn rfl qM_RX11_191 qI_X10_countOn qV_X10_countOn he_o7 rfl (Nat.le_of_ble_eq_true rfl) dX11_track_18 ?_
    clear h
    intro x6 F5 h
    refine aw_pc (pc' := 21) rfl ?_
    refine aw_istore_n dX11_track_21 rfl (by decide) (aw_pc (pc' := 22) rfl ?_)
    refine aw_iload_n dX11_track_22 rfl rfl (aw_pc (pc' := 23) rfl ?_)
    refine aw_iconst dX11_track_23 (aw_pc (pc' := 24) rfl ?_)
    refine ac_ne rfl wl_m1 dX11_track_24 rfl (fun c => ?_) (fun c => ?_)
    · replace h := h.1 c
      refine aw_iload_n dX11_track_27 rfl rfl (aw_pc (pc' := 28) rfl ?_)
      exact aw_iret rfl dX11_track_28 ⟨_, rfl, h⟩
    · replace h := h.2 c
      refine aw_iload_n dX11_track_29 rfl rfl (aw_pc (pc' := 30) rfl ?_)
      refine aw_iconst dX11_track_30 (aw_pc (pc' := 31) rfl ?_)
      refine aw_iload_n dX11_track_31 rfl rfl (aw_pc (pc' := 32) rfl ?_)
      refine aw_iconst dX11_track_32 (aw_pc (pc' := 33) rfl ?_)
      refine aw_isub dX11_track_33 (aw_pc (pc' := 34) rfl ?_)
      refine ar_SI (kc' := 0) (ks' := 0) (kc := 0) (ks := 0) (as := [vi a2, vi 0, vi (x6 - 1)]) (st := []) (tX11_within h) mt_X11_within qM_RX11_62 qS_X11_within rfl (Nat.le_of_ble_eq_true rfl) dX11_track_34 ?_
      clear h
      intro x9 F8 h
      refine aw_pc (pc' := 37) rfl ?_
      refine aw_if_eq dX11_track_37 rfl (fun c => ?_) (fun c => ?_)
      · replace h := h.1 c
        refine aw_bipush dX11_track_55 (by decide) (aw_pc (pc' := 57) rfl ?_)
        exact aw_iret rfl dX11_track_57 ⟨_, rfl, h⟩
      · replace h := h.2 c
        refine aw_aload_n dX11_track_40 rfl rfl (aw_pc (pc' := 41) rfl ?_)
        refine ar_gR fl_RX11_20 dX11_track_41 h ?_
        clear h
        intro x10 h
        refine aw_pc (pc' := 44) rfl ?_
        refine ar_gR fl_RX11_66 dX11_track_44 h ?_
        clear h
        intro x11 h
        refine aw_pc (pc' := 47) rfl ?_
        refine aw_iload_n dX11_track_47 rfl rfl (aw_pc (pc' := 48) rfl ?_)
        refine aw_iload_n dX11_track_48 rfl rfl (aw_pc (pc' := 49) rfl ?_)
        have h0 := rcv_inv h
        clear h
        obtain ⟨o14, fs_o14, hr_o14, he_o14, h⟩ := h0
        subst hr_o14
        refine ar_VI (kc' := 0) (ks' := 0) (kc := 0) (ks := 0) (a := o14) (ci := 10) (as := [vi a1, vi a2]) (st := []) (tX10_carAt h) mt_X10_carAt rfl qM_RX11_194 qI_X10_carAt qV_X10_carAt he_o14 rfl (Nat.le_of_ble_eq_true rfl) dX11_track_49 ?_
        clear h
        intro x13 F12 h
        refine aw_pc (pc' := 52) rfl ?_
        refine aw_goto (tgt := 57) dX11_track_52 rfl ?_
        exact aw_iret rfl dX11_track_57 ⟨_, rfl, h⟩
def mX11_law (o : Nat) (a1 : Int) (a2 : Int) (F : hp) (Q : Int → hp → Prop) : Prop := mX11_isTrack a1 F (fun x2 F1 => (w32 x2 = 0 → Q (-100) F1) ∧ (¬ w32 x2 = 0 → mX11_isTrack a2 F1 (fun x4 F3 => (w32 x4 = 0 → Q (-100) F3) ∧ (¬ w32 x4 = 0 → gR F3 (some o) 11 0 (fun x5 => gR F3 x5 5 0 (fun x6 => rcv F3 x6 10 (fun o9 => mX10_uppermost o9 a1 F3 (fun x8 F7 => (w32 x8 = (-1) → Q (-100) F7) ∧ (¬ w32 x8 = (-1) → (w32 a1 = w32 a2 → gR F7 (some o) 11 2 (fun x10 => gR F7 (some o) 11 0 (fun x11 => rcv F7 x11 5 (fun o14 => mX5_rulingText o14 F7 (fun x13 F12 => rcv F12 x10 9 (fun o17 => mX9_changesSays o17 x13 x8 F12 (fun x16 F15 => Q x16 F15))))))) ∧ (¬ w32 a1 = w32 a2 → gR F7 (some o) 11 2 (fun x18 => rcv F7 x18 9 (fun o21 => mX9_movesSays o21 x8 a1 a2 F7 (fun x20 F19 => Q x20 F19)))))))))))))
set_option maxHeartbeats 4000000 in
theorem tX11_law {d : Nat} {o : Nat} {a1 : Int} {a2 : Int} {F : hp} {Q : Int → hp → Prop} (h : mX11_law o a1 a2 F Q) : am nX11_law (d + 4) 0 0 [vr (some o), vi a1, vi a2] F (qI Q) := by
  refine am_of (by decide +kernel) (Nat.le_of_ble_eq_true rfl) ?_
  show aw nX11_law (d + 4) 0 0 0 [some (vr (some o)), some (vi a1), some (vi a2), none] [] F (qI Q)
  unfold mX11_law at h
  refine aw_iload_n dX11_law_0 rfl rfl (aw_pc (pc' := 1) rfl ?_)
  refine ar_SI (kc' := 0) (ks' := 0) (kc := 0) (ks := 0) (as := [vi a1]) (st := []) (tX11_isTrack h) mt_X11_isTrack qM_RX11_123 qS_X11_isTrack rfl (Nat.le_of_ble_eq_true rfl) dX11_law_1 ?_
  clear h
  intro x2 F1 h
  refine aw_pc (pc' := 4) rfl ?_
  refine aw_if_eq dX11_law_4 rfl (fun c => ?_) (fun c => ?_)
  · replace h := h.1 c
    refine aw_bipush dX11_law_14 (by decide) (aw_pc (pc' := 16) rfl ?_)
    exact aw_iret rfl dX11_law_16 ⟨_, rfl, h⟩
  · replace h := h.2 c
    refine aw_iload_n dX11_law_7 rfl rfl (aw_pc (pc' := 8) rfl ?_)
    refine ar_SI (kc' := 0) (ks' := 0) (kc := 0) (ks := 0) (as := [vi a2]) (st := []) (tX11_isTrack h) mt_X11_isTrack qM_RX11_123 qS_X11_isTrack rfl (Nat.le_of_ble_eq_true rfl) dX11_law_8 ?_
    clear h
    intro x4 F3 h
    refine aw_pc (pc' := 11) rfl ?_
    refine aw_if_ne dX11_law_11 rfl (fun c => ?_) (fun c => ?_)
    · replace h := h.1 c
      refine aw_bipush dX11_law_14 (by decide) (aw_pc (pc' := 16) rfl ?_)
      exact aw_iret rfl dX11_law_16 ⟨_, rfl, h⟩
    · replace h := h.2 c
      refine aw_aload_n dX11_law_17 rfl rfl (aw_pc (pc' := 18) rfl ?_)
      refine ar_gR fl_RX11_20 dX11_law_18 h ?_
      clear h
      intro x5 h
      refine aw_pc (pc' := 21) rfl ?_
      refine ar_gR fl_RX11_66 dX11_law_21 h ?_
      clear h
      intro x6 h
      refine aw_pc (pc' := 24) rfl ?_
      refine aw_iload_n dX11_law_24 rfl rfl (aw_pc (pc' := 25) rfl ?_)
      have h0 := rcv_inv h
      clear h
      obtain ⟨o9, fs_o9, hr_o9, he_o9, h⟩ := h0
      subst hr_o9
      refine ar_VI (kc' := 0) (ks' := 0) (kc := 0) (ks := 0) (a := o9) (ci := 10) (as := [vi a1]) (st := []) (tX10_uppermost h) mt_X10_uppermost rfl qM_RX11_197 qI_X10_uppermost qV_X10_uppermost he_o9 rfl (Nat.le_of_ble_eq_true rfl) dX11_law_25 ?_
      clear h
      intro x8 F7 h
      refine aw_pc (pc' := 28) rfl ?_
      refine aw_istore_n dX11_law_28 rfl (by decide) (aw_pc (pc' := 29) rfl ?_)
      refine aw_iload_n dX11_law_29 rfl rfl (aw_pc (pc' := 30) rfl ?_)
      refine aw_iconst dX11_law_30 (aw_pc (pc' := 31) rfl ?_)
      refine ac_ne rfl wl_m1 dX11_law_31 rfl (fun c => ?_) (fun c => ?_)
      · replace h := h.1 c
        refine aw_bipush dX11_law_34 (by decide) (aw_pc (pc' := 36) rfl ?_)
        exact aw_iret rfl dX11_law_36 ⟨_, rfl, h⟩
      · replace h := h.2 c
        refine aw_iload_n dX11_law_37 rfl rfl (aw_pc (pc' := 38) rfl ?_)
        refine aw_iload_n dX11_law_38 rfl rfl (aw_pc (pc' := 39) rfl ?_)
        refine ac_ne rfl rfl dX11_law_39 rfl (fun c => ?_) (fun c => ?_)
        · replace h := h.1 c
          refine aw_aload_n dX11_law_42 rfl rfl (aw_pc (pc' := 43) rfl ?_)
          refine ar_gR fl_RX11_10 dX11_law_43 h ?_
          clear h
          intro x10 h
          refine aw_pc (pc' := 46) rfl ?_
          refine aw_aload_n dX11_law_46 rfl rfl (aw_pc (pc' := 47) rfl ?_)
          refine ar_gR fl_RX11_20 dX11_law_47 h ?_
          clear h
          intro x11 h
          refine aw_pc (pc' := 50) rfl ?_
          have h0 := rcv_inv h
          clear h
          obtain ⟨o14, fs_o14, hr_o14, he_o14, h⟩ := h0
          subst hr_o14
          refine ar_VR (kc' := 0) (ks' := 0) (kc := 0) (ks := 0) (a := o14) (ci := 5) (as := []) (st := [vr x10]) (tX5_rulingText h) mt_X5_rulingText rfl qM_RX11_200 qI_X5_rulingText qV_X5_rulingText he_o14 rfl (Nat.le_of_ble_eq_true rfl) dX11_law_50 ?_
          clear h
          intro x13 F12 h
          refine aw_pc (pc' := 53) rfl ?_
          refine aw_iload_n dX11_law_53 rfl rfl (aw_pc (pc' := 54) rfl ?_)
          have h0 := rcv_inv h
          clear h
          obtain ⟨o17, fs_o17, hr_o17, he_o17, h⟩ := h0
          subst hr_o17
          refine ar_VI (kc' := 0) (ks' := 0) (kc := 0) (ks := 0) (a := o17) (ci := 9) (as := [vr x13, vi x8]) (st := []) (tX9_changesSays h) mt_X9_changesSays rfl qM_RX11_203 qI_X9_changesSays qV_X9_changesSays he_o17 rfl (Nat.le_of_ble_eq_true rfl) dX11_law_54 ?_
          clear h
          intro x16 F15 h
          refine aw_pc (pc' := 57) rfl ?_
          refine aw_goto (tgt := 70) dX11_law_57 rfl ?_
          exact aw_iret rfl dX11_law_70 ⟨_, rfl, h⟩
        · replace h := h.2 c
          refine aw_aload_n dX11_law_60 rfl rfl (aw_pc (pc' := 61) rfl ?_)
          refine ar_gR fl_RX11_10 dX11_law_61 h ?_
          clear h
          intro x18 h
          refine aw_pc (pc' := 64) rfl ?_
          refine aw_iload_n dX11_law_64 rfl rfl (aw_pc (pc' := 65) rfl ?_)
          refine aw_iload_n dX11_law_65 rfl rfl (aw_pc (pc' := 66) rfl ?_)
          refine aw_iload_n dX11_law_66 rfl rfl (aw_pc (pc' := 67) rfl ?_)
          have h0 := rcv_inv h
          clear h
          obtain ⟨o21, fs_o21, hr_o21, he_o21, h⟩ := h0
          subst hr_o21
          refine ar_VI (kc' := 0) (ks' := 0) (kc := 0) (ks := 0) (a := o21) (ci := 9) (as := [vi x8, vi a1, vi a2]) (st := []) (tX9_movesSays h) mt_X9_movesSays rfl qM_RX11_207 qI_X9_movesSays qV_X9_movesSays he_o21 rfl (Nat.le_of_ble_eq_true rfl) dX11_law_67 ?_
          clear h
          intro x20 F19 h
          refine aw_pc (pc' := 70) rfl ?_
          exact aw_iret rfl dX11_law_70 ⟨_, rfl, h⟩
def mX11_is (o : Nat) (a1 : Int) (F : hp) (Q : Int → hp → Prop) : Prop := (w32 a1 = 0 → gR F (some o) 11 0 (fun x1 => gR F x1 5 0 (fun x2 => rcv F x2 10 (fun o5 => mX10_hourNow o5 F (fun x4 F3 => Q x4 F3))))) ∧ (w32 a1 = 1 → gR F (some o) 11 0 (fun x6 => gR F x6 5 0 (fun x7 => gR F x7 10 0 (fun x8 => aI F x8 0 1 (fun x9 => Q x9 F))))) ∧ (w32 a1 = 2 → gR F (some o) 11 0 (fun x10 => gR F x10 5 0 (fun x11 => rcv F x11 10 (fun o14 => mX10_wheelsOf o14 0 F (fun x13 F12 => Q x13 F12))))) ∧ (w32 a1 = 3 → gR F (some o) 11 0 (fun x15 => gR F x15 5 0 (fun x16 => rcv F x16 10 (fun o19 => mX10_wheelsOf o19 1 F (fun x18 F17 => Q x18 F17))))) ∧ (w32 a1 = 4 → gR F (some o) 11 0 (fun x20 => gR F x20 5 0 (fun x21 => gR F x21 10 0 (fun x22 => aI F x22 0 5 (fun x23 => Q x23 F))))) ∧ (w32 a1 < 0 ∨ 4 < w32 a1 → Q (-2) F)
set_option maxHeartbeats 4000000 in
theorem tX11_is {d : Nat} {o : Nat} {a1 : Int} {F : hp} {Q : Int → hp → Prop} (h : mX11_is o a1 F Q) : am nX11_is (d + 1) 0 0 [vr (some o), vi a1] F (qI Q) := by
  refine am_of (by decide +kernel) (Nat.le_of_ble_eq_true rfl) ?_
  show aw nX11_is (d + 1) 0 0 0 [some (vr (some o)), some (vi a1)] [] F (qI Q)
  unfold mX11_is at h
  refine aw_iload_n dX11_is_0 rfl rfl (aw_pc (pc' := 1) rfl ?_)
  refine aw_table dX11_is_1 (td := 97) rfl (fun j => [36, 47, 60, 72, 84].getD j 0) rfl (by decide) (fun j hj hx => ?_) (fun hx => ?_)
  · have hj : j = 0 ∨ j = 1 ∨ j = 2 ∨ j = 3 ∨ j = 4 := by (simp at hj; omega)
    rcases hj with rfl | rfl | rfl | rfl | rfl
    · replace h := h.1 (by omega)
      refine aw_pc (pc' := 36) rfl ?_
      refine aw_aload_n dX11_is_36 rfl rfl (aw_pc (pc' := 37) rfl ?_)
      refine ar_gR fl_RX11_20 dX11_is_37 h ?_
      clear h
      intro x1 h
      refine aw_pc (pc' := 40) rfl ?_
      refine ar_gR fl_RX11_66 dX11_is_40 h ?_
      clear h
      intro x2 h
      refine aw_pc (pc' := 43) rfl ?_
      have h0 := rcv_inv h
      clear h
      obtain ⟨o5, fs_o5, hr_o5, he_o5, h⟩ := h0
      subst hr_o5
      refine ar_VI (kc' := 0) (ks' := 0) (kc := 0) (ks := 0) (a := o5) (ci := 10) (as := []) (st := []) (tX10_hourNow h) mt_X10_hourNow rfl qM_RX11_138 qI_X10_hourNow qV_X10_hourNow he_o5 rfl (Nat.le_of_ble_eq_true rfl) dX11_is_43 ?_
      clear h
      intro x4 F3 h
      refine aw_pc (pc' := 46) rfl ?_
      exact aw_iret rfl dX11_is_46 ⟨_, rfl, h⟩
    · replace h := h.2.1 (by omega)
      refine aw_pc (pc' := 47) rfl ?_
      refine aw_aload_n dX11_is_47 rfl rfl (aw_pc (pc' := 48) rfl ?_)
      refine ar_gR fl_RX11_20 dX11_is_48 h ?_
      clear h
      intro x6 h
      refine aw_pc (pc' := 51) rfl ?_
      refine ar_gR fl_RX11_66 dX11_is_51 h ?_
      clear h
      intro x7 h
      refine aw_pc (pc' := 54) rfl ?_
      refine ar_gR fl_RX11_211 dX11_is_54 h ?_
      clear h
      intro x8 h
      refine aw_pc (pc' := 57) rfl ?_
      refine aw_iconst dX11_is_57 (aw_pc (pc' := 58) rfl ?_)
      refine ar_aI dX11_is_58 h ?_
      clear h
      intro x9 h
      refine aw_pc (pc' := 59) rfl ?_
      exact aw_iret rfl dX11_is_59 ⟨_, rfl, h⟩
    · replace h := h.2.2.1 (by omega)
      refine aw_pc (pc' := 60) rfl ?_
      refine aw_aload_n dX11_is_60 rfl rfl (aw_pc (pc' := 61) rfl ?_)
      refine ar_gR fl_RX11_20 dX11_is_61 h ?_
      clear h
      intro x10 h
      refine aw_pc (pc' := 64) rfl ?_
      refine ar_gR fl_RX11_66 dX11_is_64 h ?_
      clear h
      intro x11 h
      refine aw_pc (pc' := 67) rfl ?_
      refine aw_iconst dX11_is_67 (aw_pc (pc' := 68) rfl ?_)
      have h0 := rcv_inv h
      clear h
      obtain ⟨o14, fs_o14, hr_o14, he_o14, h⟩ := h0
      subst hr_o14
      refine ar_VI (kc' := 0) (ks' := 0) (kc := 0) (ks := 0) (a := o14) (ci := 10) (as := [vi 0]) (st := []) (tX10_wheelsOf h) mt_X10_wheelsOf rfl qM_RX11_214 qI_X10_wheelsOf qV_X10_wheelsOf he_o14 rfl (Nat.le_of_ble_eq_true rfl) dX11_is_68 ?_
      clear h
      intro x13 F12 h
      refine aw_pc (pc' := 71) rfl ?_
      exact aw_iret rfl dX11_is_71 ⟨_, rfl, h⟩
    · replace h := h.2.2.2.1 (by omega)
      refine aw_pc (pc' := 72) rfl ?_
      refine aw_aload_n dX11_is_72 rfl rfl (aw_pc (pc' := 73) rfl ?_)
      refine ar_gR fl_RX11_20 dX11_is_73 h ?_
      clear h
      intro x15 h
      refine aw_pc (pc' := 76) rfl ?_
      refine ar_gR fl_RX11_66 dX11_is_76 h ?_
      clear h
      intro x16 h
      refine aw_pc (pc' := 79) rfl ?_
      refine aw_iconst dX11_is_79 (aw_pc (pc' := 80) rfl ?_)
      have h0 := rcv_inv h
      clear h
      obtain ⟨o19, fs_o19, hr_o19, he_o19, h⟩ := h0
      subst hr_o19
      refine ar_VI (kc' := 0) (ks' := 0) (kc := 0) (ks := 0) (a := o19) (ci := 10) (as := [vi 1]) (st := []) (tX10_wheelsOf h) mt_X10_wheelsOf rfl qM_RX11_214 qI_X10_wheelsOf qV_X10_wheelsOf he_o19 rfl (Nat.le_of_ble_eq_true rfl) dX11_is_80 ?_
      clear h
      intro x18 F17 h
      refine aw_pc (pc' := 83) rfl ?_
      exact aw_iret rfl dX11_is_83 ⟨_, rfl, h⟩
    · replace h := h.2.2.2.2.1 (by omega)
      refine aw_pc (pc' := 84) rfl ?_
      refine aw_aload_n dX11_is_84 rfl rfl (aw_pc (pc' := 85) rfl ?_)
      refine ar_gR fl_RX11_20 dX11_is_85 h ?_
      clear h
      intro x20 h
      refine aw_pc (pc' := 88) rfl ?_
      refine ar_gR fl_RX11_66 dX11_is_88 h ?_
      clear h
      intro x21 h
      refine aw_pc (pc' := 91) rfl ?_
      refine ar_gR fl_RX11_211 dX11_is_91 h ?_
      clear h
      intro x22 h
      refine aw_pc (pc' := 94) rfl ?_
      refine aw_iconst dX11_is_94 (aw_pc (pc' := 95) rfl ?_)
      refine ar_aI dX11_is_95 h ?_
      clear h
      intro x23 h
      refine aw_pc (pc' := 96) rfl ?_
      exact aw_iret rfl dX11_is_96 ⟨_, rfl, h⟩
  · replace h := h.2.2.2.2.2 hx
    refine aw_bipush dX11_is_97 (by decide) (aw_pc (pc' := 99) rfl ?_)
    exact aw_iret rfl dX11_is_99 ⟨_, rfl, h⟩
def mX11_book (o : Nat) (a1 : Int) (a2 : Int) (F : hp) (Q : Int → hp → Prop) : Prop := gR F (some o) 11 0 (fun x1 => gR F x1 5 0 (fun x2 => rcv F x2 10 (fun o5 => mX10_countLines o5 F (fun x4 F3 => (w32 a1 = (-1) → Q x4 F3) ∧ (¬ w32 a1 = (-1) → mX11_within a1 0 (x4 - 1) F3 (fun x7 F6 => (w32 x7 = 0 → Q (-2) F6) ∧ (¬ w32 x7 = 0 → mX11_within a2 0 3 F6 (fun x9 F8 => (w32 x9 = 0 → Q (-2) F8) ∧ (¬ w32 x9 = 0 → gR F8 (some o) 11 0 (fun x10 => gR F8 x10 5 0 (fun x11 => rcv F8 x11 10 (fun o14 => mX10_lineTells o14 a1 a2 F8 (fun x13 F12 => Q x13 F12)))))))))))))
set_option maxHeartbeats 4000000 in
theorem tX11_book {d : Nat} {o : Nat} {a1 : Int} {a2 : Int} {F : hp} {Q : Int → hp → Prop} (h : mX11_book o a1 a2 F Q) : am nX11_book (d + 1) 0 0 [vr (some o), vi a1, vi a2] F (qI Q) := by
  refine am_of (by decide +kernel) (Nat.le_of_ble_eq_true rfl) ?_
  show aw nX11_book (d + 1) 0 0 0 [some (vr (some o)), some (vi a1), some (vi a2), none] [] F (qI Q)
  unfold mX11_book at h
  refine aw_aload_n dX11_book_0 rfl rfl (aw_pc (pc' := 1) rfl ?_)
  refine ar_gR fl_RX11_20 dX11_book_1 h ?_
  clear h
  intro x1 h
  refine aw_pc (pc' := 4) rfl ?_
  refine ar_gR fl_RX11_66 dX11_book_4 h ?_
  clear h
  intro x2 h
  refine aw_pc (pc' := 7) rfl ?_
  have h0 := rcv_inv h
  clear h
  obtain ⟨o5, fs_o5, hr_o5, he_o5, h⟩ := h0
  subst hr_o5
  refine ar_VI (kc' := 0) (ks' := 0) (kc := 0) (ks := 0) (a := o5) (ci := 10) (as := []) (st := []) (tX10_countLines h) mt_X10_countLines rfl qM_RX11_217 qI_X10_countLines qV_X10_countLines he_o5 rfl (Nat.le_of_ble_eq_true rfl) dX11_book_7 ?_
  clear h
  intro x4 F3 h
  refine aw_pc (pc' := 10) rfl ?_
  refine aw_istore_n dX11_book_10 rfl (by decide) (aw_pc (pc' := 11) rfl ?_)
  refine aw_iload_n dX11_book_11 rfl rfl (aw_pc (pc' := 12) rfl ?_)
  refine aw_iconst dX11_book_12 (aw_pc (pc' := 13) rfl ?_)
  refine ac_ne rfl wl_m1 dX11_book_13 rfl (fun c => ?_) (fun c => ?_)
  · replace h := h.1 c
    refine aw_iload_n dX11_book_16 rfl rfl (aw_pc (pc' := 17) rfl ?_)
    exact aw_iret rfl dX11_book_17 ⟨_, rfl, h⟩
  · replace h := h.2 c
    refine aw_iload_n dX11_book_18 rfl rfl (aw_pc (pc' := 19) rfl ?_)
    refine aw_iconst dX11_book_19 (aw_pc (pc' := 20) rfl ?_)
    refine aw_iload_n dX11_book_20 rfl rfl (aw_pc (pc' := 21) rfl ?_)
    refine aw_iconst dX11_book_21 (aw_pc (pc' := 22) rfl ?_)
    refine aw_isub dX11_book_22 (aw_pc (pc' := 23) rfl ?_)
    refine ar_SI (kc' := 0) (ks' := 0) (kc := 0) (ks := 0) (as := [vi a1, vi 0, vi (x4 - 1)]) (st := []) (tX11_within h) mt_X11_within qM_RX11_62 qS_X11_within rfl (Nat.le_of_ble_eq_true rfl) dX11_book_23 ?_
    clear h
    intro x7 F6 h
    refine aw_pc (pc' := 26) rfl ?_
    refine aw_if_eq dX11_book_26 rfl (fun c => ?_) (fun c => ?_)
    · replace h := h.1 c
      refine aw_bipush dX11_book_53 (by decide) (aw_pc (pc' := 55) rfl ?_)
      exact aw_iret rfl dX11_book_55 ⟨_, rfl, h⟩
    · replace h := h.2 c
      refine aw_iload_n dX11_book_29 rfl rfl (aw_pc (pc' := 30) rfl ?_)
      refine aw_iconst dX11_book_30 (aw_pc (pc' := 31) rfl ?_)
      refine aw_iconst dX11_book_31 (aw_pc (pc' := 32) rfl ?_)
      refine ar_SI (kc' := 0) (ks' := 0) (kc := 0) (ks := 0) (as := [vi a2, vi 0, vi 3]) (st := []) (tX11_within h) mt_X11_within qM_RX11_62 qS_X11_within rfl (Nat.le_of_ble_eq_true rfl) dX11_book_32 ?_
      clear h
      intro x9 F8 h
      refine aw_pc (pc' := 35) rfl ?_
      refine aw_if_eq dX11_book_35 rfl (fun c => ?_) (fun c => ?_)
      · replace h := h.1 c
        refine aw_bipush dX11_book_53 (by decide) (aw_pc (pc' := 55) rfl ?_)
        exact aw_iret rfl dX11_book_55 ⟨_, rfl, h⟩
      · replace h := h.2 c
        refine aw_aload_n dX11_book_38 rfl rfl (aw_pc (pc' := 39) rfl ?_)
        refine ar_gR fl_RX11_20 dX11_book_39 h ?_
        clear h
        intro x10 h
        refine aw_pc (pc' := 42) rfl ?_
        refine ar_gR fl_RX11_66 dX11_book_42 h ?_
        clear h
        intro x11 h
        refine aw_pc (pc' := 45) rfl ?_
        refine aw_iload_n dX11_book_45 rfl rfl (aw_pc (pc' := 46) rfl ?_)
        refine aw_iload_n dX11_book_46 rfl rfl (aw_pc (pc' := 47) rfl ?_)
        have h0 := rcv_inv h
        clear h
        obtain ⟨o14, fs_o14, hr_o14, he_o14, h⟩ := h0
        subst hr_o14
        refine ar_VI (kc' := 0) (ks' := 0) (kc := 0) (ks := 0) (a := o14) (ci := 10) (as := [vi a1, vi a2]) (st := []) (tX10_lineTells h) mt_X10_lineTells rfl qM_RX11_220 qI_X10_lineTells qV_X10_lineTells he_o14 rfl (Nat.le_of_ble_eq_true rfl) dX11_book_47 ?_
        clear h
        intro x13 F12 h
        refine aw_pc (pc' := 50) rfl ?_
        refine aw_goto (tgt := 55) dX11_book_50 rfl ?_
        exact aw_iret rfl dX11_book_55 ⟨_, rfl, h⟩
def mX11_foretold_J66 (Q : Int → hp → Prop) (o : Nat) (a2 : Int) (F : hp) : Prop := (w32 a2 = 2 → gR F (some o) 11 7 (fun x1 => rcv F x1 10 (fun o4 => mX10_wornTogether o4 F (fun x3 F2 => Q x3 F2)))) ∧ (¬ w32 a2 = 2 → gR F (some o) 11 7 (fun x5 => rcv F x5 10 (fun o8 => mX10_wheelsOf o8 a2 F (fun x7 F6 => Q x7 F6))))
set_option maxHeartbeats 4000000 in
theorem tX11_foretold_J66 {d : Nat} {Q : Int → hp → Prop} {o : Nat} {a2 : Int} {F : hp} (h : mX11_foretold_J66 Q o a2 F) : aw nX11_foretold (d + 3) 0 0 66 [some (vr (some o)), none, some (vi a2), none] [] F (qI Q) := by
  unfold mX11_foretold_J66 at h
  refine aw_iload_n dX11_foretold_66 rfl rfl (aw_pc (pc' := 67) rfl ?_)
  refine aw_iconst dX11_foretold_67 (aw_pc (pc' := 68) rfl ?_)
  refine ac_ne rfl wl_2 dX11_foretold_68 rfl (fun c => ?_) (fun c => ?_)
  · replace h := h.1 c
    refine aw_aload_n dX11_foretold_71 rfl rfl (aw_pc (pc' := 72) rfl ?_)
    refine ar_gR fl_RX11_58 dX11_foretold_72 h ?_
    clear h
    intro x1 h
    refine aw_pc (pc' := 75) rfl ?_
    have h0 := rcv_inv h
    clear h
    obtain ⟨o4, fs_o4, hr_o4, he_o4, h⟩ := h0
    subst hr_o4
    refine ar_VI (kc' := 0) (ks' := 0) (kc := 0) (ks := 0) (a := o4) (ci := 10) (as := []) (st := []) (tX10_wornTogether h) mt_X10_wornTogether rfl qM_RX11_234 qI_X10_wornTogether qV_X10_wornTogether he_o4 rfl (Nat.le_of_ble_eq_true rfl) dX11_foretold_75 ?_
    clear h
    intro x3 F2 h
    refine aw_pc (pc' := 78) rfl ?_
    refine aw_goto (tgt := 89) dX11_foretold_78 rfl ?_
    exact aw_iret rfl dX11_foretold_89 ⟨_, rfl, h⟩
  · replace h := h.2 c
    refine aw_aload_n dX11_foretold_81 rfl rfl (aw_pc (pc' := 82) rfl ?_)
    refine ar_gR fl_RX11_58 dX11_foretold_82 h ?_
    clear h
    intro x5 h
    refine aw_pc (pc' := 85) rfl ?_
    refine aw_iload_n dX11_foretold_85 rfl rfl (aw_pc (pc' := 86) rfl ?_)
    have h0 := rcv_inv h
    clear h
    obtain ⟨o8, fs_o8, hr_o8, he_o8, h⟩ := h0
    subst hr_o8
    refine ar_VI (kc' := 0) (ks' := 0) (kc := 0) (ks := 0) (a := o8) (ci := 10) (as := [vi a2]) (st := []) (tX10_wheelsOf h) mt_X10_wheelsOf rfl qM_RX11_214 qI_X10_wheelsOf qV_X10_wheelsOf he_o8 rfl (Nat.le_of_ble_eq_true rfl) dX11_foretold_86 ?_
    clear h
    intro x7 F6 h
    refine aw_pc (pc' := 89) rfl ?_
    exact aw_iret rfl dX11_foretold_89 ⟨_, rfl, h⟩
def mX11_foretold_L37 (Q : Int → hp → Prop) : Nat → Nat → Int → Int → Int → hp → Prop
  | 0, _, _, _, _, _ => False
  | k + 1, o, a1, a2, a3, F => (w32 a3 < w32 a1 → gR F (some o) 11 7 (fun x1 => rcv F x1 10 (fun o4 => mX10_hourCanPass o4 F (fun x3 F2 => (w32 x3 = 0 → mX11_foretold_J66 Q o a2 F2) ∧ (¬ w32 x3 = 0 → gR F2 (some o) 11 7 (fun x5 => rcv F2 x5 10 (fun o8 => mX10_passHour o8 F2 (fun x7 F6 => mX11_foretold_L37 Q k o a1 a2 (a3 + 1) F6)))))))) ∧ (¬ w32 a3 < w32 a1 → mX11_foretold_J66 Q o a2 F)
set_option maxHeartbeats 4000000 in
theorem tX11_foretold_L37 {d : Nat} {Q : Int → hp → Prop} : ∀ (k : Nat) (o : Nat) (a1 : Int) (a2 : Int) (a3 : Int) (F : hp), mX11_foretold_L37 Q k o a1 a2 a3 F → aw nX11_foretold (d + 3) 0 0 37 [some (vr (some o)), some (vi a1), some (vi a2), some (vi a3)] [] F (qI Q) := by
  intro k
  induction k with
  | zero => intro o a1 a2 a3 F h; exact h.elim
  | succ k ih =>
    intro o a1 a2 a3 F h
    simp only [mX11_foretold_L37] at h
    refine aw_iload_n dX11_foretold_37 rfl rfl (aw_pc (pc' := 38) rfl ?_)
    refine aw_iload_n dX11_foretold_38 rfl rfl (aw_pc (pc' := 39) rfl ?_)
    refine ac_ge rfl rfl dX11_foretold_39 rfl (fun c => ?_) (fun c => ?_)
    · replace h := h.1 c
      refine aw_aload_n dX11_foretold_42 rfl rfl (aw_pc (pc' := 43) rfl ?_)
      refine ar_gR fl_RX11_58 dX11_foretold_43 h ?_
      clear h
      intro x1 h
      refine aw_pc (pc' := 46) rfl ?_
      have h0 := rcv_inv h
      clear h
      obtain ⟨o4, fs_o4, hr_o4, he_o4, h⟩ := h0
      subst hr_o4
      refine ar_VI (kc' := 0) (ks' := 0) (kc := 0) (ks := 0) (a := o4) (ci := 10) (as := []) (st := []) (tX10_hourCanPass h) mt_X10_hourCanPass rfl qM_RX11_227 qI_X10_hourCanPass qV_X10_hourCanPass he_o4 rfl (Nat.le_of_ble_eq_true rfl) dX11_foretold_46 ?_
      clear h
      intro x3 F2 h
      refine aw_pc (pc' := 49) rfl ?_
      refine aw_if_eq dX11_foretold_49 rfl (fun c => ?_) (fun c => ?_)
      · replace h := h.1 c
        exact aw_mask [true, false, true, false] (tX11_foretold_J66 h)
      · replace h := h.2 c
        refine aw_aload_n dX11_foretold_52 rfl rfl (aw_pc (pc' := 53) rfl ?_)
        refine ar_gR fl_RX11_58 dX11_foretold_53 h ?_
        clear h
        intro x5 h
        refine aw_pc (pc' := 56) rfl ?_
        have h0 := rcv_inv h
        clear h
        obtain ⟨o8, fs_o8, hr_o8, he_o8, h⟩ := h0
        subst hr_o8
        refine ar_VI (kc' := 0) (ks' := 0) (kc := 0) (ks := 0) (a := o8) (ci := 10) (as := []) (st := []) (tX10_passHour h) mt_X10_passHour rfl qM_RX11_231 qI_X10_passHour qV_X10_passHour he_o8 rfl (Nat.le_of_ble_eq_true rfl) dX11_foretold_56 ?_
        clear h
        intro x7 F6 h
        refine aw_pc (pc' := 59) rfl ?_
        refine aw_pop dX11_foretold_59 trivial (aw_pc (pc' := 60) rfl ?_)
        refine aw_iinc dX11_foretold_60 rfl (by decide) (aw_pc (pc' := 63) rfl ?_)
        refine aw_goto (tgt := 37) dX11_foretold_63 rfl ?_
        exact aw_mask [true, true, true, true] (ih _ _ _ _ _ h)
    · replace h := h.2 c
      exact aw_mask [true, false, true, false] (tX11_foretold_J66 h)
def mX11_foretold (o : Nat) (a1 : Int) (a2 : Int) (F : hp) (Q : Int → hp → Prop) : Prop := mX11_within a1 1 60 F (fun x2 F1 => (w32 x2 = 0 → Q (-1) F1) ∧ (¬ w32 x2 = 0 → mX11_within a2 0 2 F1 (fun x4 F3 => (w32 x4 = 0 → Q (-1) F3) ∧ (¬ w32 x4 = 0 → gR F3 (some o) 11 7 (fun x5 => gR F3 (some o) 11 0 (fun x6 => gR F3 x6 5 0 (fun x7 => rcv F3 x5 10 (fun o9 => mX10_copyFrom o9 x7 F3 (fun F8 => (∃ k10, mX11_foretold_L37 Q k10 o a1 a2 0 F8))))))))))
set_option maxHeartbeats 4000000 in
theorem tX11_foretold {d : Nat} {o : Nat} {a1 : Int} {a2 : Int} {F : hp} {Q : Int → hp → Prop} (h : mX11_foretold o a1 a2 F Q) : am nX11_foretold (d + 3) 0 0 [vr (some o), vi a1, vi a2] F (qI Q) := by
  refine am_of (by decide +kernel) (Nat.le_of_ble_eq_true rfl) ?_
  show aw nX11_foretold (d + 3) 0 0 0 [some (vr (some o)), some (vi a1), some (vi a2), none] [] F (qI Q)
  unfold mX11_foretold at h
  refine aw_iload_n dX11_foretold_0 rfl rfl (aw_pc (pc' := 1) rfl ?_)
  refine aw_iconst dX11_foretold_1 (aw_pc (pc' := 2) rfl ?_)
  refine aw_bipush dX11_foretold_2 (by decide) (aw_pc (pc' := 4) rfl ?_)
  refine ar_SI (kc' := 0) (ks' := 0) (kc := 0) (ks := 0) (as := [vi a1, vi 1, vi 60]) (st := []) (tX11_within h) mt_X11_within qM_RX11_62 qS_X11_within rfl (Nat.le_of_ble_eq_true rfl) dX11_foretold_4 ?_
  clear h
  intro x2 F1 h
  refine aw_pc (pc' := 7) rfl ?_
  refine aw_if_eq dX11_foretold_7 rfl (fun c => ?_) (fun c => ?_)
  · replace h := h.1 c
    refine aw_iconst dX11_foretold_19 (aw_pc (pc' := 20) rfl ?_)
    exact aw_iret rfl dX11_foretold_20 ⟨_, rfl, h⟩
  · replace h := h.2 c
    refine aw_iload_n dX11_foretold_10 rfl rfl (aw_pc (pc' := 11) rfl ?_)
    refine aw_iconst dX11_foretold_11 (aw_pc (pc' := 12) rfl ?_)
    refine aw_iconst dX11_foretold_12 (aw_pc (pc' := 13) rfl ?_)
    refine ar_SI (kc' := 0) (ks' := 0) (kc := 0) (ks := 0) (as := [vi a2, vi 0, vi 2]) (st := []) (tX11_within h) mt_X11_within qM_RX11_62 qS_X11_within rfl (Nat.le_of_ble_eq_true rfl) dX11_foretold_13 ?_
    clear h
    intro x4 F3 h
    refine aw_pc (pc' := 16) rfl ?_
    refine aw_if_ne dX11_foretold_16 rfl (fun c => ?_) (fun c => ?_)
    · replace h := h.1 c
      refine aw_iconst dX11_foretold_19 (aw_pc (pc' := 20) rfl ?_)
      exact aw_iret rfl dX11_foretold_20 ⟨_, rfl, h⟩
    · replace h := h.2 c
      refine aw_aload_n dX11_foretold_21 rfl rfl (aw_pc (pc' := 22) rfl ?_)
      refine ar_gR fl_RX11_58 dX11_foretold_22 h ?_
      clear h
      intro x5 h
      refine aw_pc (pc' := 25) rfl ?_
      refine aw_aload_n dX11_foretold_25 rfl rfl (aw_pc (pc' := 26) rfl ?_)
      refine ar_gR fl_RX11_20 dX11_foretold_26 h ?_
      clear h
      intro x6 h
      refine aw_pc (pc' := 29) rfl ?_
      refine ar_gR fl_RX11_66 dX11_foretold_29 h ?_
      clear h
      intro x7 h
      refine aw_pc (pc' := 32) rfl ?_
      have h0 := rcv_inv h
      clear h
      obtain ⟨o9, fs_o9, hr_o9, he_o9, h⟩ := h0
      subst hr_o9
      refine ar_VV (kc' := 0) (ks' := 0) (kc := 0) (ks := 0) (a := o9) (ci := 10) (as := [vr x7]) (st := []) (tX10_copyFrom h) mt_X10_copyFrom rfl qM_RX11_223 qI_X10_copyFrom qV_X10_copyFrom he_o9 rfl (Nat.le_of_ble_eq_true rfl) dX11_foretold_32 ?_
      clear h
      intro F8 h
      refine aw_pc (pc' := 35) rfl ?_
      refine aw_iconst dX11_foretold_35 (aw_pc (pc' := 36) rfl ?_)
      refine aw_istore_n dX11_foretold_36 rfl (by decide) (aw_pc (pc' := 37) rfl ?_)
      obtain ⟨k10, h⟩ := h
      exact aw_mask [true, true, true, true] (tX11_foretold_L37 k10 _ _ _ _ _ h)
def mX11_want (o : Nat) (a1 : Int) (F : hp) (Q : Int → hp → Prop) : Prop := mX11_within a1 0 119 F (fun x2 F1 => (w32 x2 = 0 → Q 0 F1) ∧ (¬ w32 x2 = 0 → gR F1 (some o) 11 0 (fun x3 => pF F1 x3 5 14 (vi a1) (fun F4 => Q 1 F4))))
set_option maxHeartbeats 4000000 in
theorem tX11_want {d : Nat} {o : Nat} {a1 : Int} {F : hp} {Q : Int → hp → Prop} (h : mX11_want o a1 F Q) : am nX11_want (d + 1) 0 0 [vr (some o), vi a1] F (qI Q) := by
  refine am_of (by decide +kernel) (Nat.le_of_ble_eq_true rfl) ?_
  show aw nX11_want (d + 1) 0 0 0 [some (vr (some o)), some (vi a1)] [] F (qI Q)
  unfold mX11_want at h
  refine aw_iload_n dX11_want_0 rfl rfl (aw_pc (pc' := 1) rfl ?_)
  refine aw_iconst dX11_want_1 (aw_pc (pc' := 2) rfl ?_)
  refine aw_bipush dX11_want_2 (by decide) (aw_pc (pc' := 4) rfl ?_)
  refine ar_SI (kc' := 0) (ks' := 0) (kc := 0) (ks := 0) (as := [vi a1, vi 0, vi 119]) (st := []) (tX11_within h) mt_X11_within qM_RX11_62 qS_X11_within rfl (Nat.le_of_ble_eq_true rfl) dX11_want_4 ?_
  clear h
  intro x2 F1 h
  refine aw_pc (pc' := 7) rfl ?_
  refine aw_if_ne dX11_want_7 rfl (fun c => ?_) (fun c => ?_)
  · replace h := h.1 c
    refine aw_iconst dX11_want_10 (aw_pc (pc' := 11) rfl ?_)
    exact aw_zret rfl (by decide) dX11_want_11 ⟨_, rfl, h⟩
  · replace h := h.2 c
    refine aw_aload_n dX11_want_12 rfl rfl (aw_pc (pc' := 13) rfl ?_)
    refine ar_gR fl_RX11_20 dX11_want_13 h ?_
    clear h
    intro x3 h
    refine aw_pc (pc' := 16) rfl ?_
    refine aw_iload_n dX11_want_16 rfl rfl (aw_pc (pc' := 17) rfl ?_)
    refine ar_pF fl_RX11_237 ft_X5_14 (okI _) dX11_want_17 h ?_
    clear h
    intro F4 h
    refine aw_pc (pc' := 20) rfl ?_
    refine aw_iconst dX11_want_20 (aw_pc (pc' := 21) rfl ?_)
    exact aw_zret rfl (by decide) dX11_want_21 ⟨_, rfl, h⟩
def mX11_exploreFromNow (o : Nat) (F : hp) (Q : hp → Prop) : Prop := gR F (some o) 11 4 (fun x1 => gR F (some o) 11 0 (fun x2 => gR F x2 5 0 (fun x3 => mX4_codeOf x3 F (fun x5 F4 => gR F4 (some o) 11 0 (fun x6 => gR F4 x6 5 0 (fun x7 => rcv F4 x7 10 (fun o10 => mX10_countCars o10 F4 (fun x9 F8 => gR F8 (some o) 11 0 (fun x11 => rcv F8 x11 5 (fun o14 => mX5_pairsThatMay o14 F8 (fun x13 F12 => rcv F12 x1 4 (fun o16 => mX4_explore o16 x5 x9 x13 F12 (fun F15 => Q F15)))))))))))))
set_option maxHeartbeats 4000000 in
theorem tX11_exploreFromNow {d : Nat} {o : Nat} {F : hp} {Q : hp → Prop} (h : mX11_exploreFromNow o F Q) : am nX11_exploreFromNow (d + 3) 0 0 [vr (some o)] F (qV Q) := by
  refine am_of (by decide +kernel) (Nat.le_of_ble_eq_true rfl) ?_
  show aw nX11_exploreFromNow (d + 3) 0 0 0 [some (vr (some o))] [] F (qV Q)
  unfold mX11_exploreFromNow at h
  refine aw_aload_n dX11_exploreFromNow_0 rfl rfl (aw_pc (pc' := 1) rfl ?_)
  refine ar_gR fl_RX11_37 dX11_exploreFromNow_1 h ?_
  clear h
  intro x1 h
  refine aw_pc (pc' := 4) rfl ?_
  refine aw_aload_n dX11_exploreFromNow_4 rfl rfl (aw_pc (pc' := 5) rfl ?_)
  refine ar_gR fl_RX11_20 dX11_exploreFromNow_5 h ?_
  clear h
  intro x2 h
  refine aw_pc (pc' := 8) rfl ?_
  refine ar_gR fl_RX11_66 dX11_exploreFromNow_8 h ?_
  clear h
  intro x3 h
  refine aw_pc (pc' := 11) rfl ?_
  refine ar_SI (kc' := 0) (ks' := 0) (kc := 0) (ks := 0) (as := [vr x3]) (st := [vr x1]) (tX4_codeOf h) mt_X4_codeOf qM_RX11_258 qS_X4_codeOf rfl (Nat.le_of_ble_eq_true rfl) dX11_exploreFromNow_11 ?_
  clear h
  intro x5 F4 h
  refine aw_pc (pc' := 14) rfl ?_
  refine aw_aload_n dX11_exploreFromNow_14 rfl rfl (aw_pc (pc' := 15) rfl ?_)
  refine ar_gR fl_RX11_20 dX11_exploreFromNow_15 h ?_
  clear h
  intro x6 h
  refine aw_pc (pc' := 18) rfl ?_
  refine ar_gR fl_RX11_66 dX11_exploreFromNow_18 h ?_
  clear h
  intro x7 h
  refine aw_pc (pc' := 21) rfl ?_
  have h0 := rcv_inv h
  clear h
  obtain ⟨o10, fs_o10, hr_o10, he_o10, h⟩ := h0
  subst hr_o10
  refine ar_VI (kc' := 0) (ks' := 0) (kc := 0) (ks := 0) (a := o10) (ci := 10) (as := []) (st := [vi x5, vr x1]) (tX10_countCars h) mt_X10_countCars rfl qM_RX11_69 qI_X10_countCars qV_X10_countCars he_o10 rfl (Nat.le_of_ble_eq_true rfl) dX11_exploreFromNow_21 ?_
  clear h
  intro x9 F8 h
  refine aw_pc (pc' := 24) rfl ?_
  refine aw_aload_n dX11_exploreFromNow_24 rfl rfl (aw_pc (pc' := 25) rfl ?_)
  refine ar_gR fl_RX11_20 dX11_exploreFromNow_25 h ?_
  clear h
  intro x11 h
  refine aw_pc (pc' := 28) rfl ?_
  have h0 := rcv_inv h
  clear h
  obtain ⟨o14, fs_o14, hr_o14, he_o14, h⟩ := h0
  subst hr_o14
  refine ar_VI (kc' := 0) (ks' := 0) (kc := 0) (ks := 0) (a := o14) (ci := 5) (as := []) (st := [vi x9, vi x5, vr x1]) (tX5_pairsThatMay h) mt_X5_pairsThatMay rfl qM_RX11_262 qI_X5_pairsThatMay qV_X5_pairsThatMay he_o14 rfl (Nat.le_of_ble_eq_true rfl) dX11_exploreFromNow_28 ?_
  clear h
  intro x13 F12 h
  refine aw_pc (pc' := 31) rfl ?_
  have h0 := rcv_inv h
  clear h
  obtain ⟨o16, fs_o16, hr_o16, he_o16, h⟩ := h0
  subst hr_o16
  refine ar_VV (kc' := 0) (ks' := 0) (kc := 0) (ks := 0) (a := o16) (ci := 4) (as := [vi x5, vi x9, vi x13]) (st := []) (tX4_explore h) mt_X4_explore rfl qM_RX11_265 qI_X4_explore qV_X4_explore he_o16 rfl (Nat.le_of_ble_eq_true rfl) dX11_exploreFromNow_31 ?_
  clear h
  intro F15 h
  refine aw_pc (pc' := 34) rfl ?_
  exact aw_vret rfl dX11_exploreFromNow_34 ⟨rfl, h⟩
def mX11_wantedCode_L33 (Q : Int → hp → Prop) : Nat → Nat → Int → Int → Int → Int → hp → Prop
  | 0, _, _, _, _, _, _ => False
  | k + 1, o, a1, a2, a3, a4, F => (w32 a4 < w32 a1 → gR F (some o) 11 5 (fun x1 => gR F x1 1 0 (fun x2 => aI F x2 0 a4 (fun x3 => ∀ v4 : Int, v4 = (iOr a2 (iShl a3 (3 * x3))) → gR F (some o) 11 5 (fun x5 => gR F x5 1 0 (fun x6 => aI F x6 0 a4 (fun x7 => mX11_wantedCode_L33 Q k o a1 v4 x7 (a4 + 1) F))))))) ∧ (¬ w32 a4 < w32 a1 → Q a2 F)
set_option maxHeartbeats 4000000 in
theorem tX11_wantedCode_L33 {d : Nat} {Q : Int → hp → Prop} : ∀ (k : Nat) (o : Nat) (a1 : Int) (a2 : Int) (a3 : Int) (a4 : Int) (F : hp), mX11_wantedCode_L33 Q k o a1 a2 a3 a4 F → aw nX11_wantedCode (d + 2) 0 0 33 [some (vr (some o)), some (vi a1), some (vi a2), some (vi a3), some (vi a4)] [] F (qI Q) := by
  intro k
  induction k with
  | zero => intro o a1 a2 a3 a4 F h; exact h.elim
  | succ k ih =>
    intro o a1 a2 a3 a4 F h
    simp only [mX11_wantedCode_L33] at h
    refine aw_iload dX11_wantedCode_33 rfl (aw_pc (pc' := 35) rfl ?_)
    refine aw_iload_n dX11_wantedCode_35 rfl rfl (aw_pc (pc' := 36) rfl ?_)
    refine ac_ge rfl rfl dX11_wantedCode_36 rfl (fun c => ?_) (fun c => ?_)
    · replace h := h.1 c
      refine aw_iload_n dX11_wantedCode_39 rfl rfl (aw_pc (pc' := 40) rfl ?_)
      refine aw_iload_n dX11_wantedCode_40 rfl rfl (aw_pc (pc' := 41) rfl ?_)
      refine aw_iconst dX11_wantedCode_41 (aw_pc (pc' := 42) rfl ?_)
      refine aw_aload_n dX11_wantedCode_42 rfl rfl (aw_pc (pc' := 43) rfl ?_)
      refine ar_gR fl_RX11_44 dX11_wantedCode_43 h ?_
      clear h
      intro x1 h
      refine aw_pc (pc' := 46) rfl ?_
      refine ar_gR fl_RX11_275 dX11_wantedCode_46 h ?_
      clear h
      intro x2 h
      refine aw_pc (pc' := 49) rfl ?_
      refine aw_iload dX11_wantedCode_49 rfl (aw_pc (pc' := 51) rfl ?_)
      refine ar_aI dX11_wantedCode_51 h ?_
      clear h
      intro x3 h
      refine aw_pc (pc' := 52) rfl ?_
      refine aw_imul dX11_wantedCode_52 (aw_pc (pc' := 53) rfl ?_)
      refine aw_ishl dX11_wantedCode_53 (aw_pc (pc' := 54) rfl ?_)
      refine aw_ior dX11_wantedCode_54 (aw_pc (pc' := 55) rfl ?_)
      generalize hv_v4 : (iOr a2 (iShl a3 (3 * x3))) = v4
      replace h := h v4 hv_v4.symm
      refine aw_istore_n dX11_wantedCode_55 rfl (by decide) (aw_pc (pc' := 56) rfl ?_)
      refine aw_aload_n dX11_wantedCode_56 rfl rfl (aw_pc (pc' := 57) rfl ?_)
      refine ar_gR fl_RX11_44 dX11_wantedCode_57 h ?_
      clear h
      intro x5 h
      refine aw_pc (pc' := 60) rfl ?_
      refine ar_gR fl_RX11_275 dX11_wantedCode_60 h ?_
      clear h
      intro x6 h
      refine aw_pc (pc' := 63) rfl ?_
      refine aw_iload dX11_wantedCode_63 rfl (aw_pc (pc' := 65) rfl ?_)
      refine ar_aI dX11_wantedCode_65 h ?_
      clear h
      intro x7 h
      refine aw_pc (pc' := 66) rfl ?_
      refine aw_istore_n dX11_wantedCode_66 rfl (by decide) (aw_pc (pc' := 67) rfl ?_)
      refine aw_iinc dX11_wantedCode_67 rfl (by decide) (aw_pc (pc' := 70) rfl ?_)
      refine aw_goto (tgt := 33) dX11_wantedCode_70 rfl ?_
      exact aw_mask [true, true, true, true, true] (ih _ _ _ _ _ _ h)
    · replace h := h.2 c
      refine aw_iload_n dX11_wantedCode_73 rfl rfl (aw_pc (pc' := 74) rfl ?_)
      exact aw_iret rfl dX11_wantedCode_74 ⟨_, rfl, h⟩
def mX11_wantedCode (o : Nat) (F : hp) (Q : Int → hp → Prop) : Prop := gR F (some o) 11 5 (fun x1 => gR F (some o) 11 0 (fun x2 => gI F x2 5 14 (fun x3 => gR F (some o) 11 0 (fun x4 => gR F x4 5 0 (fun x5 => rcv F x5 10 (fun o8 => mX10_toldCars o8 F (fun x7 F6 => rcv F6 x1 1 (fun o11 => mX1_fillRow o11 x3 x7 F6 (fun x10 F9 => (∃ k12, mX11_wantedCode_L33 Q k12 o x10 0 7 0 F9))))))))))
set_option maxHeartbeats 4000000 in
theorem tX11_wantedCode {d : Nat} {o : Nat} {F : hp} {Q : Int → hp → Prop} (h : mX11_wantedCode o F Q) : am nX11_wantedCode (d + 2) 0 0 [vr (some o)] F (qI Q) := by
  refine am_of (by decide +kernel) (Nat.le_of_ble_eq_true rfl) ?_
  show aw nX11_wantedCode (d + 2) 0 0 0 [some (vr (some o)), none, none, none, none] [] F (qI Q)
  unfold mX11_wantedCode at h
  refine aw_aload_n dX11_wantedCode_0 rfl rfl (aw_pc (pc' := 1) rfl ?_)
  refine ar_gR fl_RX11_44 dX11_wantedCode_1 h ?_
  clear h
  intro x1 h
  refine aw_pc (pc' := 4) rfl ?_
  refine aw_aload_n dX11_wantedCode_4 rfl rfl (aw_pc (pc' := 5) rfl ?_)
  refine ar_gR fl_RX11_20 dX11_wantedCode_5 h ?_
  clear h
  intro x2 h
  refine aw_pc (pc' := 8) rfl ?_
  refine ar_gI fl_RX11_237 dX11_wantedCode_8 h ?_
  clear h
  intro x3 h
  refine aw_pc (pc' := 11) rfl ?_
  refine aw_aload_n dX11_wantedCode_11 rfl rfl (aw_pc (pc' := 12) rfl ?_)
  refine ar_gR fl_RX11_20 dX11_wantedCode_12 h ?_
  clear h
  intro x4 h
  refine aw_pc (pc' := 15) rfl ?_
  refine ar_gR fl_RX11_66 dX11_wantedCode_15 h ?_
  clear h
  intro x5 h
  refine aw_pc (pc' := 18) rfl ?_
  have h0 := rcv_inv h
  clear h
  obtain ⟨o8, fs_o8, hr_o8, he_o8, h⟩ := h0
  subst hr_o8
  refine ar_VI (kc' := 0) (ks' := 0) (kc := 0) (ks := 0) (a := o8) (ci := 10) (as := []) (st := [vi x3, vr x1]) (tX10_toldCars h) mt_X10_toldCars rfl qM_RX11_269 qI_X10_toldCars qV_X10_toldCars he_o8 rfl (Nat.le_of_ble_eq_true rfl) dX11_wantedCode_18 ?_
  clear h
  intro x7 F6 h
  refine aw_pc (pc' := 21) rfl ?_
  have h0 := rcv_inv h
  clear h
  obtain ⟨o11, fs_o11, hr_o11, he_o11, h⟩ := h0
  subst hr_o11
  refine ar_VI (kc' := 0) (ks' := 0) (kc := 0) (ks := 0) (a := o11) (ci := 1) (as := [vi x3, vi x7]) (st := []) (tX1_fillRow h) mt_X1_fillRow rfl qM_RX11_272 qI_X1_fillRow qV_X1_fillRow he_o11 rfl (Nat.le_of_ble_eq_true rfl) dX11_wantedCode_21 ?_
  clear h
  intro x10 F9 h
  refine aw_pc (pc' := 24) rfl ?_
  refine aw_istore_n dX11_wantedCode_24 rfl (by decide) (aw_pc (pc' := 25) rfl ?_)
  refine aw_iconst dX11_wantedCode_25 (aw_pc (pc' := 26) rfl ?_)
  refine aw_istore_n dX11_wantedCode_26 rfl (by decide) (aw_pc (pc' := 27) rfl ?_)
  refine aw_bipush dX11_wantedCode_27 (by decide) (aw_pc (pc' := 29) rfl ?_)
  refine aw_istore_n dX11_wantedCode_29 rfl (by decide) (aw_pc (pc' := 30) rfl ?_)
  refine aw_iconst dX11_wantedCode_30 (aw_pc (pc' := 31) rfl ?_)
  refine aw_istore dX11_wantedCode_31 (by decide) (aw_pc (pc' := 33) rfl ?_)
  obtain ⟨k12, h⟩ := h
  exact aw_mask [true, true, true, true, true] (tX11_wantedCode_L33 k12 _ _ _ _ _ _ h)
def mX11_shunts (o : Nat) (a1 : Int) (F : hp) (Q : Int → hp → Prop) : Prop := rcv F (some o) 11 (fun o2 => mX11_exploreFromNow o2 F (fun F1 => gR F1 (some o) 11 4 (fun x3 => rcv F1 (some o) 11 (fun o6 => mX11_wantedCode o6 F1 (fun x5 F4 => rcv F4 x3 4 (fun o9 => mX4_placeOfGoal o9 x5 F4 (fun x8 F7 => (w32 x8 = (-1) → Q (-2) F7) ∧ (¬ w32 x8 = (-1) → gR F7 (some o) 11 4 (fun x10 => rcv F7 x10 4 (fun o13 => mX4_countMovesTo o13 x8 F7 (fun x12 F11 => (w32 a1 = (-1) → Q x12 F11) ∧ (¬ w32 a1 = (-1) → mX11_within a1 0 (x12 - 1) F11 (fun x15 F14 => (w32 x15 = 0 → Q (-2) F14) ∧ (¬ w32 x15 = 0 → gR F14 (some o) 11 4 (fun x16 => rcv F14 x16 4 (fun o19 => mX4_moveOnWayTo o19 x8 ((x12 - 1) - a1) F14 (fun x18 F17 => Q x18 F17)))))))))))))))))
set_option maxHeartbeats 4000000 in
theorem tX11_shunts {d : Nat} {o : Nat} {a1 : Int} {F : hp} {Q : Int → hp → Prop} (h : mX11_shunts o a1 F Q) : am nX11_shunts (d + 4) 0 0 [vr (some o), vi a1] F (qI Q) := by
  refine am_of (by decide +kernel) (Nat.le_of_ble_eq_true rfl) ?_
  show aw nX11_shunts (d + 4) 0 0 0 [some (vr (some o)), some (vi a1), none, none] [] F (qI Q)
  unfold mX11_shunts at h
  refine aw_aload_n dX11_shunts_0 rfl rfl (aw_pc (pc' := 1) rfl ?_)
  have h0 := rcv_inv h
  clear h
  obtain ⟨o2, fs_o2, hr_o2, he_o2, h⟩ := h0
  obtain rfl : o = o2 := Option.some.inj hr_o2
  refine ar_VV (kc' := 0) (ks' := 0) (kc := 0) (ks := 0) (a := o) (ci := 11) (as := []) (st := []) (tX11_exploreFromNow h) mt_X11_exploreFromNow rfl qM_RX11_240 qI_X11_exploreFromNow qV_X11_exploreFromNow he_o2 rfl (Nat.le_of_ble_eq_true rfl) dX11_shunts_1 ?_
  clear h
  intro F1 h
  refine aw_pc (pc' := 4) rfl ?_
  refine aw_aload_n dX11_shunts_4 rfl rfl (aw_pc (pc' := 5) rfl ?_)
  refine ar_gR fl_RX11_37 dX11_shunts_5 h ?_
  clear h
  intro x3 h
  refine aw_pc (pc' := 8) rfl ?_
  refine aw_aload_n dX11_shunts_8 rfl rfl (aw_pc (pc' := 9) rfl ?_)
  have h0 := rcv_inv h
  clear h
  obtain ⟨o6, fs_o6, hr_o6, he_o6, h⟩ := h0
  obtain rfl : o = o6 := Option.some.inj hr_o6
  refine ar_VI (kc' := 0) (ks' := 0) (kc := 0) (ks := 0) (a := o) (ci := 11) (as := []) (st := [vr x3]) (tX11_wantedCode h) mt_X11_wantedCode rfl qM_RX11_243 qI_X11_wantedCode qV_X11_wantedCode he_o6 rfl (Nat.le_of_ble_eq_true rfl) dX11_shunts_9 ?_
  clear h
  intro x5 F4 h
  refine aw_pc (pc' := 12) rfl ?_
  have h0 := rcv_inv h
  clear h
  obtain ⟨o9, fs_o9, hr_o9, he_o9, h⟩ := h0
  subst hr_o9
  refine ar_VI (kc' := 0) (ks' := 0) (kc := 0) (ks := 0) (a := o9) (ci := 4) (as := [vi x5]) (st := []) (tX4_placeOfGoal h) mt_X4_placeOfGoal rfl qM_RX11_246 qI_X4_placeOfGoal qV_X4_placeOfGoal he_o9 rfl (Nat.le_of_ble_eq_true rfl) dX11_shunts_12 ?_
  clear h
  intro x8 F7 h
  refine aw_pc (pc' := 15) rfl ?_
  refine aw_istore_n dX11_shunts_15 rfl (by decide) (aw_pc (pc' := 16) rfl ?_)
  refine aw_iload_n dX11_shunts_16 rfl rfl (aw_pc (pc' := 17) rfl ?_)
  refine aw_iconst dX11_shunts_17 (aw_pc (pc' := 18) rfl ?_)
  refine ac_ne rfl wl_m1 dX11_shunts_18 rfl (fun c => ?_) (fun c => ?_)
  · replace h := h.1 c
    refine aw_bipush dX11_shunts_21 (by decide) (aw_pc (pc' := 23) rfl ?_)
    exact aw_iret rfl dX11_shunts_23 ⟨_, rfl, h⟩
  · replace h := h.2 c
    refine aw_aload_n dX11_shunts_24 rfl rfl (aw_pc (pc' := 25) rfl ?_)
    refine ar_gR fl_RX11_37 dX11_shunts_25 h ?_
    clear h
    intro x10 h
    refine aw_pc (pc' := 28) rfl ?_
    refine aw_iload_n dX11_shunts_28 rfl rfl (aw_pc (pc' := 29) rfl ?_)
    have h0 := rcv_inv h
    clear h
    obtain ⟨o13, fs_o13, hr_o13, he_o13, h⟩ := h0
    subst hr_o13
    refine ar_VI (kc' := 0) (ks' := 0) (kc := 0) (ks := 0) (a := o13) (ci := 4) (as := [vi x8]) (st := []) (tX4_countMovesTo h) mt_X4_countMovesTo rfl qM_RX11_249 qI_X4_countMovesTo qV_X4_countMovesTo he_o13 rfl (Nat.le_of_ble_eq_true rfl) dX11_shunts_29 ?_
    clear h
    intro x12 F11 h
    refine aw_pc (pc' := 32) rfl ?_
    refine aw_istore_n dX11_shunts_32 rfl (by decide) (aw_pc (pc' := 33) rfl ?_)
    refine aw_iload_n dX11_shunts_33 rfl rfl (aw_pc (pc' := 34) rfl ?_)
    refine aw_iconst dX11_shunts_34 (aw_pc (pc' := 35) rfl ?_)
    refine ac_ne rfl wl_m1 dX11_shunts_35 rfl (fun c => ?_) (fun c => ?_)
    · replace h := h.1 c
      refine aw_iload_n dX11_shunts_38 rfl rfl (aw_pc (pc' := 39) rfl ?_)
      exact aw_iret rfl dX11_shunts_39 ⟨_, rfl, h⟩
    · replace h := h.2 c
      refine aw_iload_n dX11_shunts_40 rfl rfl (aw_pc (pc' := 41) rfl ?_)
      refine aw_iconst dX11_shunts_41 (aw_pc (pc' := 42) rfl ?_)
      refine aw_iload_n dX11_shunts_42 rfl rfl (aw_pc (pc' := 43) rfl ?_)
      refine aw_iconst dX11_shunts_43 (aw_pc (pc' := 44) rfl ?_)
      refine aw_isub dX11_shunts_44 (aw_pc (pc' := 45) rfl ?_)
      refine ar_SI (kc' := 0) (ks' := 0) (kc := 0) (ks := 0) (as := [vi a1, vi 0, vi (x12 - 1)]) (st := []) (tX11_within h) mt_X11_within qM_RX11_62 qS_X11_within rfl (Nat.le_of_ble_eq_true rfl) dX11_shunts_45 ?_
      clear h
      intro x15 F14 h
      refine aw_pc (pc' := 48) rfl ?_
      refine aw_if_eq dX11_shunts_48 rfl (fun c => ?_) (fun c => ?_)
      · replace h := h.1 c
        refine aw_bipush dX11_shunts_67 (by decide) (aw_pc (pc' := 69) rfl ?_)
        exact aw_iret rfl dX11_shunts_69 ⟨_, rfl, h⟩
      · replace h := h.2 c
        refine aw_aload_n dX11_shunts_51 rfl rfl (aw_pc (pc' := 52) rfl ?_)
        refine ar_gR fl_RX11_37 dX11_shunts_52 h ?_
        clear h
        intro x16 h
        refine aw_pc (pc' := 55) rfl ?_
        refine aw_iload_n dX11_shunts_55 rfl rfl (aw_pc (pc' := 56) rfl ?_)
        refine aw_iload_n dX11_shunts_56 rfl rfl (aw_pc (pc' := 57) rfl ?_)
        refine aw_iconst dX11_shunts_57 (aw_pc (pc' := 58) rfl ?_)
        refine aw_isub dX11_shunts_58 (aw_pc (pc' := 59) rfl ?_)
        refine aw_iload_n dX11_shunts_59 rfl rfl (aw_pc (pc' := 60) rfl ?_)
        refine aw_isub dX11_shunts_60 (aw_pc (pc' := 61) rfl ?_)
        have h0 := rcv_inv h
        clear h
        obtain ⟨o19, fs_o19, hr_o19, he_o19, h⟩ := h0
        subst hr_o19
        refine ar_VI (kc' := 0) (ks' := 0) (kc := 0) (ks := 0) (a := o19) (ci := 4) (as := [vi x8, vi ((x12 - 1) - a1)]) (st := []) (tX4_moveOnWayTo h) mt_X4_moveOnWayTo rfl qM_RX11_252 qI_X4_moveOnWayTo qV_X4_moveOnWayTo he_o19 rfl (Nat.le_of_ble_eq_true rfl) dX11_shunts_61 ?_
        clear h
        intro x18 F17 h
        refine aw_pc (pc' := 64) rfl ?_
        refine aw_goto (tgt := 69) dX11_shunts_64 rfl ?_
        exact aw_iret rfl dX11_shunts_69 ⟨_, rfl, h⟩
def mX11_reach (o : Nat) (F : hp) (Q : Int → hp → Prop) : Prop := rcv F (some o) 11 (fun o2 => mX11_exploreFromNow o2 F (fun F1 => gR F1 (some o) 11 4 (fun x3 => gI F1 x3 4 5 (fun x4 => Q x4 F1))))
set_option maxHeartbeats 4000000 in
theorem tX11_reach {d : Nat} {o : Nat} {F : hp} {Q : Int → hp → Prop} (h : mX11_reach o F Q) : am nX11_reach (d + 4) 0 0 [vr (some o)] F (qI Q) := by
  refine am_of (by decide +kernel) (Nat.le_of_ble_eq_true rfl) ?_
  show aw nX11_reach (d + 4) 0 0 0 [some (vr (some o))] [] F (qI Q)
  unfold mX11_reach at h
  refine aw_aload_n dX11_reach_0 rfl rfl (aw_pc (pc' := 1) rfl ?_)
  have h0 := rcv_inv h
  clear h
  obtain ⟨o2, fs_o2, hr_o2, he_o2, h⟩ := h0
  obtain rfl : o = o2 := Option.some.inj hr_o2
  refine ar_VV (kc' := 0) (ks' := 0) (kc := 0) (ks := 0) (a := o) (ci := 11) (as := []) (st := []) (tX11_exploreFromNow h) mt_X11_exploreFromNow rfl qM_RX11_240 qI_X11_exploreFromNow qV_X11_exploreFromNow he_o2 rfl (Nat.le_of_ble_eq_true rfl) dX11_reach_1 ?_
  clear h
  intro F1 h
  refine aw_pc (pc' := 4) rfl ?_
  refine aw_aload_n dX11_reach_4 rfl rfl (aw_pc (pc' := 5) rfl ?_)
  refine ar_gR fl_RX11_37 dX11_reach_5 h ?_
  clear h
  intro x3 h
  refine aw_pc (pc' := 8) rfl ?_
  refine ar_gI fl_RX11_255 dX11_reach_8 h ?_
  clear h
  intro x4 h
  refine aw_pc (pc' := 11) rfl ?_
  exact aw_iret rfl dX11_reach_11 ⟨_, rfl, h⟩
def mX11_order (o : Nat) (a1 : Int) (a2 : Int) (F : hp) (Q : Int → hp → Prop) : Prop := mX11_within a1 0 119 F (fun x2 F1 => (w32 x2 = 0 → Q (-2) F1) ∧ (¬ w32 x2 = 0 → gR F1 (some o) 11 5 (fun x3 => gR F1 (some o) 11 0 (fun x4 => gR F1 x4 5 0 (fun x5 => rcv F1 x5 10 (fun o8 => mX10_toldCars o8 F1 (fun x7 F6 => rcv F6 x3 1 (fun o11 => mX1_fillRow o11 a1 x7 F6 (fun x10 F9 => mX11_within a2 0 (x10 - 1) F9 (fun x13 F12 => (w32 x13 = 0 → Q (-2) F12) ∧ (¬ w32 x13 = 0 → gR F12 (some o) 11 5 (fun x14 => gR F12 x14 1 0 (fun x15 => aI F12 x15 0 a2 (fun x16 => Q x16 F12))))))))))))))
set_option maxHeartbeats 4000000 in
theorem tX11_order {d : Nat} {o : Nat} {a1 : Int} {a2 : Int} {F : hp} {Q : Int → hp → Prop} (h : mX11_order o a1 a2 F Q) : am nX11_order (d + 2) 0 0 [vr (some o), vi a1, vi a2] F (qI Q) := by
  refine am_of (by decide +kernel) (Nat.le_of_ble_eq_true rfl) ?_
  show aw nX11_order (d + 2) 0 0 0 [some (vr (some o)), some (vi a1), some (vi a2), none] [] F (qI Q)
  unfold mX11_order at h
  refine aw_iload_n dX11_order_0 rfl rfl (aw_pc (pc' := 1) rfl ?_)
  refine aw_iconst dX11_order_1 (aw_pc (pc' := 2) rfl ?_)
  refine aw_bipush dX11_order_2 (by decide) (aw_pc (pc' := 4) rfl ?_)
  refine ar_SI (kc' := 0) (ks' := 0) (kc := 0) (ks := 0) (as := [vi a1, vi 0, vi 119]) (st := []) (tX11_within h) mt_X11_within qM_RX11_62 qS_X11_within rfl (Nat.le_of_ble_eq_true rfl) dX11_order_4 ?_
  clear h
  intro x2 F1 h
  refine aw_pc (pc' := 7) rfl ?_
  refine aw_if_ne dX11_order_7 rfl (fun c => ?_) (fun c => ?_)
  · replace h := h.1 c
    refine aw_bipush dX11_order_10 (by decide) (aw_pc (pc' := 12) rfl ?_)
    exact aw_iret rfl dX11_order_12 ⟨_, rfl, h⟩
  · replace h := h.2 c
    refine aw_aload_n dX11_order_13 rfl rfl (aw_pc (pc' := 14) rfl ?_)
    refine ar_gR fl_RX11_44 dX11_order_14 h ?_
    clear h
    intro x3 h
    refine aw_pc (pc' := 17) rfl ?_
    refine aw_iload_n dX11_order_17 rfl rfl (aw_pc (pc' := 18) rfl ?_)
    refine aw_aload_n dX11_order_18 rfl rfl (aw_pc (pc' := 19) rfl ?_)
    refine ar_gR fl_RX11_20 dX11_order_19 h ?_
    clear h
    intro x4 h
    refine aw_pc (pc' := 22) rfl ?_
    refine ar_gR fl_RX11_66 dX11_order_22 h ?_
    clear h
    intro x5 h
    refine aw_pc (pc' := 25) rfl ?_
    have h0 := rcv_inv h
    clear h
    obtain ⟨o8, fs_o8, hr_o8, he_o8, h⟩ := h0
    subst hr_o8
    refine ar_VI (kc' := 0) (ks' := 0) (kc := 0) (ks := 0) (a := o8) (ci := 10) (as := []) (st := [vi a1, vr x3]) (tX10_toldCars h) mt_X10_toldCars rfl qM_RX11_269 qI_X10_toldCars qV_X10_toldCars he_o8 rfl (Nat.le_of_ble_eq_true rfl) dX11_order_25 ?_
    clear h
    intro x7 F6 h
    refine aw_pc (pc' := 28) rfl ?_
    have h0 := rcv_inv h
    clear h
    obtain ⟨o11, fs_o11, hr_o11, he_o11, h⟩ := h0
    subst hr_o11
    refine ar_VI (kc' := 0) (ks' := 0) (kc := 0) (ks := 0) (a := o11) (ci := 1) (as := [vi a1, vi x7]) (st := []) (tX1_fillRow h) mt_X1_fillRow rfl qM_RX11_272 qI_X1_fillRow qV_X1_fillRow he_o11 rfl (Nat.le_of_ble_eq_true rfl) dX11_order_28 ?_
    clear h
    intro x10 F9 h
    refine aw_pc (pc' := 31) rfl ?_
    refine aw_istore_n dX11_order_31 rfl (by decide) (aw_pc (pc' := 32) rfl ?_)
    refine aw_iload_n dX11_order_32 rfl rfl (aw_pc (pc' := 33) rfl ?_)
    refine aw_iconst dX11_order_33 (aw_pc (pc' := 34) rfl ?_)
    refine aw_iload_n dX11_order_34 rfl rfl (aw_pc (pc' := 35) rfl ?_)
    refine aw_iconst dX11_order_35 (aw_pc (pc' := 36) rfl ?_)
    refine aw_isub dX11_order_36 (aw_pc (pc' := 37) rfl ?_)
    refine ar_SI (kc' := 0) (ks' := 0) (kc := 0) (ks := 0) (as := [vi a2, vi 0, vi (x10 - 1)]) (st := []) (tX11_within h) mt_X11_within qM_RX11_62 qS_X11_within rfl (Nat.le_of_ble_eq_true rfl) dX11_order_37 ?_
    clear h
    intro x13 F12 h
    refine aw_pc (pc' := 40) rfl ?_
    refine aw_if_eq dX11_order_40 rfl (fun c => ?_) (fun c => ?_)
    · replace h := h.1 c
      refine aw_bipush dX11_order_55 (by decide) (aw_pc (pc' := 57) rfl ?_)
      exact aw_iret rfl dX11_order_57 ⟨_, rfl, h⟩
    · replace h := h.2 c
      refine aw_aload_n dX11_order_43 rfl rfl (aw_pc (pc' := 44) rfl ?_)
      refine ar_gR fl_RX11_44 dX11_order_44 h ?_
      clear h
      intro x14 h
      refine aw_pc (pc' := 47) rfl ?_
      refine ar_gR fl_RX11_275 dX11_order_47 h ?_
      clear h
      intro x15 h
      refine aw_pc (pc' := 50) rfl ?_
      refine aw_iload_n dX11_order_50 rfl rfl (aw_pc (pc' := 51) rfl ?_)
      refine ar_aI dX11_order_51 h ?_
      clear h
      intro x16 h
      refine aw_pc (pc' := 52) rfl ?_
      refine aw_goto (tgt := 57) dX11_order_52 rfl ?_
      exact aw_iret rfl dX11_order_57 ⟨_, rfl, h⟩
def mX11_rows_J64 (X37 : Nat → Int → Int → Int → Int → Int → hp → Prop) (Q : Int → hp → Prop) (o : Nat) (a1 : Int) (a2 : Int) (a3 : Int) (a4 : Int) (a6 : Int) (F : hp) : Prop := X37 o a1 a2 a3 a4 (a6 + 1) F
set_option maxHeartbeats 4000000 in
theorem tX11_rows_J64 {d : Nat} {X37 : Nat → Int → Int → Int → Int → Int → hp → Prop} {Q : Int → hp → Prop} (hX37 : ∀ (o : Nat) (a1 : Int) (a2 : Int) (a3 : Int) (a4 : Int) (a6 : Int) (F : hp), X37 o a1 a2 a3 a4 a6 F → aw nX11_rows (d + 3) 0 0 37 [some (vr (some o)), some (vi a1), some (vi a2), some (vi a3), some (vl a4), none, some (vi a6)] [] F (qL Q)) {o : Nat} {a1 : Int} {a2 : Int} {a3 : Int} {a4 : Int} {a6 : Int} {F : hp} (h : mX11_rows_J64 X37 Q o a1 a2 a3 a4 a6 F) : aw nX11_rows (d + 3) 0 0 64 [some (vr (some o)), some (vi a1), some (vi a2), some (vi a3), some (vl a4), none, some (vi a6)] [] F (qL Q) := by
  unfold mX11_rows_J64 at h
  refine aw_iinc dX11_rows_64 rfl (by decide) (aw_pc (pc' := 67) rfl ?_)
  refine aw_goto (tgt := 37) dX11_rows_67 rfl ?_
  exact aw_mask [true, true, true, true, true, false, true] (hX37 _ _ _ _ _ _ _ h)
def mX11_rows_L37 (Q : Int → hp → Prop) : Nat → Nat → Int → Int → Int → Int → Int → hp → Prop
  | 0, _, _, _, _, _, _, _ => False
  | k + 1, o, a1, a2, a3, a4, a6, F => (w32 a6 < 120 → gR F (some o) 11 5 (fun x1 => rcv F x1 1 (fun o4 => mX1_mayStand o4 a6 a3 a2 F (fun x3 F2 => (w32 x3 = 0 → mX11_rows_J64 (fun o' a1' a2' a3' a4' a6' F' => mX11_rows_L37 Q k o' a1' a2' a3' a4' a6' F') Q o a1 a2 a3 a4 a6 F2) ∧ (¬ w32 x3 = 0 → ∀ v5 : Int, v5 = (a4 + 1) → mX11_rows_J64 (fun o' a1' a2' a3' a4' a6' F' => mX11_rows_L37 Q k o' a1' a2' a3' a4' a6' F') Q o a1 a2 a3 v5 a6 F2))))) ∧ (¬ w32 a6 < 120 → gR F (some o) 11 0 (fun x6 => gR F x6 5 0 (fun x7 => rcv F x7 10 (fun o10 => mX10_countOn o10 a1 F (fun x9 F8 => mX1_countRows x9 F8 (fun x12 F11 => Q ((w64 (a4 * (w32 x12))).tdiv 120) F11))))))
set_option maxHeartbeats 4000000 in
theorem tX11_rows_L37 {d : Nat} {Q : Int → hp → Prop} : ∀ (k : Nat) (o : Nat) (a1 : Int) (a2 : Int) (a3 : Int) (a4 : Int) (a6 : Int) (F : hp), mX11_rows_L37 Q k o a1 a2 a3 a4 a6 F → aw nX11_rows (d + 3) 0 0 37 [some (vr (some o)), some (vi a1), some (vi a2), some (vi a3), some (vl a4), none, some (vi a6)] [] F (qL Q) := by
  intro k
  induction k with
  | zero => intro o a1 a2 a3 a4 a6 F h; exact h.elim
  | succ k ih =>
    intro o a1 a2 a3 a4 a6 F h
    simp only [mX11_rows_L37] at h
    refine aw_iload dX11_rows_37 rfl (aw_pc (pc' := 39) rfl ?_)
    refine aw_bipush dX11_rows_39 (by decide) (aw_pc (pc' := 41) rfl ?_)
    refine ac_ge rfl wl_120 dX11_rows_41 rfl (fun c => ?_) (fun c => ?_)
    · replace h := h.1 c
      refine aw_aload_n dX11_rows_44 rfl rfl (aw_pc (pc' := 45) rfl ?_)
      refine ar_gR fl_RX11_44 dX11_rows_45 h ?_
      clear h
      intro x1 h
      refine aw_pc (pc' := 48) rfl ?_
      refine aw_iload dX11_rows_48 rfl (aw_pc (pc' := 50) rfl ?_)
      refine aw_iload_n dX11_rows_50 rfl rfl (aw_pc (pc' := 51) rfl ?_)
      refine aw_iload_n dX11_rows_51 rfl rfl (aw_pc (pc' := 52) rfl ?_)
      have h0 := rcv_inv h
      clear h
      obtain ⟨o4, fs_o4, hr_o4, he_o4, h⟩ := h0
      subst hr_o4
      refine ar_VI (kc' := 0) (ks' := 0) (kc := 0) (ks := 0) (a := o4) (ci := 1) (as := [vi a6, vi a3, vi a2]) (st := []) (tX1_mayStand h) mt_X1_mayStand rfl qM_RX11_283 qI_X1_mayStand qV_X1_mayStand he_o4 rfl (Nat.le_of_ble_eq_true rfl) dX11_rows_52 ?_
      clear h
      intro x3 F2 h
      refine aw_pc (pc' := 55) rfl ?_
      refine aw_if_eq dX11_rows_55 rfl (fun c => ?_) (fun c => ?_)
      · replace h := h.1 c
        exact aw_mask [true, true, true, true, true, false, true] (tX11_rows_J64 (fun o' a1' a2' a3' a4' a6' F' h' => ih o' a1' a2' a3' a4' a6' F' h') h)
      · replace h := h.2 c
        refine aw_lload dX11_rows_58 rfl (aw_pc (pc' := 60) rfl ?_)
        refine aw_lconst (v := 1) dX11_rows_60 (by decide) (aw_pc (pc' := 61) rfl ?_)
        refine aw_ladd dX11_rows_61 (aw_pc (pc' := 62) rfl ?_)
        generalize hv_v5 : (a4 + 1) = v5
        replace h := h v5 hv_v5.symm
        refine aw_lstore dX11_rows_62 (by decide) (aw_pc (pc' := 64) rfl ?_)
        exact aw_mask [true, true, true, true, true, false, true] (tX11_rows_J64 (fun o' a1' a2' a3' a4' a6' F' h' => ih o' a1' a2' a3' a4' a6' F' h') h)
    · replace h := h.2 c
      refine aw_lload dX11_rows_70 rfl (aw_pc (pc' := 72) rfl ?_)
      refine aw_aload_n dX11_rows_72 rfl rfl (aw_pc (pc' := 73) rfl ?_)
      refine ar_gR fl_RX11_20 dX11_rows_73 h ?_
      clear h
      intro x6 h
      refine aw_pc (pc' := 76) rfl ?_
      refine ar_gR fl_RX11_66 dX11_rows_76 h ?_
      clear h
      intro x7 h
      refine aw_pc (pc' := 79) rfl ?_
      refine aw_iload_n dX11_rows_79 rfl rfl (aw_pc (pc' := 80) rfl ?_)
      have h0 := rcv_inv h
      clear h
      obtain ⟨o10, fs_o10, hr_o10, he_o10, h⟩ := h0
      subst hr_o10
      refine ar_VI (kc' := 0) (ks' := 0) (kc := 0) (ks := 0) (a := o10) (ci := 10) (as := [vi a1]) (st := [vl a4]) (tX10_countOn h) mt_X10_countOn rfl qM_RX11_191 qI_X10_countOn qV_X10_countOn he_o10 rfl (Nat.le_of_ble_eq_true rfl) dX11_rows_80 ?_
      clear h
      intro x9 F8 h
      refine aw_pc (pc' := 83) rfl ?_
      refine ar_SI (kc' := 0) (ks' := 0) (kc := 0) (ks := 0) (as := [vi x9]) (st := [vl a4]) (tX1_countRows h) mt_X1_countRows qM_RX11_286 qS_X1_countRows rfl (Nat.le_of_ble_eq_true rfl) dX11_rows_83 ?_
      clear h
      intro x12 F11 h
      refine aw_pc (pc' := 86) rfl ?_
      refine aw_i2l dX11_rows_86 (aw_pc (pc' := 87) rfl ?_)
      refine aw_lmul dX11_rows_87 (aw_pc (pc' := 88) rfl ?_)
      refine aw_ldc2 (n := 120) dX11_rows_88 qK_RX11_289 (aw_pc (pc' := 91) rfl ?_)
      refine ac_ldiv wk_120 (by decide) dX11_rows_91 (aw_pc (pc' := 92) rfl ?_)
      exact aw_lret rfl dX11_rows_92 ⟨_, rfl, h⟩
def mX11_rows (o : Nat) (a1 : Int) (F : hp) (Q : Int → hp → Prop) : Prop := mX11_isTrack a1 F (fun x2 F1 => (w32 x2 = 0 → Q (-1) F1) ∧ (¬ w32 x2 = 0 → gR F1 (some o) 11 0 (fun x3 => rcv F1 x3 5 (fun o6 => mX5_pairsThatMay o6 F1 (fun x5 F4 => gR F4 (some o) 11 0 (fun x7 => gR F4 x7 5 0 (fun x8 => rcv F4 x8 10 (fun o11 => mX10_carsOn o11 a1 F4 (fun x10 F9 => (∃ k12, mX11_rows_L37 Q k12 o a1 x5 x10 0 0 F9))))))))))
set_option maxHeartbeats 4000000 in
theorem tX11_rows {d : Nat} {o : Nat} {a1 : Int} {F : hp} {Q : Int → hp → Prop} (h : mX11_rows o a1 F Q) : am nX11_rows (d + 3) 0 0 [vr (some o), vi a1] F (qL Q) := by
  refine am_of (by decide +kernel) (Nat.le_of_ble_eq_true rfl) ?_
  show aw nX11_rows (d + 3) 0 0 0 [some (vr (some o)), some (vi a1), none, none, none, none, none] [] F (qL Q)
  unfold mX11_rows at h
  refine aw_iload_n dX11_rows_0 rfl rfl (aw_pc (pc' := 1) rfl ?_)
  refine ar_SI (kc' := 0) (ks' := 0) (kc := 0) (ks := 0) (as := [vi a1]) (st := []) (tX11_isTrack h) mt_X11_isTrack qM_RX11_123 qS_X11_isTrack rfl (Nat.le_of_ble_eq_true rfl) dX11_rows_1 ?_
  clear h
  intro x2 F1 h
  refine aw_pc (pc' := 4) rfl ?_
  refine aw_if_ne dX11_rows_4 rfl (fun c => ?_) (fun c => ?_)
  · replace h := h.1 c
    refine aw_ldc2 (n := (-1)) dX11_rows_7 qK_RX11_278 (aw_pc (pc' := 10) rfl ?_)
    exact aw_lret rfl dX11_rows_10 ⟨_, rfl, h⟩
  · replace h := h.2 c
    refine aw_aload_n dX11_rows_11 rfl rfl (aw_pc (pc' := 12) rfl ?_)
    refine ar_gR fl_RX11_20 dX11_rows_12 h ?_
    clear h
    intro x3 h
    refine aw_pc (pc' := 15) rfl ?_
    have h0 := rcv_inv h
    clear h
    obtain ⟨o6, fs_o6, hr_o6, he_o6, h⟩ := h0
    subst hr_o6
    refine ar_VI (kc' := 0) (ks' := 0) (kc := 0) (ks := 0) (a := o6) (ci := 5) (as := []) (st := []) (tX5_pairsThatMay h) mt_X5_pairsThatMay rfl qM_RX11_262 qI_X5_pairsThatMay qV_X5_pairsThatMay he_o6 rfl (Nat.le_of_ble_eq_true rfl) dX11_rows_15 ?_
    clear h
    intro x5 F4 h
    refine aw_pc (pc' := 18) rfl ?_
    refine aw_istore_n dX11_rows_18 rfl (by decide) (aw_pc (pc' := 19) rfl ?_)
    refine aw_aload_n dX11_rows_19 rfl rfl (aw_pc (pc' := 20) rfl ?_)
    refine ar_gR fl_RX11_20 dX11_rows_20 h ?_
    clear h
    intro x7 h
    refine aw_pc (pc' := 23) rfl ?_
    refine ar_gR fl_RX11_66 dX11_rows_23 h ?_
    clear h
    intro x8 h
    refine aw_pc (pc' := 26) rfl ?_
    refine aw_iload_n dX11_rows_26 rfl rfl (aw_pc (pc' := 27) rfl ?_)
    have h0 := rcv_inv h
    clear h
    obtain ⟨o11, fs_o11, hr_o11, he_o11, h⟩ := h0
    subst hr_o11
    refine ar_VI (kc' := 0) (ks' := 0) (kc := 0) (ks := 0) (a := o11) (ci := 10) (as := [vi a1]) (st := []) (tX10_carsOn h) mt_X10_carsOn rfl qM_RX11_280 qI_X10_carsOn qV_X10_carsOn he_o11 rfl (Nat.le_of_ble_eq_true rfl) dX11_rows_27 ?_
    clear h
    intro x10 F9 h
    refine aw_pc (pc' := 30) rfl ?_
    refine aw_istore_n dX11_rows_30 rfl (by decide) (aw_pc (pc' := 31) rfl ?_)
    refine aw_lconst (v := 0) dX11_rows_31 (by decide) (aw_pc (pc' := 32) rfl ?_)
    refine aw_lstore dX11_rows_32 (by decide) (aw_pc (pc' := 34) rfl ?_)
    refine aw_iconst dX11_rows_34 (aw_pc (pc' := 35) rfl ?_)
    refine aw_istore dX11_rows_35 (by decide) (aw_pc (pc' := 37) rfl ?_)
    obtain ⟨k12, h⟩ := h
    exact aw_mask [true, true, true, true, true, false, true] (tX11_rows_L37 k12 _ _ _ _ _ _ _ h)
def mX11_lowest_L55 (Q : Int → hp → Prop) : Nat → Nat → Int → Int → Int → Int → hp → Prop
  | 0, _, _, _, _, _, _ => False
  | k + 1, o, a2, a3, a4, a5, F => (w32 a5 < 120 → gR F (some o) 11 5 (fun x1 => rcv F x1 1 (fun o4 => mX1_mayStand o4 a5 a4 a3 F (fun x3 F2 => (w32 x3 = 0 → mX11_lowest_L55 Q k o a2 a3 a4 (a5 + 1) F2) ∧ (¬ w32 x3 = 0 → gR F2 (some o) 11 5 (fun x5 => gR F2 x5 1 0 (fun x6 => aI F2 x6 0 a2 (fun x7 => Q x7 F2)))))))) ∧ (¬ w32 a5 < 120 → Q (-2) F)
set_option maxHeartbeats 4000000 in
theorem tX11_lowest_L55 {d : Nat} {Q : Int → hp → Prop} : ∀ (k : Nat) (o : Nat) (a2 : Int) (a3 : Int) (a4 : Int) (a5 : Int) (F : hp), mX11_lowest_L55 Q k o a2 a3 a4 a5 F → aw nX11_lowest (d + 3) 0 0 55 [some (vr (some o)), none, some (vi a2), some (vi a3), some (vi a4), some (vi a5)] [] F (qI Q) := by
  intro k
  induction k with
  | zero => intro o a2 a3 a4 a5 F h; exact h.elim
  | succ k ih =>
    intro o a2 a3 a4 a5 F h
    simp only [mX11_lowest_L55] at h
    refine aw_iload dX11_lowest_55 rfl (aw_pc (pc' := 57) rfl ?_)
    refine aw_bipush dX11_lowest_57 (by decide) (aw_pc (pc' := 59) rfl ?_)
    refine ac_ge rfl wl_120 dX11_lowest_59 rfl (fun c => ?_) (fun c => ?_)
    · replace h := h.1 c
      refine aw_aload_n dX11_lowest_62 rfl rfl (aw_pc (pc' := 63) rfl ?_)
      refine ar_gR fl_RX11_44 dX11_lowest_63 h ?_
      clear h
      intro x1 h
      refine aw_pc (pc' := 66) rfl ?_
      refine aw_iload dX11_lowest_66 rfl (aw_pc (pc' := 68) rfl ?_)
      refine aw_iload dX11_lowest_68 rfl (aw_pc (pc' := 70) rfl ?_)
      refine aw_iload_n dX11_lowest_70 rfl rfl (aw_pc (pc' := 71) rfl ?_)
      have h0 := rcv_inv h
      clear h
      obtain ⟨o4, fs_o4, hr_o4, he_o4, h⟩ := h0
      subst hr_o4
      refine ar_VI (kc' := 0) (ks' := 0) (kc := 0) (ks := 0) (a := o4) (ci := 1) (as := [vi a5, vi a4, vi a3]) (st := []) (tX1_mayStand h) mt_X1_mayStand rfl qM_RX11_283 qI_X1_mayStand qV_X1_mayStand he_o4 rfl (Nat.le_of_ble_eq_true rfl) dX11_lowest_71 ?_
      clear h
      intro x3 F2 h
      refine aw_pc (pc' := 74) rfl ?_
      refine aw_if_eq dX11_lowest_74 rfl (fun c => ?_) (fun c => ?_)
      · replace h := h.1 c
        refine aw_iinc dX11_lowest_87 rfl (by decide) (aw_pc (pc' := 90) rfl ?_)
        refine aw_goto (tgt := 55) dX11_lowest_90 rfl ?_
        exact aw_mask [true, false, true, true, true, true] (ih _ _ _ _ _ _ h)
      · replace h := h.2 c
        refine aw_aload_n dX11_lowest_77 rfl rfl (aw_pc (pc' := 78) rfl ?_)
        refine ar_gR fl_RX11_44 dX11_lowest_78 h ?_
        clear h
        intro x5 h
        refine aw_pc (pc' := 81) rfl ?_
        refine ar_gR fl_RX11_275 dX11_lowest_81 h ?_
        clear h
        intro x6 h
        refine aw_pc (pc' := 84) rfl ?_
        refine aw_iload_n dX11_lowest_84 rfl rfl (aw_pc (pc' := 85) rfl ?_)
        refine ar_aI dX11_lowest_85 h ?_
        clear h
        intro x7 h
        refine aw_pc (pc' := 86) rfl ?_
        exact aw_iret rfl dX11_lowest_86 ⟨_, rfl, h⟩
    · replace h := h.2 c
      refine aw_bipush dX11_lowest_93 (by decide) (aw_pc (pc' := 95) rfl ?_)
      exact aw_iret rfl dX11_lowest_95 ⟨_, rfl, h⟩
def mX11_lowest (o : Nat) (a1 : Int) (a2 : Int) (F : hp) (Q : Int → hp → Prop) : Prop := mX11_isTrack a1 F (fun x2 F1 => (w32 x2 = 0 → Q (-2) F1) ∧ (¬ w32 x2 = 0 → gR F1 (some o) 11 0 (fun x3 => gR F1 x3 5 0 (fun x4 => rcv F1 x4 10 (fun o7 => mX10_countOn o7 a1 F1 (fun x6 F5 => mX11_within a2 0 (x6 - 1) F5 (fun x9 F8 => (w32 x9 = 0 → Q (-2) F8) ∧ (¬ w32 x9 = 0 → gR F8 (some o) 11 0 (fun x10 => rcv F8 x10 5 (fun o13 => mX5_pairsThatMay o13 F8 (fun x12 F11 => gR F11 (some o) 11 0 (fun x14 => gR F11 x14 5 0 (fun x15 => rcv F11 x15 10 (fun o18 => mX10_carsOn o18 a1 F11 (fun x17 F16 => (∃ k19, mX11_lowest_L55 Q k19 o a2 x12 x17 0 F16))))))))))))))))
set_option maxHeartbeats 4000000 in
theorem tX11_lowest {d : Nat} {o : Nat} {a1 : Int} {a2 : Int} {F : hp} {Q : Int → hp → Prop} (h : mX11_lowest o a1 a2 F Q) : am nX11_lowest (d + 3) 0 0 [vr (some o), vi a1, vi a2] F (qI Q) := by
  refine am_of (by decide +kernel) (Nat.le_of_ble_eq_true rfl) ?_
  show aw nX11_lowest (d + 3) 0 0 0 [some (vr (some o)), some (vi a1), some (vi a2), none, none, none] [] F (qI Q)
  unfold mX11_lowest at h
  refine aw_iload_n dX11_lowest_0 rfl rfl (aw_pc (pc' := 1) rfl ?_)
  refine ar_SI (kc' := 0) (ks' := 0) (kc := 0) (ks := 0) (as := [vi a1]) (st := []) (tX11_isTrack h) mt_X11_isTrack qM_RX11_123 qS_X11_isTrack rfl (Nat.le_of_ble_eq_true rfl) dX11_lowest_1 ?_
  clear h
  intro x2 F1 h
  refine aw_pc (pc' := 4) rfl ?_
  refine aw_if_eq dX11_lowest_4 rfl (fun c => ?_) (fun c => ?_)
  · replace h := h.1 c
    refine aw_bipush dX11_lowest_28 (by decide) (aw_pc (pc' := 30) rfl ?_)
    exact aw_iret rfl dX11_lowest_30 ⟨_, rfl, h⟩
  · replace h := h.2 c
    refine aw_iload_n dX11_lowest_7 rfl rfl (aw_pc (pc' := 8) rfl ?_)
    refine aw_iconst dX11_lowest_8 (aw_pc (pc' := 9) rfl ?_)
    refine aw_aload_n dX11_lowest_9 rfl rfl (aw_pc (pc' := 10) rfl ?_)
    refine ar_gR fl_RX11_20 dX11_lowest_10 h ?_
    clear h
    intro x3 h
    refine aw_pc (pc' := 13) rfl ?_
    refine ar_gR fl_RX11_66 dX11_lowest_13 h ?_
    clear h
    intro x4 h
    refine aw_pc (pc' := 16) rfl ?_
    refine aw_iload_n dX11_lowest_16 rfl rfl (aw_pc (pc' := 17) rfl ?_)
    have h0 := rcv_inv h
    clear h
    obtain ⟨o7, fs_o7, hr_o7, he_o7, h⟩ := h0
    subst hr_o7
    refine ar_VI (kc' := 0) (ks' := 0) (kc := 0) (ks := 0) (a := o7) (ci := 10) (as := [vi a1]) (st := [vi 0, vi a2]) (tX10_countOn h) mt_X10_countOn rfl qM_RX11_191 qI_X10_countOn qV_X10_countOn he_o7 rfl (Nat.le_of_ble_eq_true rfl) dX11_lowest_17 ?_
    clear h
    intro x6 F5 h
    refine aw_pc (pc' := 20) rfl ?_
    refine aw_iconst dX11_lowest_20 (aw_pc (pc' := 21) rfl ?_)
    refine aw_isub dX11_lowest_21 (aw_pc (pc' := 22) rfl ?_)
    refine ar_SI (kc' := 0) (ks' := 0) (kc := 0) (ks := 0) (as := [vi a2, vi 0, vi (x6 - 1)]) (st := []) (tX11_within h) mt_X11_within qM_RX11_62 qS_X11_within rfl (Nat.le_of_ble_eq_true rfl) dX11_lowest_22 ?_
    clear h
    intro x9 F8 h
    refine aw_pc (pc' := 25) rfl ?_
    refine aw_if_ne dX11_lowest_25 rfl (fun c => ?_) (fun c => ?_)
    · replace h := h.1 c
      refine aw_bipush dX11_lowest_28 (by decide) (aw_pc (pc' := 30) rfl ?_)
      exact aw_iret rfl dX11_lowest_30 ⟨_, rfl, h⟩
    · replace h := h.2 c
      refine aw_aload_n dX11_lowest_31 rfl rfl (aw_pc (pc' := 32) rfl ?_)
      refine ar_gR fl_RX11_20 dX11_lowest_32 h ?_
      clear h
      intro x10 h
      refine aw_pc (pc' := 35) rfl ?_
      have h0 := rcv_inv h
      clear h
      obtain ⟨o13, fs_o13, hr_o13, he_o13, h⟩ := h0
      subst hr_o13
      refine ar_VI (kc' := 0) (ks' := 0) (kc := 0) (ks := 0) (a := o13) (ci := 5) (as := []) (st := []) (tX5_pairsThatMay h) mt_X5_pairsThatMay rfl qM_RX11_262 qI_X5_pairsThatMay qV_X5_pairsThatMay he_o13 rfl (Nat.le_of_ble_eq_true rfl) dX11_lowest_35 ?_
      clear h
      intro x12 F11 h
      refine aw_pc (pc' := 38) rfl ?_
      refine aw_istore_n dX11_lowest_38 rfl (by decide) (aw_pc (pc' := 39) rfl ?_)
      refine aw_aload_n dX11_lowest_39 rfl rfl (aw_pc (pc' := 40) rfl ?_)
      refine ar_gR fl_RX11_20 dX11_lowest_40 h ?_
      clear h
      intro x14 h
      refine aw_pc (pc' := 43) rfl ?_
      refine ar_gR fl_RX11_66 dX11_lowest_43 h ?_
      clear h
      intro x15 h
      refine aw_pc (pc' := 46) rfl ?_
      refine aw_iload_n dX11_lowest_46 rfl rfl (aw_pc (pc' := 47) rfl ?_)
      have h0 := rcv_inv h
      clear h
      obtain ⟨o18, fs_o18, hr_o18, he_o18, h⟩ := h0
      subst hr_o18
      refine ar_VI (kc' := 0) (ks' := 0) (kc := 0) (ks := 0) (a := o18) (ci := 10) (as := [vi a1]) (st := []) (tX10_carsOn h) mt_X10_carsOn rfl qM_RX11_280 qI_X10_carsOn qV_X10_carsOn he_o18 rfl (Nat.le_of_ble_eq_true rfl) dX11_lowest_47 ?_
      clear h
      intro x17 F16 h
      refine aw_pc (pc' := 50) rfl ?_
      refine aw_istore dX11_lowest_50 (by decide) (aw_pc (pc' := 52) rfl ?_)
      refine aw_iconst dX11_lowest_52 (aw_pc (pc' := 53) rfl ?_)
      refine aw_istore dX11_lowest_53 (by decide) (aw_pc (pc' := 55) rfl ?_)
      obtain ⟨k19, h⟩ := h
      exact aw_mask [true, false, true, true, true, true] (tX11_lowest_L55 k19 _ _ _ _ _ _ h)
def mX11_fastestOrder_J48 (X17 : Nat → Int → Int → Int → hp → Prop) (Q : Int → hp → Prop) (o : Nat) (a1 : Int) (a2 : Int) (a3 : Int) (F : hp) : Prop := X17 o a1 a2 (a3 + 1) F
set_option maxHeartbeats 4000000 in
theorem tX11_fastestOrder_J48 {d : Nat} {X17 : Nat → Int → Int → Int → hp → Prop} {Q : Int → hp → Prop} (hX17 : ∀ (o : Nat) (a1 : Int) (a2 : Int) (a3 : Int) (F : hp), X17 o a1 a2 a3 F → aw nX11_fastestOrder (d + 3) 0 0 17 [some (vr (some o)), some (vi a1), some (vi a2), some (vi a3), none] [] F (qI Q)) {o : Nat} {a1 : Int} {a2 : Int} {a3 : Int} {F : hp} (h : mX11_fastestOrder_J48 X17 Q o a1 a2 a3 F) : aw nX11_fastestOrder (d + 3) 0 0 48 [some (vr (some o)), some (vi a1), some (vi a2), some (vi a3), none] [] F (qI Q) := by
  unfold mX11_fastestOrder_J48 at h
  refine aw_iinc dX11_fastestOrder_48 rfl (by decide) (aw_pc (pc' := 51) rfl ?_)
  refine aw_goto (tgt := 17) dX11_fastestOrder_51 rfl ?_
  exact aw_mask [true, true, true, true, false] (hX17 _ _ _ _ _ h)
def mX11_fastestOrder_L17 (Q : Int → hp → Prop) : Nat → Nat → Int → Int → Int → hp → Prop
  | 0, _, _, _, _, _ => False
  | k + 1, o, a1, a2, a3, F => (w32 a3 < 120 → gR F (some o) 11 5 (fun x1 => gR F (some o) 11 0 (fun x2 => rcv F x1 1 (fun o5 => mX1_timeOf o5 a3 x2 F (fun x4 F3 => (w32 x4 < w32 a2 → mX11_fastestOrder_J48 (fun o' a1' a2' a3' F' => mX11_fastestOrder_L17 Q k o' a1' a2' a3' F') Q o a3 x4 a3 F3) ∧ (¬ w32 x4 < w32 a2 → mX11_fastestOrder_J48 (fun o' a1' a2' a3' F' => mX11_fastestOrder_L17 Q k o' a1' a2' a3' F') Q o a1 a2 a3 F3)))))) ∧ (¬ w32 a3 < 120 → Q a1 F)
set_option maxHeartbeats 4000000 in
theorem tX11_fastestOrder_L17 {d : Nat} {Q : Int → hp → Prop} : ∀ (k : Nat) (o : Nat) (a1 : Int) (a2 : Int) (a3 : Int) (F : hp), mX11_fastestOrder_L17 Q k o a1 a2 a3 F → aw nX11_fastestOrder (d + 3) 0 0 17 [some (vr (some o)), some (vi a1), some (vi a2), some (vi a3), none] [] F (qI Q) := by
  intro k
  induction k with
  | zero => intro o a1 a2 a3 F h; exact h.elim
  | succ k ih =>
    intro o a1 a2 a3 F h
    simp only [mX11_fastestOrder_L17] at h
    refine aw_iload_n dX11_fastestOrder_17 rfl rfl (aw_pc (pc' := 18) rfl ?_)
    refine aw_bipush dX11_fastestOrder_18 (by decide) (aw_pc (pc' := 20) rfl ?_)
    refine ac_ge rfl wl_120 dX11_fastestOrder_20 rfl (fun c => ?_) (fun c => ?_)
    · replace h := h.1 c
      refine aw_aload_n dX11_fastestOrder_23 rfl rfl (aw_pc (pc' := 24) rfl ?_)
      refine ar_gR fl_RX11_44 dX11_fastestOrder_24 h ?_
      clear h
      intro x1 h
      refine aw_pc (pc' := 27) rfl ?_
      refine aw_iload_n dX11_fastestOrder_27 rfl rfl (aw_pc (pc' := 28) rfl ?_)
      refine aw_aload_n dX11_fastestOrder_28 rfl rfl (aw_pc (pc' := 29) rfl ?_)
      refine ar_gR fl_RX11_20 dX11_fastestOrder_29 h ?_
      clear h
      intro x2 h
      refine aw_pc (pc' := 32) rfl ?_
      have h0 := rcv_inv h
      clear h
      obtain ⟨o5, fs_o5, hr_o5, he_o5, h⟩ := h0
      subst hr_o5
      refine ar_VI (kc' := 0) (ks' := 0) (kc := 0) (ks := 0) (a := o5) (ci := 1) (as := [vi a3, vr x2]) (st := []) (tX1_timeOf h) mt_X1_timeOf rfl qM_RX11_294 qI_X1_timeOf qV_X1_timeOf he_o5 rfl (Nat.le_of_ble_eq_true rfl) dX11_fastestOrder_32 ?_
      clear h
      intro x4 F3 h
      refine aw_pc (pc' := 35) rfl ?_
      refine aw_istore dX11_fastestOrder_35 (by decide) (aw_pc (pc' := 37) rfl ?_)
      refine aw_iload dX11_fastestOrder_37 rfl (aw_pc (pc' := 39) rfl ?_)
      refine aw_iload_n dX11_fastestOrder_39 rfl rfl (aw_pc (pc' := 40) rfl ?_)
      refine ac_ge rfl rfl dX11_fastestOrder_40 rfl (fun c => ?_) (fun c => ?_)
      · replace h := h.1 c
        refine aw_iload dX11_fastestOrder_43 rfl (aw_pc (pc' := 45) rfl ?_)
        refine aw_istore_n dX11_fastestOrder_45 rfl (by decide) (aw_pc (pc' := 46) rfl ?_)
        refine aw_iload_n dX11_fastestOrder_46 rfl rfl (aw_pc (pc' := 47) rfl ?_)
        refine aw_istore_n dX11_fastestOrder_47 rfl (by decide) (aw_pc (pc' := 48) rfl ?_)
        exact aw_mask [true, true, true, true, false] (tX11_fastestOrder_J48 (fun o' a1' a2' a3' F' h' => ih o' a1' a2' a3' F' h') h)
      · replace h := h.2 c
        exact aw_mask [true, true, true, true, false] (tX11_fastestOrder_J48 (fun o' a1' a2' a3' F' h' => ih o' a1' a2' a3' F' h') h)
    · replace h := h.2 c
      refine aw_iload_n dX11_fastestOrder_54 rfl rfl (aw_pc (pc' := 55) rfl ?_)
      exact aw_iret rfl dX11_fastestOrder_55 ⟨_, rfl, h⟩
def mX11_fastestOrder (o : Nat) (F : hp) (Q : Int → hp → Prop) : Prop := gR F (some o) 11 5 (fun x1 => gR F (some o) 11 0 (fun x2 => rcv F x1 1 (fun o5 => mX1_timeOf o5 0 x2 F (fun x4 F3 => (∃ k6, mX11_fastestOrder_L17 Q k6 o 0 x4 1 F3)))))
set_option maxHeartbeats 4000000 in
theorem tX11_fastestOrder {d : Nat} {o : Nat} {F : hp} {Q : Int → hp → Prop} (h : mX11_fastestOrder o F Q) : am nX11_fastestOrder (d + 3) 0 0 [vr (some o)] F (qI Q) := by
  refine am_of (by decide +kernel) (Nat.le_of_ble_eq_true rfl) ?_
  show aw nX11_fastestOrder (d + 3) 0 0 0 [some (vr (some o)), none, none, none, none] [] F (qI Q)
  unfold mX11_fastestOrder at h
  refine aw_iconst dX11_fastestOrder_0 (aw_pc (pc' := 1) rfl ?_)
  refine aw_istore_n dX11_fastestOrder_1 rfl (by decide) (aw_pc (pc' := 2) rfl ?_)
  refine aw_aload_n dX11_fastestOrder_2 rfl rfl (aw_pc (pc' := 3) rfl ?_)
  refine ar_gR fl_RX11_44 dX11_fastestOrder_3 h ?_
  clear h
  intro x1 h
  refine aw_pc (pc' := 6) rfl ?_
  refine aw_iconst dX11_fastestOrder_6 (aw_pc (pc' := 7) rfl ?_)
  refine aw_aload_n dX11_fastestOrder_7 rfl rfl (aw_pc (pc' := 8) rfl ?_)
  refine ar_gR fl_RX11_20 dX11_fastestOrder_8 h ?_
  clear h
  intro x2 h
  refine aw_pc (pc' := 11) rfl ?_
  have h0 := rcv_inv h
  clear h
  obtain ⟨o5, fs_o5, hr_o5, he_o5, h⟩ := h0
  subst hr_o5
  refine ar_VI (kc' := 0) (ks' := 0) (kc := 0) (ks := 0) (a := o5) (ci := 1) (as := [vi 0, vr x2]) (st := []) (tX1_timeOf h) mt_X1_timeOf rfl qM_RX11_294 qI_X1_timeOf qV_X1_timeOf he_o5 rfl (Nat.le_of_ble_eq_true rfl) dX11_fastestOrder_11 ?_
  clear h
  intro x4 F3 h
  refine aw_pc (pc' := 14) rfl ?_
  refine aw_istore_n dX11_fastestOrder_14 rfl (by decide) (aw_pc (pc' := 15) rfl ?_)
  refine aw_iconst dX11_fastestOrder_15 (aw_pc (pc' := 16) rfl ?_)
  refine aw_istore_n dX11_fastestOrder_16 rfl (by decide) (aw_pc (pc' := 17) rfl ?_)
  obtain ⟨k6, h⟩ := h
  exact aw_mask [true, true, true, true, false] (tX11_fastestOrder_L17 k6 _ _ _ _ _ h)
def mX11_crane (o : Nat) (a1 : Int) (F : hp) (Q : Int → hp → Prop) : Prop := rcv F (some o) 11 (fun o3 => mX11_fastestOrder o3 F (fun x2 F1 => (w32 a1 = 0 → Q x2 F1) ∧ (¬ w32 a1 = 0 → gR F1 (some o) 11 5 (fun x4 => gR F1 (some o) 11 0 (fun x5 => rcv F1 x4 1 (fun o8 => mX1_timeOf o8 x2 x5 F1 (fun x7 F6 => Q x7 F6)))))))
set_option maxHeartbeats 4000000 in
theorem tX11_crane {d : Nat} {o : Nat} {a1 : Int} {F : hp} {Q : Int → hp → Prop} (h : mX11_crane o a1 F Q) : am nX11_crane (d + 4) 0 0 [vr (some o), vi a1] F (qI Q) := by
  refine am_of (by decide +kernel) (Nat.le_of_ble_eq_true rfl) ?_
  show aw nX11_crane (d + 4) 0 0 0 [some (vr (some o)), some (vi a1), none] [] F (qI Q)
  unfold mX11_crane at h
  refine aw_aload_n dX11_crane_0 rfl rfl (aw_pc (pc' := 1) rfl ?_)
  have h0 := rcv_inv h
  clear h
  obtain ⟨o3, fs_o3, hr_o3, he_o3, h⟩ := h0
  obtain rfl : o = o3 := Option.some.inj hr_o3
  refine ar_VI (kc' := 0) (ks' := 0) (kc := 0) (ks := 0) (a := o) (ci := 11) (as := []) (st := []) (tX11_fastestOrder h) mt_X11_fastestOrder rfl qM_RX11_291 qI_X11_fastestOrder qV_X11_fastestOrder he_o3 rfl (Nat.le_of_ble_eq_true rfl) dX11_crane_1 ?_
  clear h
  intro x2 F1 h
  refine aw_pc (pc' := 4) rfl ?_
  refine aw_istore_n dX11_crane_4 rfl (by decide) (aw_pc (pc' := 5) rfl ?_)
  refine aw_iload_n dX11_crane_5 rfl rfl (aw_pc (pc' := 6) rfl ?_)
  refine aw_if_eq dX11_crane_6 rfl (fun c => ?_) (fun c => ?_)
  · replace h := h.1 c
    refine aw_iload_n dX11_crane_24 rfl rfl (aw_pc (pc' := 25) rfl ?_)
    exact aw_iret rfl dX11_crane_25 ⟨_, rfl, h⟩
  · replace h := h.2 c
    refine aw_aload_n dX11_crane_9 rfl rfl (aw_pc (pc' := 10) rfl ?_)
    refine ar_gR fl_RX11_44 dX11_crane_10 h ?_
    clear h
    intro x4 h
    refine aw_pc (pc' := 13) rfl ?_
    refine aw_iload_n dX11_crane_13 rfl rfl (aw_pc (pc' := 14) rfl ?_)
    refine aw_aload_n dX11_crane_14 rfl rfl (aw_pc (pc' := 15) rfl ?_)
    refine ar_gR fl_RX11_20 dX11_crane_15 h ?_
    clear h
    intro x5 h
    refine aw_pc (pc' := 18) rfl ?_
    have h0 := rcv_inv h
    clear h
    obtain ⟨o8, fs_o8, hr_o8, he_o8, h⟩ := h0
    subst hr_o8
    refine ar_VI (kc' := 0) (ks' := 0) (kc := 0) (ks := 0) (a := o8) (ci := 1) (as := [vi x2, vr x5]) (st := []) (tX1_timeOf h) mt_X1_timeOf rfl qM_RX11_294 qI_X1_timeOf qV_X1_timeOf he_o8 rfl (Nat.le_of_ble_eq_true rfl) dX11_crane_18 ?_
    clear h
    intro x7 F6 h
    refine aw_pc (pc' := 21) rfl ?_
    refine aw_goto (tgt := 25) dX11_crane_21 rfl ?_
    exact aw_iret rfl dX11_crane_25 ⟨_, rfl, h⟩
def mX11_idle_L20 (Q : Int → hp → Prop) : Nat → Nat → Int → Int → Int → hp → Prop
  | 0, _, _, _, _, _ => False
  | k + 1, o, a1, a2, a3, F => gR F (some o) 11 0 (fun x1 => gR F x1 5 0 (fun x2 => rcv F x2 10 (fun o5 => mX10_countCars o5 F (fun x4 F3 => (w32 a3 < w32 x4 → gR F3 (some o) 11 0 (fun x6 => gR F3 x6 5 5 (fun x7 => aI F3 x7 0 a3 (fun x8 => ∀ v9 : Int, v9 = (a2 + x8) → mX11_idle_L20 Q k o a1 v9 (a3 + 1) F3)))) ∧ (¬ w32 a3 < w32 x4 → Q (a1 - a2) F3)))))
set_option maxHeartbeats 4000000 in
theorem tX11_idle_L20 {d : Nat} {Q : Int → hp → Prop} : ∀ (k : Nat) (o : Nat) (a1 : Int) (a2 : Int) (a3 : Int) (F : hp), mX11_idle_L20 Q k o a1 a2 a3 F → aw nX11_idle (d + 4) 0 0 20 [some (vr (some o)), some (vi a1), some (vi a2), some (vi a3)] [] F (qI Q) := by
  intro k
  induction k with
  | zero => intro o a1 a2 a3 F h; exact h.elim
  | succ k ih =>
    intro o a1 a2 a3 F h
    simp only [mX11_idle_L20] at h
    refine aw_iload_n dX11_idle_20 rfl rfl (aw_pc (pc' := 21) rfl ?_)
    refine aw_aload_n dX11_idle_21 rfl rfl (aw_pc (pc' := 22) rfl ?_)
    refine ar_gR fl_RX11_20 dX11_idle_22 h ?_
    clear h
    intro x1 h
    refine aw_pc (pc' := 25) rfl ?_
    refine ar_gR fl_RX11_66 dX11_idle_25 h ?_
    clear h
    intro x2 h
    refine aw_pc (pc' := 28) rfl ?_
    have h0 := rcv_inv h
    clear h
    obtain ⟨o5, fs_o5, hr_o5, he_o5, h⟩ := h0
    subst hr_o5
    refine ar_VI (kc' := 0) (ks' := 0) (kc := 0) (ks := 0) (a := o5) (ci := 10) (as := []) (st := [vi a3]) (tX10_countCars h) mt_X10_countCars rfl qM_RX11_69 qI_X10_countCars qV_X10_countCars he_o5 rfl (Nat.le_of_ble_eq_true rfl) dX11_idle_28 ?_
    clear h
    intro x4 F3 h
    refine aw_pc (pc' := 31) rfl ?_
    refine ac_ge rfl rfl dX11_idle_31 rfl (fun c => ?_) (fun c => ?_)
    · replace h := h.1 c
      refine aw_iload_n dX11_idle_34 rfl rfl (aw_pc (pc' := 35) rfl ?_)
      refine aw_aload_n dX11_idle_35 rfl rfl (aw_pc (pc' := 36) rfl ?_)
      refine ar_gR fl_RX11_20 dX11_idle_36 h ?_
      clear h
      intro x6 h
      refine aw_pc (pc' := 39) rfl ?_
      refine ar_gR fl_RX11_97 dX11_idle_39 h ?_
      clear h
      intro x7 h
      refine aw_pc (pc' := 42) rfl ?_
      refine aw_iload_n dX11_idle_42 rfl rfl (aw_pc (pc' := 43) rfl ?_)
      refine ar_aI dX11_idle_43 h ?_
      clear h
      intro x8 h
      refine aw_pc (pc' := 44) rfl ?_
      refine aw_iadd dX11_idle_44 (aw_pc (pc' := 45) rfl ?_)
      generalize hv_v9 : (a2 + x8) = v9
      replace h := h v9 hv_v9.symm
      refine aw_istore_n dX11_idle_45 rfl (by decide) (aw_pc (pc' := 46) rfl ?_)
      refine aw_iinc dX11_idle_46 rfl (by decide) (aw_pc (pc' := 49) rfl ?_)
      refine aw_goto (tgt := 20) dX11_idle_49 rfl ?_
      exact aw_mask [true, true, true, true] (ih _ _ _ _ _ h)
    · replace h := h.2 c
      refine aw_iload_n dX11_idle_52 rfl rfl (aw_pc (pc' := 53) rfl ?_)
      refine aw_iload_n dX11_idle_53 rfl rfl (aw_pc (pc' := 54) rfl ?_)
      refine aw_isub dX11_idle_54 (aw_pc (pc' := 55) rfl ?_)
      exact aw_iret rfl dX11_idle_55 ⟨_, rfl, h⟩
def mX11_idle (o : Nat) (F : hp) (Q : Int → hp → Prop) : Prop := gR F (some o) 11 5 (fun x1 => rcv F (some o) 11 (fun o4 => mX11_fastestOrder o4 F (fun x3 F2 => gR F2 (some o) 11 0 (fun x5 => rcv F2 x1 1 (fun o8 => mX1_timeOf o8 x3 x5 F2 (fun x7 F6 => (∃ k9, mX11_idle_L20 Q k9 o x7 0 0 F6)))))))
set_option maxHeartbeats 4000000 in
theorem tX11_idle {d : Nat} {o : Nat} {F : hp} {Q : Int → hp → Prop} (h : mX11_idle o F Q) : am nX11_idle (d + 4) 0 0 [vr (some o)] F (qI Q) := by
  refine am_of (by decide +kernel) (Nat.le_of_ble_eq_true rfl) ?_
  show aw nX11_idle (d + 4) 0 0 0 [some (vr (some o)), none, none, none] [] F (qI Q)
  unfold mX11_idle at h
  refine aw_aload_n dX11_idle_0 rfl rfl (aw_pc (pc' := 1) rfl ?_)
  refine ar_gR fl_RX11_44 dX11_idle_1 h ?_
  clear h
  intro x1 h
  refine aw_pc (pc' := 4) rfl ?_
  refine aw_aload_n dX11_idle_4 rfl rfl (aw_pc (pc' := 5) rfl ?_)
  have h0 := rcv_inv h
  clear h
  obtain ⟨o4, fs_o4, hr_o4, he_o4, h⟩ := h0
  obtain rfl : o = o4 := Option.some.inj hr_o4
  refine ar_VI (kc' := 0) (ks' := 0) (kc := 0) (ks := 0) (a := o) (ci := 11) (as := []) (st := [vr x1]) (tX11_fastestOrder h) mt_X11_fastestOrder rfl qM_RX11_291 qI_X11_fastestOrder qV_X11_fastestOrder he_o4 rfl (Nat.le_of_ble_eq_true rfl) dX11_idle_5 ?_
  clear h
  intro x3 F2 h
  refine aw_pc (pc' := 8) rfl ?_
  refine aw_aload_n dX11_idle_8 rfl rfl (aw_pc (pc' := 9) rfl ?_)
  refine ar_gR fl_RX11_20 dX11_idle_9 h ?_
  clear h
  intro x5 h
  refine aw_pc (pc' := 12) rfl ?_
  have h0 := rcv_inv h
  clear h
  obtain ⟨o8, fs_o8, hr_o8, he_o8, h⟩ := h0
  subst hr_o8
  refine ar_VI (kc' := 0) (ks' := 0) (kc := 0) (ks := 0) (a := o8) (ci := 1) (as := [vi x3, vr x5]) (st := []) (tX1_timeOf h) mt_X1_timeOf rfl qM_RX11_294 qI_X1_timeOf qV_X1_timeOf he_o8 rfl (Nat.le_of_ble_eq_true rfl) dX11_idle_12 ?_
  clear h
  intro x7 F6 h
  refine aw_pc (pc' := 15) rfl ?_
  refine aw_istore_n dX11_idle_15 rfl (by decide) (aw_pc (pc' := 16) rfl ?_)
  refine aw_iconst dX11_idle_16 (aw_pc (pc' := 17) rfl ?_)
  refine aw_istore_n dX11_idle_17 rfl (by decide) (aw_pc (pc' := 18) rfl ?_)
  refine aw_iconst dX11_idle_18 (aw_pc (pc' := 19) rfl ?_)
  refine aw_istore_n dX11_idle_19 rfl (by decide) (aw_pc (pc' := 20) rfl ?_)
  obtain ⟨k9, h⟩ := h
  exact aw_mask [true, true, true, true] (tX11_idle_L20 k9 _ _ _ _ _ h)
def mX11_owe (o : Nat) (a1 : Int) (a2 : Int) (a3 : Int) (F : hp) (Q : Int → hp → Prop) : Prop := mX11_isRailway a1 F (fun x2 F1 => (w32 x2 = 0 → Q 0 F1) ∧ (¬ w32 x2 = 0 → mX11_isRailway a2 F1 (fun x4 F3 => (w32 x4 = 0 → Q 0 F3) ∧ (¬ w32 x4 = 0 → (w32 a1 = w32 a2 → Q 0 F3) ∧ (¬ w32 a1 = w32 a2 → mX11_within a3 1 99 F3 (fun x6 F5 => (w32 x6 = 0 → Q 0 F5) ∧ (¬ w32 x6 = 0 → gR F5 (some o) 11 0 (fun x7 => gR F5 x7 5 7 (fun x8 => aI F5 x8 0 a1 (fun x9 => sI F5 x8 0 a1 (x9 - a3) (fun F10 => gR F10 (some o) 11 0 (fun x11 => gR F10 x11 5 7 (fun x12 => aI F10 x12 0 a2 (fun x13 => sI F10 x12 0 a2 (x13 + a3) (fun F14 => Q 1 F14)))))))))))))))
set_option maxHeartbeats 4000000 in
theorem tX11_owe {d : Nat} {o : Nat} {a1 : Int} {a2 : Int} {a3 : Int} {F : hp} {Q : Int → hp → Prop} (h : mX11_owe o a1 a2 a3 F Q) : am nX11_owe (d + 2) 0 0 [vr (some o), vi a1, vi a2, vi a3] F (qI Q) := by
  refine am_of (by decide +kernel) (Nat.le_of_ble_eq_true rfl) ?_
  show aw nX11_owe (d + 2) 0 0 0 [some (vr (some o)), some (vi a1), some (vi a2), some (vi a3)] [] F (qI Q)
  unfold mX11_owe at h
  refine aw_iload_n dX11_owe_0 rfl rfl (aw_pc (pc' := 1) rfl ?_)
  refine ar_SI (kc' := 0) (ks' := 0) (kc := 0) (ks := 0) (as := [vi a1]) (st := []) (tX11_isRailway h) mt_X11_isRailway qM_RX11_298 qS_X11_isRailway rfl (Nat.le_of_ble_eq_true rfl) dX11_owe_1 ?_
  clear h
  intro x2 F1 h
  refine aw_pc (pc' := 4) rfl ?_
  refine aw_if_eq dX11_owe_4 rfl (fun c => ?_) (fun c => ?_)
  · replace h := h.1 c
    refine aw_iconst dX11_owe_29 (aw_pc (pc' := 30) rfl ?_)
    exact aw_zret rfl (by decide) dX11_owe_30 ⟨_, rfl, h⟩
  · replace h := h.2 c
    refine aw_iload_n dX11_owe_7 rfl rfl (aw_pc (pc' := 8) rfl ?_)
    refine ar_SI (kc' := 0) (ks' := 0) (kc := 0) (ks := 0) (as := [vi a2]) (st := []) (tX11_isRailway h) mt_X11_isRailway qM_RX11_298 qS_X11_isRailway rfl (Nat.le_of_ble_eq_true rfl) dX11_owe_8 ?_
    clear h
    intro x4 F3 h
    refine aw_pc (pc' := 11) rfl ?_
    refine aw_if_eq dX11_owe_11 rfl (fun c => ?_) (fun c => ?_)
    · replace h := h.1 c
      refine aw_iconst dX11_owe_29 (aw_pc (pc' := 30) rfl ?_)
      exact aw_zret rfl (by decide) dX11_owe_30 ⟨_, rfl, h⟩
    · replace h := h.2 c
      refine aw_iload_n dX11_owe_14 rfl rfl (aw_pc (pc' := 15) rfl ?_)
      refine aw_iload_n dX11_owe_15 rfl rfl (aw_pc (pc' := 16) rfl ?_)
      refine ac_eq rfl rfl dX11_owe_16 rfl (fun c => ?_) (fun c => ?_)
      · replace h := h.1 c
        refine aw_iconst dX11_owe_29 (aw_pc (pc' := 30) rfl ?_)
        exact aw_zret rfl (by decide) dX11_owe_30 ⟨_, rfl, h⟩
      · replace h := h.2 c
        refine aw_iload_n dX11_owe_19 rfl rfl (aw_pc (pc' := 20) rfl ?_)
        refine aw_iconst dX11_owe_20 (aw_pc (pc' := 21) rfl ?_)
        refine aw_bipush dX11_owe_21 (by decide) (aw_pc (pc' := 23) rfl ?_)
        refine ar_SI (kc' := 0) (ks' := 0) (kc := 0) (ks := 0) (as := [vi a3, vi 1, vi 99]) (st := []) (tX11_within h) mt_X11_within qM_RX11_62 qS_X11_within rfl (Nat.le_of_ble_eq_true rfl) dX11_owe_23 ?_
        clear h
        intro x6 F5 h
        refine aw_pc (pc' := 26) rfl ?_
        refine aw_if_ne dX11_owe_26 rfl (fun c => ?_) (fun c => ?_)
        · replace h := h.1 c
          refine aw_iconst dX11_owe_29 (aw_pc (pc' := 30) rfl ?_)
          exact aw_zret rfl (by decide) dX11_owe_30 ⟨_, rfl, h⟩
        · replace h := h.2 c
          refine aw_aload_n dX11_owe_31 rfl rfl (aw_pc (pc' := 32) rfl ?_)
          refine ar_gR fl_RX11_20 dX11_owe_32 h ?_
          clear h
          intro x7 h
          refine aw_pc (pc' := 35) rfl ?_
          refine ar_gR fl_RX11_301 dX11_owe_35 h ?_
          clear h
          intro x8 h
          refine aw_pc (pc' := 38) rfl ?_
          refine aw_iload_n dX11_owe_38 rfl rfl (aw_pc (pc' := 39) rfl ?_)
          refine aw_dup2 dX11_owe_39 trivial trivial (aw_pc (pc' := 40) rfl ?_)
          refine ar_aI dX11_owe_40 h ?_
          clear h
          intro x9 h
          refine aw_pc (pc' := 41) rfl ?_
          refine aw_iload_n dX11_owe_41 rfl rfl (aw_pc (pc' := 42) rfl ?_)
          refine aw_isub dX11_owe_42 (aw_pc (pc' := 43) rfl ?_)
          refine ar_sI dX11_owe_43 h ?_
          clear h
          intro F10 h
          refine aw_pc (pc' := 44) rfl ?_
          refine aw_aload_n dX11_owe_44 rfl rfl (aw_pc (pc' := 45) rfl ?_)
          refine ar_gR fl_RX11_20 dX11_owe_45 h ?_
          clear h
          intro x11 h
          refine aw_pc (pc' := 48) rfl ?_
          refine ar_gR fl_RX11_301 dX11_owe_48 h ?_
          clear h
          intro x12 h
          refine aw_pc (pc' := 51) rfl ?_
          refine aw_iload_n dX11_owe_51 rfl rfl (aw_pc (pc' := 52) rfl ?_)
          refine aw_dup2 dX11_owe_52 trivial trivial (aw_pc (pc' := 53) rfl ?_)
          refine ar_aI dX11_owe_53 h ?_
          clear h
          intro x13 h
          refine aw_pc (pc' := 54) rfl ?_
          refine aw_iload_n dX11_owe_54 rfl rfl (aw_pc (pc' := 55) rfl ?_)
          refine aw_iadd dX11_owe_55 (aw_pc (pc' := 56) rfl ?_)
          refine ar_sI dX11_owe_56 h ?_
          clear h
          intro F14 h
          refine aw_pc (pc' := 57) rfl ?_
          refine aw_iconst dX11_owe_57 (aw_pc (pc' := 58) rfl ?_)
          exact aw_zret rfl (by decide) dX11_owe_58 ⟨_, rfl, h⟩
def mX11_balance (o : Nat) (a1 : Int) (F : hp) (Q : Int → hp → Prop) : Prop := mX11_isRailway a1 F (fun x2 F1 => (w32 x2 = 0 → Q (-100000) F1) ∧ (¬ w32 x2 = 0 → gR F1 (some o) 11 0 (fun x3 => gR F1 x3 5 7 (fun x4 => aI F1 x4 0 a1 (fun x5 => Q x5 F1)))))
set_option maxHeartbeats 4000000 in
theorem tX11_balance {d : Nat} {o : Nat} {a1 : Int} {F : hp} {Q : Int → hp → Prop} (h : mX11_balance o a1 F Q) : am nX11_balance (d + 2) 0 0 [vr (some o), vi a1] F (qI Q) := by
  refine am_of (by decide +kernel) (Nat.le_of_ble_eq_true rfl) ?_
  show aw nX11_balance (d + 2) 0 0 0 [some (vr (some o)), some (vi a1)] [] F (qI Q)
  unfold mX11_balance at h
  refine aw_iload_n dX11_balance_0 rfl rfl (aw_pc (pc' := 1) rfl ?_)
  refine ar_SI (kc' := 0) (ks' := 0) (kc := 0) (ks := 0) (as := [vi a1]) (st := []) (tX11_isRailway h) mt_X11_isRailway qM_RX11_298 qS_X11_isRailway rfl (Nat.le_of_ble_eq_true rfl) dX11_balance_1 ?_
  clear h
  intro x2 F1 h
  refine aw_pc (pc' := 4) rfl ?_
  refine aw_if_eq dX11_balance_4 rfl (fun c => ?_) (fun c => ?_)
  · replace h := h.1 c
    refine aw_ldcw (n := (-100000)) dX11_balance_19 qK_RX11_304 (aw_pc (pc' := 22) rfl ?_)
    exact aw_iret rfl dX11_balance_22 ⟨_, rfl, h⟩
  · replace h := h.2 c
    refine aw_aload_n dX11_balance_7 rfl rfl (aw_pc (pc' := 8) rfl ?_)
    refine ar_gR fl_RX11_20 dX11_balance_8 h ?_
    clear h
    intro x3 h
    refine aw_pc (pc' := 11) rfl ?_
    refine ar_gR fl_RX11_301 dX11_balance_11 h ?_
    clear h
    intro x4 h
    refine aw_pc (pc' := 14) rfl ?_
    refine aw_iload_n dX11_balance_14 rfl rfl (aw_pc (pc' := 15) rfl ?_)
    refine ar_aI dX11_balance_15 h ?_
    clear h
    intro x5 h
    refine aw_pc (pc' := 16) rfl ?_
    refine aw_goto (tgt := 22) dX11_balance_16 rfl ?_
    exact aw_iret rfl dX11_balance_22 ⟨_, rfl, h⟩
def mX11_settled (o : Nat) (a1 : Int) (F : hp) (Q : Int → hp → Prop) : Prop := mX11_within a1 0 1 F (fun x2 F1 => (w32 x2 = 0 → Q (-1) F1) ∧ (¬ w32 x2 = 0 → gR F1 (some o) 11 6 (fun x3 => gR F1 (some o) 11 0 (fun x4 => gR F1 x4 5 7 (fun x5 => rcv F1 x3 0 (fun o8 => mX0_mostGroups o8 x5 F1 (fun x7 F6 => (w32 a1 = 1 → Q x7 F6) ∧ (¬ w32 a1 = 1 → Q (6 - x7) F6))))))))
set_option maxHeartbeats 4000000 in
theorem tX11_settled {d : Nat} {o : Nat} {a1 : Int} {F : hp} {Q : Int → hp → Prop} (h : mX11_settled o a1 F Q) : am nX11_settled (d + 4) 0 0 [vr (some o), vi a1] F (qI Q) := by
  refine am_of (by decide +kernel) (Nat.le_of_ble_eq_true rfl) ?_
  show aw nX11_settled (d + 4) 0 0 0 [some (vr (some o)), some (vi a1), none] [] F (qI Q)
  unfold mX11_settled at h
  refine aw_iload_n dX11_settled_0 rfl rfl (aw_pc (pc' := 1) rfl ?_)
  refine aw_iconst dX11_settled_1 (aw_pc (pc' := 2) rfl ?_)
  refine aw_iconst dX11_settled_2 (aw_pc (pc' := 3) rfl ?_)
  refine ar_SI (kc' := 0) (ks' := 0) (kc := 0) (ks := 0) (as := [vi a1, vi 0, vi 1]) (st := []) (tX11_within h) mt_X11_within qM_RX11_62 qS_X11_within rfl (Nat.le_of_ble_eq_true rfl) dX11_settled_3 ?_
  clear h
  intro x2 F1 h
  refine aw_pc (pc' := 6) rfl ?_
  refine aw_if_ne dX11_settled_6 rfl (fun c => ?_) (fun c => ?_)
  · replace h := h.1 c
    refine aw_iconst dX11_settled_9 (aw_pc (pc' := 10) rfl ?_)
    exact aw_iret rfl dX11_settled_10 ⟨_, rfl, h⟩
  · replace h := h.2 c
    refine aw_aload_n dX11_settled_11 rfl rfl (aw_pc (pc' := 12) rfl ?_)
    refine ar_gR fl_RX11_51 dX11_settled_12 h ?_
    clear h
    intro x3 h
    refine aw_pc (pc' := 15) rfl ?_
    refine aw_aload_n dX11_settled_15 rfl rfl (aw_pc (pc' := 16) rfl ?_)
    refine ar_gR fl_RX11_20 dX11_settled_16 h ?_
    clear h
    intro x4 h
    refine aw_pc (pc' := 19) rfl ?_
    refine ar_gR fl_RX11_301 dX11_settled_19 h ?_
    clear h
    intro x5 h
    refine aw_pc (pc' := 22) rfl ?_
    have h0 := rcv_inv h
    clear h
    obtain ⟨o8, fs_o8, hr_o8, he_o8, h⟩ := h0
    subst hr_o8
    refine ar_VI (kc' := 0) (ks' := 0) (kc := 0) (ks := 0) (a := o8) (ci := 0) (as := [vr x5]) (st := []) (tX0_mostGroups h) mt_X0_mostGroups rfl qM_RX11_305 qI_X0_mostGroups qV_X0_mostGroups he_o8 rfl (Nat.le_of_ble_eq_true rfl) dX11_settled_22 ?_
    clear h
    intro x7 F6 h
    refine aw_pc (pc' := 25) rfl ?_
    refine aw_istore_n dX11_settled_25 rfl (by decide) (aw_pc (pc' := 26) rfl ?_)
    refine aw_iload_n dX11_settled_26 rfl rfl (aw_pc (pc' := 27) rfl ?_)
    refine aw_iconst dX11_settled_27 (aw_pc (pc' := 28) rfl ?_)
    refine ac_ne rfl wl_1 dX11_settled_28 rfl (fun c => ?_) (fun c => ?_)
    · replace h := h.1 c
      refine aw_iload_n dX11_settled_31 rfl rfl (aw_pc (pc' := 32) rfl ?_)
      refine aw_goto (tgt := 39) dX11_settled_32 rfl ?_
      exact aw_iret rfl dX11_settled_39 ⟨_, rfl, h⟩
    · replace h := h.2 c
      refine aw_bipush dX11_settled_35 (by decide) (aw_pc (pc' := 37) rfl ?_)
      refine aw_iload_n dX11_settled_37 rfl rfl (aw_pc (pc' := 38) rfl ?_)
      refine aw_isub dX11_settled_38 (aw_pc (pc' := 39) rfl ?_)
      exact aw_iret rfl dX11_settled_39 ⟨_, rfl, h⟩
def mX11_group (o : Nat) (a1 : Int) (F : hp) (Q : Int → hp → Prop) : Prop := mX11_isRailway a1 F (fun x2 F1 => (w32 x2 = 0 → Q (-1) F1) ∧ (¬ w32 x2 = 0 → gR F1 (some o) 11 6 (fun x3 => gR F1 (some o) 11 0 (fun x4 => gR F1 x4 5 7 (fun x5 => rcv F1 x3 0 (fun o8 => mX0_groupOf o8 a1 x5 F1 (fun x7 F6 => Q x7 F6)))))))
set_option maxHeartbeats 4000000 in
theorem tX11_group {d : Nat} {o : Nat} {a1 : Int} {F : hp} {Q : Int → hp → Prop} (h : mX11_group o a1 F Q) : am nX11_group (d + 4) 0 0 [vr (some o), vi a1] F (qI Q) := by
  refine am_of (by decide +kernel) (Nat.le_of_ble_eq_true rfl) ?_
  show aw nX11_group (d + 4) 0 0 0 [some (vr (some o)), some (vi a1)] [] F (qI Q)
  unfold mX11_group at h
  refine aw_iload_n dX11_group_0 rfl rfl (aw_pc (pc' := 1) rfl ?_)
  refine ar_SI (kc' := 0) (ks' := 0) (kc := 0) (ks := 0) (as := [vi a1]) (st := []) (tX11_isRailway h) mt_X11_isRailway qM_RX11_298 qS_X11_isRailway rfl (Nat.le_of_ble_eq_true rfl) dX11_group_1 ?_
  clear h
  intro x2 F1 h
  refine aw_pc (pc' := 4) rfl ?_
  refine aw_if_eq dX11_group_4 rfl (fun c => ?_) (fun c => ?_)
  · replace h := h.1 c
    refine aw_iconst dX11_group_25 (aw_pc (pc' := 26) rfl ?_)
    exact aw_iret rfl dX11_group_26 ⟨_, rfl, h⟩
  · replace h := h.2 c
    refine aw_aload_n dX11_group_7 rfl rfl (aw_pc (pc' := 8) rfl ?_)
    refine ar_gR fl_RX11_51 dX11_group_8 h ?_
    clear h
    intro x3 h
    refine aw_pc (pc' := 11) rfl ?_
    refine aw_iload_n dX11_group_11 rfl rfl (aw_pc (pc' := 12) rfl ?_)
    refine aw_aload_n dX11_group_12 rfl rfl (aw_pc (pc' := 13) rfl ?_)
    refine ar_gR fl_RX11_20 dX11_group_13 h ?_
    clear h
    intro x4 h
    refine aw_pc (pc' := 16) rfl ?_
    refine ar_gR fl_RX11_301 dX11_group_16 h ?_
    clear h
    intro x5 h
    refine aw_pc (pc' := 19) rfl ?_
    have h0 := rcv_inv h
    clear h
    obtain ⟨o8, fs_o8, hr_o8, he_o8, h⟩ := h0
    subst hr_o8
    refine ar_VI (kc' := 0) (ks' := 0) (kc := 0) (ks := 0) (a := o8) (ci := 0) (as := [vi a1, vr x5]) (st := []) (tX0_groupOf h) mt_X0_groupOf rfl qM_RX11_309 qI_X0_groupOf qV_X0_groupOf he_o8 rfl (Nat.le_of_ble_eq_true rfl) dX11_group_19 ?_
    clear h
    intro x7 F6 h
    refine aw_pc (pc' := 22) rfl ?_
    refine aw_goto (tgt := 26) dX11_group_22 rfl ?_
    exact aw_iret rfl dX11_group_26 ⟨_, rfl, h⟩
def mX11_trip (o : Nat) (a1 : Int) (a2 : Int) (a3 : Int) (F : hp) (Q : Int → hp → Prop) : Prop := (w32 a1 = (-1) → gR F (some o) 11 0 (fun x1 => gR F x1 5 8 (fun x2 => rcv F x2 7 (fun o5 => mX7_empty o5 F (fun x4 F3 => Q x4 F3))))) ∧ (¬ w32 a1 = (-1) → mX11_within a1 0 30 F (fun x7 F6 => (w32 x7 = 0 → Q (-2) F6) ∧ (¬ w32 x7 = 0 → mX11_within a2 a1 30 F6 (fun x9 F8 => (w32 x9 = 0 → Q (-2) F8) ∧ (¬ w32 x9 = 0 → mX11_within a3 1 9 F8 (fun x11 F10 => (w32 x11 = 0 → Q (-2) F10) ∧ (¬ w32 x11 = 0 → gR F10 (some o) 11 0 (fun x12 => gR F10 x12 5 8 (fun x13 => rcv F10 x13 7 (fun o16 => mX7_add o16 a1 a2 a3 F10 (fun x15 F14 => Q x15 F14)))))))))))
set_option maxHeartbeats 4000000 in
theorem tX11_trip {d : Nat} {o : Nat} {a1 : Int} {a2 : Int} {a3 : Int} {F : hp} {Q : Int → hp → Prop} (h : mX11_trip o a1 a2 a3 F Q) : am nX11_trip (d + 1) 0 0 [vr (some o), vi a1, vi a2, vi a3] F (qI Q) := by
  refine am_of (by decide +kernel) (Nat.le_of_ble_eq_true rfl) ?_
  show aw nX11_trip (d + 1) 0 0 0 [some (vr (some o)), some (vi a1), some (vi a2), some (vi a3)] [] F (qI Q)
  unfold mX11_trip at h
  refine aw_iload_n dX11_trip_0 rfl rfl (aw_pc (pc' := 1) rfl ?_)
  refine aw_iconst dX11_trip_1 (aw_pc (pc' := 2) rfl ?_)
  refine ac_ne rfl wl_m1 dX11_trip_2 rfl (fun c => ?_) (fun c => ?_)
  · replace h := h.1 c
    refine aw_aload_n dX11_trip_5 rfl rfl (aw_pc (pc' := 6) rfl ?_)
    refine ar_gR fl_RX11_20 dX11_trip_6 h ?_
    clear h
    intro x1 h
    refine aw_pc (pc' := 9) rfl ?_
    refine ar_gR fl_RX11_313 dX11_trip_9 h ?_
    clear h
    intro x2 h
    refine aw_pc (pc' := 12) rfl ?_
    have h0 := rcv_inv h
    clear h
    obtain ⟨o5, fs_o5, hr_o5, he_o5, h⟩ := h0
    subst hr_o5
    refine ar_VI (kc' := 0) (ks' := 0) (kc := 0) (ks := 0) (a := o5) (ci := 7) (as := []) (st := []) (tX7_empty h) mt_X7_empty rfl qM_RX11_317 qI_X7_empty qV_X7_empty he_o5 rfl (Nat.le_of_ble_eq_true rfl) dX11_trip_12 ?_
    clear h
    intro x4 F3 h
    refine aw_pc (pc' := 15) rfl ?_
    exact aw_iret rfl dX11_trip_15 ⟨_, rfl, h⟩
  · replace h := h.2 c
    refine aw_iload_n dX11_trip_16 rfl rfl (aw_pc (pc' := 17) rfl ?_)
    refine aw_iconst dX11_trip_17 (aw_pc (pc' := 18) rfl ?_)
    refine aw_bipush dX11_trip_18 (by decide) (aw_pc (pc' := 20) rfl ?_)
    refine ar_SI (kc' := 0) (ks' := 0) (kc := 0) (ks := 0) (as := [vi a1, vi 0, vi 30]) (st := []) (tX11_within h) mt_X11_within qM_RX11_62 qS_X11_within rfl (Nat.le_of_ble_eq_true rfl) dX11_trip_20 ?_
    clear h
    intro x7 F6 h
    refine aw_pc (pc' := 23) rfl ?_
    refine aw_if_eq dX11_trip_23 rfl (fun c => ?_) (fun c => ?_)
    · replace h := h.1 c
      refine aw_bipush dX11_trip_46 (by decide) (aw_pc (pc' := 48) rfl ?_)
      exact aw_iret rfl dX11_trip_48 ⟨_, rfl, h⟩
    · replace h := h.2 c
      refine aw_iload_n dX11_trip_26 rfl rfl (aw_pc (pc' := 27) rfl ?_)
      refine aw_iload_n dX11_trip_27 rfl rfl (aw_pc (pc' := 28) rfl ?_)
      refine aw_bipush dX11_trip_28 (by decide) (aw_pc (pc' := 30) rfl ?_)
      refine ar_SI (kc' := 0) (ks' := 0) (kc := 0) (ks := 0) (as := [vi a2, vi a1, vi 30]) (st := []) (tX11_within h) mt_X11_within qM_RX11_62 qS_X11_within rfl (Nat.le_of_ble_eq_true rfl) dX11_trip_30 ?_
      clear h
      intro x9 F8 h
      refine aw_pc (pc' := 33) rfl ?_
      refine aw_if_eq dX11_trip_33 rfl (fun c => ?_) (fun c => ?_)
      · replace h := h.1 c
        refine aw_bipush dX11_trip_46 (by decide) (aw_pc (pc' := 48) rfl ?_)
        exact aw_iret rfl dX11_trip_48 ⟨_, rfl, h⟩
      · replace h := h.2 c
        refine aw_iload_n dX11_trip_36 rfl rfl (aw_pc (pc' := 37) rfl ?_)
        refine aw_iconst dX11_trip_37 (aw_pc (pc' := 38) rfl ?_)
        refine aw_bipush dX11_trip_38 (by decide) (aw_pc (pc' := 40) rfl ?_)
        refine ar_SI (kc' := 0) (ks' := 0) (kc := 0) (ks := 0) (as := [vi a3, vi 1, vi 9]) (st := []) (tX11_within h) mt_X11_within qM_RX11_62 qS_X11_within rfl (Nat.le_of_ble_eq_true rfl) dX11_trip_40 ?_
        clear h
        intro x11 F10 h
        refine aw_pc (pc' := 43) rfl ?_
        refine aw_if_ne dX11_trip_43 rfl (fun c => ?_) (fun c => ?_)
        · replace h := h.1 c
          refine aw_bipush dX11_trip_46 (by decide) (aw_pc (pc' := 48) rfl ?_)
          exact aw_iret rfl dX11_trip_48 ⟨_, rfl, h⟩
        · replace h := h.2 c
          refine aw_aload_n dX11_trip_49 rfl rfl (aw_pc (pc' := 50) rfl ?_)
          refine ar_gR fl_RX11_20 dX11_trip_50 h ?_
          clear h
          intro x12 h
          refine aw_pc (pc' := 53) rfl ?_
          refine ar_gR fl_RX11_313 dX11_trip_53 h ?_
          clear h
          intro x13 h
          refine aw_pc (pc' := 56) rfl ?_
          refine aw_iload_n dX11_trip_56 rfl rfl (aw_pc (pc' := 57) rfl ?_)
          refine aw_iload_n dX11_trip_57 rfl rfl (aw_pc (pc' := 58) rfl ?_)
          refine aw_iload_n dX11_trip_58 rfl rfl (aw_pc (pc' := 59) rfl ?_)
          have h0 := rcv_inv h
          clear h
          obtain ⟨o16, fs_o16, hr_o16, he_o16, h⟩ := h0
          subst hr_o16
          refine ar_VI (kc' := 0) (ks' := 0) (kc := 0) (ks := 0) (a := o16) (ci := 7) (as := [vi a1, vi a2, vi a3]) (st := []) (tX7_add h) mt_X7_add rfl qM_RX11_322 qI_X7_add qV_X7_add he_o16 rfl (Nat.le_of_ble_eq_true rfl) dX11_trip_59 ?_
          clear h
          intro x15 F14 h
          refine aw_pc (pc' := 62) rfl ?_
          exact aw_iret rfl dX11_trip_62 ⟨_, rfl, h⟩
def mX11_wheelsOut_J53 (X13 : Int → Option Nat → Int → Int → hp → Prop) (Q : Int → hp → Prop) (a1 : Int) (a2 : Option Nat) (a3 : Int) (a4 : Int) (F : hp) : Prop := X13 a1 a2 a3 (a4 + 1) F
set_option maxHeartbeats 4000000 in
theorem tX11_wheelsOut_J53 {d : Nat} {X13 : Int → Option Nat → Int → Int → hp → Prop} {Q : Int → hp → Prop} (hX13 : ∀ (a1 : Int) (a2 : Option Nat) (a3 : Int) (a4 : Int) (F : hp), X13 a1 a2 a3 a4 F → aw nX11_wheelsOut (d + 1) 0 0 13 [none, some (vi a1), some (vr a2), some (vi a3), some (vi a4)] [] F (qI Q)) {a1 : Int} {a2 : Option Nat} {a3 : Int} {a4 : Int} {F : hp} (h : mX11_wheelsOut_J53 X13 Q a1 a2 a3 a4 F) : aw nX11_wheelsOut (d + 1) 0 0 53 [none, some (vi a1), some (vr a2), some (vi a3), some (vi a4)] [] F (qI Q) := by
  unfold mX11_wheelsOut_J53 at h
  refine aw_iinc dX11_wheelsOut_53 rfl (by decide) (aw_pc (pc' := 56) rfl ?_)
  refine aw_goto (tgt := 13) dX11_wheelsOut_56 rfl ?_
  exact aw_mask [false, true, true, true, true] (hX13 _ _ _ _ _ h)
def mX11_wheelsOut_L13 (Q : Int → hp → Prop) : Nat → Int → Option Nat → Int → Int → hp → Prop
  | 0, _, _, _, _, _ => False
  | k + 1, a1, a2, a3, a4, F => gI F a2 7 2 (fun x1 => (w32 a4 < w32 x1 → rcv F a2 7 (fun o4 => mX7_cell o4 a4 0 F (fun x3 F2 => rcv F2 (some o4) 7 (fun o7 => mX7_cell o7 a4 1 F2 (fun x6 F5 => mX11_within a1 x3 x6 F5 (fun x9 F8 => (w32 x9 = 0 → mX11_wheelsOut_J53 (fun a1' a2' a3' a4' F' => mX11_wheelsOut_L13 Q k a1' a2' a3' a4' F') Q a1 (some o4) a3 a4 F8) ∧ (¬ w32 x9 = 0 → rcv F8 (some o4) 7 (fun o12 => mX7_cell o12 a4 2 F8 (fun x11 F10 => ∀ v13 : Int, v13 = (a3 + x11) → mX11_wheelsOut_J53 (fun a1' a2' a3' a4' F' => mX11_wheelsOut_L13 Q k a1' a2' a3' a4' F') Q a1 (some o4) v13 a4 F10))))))))) ∧ (¬ w32 a4 < w32 x1 → Q a3 F))
set_option maxHeartbeats 4000000 in
theorem tX11_wheelsOut_L13 {d : Nat} {Q : Int → hp → Prop} : ∀ (k : Nat) (a1 : Int) (a2 : Option Nat) (a3 : Int) (a4 : Int) (F : hp), mX11_wheelsOut_L13 Q k a1 a2 a3 a4 F → aw nX11_wheelsOut (d + 1) 0 0 13 [none, some (vi a1), some (vr a2), some (vi a3), some (vi a4)] [] F (qI Q) := by
  intro k
  induction k with
  | zero => intro a1 a2 a3 a4 F h; exact h.elim
  | succ k ih =>
    intro a1 a2 a3 a4 F h
    simp only [mX11_wheelsOut_L13] at h
    refine aw_iload dX11_wheelsOut_13 rfl (aw_pc (pc' := 15) rfl ?_)
    refine aw_aload_n dX11_wheelsOut_15 rfl rfl (aw_pc (pc' := 16) rfl ?_)
    refine ar_gI fl_RX11_328 dX11_wheelsOut_16 h ?_
    clear h
    intro x1 h
    refine aw_pc (pc' := 19) rfl ?_
    refine ac_ge rfl rfl dX11_wheelsOut_19 rfl (fun c => ?_) (fun c => ?_)
    · replace h := h.1 c
      refine aw_iload_n dX11_wheelsOut_22 rfl rfl (aw_pc (pc' := 23) rfl ?_)
      refine aw_aload_n dX11_wheelsOut_23 rfl rfl (aw_pc (pc' := 24) rfl ?_)
      refine aw_iload dX11_wheelsOut_24 rfl (aw_pc (pc' := 26) rfl ?_)
      refine aw_iconst dX11_wheelsOut_26 (aw_pc (pc' := 27) rfl ?_)
      have h0 := rcv_inv h
      clear h
      obtain ⟨o4, fs_o4, hr_o4, he_o4, h⟩ := h0
      subst hr_o4
      refine ar_VI (kc' := 0) (ks' := 0) (kc := 0) (ks := 0) (a := o4) (ci := 7) (as := [vi a4, vi 0]) (st := [vi a1]) (tX7_cell h) mt_X7_cell rfl qM_RX11_331 qI_X7_cell qV_X7_cell he_o4 rfl (Nat.le_of_ble_eq_true rfl) dX11_wheelsOut_27 ?_
      clear h
      intro x3 F2 h
      refine aw_pc (pc' := 30) rfl ?_
      refine aw_aload_n dX11_wheelsOut_30 rfl rfl (aw_pc (pc' := 31) rfl ?_)
      refine aw_iload dX11_wheelsOut_31 rfl (aw_pc (pc' := 33) rfl ?_)
      refine aw_iconst dX11_wheelsOut_33 (aw_pc (pc' := 34) rfl ?_)
      have h0 := rcv_inv h
      clear h
      obtain ⟨o7, fs_o7, hr_o7, he_o7, h⟩ := h0
      obtain rfl : o4 = o7 := Option.some.inj hr_o7
      refine ar_VI (kc' := 0) (ks' := 0) (kc := 0) (ks := 0) (a := o4) (ci := 7) (as := [vi a4, vi 1]) (st := [vi x3, vi a1]) (tX7_cell h) mt_X7_cell rfl qM_RX11_331 qI_X7_cell qV_X7_cell he_o7 rfl (Nat.le_of_ble_eq_true rfl) dX11_wheelsOut_34 ?_
      clear h
      intro x6 F5 h
      refine aw_pc (pc' := 37) rfl ?_
      refine ar_SI (kc' := 0) (ks' := 0) (kc := 0) (ks := 0) (as := [vi a1, vi x3, vi x6]) (st := []) (tX11_within h) mt_X11_within qM_RX11_62 qS_X11_within rfl (Nat.le_of_ble_eq_true rfl) dX11_wheelsOut_37 ?_
      clear h
      intro x9 F8 h
      refine aw_pc (pc' := 40) rfl ?_
      refine aw_if_eq dX11_wheelsOut_40 rfl (fun c => ?_) (fun c => ?_)
      · replace h := h.1 c
        exact aw_mask [false, true, true, true, true] (tX11_wheelsOut_J53 (fun a1' a2' a3' a4' F' h' => ih a1' a2' a3' a4' F' h') h)
      · replace h := h.2 c
        refine aw_iload_n dX11_wheelsOut_43 rfl rfl (aw_pc (pc' := 44) rfl ?_)
        refine aw_aload_n dX11_wheelsOut_44 rfl rfl (aw_pc (pc' := 45) rfl ?_)
        refine aw_iload dX11_wheelsOut_45 rfl (aw_pc (pc' := 47) rfl ?_)
        refine aw_iconst dX11_wheelsOut_47 (aw_pc (pc' := 48) rfl ?_)
        have h0 := rcv_inv h
        clear h
        obtain ⟨o12, fs_o12, hr_o12, he_o12, h⟩ := h0
        obtain rfl : o4 = o12 := Option.some.inj hr_o12
        refine ar_VI (kc' := 0) (ks' := 0) (kc := 0) (ks := 0) (a := o4) (ci := 7) (as := [vi a4, vi 2]) (st := [vi a3]) (tX7_cell h) mt_X7_cell rfl qM_RX11_331 qI_X7_cell qV_X7_cell he_o12 rfl (Nat.le_of_ble_eq_true rfl) dX11_wheelsOut_48 ?_
        clear h
        intro x11 F10 h
        refine aw_pc (pc' := 51) rfl ?_
        refine aw_iadd dX11_wheelsOut_51 (aw_pc (pc' := 52) rfl ?_)
        generalize hv_v13 : (a3 + x11) = v13
        replace h := h v13 hv_v13.symm
        refine aw_istore_n dX11_wheelsOut_52 rfl (by decide) (aw_pc (pc' := 53) rfl ?_)
        exact aw_mask [false, true, true, true, true] (tX11_wheelsOut_J53 (fun a1' a2' a3' a4' F' h' => ih a1' a2' a3' a4' F' h') h)
    · replace h := h.2 c
      refine aw_iload_n dX11_wheelsOut_59 rfl rfl (aw_pc (pc' := 60) rfl ?_)
      exact aw_iret rfl dX11_wheelsOut_60 ⟨_, rfl, h⟩
def mX11_wheelsOut (o : Nat) (a1 : Int) (F : hp) (Q : Int → hp → Prop) : Prop := gR F (some o) 11 0 (fun x1 => gR F x1 5 8 (fun x2 => (∃ k3, mX11_wheelsOut_L13 Q k3 a1 x2 0 0 F)))
set_option maxHeartbeats 4000000 in
theorem tX11_wheelsOut {d : Nat} {o : Nat} {a1 : Int} {F : hp} {Q : Int → hp → Prop} (h : mX11_wheelsOut o a1 F Q) : am nX11_wheelsOut (d + 1) 0 0 [vr (some o), vi a1] F (qI Q) := by
  refine am_of (by decide +kernel) (Nat.le_of_ble_eq_true rfl) ?_
  show aw nX11_wheelsOut (d + 1) 0 0 0 [some (vr (some o)), some (vi a1), none, none, none] [] F (qI Q)
  unfold mX11_wheelsOut at h
  refine aw_aload_n dX11_wheelsOut_0 rfl rfl (aw_pc (pc' := 1) rfl ?_)
  refine ar_gR fl_RX11_20 dX11_wheelsOut_1 h ?_
  clear h
  intro x1 h
  refine aw_pc (pc' := 4) rfl ?_
  refine ar_gR fl_RX11_313 dX11_wheelsOut_4 h ?_
  clear h
  intro x2 h
  refine aw_pc (pc' := 7) rfl ?_
  refine aw_astore_n dX11_wheelsOut_7 rfl (by decide) (aw_pc (pc' := 8) rfl ?_)
  refine aw_iconst dX11_wheelsOut_8 (aw_pc (pc' := 9) rfl ?_)
  refine aw_istore_n dX11_wheelsOut_9 rfl (by decide) (aw_pc (pc' := 10) rfl ?_)
  refine aw_iconst dX11_wheelsOut_10 (aw_pc (pc' := 11) rfl ?_)
  refine aw_istore dX11_wheelsOut_11 (by decide) (aw_pc (pc' := 13) rfl ?_)
  obtain ⟨k3, h⟩ := h
  exact aw_mask [false, true, true, true, true] (tX11_wheelsOut_L13 k3 _ _ _ _ _ h)
def mX11_stock_J34 (X7 : Nat → Int → Int → Int → Int → hp → Prop) (Q : Int → hp → Prop) (o : Nat) (a1 : Int) (a2 : Int) (a3 : Int) (a4 : Int) (F : hp) : Prop := X7 o a1 a2 a3 (a4 + 1) F
set_option maxHeartbeats 4000000 in
theorem tX11_stock_J34 {d : Nat} {X7 : Nat → Int → Int → Int → Int → hp → Prop} {Q : Int → hp → Prop} (hX7 : ∀ (o : Nat) (a1 : Int) (a2 : Int) (a3 : Int) (a4 : Int) (F : hp), X7 o a1 a2 a3 a4 F → aw nX11_stock (d + 2) 0 0 7 [some (vr (some o)), some (vi a1), some (vi a2), some (vi a3), some (vi a4), none] [] F (qI Q)) {o : Nat} {a1 : Int} {a2 : Int} {a3 : Int} {a4 : Int} {F : hp} (h : mX11_stock_J34 X7 Q o a1 a2 a3 a4 F) : aw nX11_stock (d + 2) 0 0 34 [some (vr (some o)), some (vi a1), some (vi a2), some (vi a3), some (vi a4), none] [] F (qI Q) := by
  unfold mX11_stock_J34 at h
  refine aw_iinc dX11_stock_34 rfl (by decide) (aw_pc (pc' := 37) rfl ?_)
  refine aw_goto (tgt := 7) dX11_stock_37 rfl ?_
  exact aw_mask [true, true, true, true, true, false] (hX7 _ _ _ _ _ _ h)
def mX11_stock_L7 (Q : Int → hp → Prop) : Nat → Nat → Int → Int → Int → Int → hp → Prop
  | 0, _, _, _, _, _, _ => False
  | k + 1, o, a1, a2, a3, a4, F => (30 < w32 a4 → (w32 a1 = 0 → Q a2 F) ∧ (¬ w32 a1 = 0 → Q a3 F)) ∧ (¬ 30 < w32 a4 → rcv F (some o) 11 (fun o3 => mX11_wheelsOut o3 a4 F (fun x2 F1 => (w32 a2 < w32 x2 → mX11_stock_J34 (fun o' a1' a2' a3' a4' F' => mX11_stock_L7 Q k o' a1' a2' a3' a4' F') Q o a1 x2 a4 a4 F1) ∧ (¬ w32 a2 < w32 x2 → mX11_stock_J34 (fun o' a1' a2' a3' a4' F' => mX11_stock_L7 Q k o' a1' a2' a3' a4' F') Q o a1 a2 a3 a4 F1))))
set_option maxHeartbeats 4000000 in
theorem tX11_stock_L7 {d : Nat} {Q : Int → hp → Prop} : ∀ (k : Nat) (o : Nat) (a1 : Int) (a2 : Int) (a3 : Int) (a4 : Int) (F : hp), mX11_stock_L7 Q k o a1 a2 a3 a4 F → aw nX11_stock (d + 2) 0 0 7 [some (vr (some o)), some (vi a1), some (vi a2), some (vi a3), some (vi a4), none] [] F (qI Q) := by
  intro k
  induction k with
  | zero => intro o a1 a2 a3 a4 F h; exact h.elim
  | succ k ih =>
    intro o a1 a2 a3 a4 F h
    simp only [mX11_stock_L7] at h
    refine aw_iload dX11_stock_7 rfl (aw_pc (pc' := 9) rfl ?_)
    refine aw_bipush dX11_stock_9 (by decide) (aw_pc (pc' := 11) rfl ?_)
    refine ac_gt rfl wl_30 dX11_stock_11 rfl (fun c => ?_) (fun c => ?_)
    · replace h := h.1 c
      refine aw_iload_n dX11_stock_40 rfl rfl (aw_pc (pc' := 41) rfl ?_)
      refine aw_if_eq dX11_stock_41 rfl (fun c => ?_) (fun c => ?_)
      · replace h := h.1 c
        refine aw_iload_n dX11_stock_48 rfl rfl (aw_pc (pc' := 49) rfl ?_)
        exact aw_iret rfl dX11_stock_49 ⟨_, rfl, h⟩
      · replace h := h.2 c
        refine aw_iload_n dX11_stock_44 rfl rfl (aw_pc (pc' := 45) rfl ?_)
        refine aw_goto (tgt := 49) dX11_stock_45 rfl ?_
        exact aw_iret rfl dX11_stock_49 ⟨_, rfl, h⟩
    · replace h := h.2 c
      refine aw_aload_n dX11_stock_14 rfl rfl (aw_pc (pc' := 15) rfl ?_)
      refine aw_iload dX11_stock_15 rfl (aw_pc (pc' := 17) rfl ?_)
      have h0 := rcv_inv h
      clear h
      obtain ⟨o3, fs_o3, hr_o3, he_o3, h⟩ := h0
      obtain rfl : o = o3 := Option.some.inj hr_o3
      refine ar_VI (kc' := 0) (ks' := 0) (kc := 0) (ks := 0) (a := o) (ci := 11) (as := [vi a4]) (st := []) (tX11_wheelsOut h) mt_X11_wheelsOut rfl qM_RX11_325 qI_X11_wheelsOut qV_X11_wheelsOut he_o3 rfl (Nat.le_of_ble_eq_true rfl) dX11_stock_17 ?_
      clear h
      intro x2 F1 h
      refine aw_pc (pc' := 20) rfl ?_
      refine aw_istore dX11_stock_20 (by decide) (aw_pc (pc' := 22) rfl ?_)
      refine aw_iload dX11_stock_22 rfl (aw_pc (pc' := 24) rfl ?_)
      refine aw_iload_n dX11_stock_24 rfl rfl (aw_pc (pc' := 25) rfl ?_)
      refine ac_le rfl rfl dX11_stock_25 rfl (fun c => ?_) (fun c => ?_)
      · replace h := h.1 c
        refine aw_iload dX11_stock_28 rfl (aw_pc (pc' := 30) rfl ?_)
        refine aw_istore_n dX11_stock_30 rfl (by decide) (aw_pc (pc' := 31) rfl ?_)
        refine aw_iload dX11_stock_31 rfl (aw_pc (pc' := 33) rfl ?_)
        refine aw_istore_n dX11_stock_33 rfl (by decide) (aw_pc (pc' := 34) rfl ?_)
        exact aw_mask [true, true, true, true, true, false] (tX11_stock_J34 (fun o' a1' a2' a3' a4' F' h' => ih o' a1' a2' a3' a4' F' h') h)
      · replace h := h.2 c
        exact aw_mask [true, true, true, true, true, false] (tX11_stock_J34 (fun o' a1' a2' a3' a4' F' h' => ih o' a1' a2' a3' a4' F' h') h)
def mX11_stock (o : Nat) (a1 : Int) (F : hp) (Q : Int → hp → Prop) : Prop := (∃ k1, mX11_stock_L7 Q k1 o a1 0 (-1) 0 F)
set_option maxHeartbeats 4000000 in
theorem tX11_stock {d : Nat} {o : Nat} {a1 : Int} {F : hp} {Q : Int → hp → Prop} (h : mX11_stock o a1 F Q) : am nX11_stock (d + 2) 0 0 [vr (some o), vi a1] F (qI Q) := by
  refine am_of (by decide +kernel) (Nat.le_of_ble_eq_true rfl) ?_
  show aw nX11_stock (d + 2) 0 0 0 [some (vr (some o)), some (vi a1), none, none, none, none] [] F (qI Q)
  unfold mX11_stock at h
  refine aw_iconst dX11_stock_0 (aw_pc (pc' := 1) rfl ?_)
  refine aw_istore_n dX11_stock_1 rfl (by decide) (aw_pc (pc' := 2) rfl ?_)
  refine aw_iconst dX11_stock_2 (aw_pc (pc' := 3) rfl ?_)
  refine aw_istore_n dX11_stock_3 rfl (by decide) (aw_pc (pc' := 4) rfl ?_)
  refine aw_iconst dX11_stock_4 (aw_pc (pc' := 5) rfl ?_)
  refine aw_istore dX11_stock_5 (by decide) (aw_pc (pc' := 7) rfl ?_)
  obtain ⟨k1, h⟩ := h
  exact aw_mask [true, true, true, true, true, false] (tX11_stock_L7 k1 _ _ _ _ _ _ h)
def mX11_seen (o : Nat) (a1 : Int) (a2 : Int) (a3 : Int) (F : hp) (Q : Int → hp → Prop) : Prop := (w32 a1 = (-1) → gR F (some o) 11 0 (fun x1 => gR F x1 5 9 (fun x2 => rcv F x2 7 (fun o5 => mX7_empty o5 F (fun x4 F3 => Q x4 F3))))) ∧ (¬ w32 a1 = (-1) → mX11_within a1 0 3 F (fun x7 F6 => (w32 x7 = 0 → Q (-2) F6) ∧ (¬ w32 x7 = 0 → rcv F6 (some o) 11 (fun o10 => mX11_isCar o10 a2 F6 (fun x9 F8 => (w32 x9 = 0 → Q (-2) F8) ∧ (¬ w32 x9 = 0 → mX11_isTrack a3 F8 (fun x12 F11 => (w32 x12 = 0 → Q (-2) F11) ∧ (¬ w32 x12 = 0 → gR F11 (some o) 11 0 (fun x13 => gR F11 x13 5 9 (fun x14 => rcv F11 x14 7 (fun o17 => mX7_add o17 a1 a2 a3 F11 (fun x16 F15 => Q x16 F15))))))))))))
set_option maxHeartbeats 4000000 in
theorem tX11_seen {d : Nat} {o : Nat} {a1 : Int} {a2 : Int} {a3 : Int} {F : hp} {Q : Int → hp → Prop} (h : mX11_seen o a1 a2 a3 F Q) : am nX11_seen (d + 2) 0 0 [vr (some o), vi a1, vi a2, vi a3] F (qI Q) := by
  refine am_of (by decide +kernel) (Nat.le_of_ble_eq_true rfl) ?_
  show aw nX11_seen (d + 2) 0 0 0 [some (vr (some o)), some (vi a1), some (vi a2), some (vi a3)] [] F (qI Q)
  unfold mX11_seen at h
  refine aw_iload_n dX11_seen_0 rfl rfl (aw_pc (pc' := 1) rfl ?_)
  refine aw_iconst dX11_seen_1 (aw_pc (pc' := 2) rfl ?_)
  refine ac_ne rfl wl_m1 dX11_seen_2 rfl (fun c => ?_) (fun c => ?_)
  · replace h := h.1 c
    refine aw_aload_n dX11_seen_5 rfl rfl (aw_pc (pc' := 6) rfl ?_)
    refine ar_gR fl_RX11_20 dX11_seen_6 h ?_
    clear h
    intro x1 h
    refine aw_pc (pc' := 9) rfl ?_
    refine ar_gR fl_RX11_334 dX11_seen_9 h ?_
    clear h
    intro x2 h
    refine aw_pc (pc' := 12) rfl ?_
    have h0 := rcv_inv h
    clear h
    obtain ⟨o5, fs_o5, hr_o5, he_o5, h⟩ := h0
    subst hr_o5
    refine ar_VI (kc' := 0) (ks' := 0) (kc := 0) (ks := 0) (a := o5) (ci := 7) (as := []) (st := []) (tX7_empty h) mt_X7_empty rfl qM_RX11_317 qI_X7_empty qV_X7_empty he_o5 rfl (Nat.le_of_ble_eq_true rfl) dX11_seen_12 ?_
    clear h
    intro x4 F3 h
    refine aw_pc (pc' := 15) rfl ?_
    exact aw_iret rfl dX11_seen_15 ⟨_, rfl, h⟩
  · replace h := h.2 c
    refine aw_iload_n dX11_seen_16 rfl rfl (aw_pc (pc' := 17) rfl ?_)
    refine aw_iconst dX11_seen_17 (aw_pc (pc' := 18) rfl ?_)
    refine aw_iconst dX11_seen_18 (aw_pc (pc' := 19) rfl ?_)
    refine ar_SI (kc' := 0) (ks' := 0) (kc := 0) (ks := 0) (as := [vi a1, vi 0, vi 3]) (st := []) (tX11_within h) mt_X11_within qM_RX11_62 qS_X11_within rfl (Nat.le_of_ble_eq_true rfl) dX11_seen_19 ?_
    clear h
    intro x7 F6 h
    refine aw_pc (pc' := 22) rfl ?_
    refine aw_if_eq dX11_seen_22 rfl (fun c => ?_) (fun c => ?_)
    · replace h := h.1 c
      refine aw_bipush dX11_seen_40 (by decide) (aw_pc (pc' := 42) rfl ?_)
      exact aw_iret rfl dX11_seen_42 ⟨_, rfl, h⟩
    · replace h := h.2 c
      refine aw_aload_n dX11_seen_25 rfl rfl (aw_pc (pc' := 26) rfl ?_)
      refine aw_iload_n dX11_seen_26 rfl rfl (aw_pc (pc' := 27) rfl ?_)
      have h0 := rcv_inv h
      clear h
      obtain ⟨o10, fs_o10, hr_o10, he_o10, h⟩ := h0
      obtain rfl : o = o10 := Option.some.inj hr_o10
      refine ar_VI (kc' := 0) (ks' := 0) (kc := 0) (ks := 0) (a := o) (ci := 11) (as := [vi a2]) (st := []) (tX11_isCar h) mt_X11_isCar rfl qM_RX11_89 qI_X11_isCar qV_X11_isCar he_o10 rfl (Nat.le_of_ble_eq_true rfl) dX11_seen_27 ?_
      clear h
      intro x9 F8 h
      refine aw_pc (pc' := 30) rfl ?_
      refine aw_if_eq dX11_seen_30 rfl (fun c => ?_) (fun c => ?_)
      · replace h := h.1 c
        refine aw_bipush dX11_seen_40 (by decide) (aw_pc (pc' := 42) rfl ?_)
        exact aw_iret rfl dX11_seen_42 ⟨_, rfl, h⟩
      · replace h := h.2 c
        refine aw_iload_n dX11_seen_33 rfl rfl (aw_pc (pc' := 34) rfl ?_)
        refine ar_SI (kc' := 0) (ks' := 0) (kc := 0) (ks := 0) (as := [vi a3]) (st := []) (tX11_isTrack h) mt_X11_isTrack qM_RX11_123 qS_X11_isTrack rfl (Nat.le_of_ble_eq_true rfl) dX11_seen_34 ?_
        clear h
        intro x12 F11 h
        refine aw_pc (pc' := 37) rfl ?_
        refine aw_if_ne dX11_seen_37 rfl (fun c => ?_) (fun c => ?_)
        · replace h := h.1 c
          refine aw_bipush dX11_seen_40 (by decide) (aw_pc (pc' := 42) rfl ?_)
          exact aw_iret rfl dX11_seen_42 ⟨_, rfl, h⟩
        · replace h := h.2 c
          refine aw_aload_n dX11_seen_43 rfl rfl (aw_pc (pc' := 44) rfl ?_)
          refine ar_gR fl_RX11_20 dX11_seen_44 h ?_
          clear h
          intro x13 h
          refine aw_pc (pc' := 47) rfl ?_
          refine ar_gR fl_RX11_334 dX11_seen_47 h ?_
          clear h
          intro x14 h
          refine aw_pc (pc' := 50) rfl ?_
          refine aw_iload_n dX11_seen_50 rfl rfl (aw_pc (pc' := 51) rfl ?_)
          refine aw_iload_n dX11_seen_51 rfl rfl (aw_pc (pc' := 52) rfl ?_)
          refine aw_iload_n dX11_seen_52 rfl rfl (aw_pc (pc' := 53) rfl ?_)
          have h0 := rcv_inv h
          clear h
          obtain ⟨o17, fs_o17, hr_o17, he_o17, h⟩ := h0
          subst hr_o17
          refine ar_VI (kc' := 0) (ks' := 0) (kc := 0) (ks := 0) (a := o17) (ci := 7) (as := [vi a1, vi a2, vi a3]) (st := []) (tX7_add h) mt_X7_add rfl qM_RX11_322 qI_X7_add qV_X7_add he_o17 rfl (Nat.le_of_ble_eq_true rfl) dX11_seen_53 ?_
          clear h
          intro x16 F15 h
          refine aw_pc (pc' := 56) rfl ?_
          exact aw_iret rfl dX11_seen_56 ⟨_, rfl, h⟩
def mX11_lastMomentSeen_L4 (Q : Int → hp → Prop) : Nat → Nat → Int → Int → hp → Prop
  | 0, _, _, _, _ => False
  | k + 1, o, a1, a2, F => gR F (some o) 11 0 (fun x1 => gR F x1 5 9 (fun x2 => gI F x2 7 2 (fun x3 => (w32 a2 < w32 x3 → gR F (some o) 11 0 (fun x4 => gR F x4 5 9 (fun x5 => rcv F x5 7 (fun o8 => mX7_cell o8 a2 0 F (fun x7 F6 => ∀ v9 : Int, v9 = (iMax a1 x7) → mX11_lastMomentSeen_L4 Q k o v9 (a2 + 1) F6))))) ∧ (¬ w32 a2 < w32 x3 → Q a1 F))))
set_option maxHeartbeats 4000000 in
theorem tX11_lastMomentSeen_L4 {d : Nat} {Q : Int → hp → Prop} : ∀ (k : Nat) (o : Nat) (a1 : Int) (a2 : Int) (F : hp), mX11_lastMomentSeen_L4 Q k o a1 a2 F → aw nX11_lastMomentSeen (d + 1) 0 0 4 [some (vr (some o)), some (vi a1), some (vi a2)] [] F (qI Q) := by
  intro k
  induction k with
  | zero => intro o a1 a2 F h; exact h.elim
  | succ k ih =>
    intro o a1 a2 F h
    simp only [mX11_lastMomentSeen_L4] at h
    refine aw_iload_n dX11_lastMomentSeen_4 rfl rfl (aw_pc (pc' := 5) rfl ?_)
    refine aw_aload_n dX11_lastMomentSeen_5 rfl rfl (aw_pc (pc' := 6) rfl ?_)
    refine ar_gR fl_RX11_20 dX11_lastMomentSeen_6 h ?_
    clear h
    intro x1 h
    refine aw_pc (pc' := 9) rfl ?_
    refine ar_gR fl_RX11_334 dX11_lastMomentSeen_9 h ?_
    clear h
    intro x2 h
    refine aw_pc (pc' := 12) rfl ?_
    refine ar_gI fl_RX11_328 dX11_lastMomentSeen_12 h ?_
    clear h
    intro x3 h
    refine aw_pc (pc' := 15) rfl ?_
    refine ac_ge rfl rfl dX11_lastMomentSeen_15 rfl (fun c => ?_) (fun c => ?_)
    · replace h := h.1 c
      refine aw_iload_n dX11_lastMomentSeen_18 rfl rfl (aw_pc (pc' := 19) rfl ?_)
      refine aw_aload_n dX11_lastMomentSeen_19 rfl rfl (aw_pc (pc' := 20) rfl ?_)
      refine ar_gR fl_RX11_20 dX11_lastMomentSeen_20 h ?_
      clear h
      intro x4 h
      refine aw_pc (pc' := 23) rfl ?_
      refine ar_gR fl_RX11_334 dX11_lastMomentSeen_23 h ?_
      clear h
      intro x5 h
      refine aw_pc (pc' := 26) rfl ?_
      refine aw_iload_n dX11_lastMomentSeen_26 rfl rfl (aw_pc (pc' := 27) rfl ?_)
      refine aw_iconst dX11_lastMomentSeen_27 (aw_pc (pc' := 28) rfl ?_)
      have h0 := rcv_inv h
      clear h
      obtain ⟨o8, fs_o8, hr_o8, he_o8, h⟩ := h0
      subst hr_o8
      refine ar_VI (kc' := 0) (ks' := 0) (kc := 0) (ks := 0) (a := o8) (ci := 7) (as := [vi a2, vi 0]) (st := [vi a1]) (tX7_cell h) mt_X7_cell rfl qM_RX11_331 qI_X7_cell qV_X7_cell he_o8 rfl (Nat.le_of_ble_eq_true rfl) dX11_lastMomentSeen_28 ?_
      clear h
      intro x7 F6 h
      refine aw_pc (pc' := 31) rfl ?_
      refine aw_max qM_RX11_344 mw_max (Nat.le_of_ble_eq_true rfl) dX11_lastMomentSeen_31 (aw_pc (pc' := 34) rfl ?_)
      generalize hv_v9 : (iMax a1 x7) = v9
      replace h := h v9 hv_v9.symm
      refine aw_istore_n dX11_lastMomentSeen_34 rfl (by decide) (aw_pc (pc' := 35) rfl ?_)
      refine aw_iinc dX11_lastMomentSeen_35 rfl (by decide) (aw_pc (pc' := 38) rfl ?_)
      refine aw_goto (tgt := 4) dX11_lastMomentSeen_38 rfl ?_
      exact aw_mask [true, true, true] (ih _ _ _ _ h)
    · replace h := h.2 c
      refine aw_iload_n dX11_lastMomentSeen_41 rfl rfl (aw_pc (pc' := 42) rfl ?_)
      exact aw_iret rfl dX11_lastMomentSeen_42 ⟨_, rfl, h⟩
def mX11_lastMomentSeen (o : Nat) (F : hp) (Q : Int → hp → Prop) : Prop := (∃ k1, mX11_lastMomentSeen_L4 Q k1 o 0 0 F)
set_option maxHeartbeats 4000000 in
theorem tX11_lastMomentSeen {d : Nat} {o : Nat} {F : hp} {Q : Int → hp → Prop} (h : mX11_lastMomentSeen o F Q) : am nX11_lastMomentSeen (d + 1) 0 0 [vr (some o)] F (qI Q) := by
  refine am_of (by decide +kernel) (Nat.le_of_ble_eq_true rfl) ?_
  show aw nX11_lastMomentSeen (d + 1) 0 0 0 [some (vr (some o)), none, none] [] F (qI Q)
  unfold mX11_lastMomentSeen at h
  refine aw_iconst dX11_lastMomentSeen_0 (aw_pc (pc' := 1) rfl ?_)
  refine aw_istore_n dX11_lastMomentSeen_1 rfl (by decide) (aw_pc (pc' := 2) rfl ?_)
  refine aw_iconst dX11_lastMomentSeen_2 (aw_pc (pc' := 3) rfl ?_)
  refine aw_istore_n dX11_lastMomentSeen_3 rfl (by decide) (aw_pc (pc' := 4) rfl ?_)
  obtain ⟨k1, h⟩ := h
  exact aw_mask [true, true, true] (tX11_lastMomentSeen_L4 k1 _ _ _ _ h)
def mX11_fitsSeen_J69 (X12 : Int → Int → Int → Option Nat → Int → hp → Prop) (Q : Int → hp → Prop) (a1 : Int) (a2 : Int) (a3 : Int) (a4 : Option Nat) (a5 : Int) (F : hp) : Prop := X12 a1 a2 a3 a4 (a5 + 1) F
set_option maxHeartbeats 4000000 in
theorem tX11_fitsSeen_J69 {d : Nat} {X12 : Int → Int → Int → Option Nat → Int → hp → Prop} {Q : Int → hp → Prop} (hX12 : ∀ (a1 : Int) (a2 : Int) (a3 : Int) (a4 : Option Nat) (a5 : Int) (F : hp), X12 a1 a2 a3 a4 a5 F → aw nX11_fitsSeen (d + 2) 0 0 12 [none, some (vi a1), some (vi a2), some (vi a3), some (vr a4), some (vi a5), none] [] F (qI Q)) {a1 : Int} {a2 : Int} {a3 : Int} {a4 : Option Nat} {a5 : Int} {F : hp} (h : mX11_fitsSeen_J69 X12 Q a1 a2 a3 a4 a5 F) : aw nX11_fitsSeen (d + 2) 0 0 69 [none, some (vi a1), some (vi a2), some (vi a3), some (vr a4), some (vi a5), none] [] F (qI Q) := by
  unfold mX11_fitsSeen_J69 at h
  refine aw_iinc dX11_fitsSeen_69 rfl (by decide) (aw_pc (pc' := 72) rfl ?_)
  refine aw_goto (tgt := 12) dX11_fitsSeen_72 rfl ?_
  exact aw_mask [false, true, true, true, true, true, false] (hX12 _ _ _ _ _ _ h)
def mX11_fitsSeen_L12 (Q : Int → hp → Prop) : Nat → Int → Int → Int → Option Nat → Int → hp → Prop
  | 0, _, _, _, _, _, _ => False
  | k + 1, a1, a2, a3, a4, a5, F => gI F a4 7 2 (fun x1 => (w32 a5 < w32 x1 → rcv F a4 7 (fun o4 => mX7_cell o4 a5 0 F (fun x3 F2 => (w32 x3 = w32 a1 → rcv F2 (some o4) 7 (fun o7 => mX7_cell o7 a5 1 F2 (fun x6 F5 => (w32 x6 < w32 a3 → mX4_trackIn a2 x6 F5 (fun x9 F8 => rcv F8 (some o4) 7 (fun o12 => mX7_cell o12 a5 2 F8 (fun x11 F10 => (w32 x9 = w32 x11 → mX11_fitsSeen_J69 (fun a1' a2' a3' a4' a5' F' => mX11_fitsSeen_L12 Q k a1' a2' a3' a4' a5' F') Q a1 a2 a3 (some o4) a5 F10) ∧ (¬ w32 x9 = w32 x11 → Q 0 F10))))) ∧ (¬ w32 x6 < w32 a3 → Q 0 F5)))) ∧ (¬ w32 x3 = w32 a1 → mX11_fitsSeen_J69 (fun a1' a2' a3' a4' a5' F' => mX11_fitsSeen_L12 Q k a1' a2' a3' a4' a5' F') Q a1 a2 a3 (some o4) a5 F2)))) ∧ (¬ w32 a5 < w32 x1 → Q 1 F))
set_option maxHeartbeats 4000000 in
theorem tX11_fitsSeen_L12 {d : Nat} {Q : Int → hp → Prop} : ∀ (k : Nat) (a1 : Int) (a2 : Int) (a3 : Int) (a4 : Option Nat) (a5 : Int) (F : hp), mX11_fitsSeen_L12 Q k a1 a2 a3 a4 a5 F → aw nX11_fitsSeen (d + 2) 0 0 12 [none, some (vi a1), some (vi a2), some (vi a3), some (vr a4), some (vi a5), none] [] F (qI Q) := by
  intro k
  induction k with
  | zero => intro a1 a2 a3 a4 a5 F h; exact h.elim
  | succ k ih =>
    intro a1 a2 a3 a4 a5 F h
    simp only [mX11_fitsSeen_L12] at h
    refine aw_iload dX11_fitsSeen_12 rfl (aw_pc (pc' := 14) rfl ?_)
    refine aw_aload dX11_fitsSeen_14 rfl (aw_pc (pc' := 16) rfl ?_)
    refine ar_gI fl_RX11_328 dX11_fitsSeen_16 h ?_
    clear h
    intro x1 h
    refine aw_pc (pc' := 19) rfl ?_
    refine ac_ge rfl rfl dX11_fitsSeen_19 rfl (fun c => ?_) (fun c => ?_)
    · replace h := h.1 c
      refine aw_aload dX11_fitsSeen_22 rfl (aw_pc (pc' := 24) rfl ?_)
      refine aw_iload dX11_fitsSeen_24 rfl (aw_pc (pc' := 26) rfl ?_)
      refine aw_iconst dX11_fitsSeen_26 (aw_pc (pc' := 27) rfl ?_)
      have h0 := rcv_inv h
      clear h
      obtain ⟨o4, fs_o4, hr_o4, he_o4, h⟩ := h0
      subst hr_o4
      refine ar_VI (kc' := 0) (ks' := 0) (kc := 0) (ks := 0) (a := o4) (ci := 7) (as := [vi a5, vi 0]) (st := []) (tX7_cell h) mt_X7_cell rfl qM_RX11_331 qI_X7_cell qV_X7_cell he_o4 rfl (Nat.le_of_ble_eq_true rfl) dX11_fitsSeen_27 ?_
      clear h
      intro x3 F2 h
      refine aw_pc (pc' := 30) rfl ?_
      refine aw_iload_n dX11_fitsSeen_30 rfl rfl (aw_pc (pc' := 31) rfl ?_)
      refine ac_ne rfl rfl dX11_fitsSeen_31 rfl (fun c => ?_) (fun c => ?_)
      · replace h := h.1 c
        refine aw_aload dX11_fitsSeen_34 rfl (aw_pc (pc' := 36) rfl ?_)
        refine aw_iload dX11_fitsSeen_36 rfl (aw_pc (pc' := 38) rfl ?_)
        refine aw_iconst dX11_fitsSeen_38 (aw_pc (pc' := 39) rfl ?_)
        have h0 := rcv_inv h
        clear h
        obtain ⟨o7, fs_o7, hr_o7, he_o7, h⟩ := h0
        obtain rfl : o4 = o7 := Option.some.inj hr_o7
        refine ar_VI (kc' := 0) (ks' := 0) (kc := 0) (ks := 0) (a := o4) (ci := 7) (as := [vi a5, vi 1]) (st := []) (tX7_cell h) mt_X7_cell rfl qM_RX11_331 qI_X7_cell qV_X7_cell he_o7 rfl (Nat.le_of_ble_eq_true rfl) dX11_fitsSeen_39 ?_
        clear h
        intro x6 F5 h
        refine aw_pc (pc' := 42) rfl ?_
        refine aw_istore dX11_fitsSeen_42 (by decide) (aw_pc (pc' := 44) rfl ?_)
        refine aw_iload dX11_fitsSeen_44 rfl (aw_pc (pc' := 46) rfl ?_)
        refine aw_iload_n dX11_fitsSeen_46 rfl rfl (aw_pc (pc' := 47) rfl ?_)
        refine ac_ge rfl rfl dX11_fitsSeen_47 rfl (fun c => ?_) (fun c => ?_)
        · replace h := h.1 c
          refine aw_iload_n dX11_fitsSeen_50 rfl rfl (aw_pc (pc' := 51) rfl ?_)
          refine aw_iload dX11_fitsSeen_51 rfl (aw_pc (pc' := 53) rfl ?_)
          refine ar_SI (kc' := 0) (ks' := 0) (kc := 0) (ks := 0) (as := [vi a2, vi x6]) (st := []) (tX4_trackIn h) mt_X4_trackIn qM_RX11_356 qS_X4_trackIn rfl (Nat.le_of_ble_eq_true rfl) dX11_fitsSeen_53 ?_
          clear h
          intro x9 F8 h
          refine aw_pc (pc' := 56) rfl ?_
          refine aw_aload dX11_fitsSeen_56 rfl (aw_pc (pc' := 58) rfl ?_)
          refine aw_iload dX11_fitsSeen_58 rfl (aw_pc (pc' := 60) rfl ?_)
          refine aw_iconst dX11_fitsSeen_60 (aw_pc (pc' := 61) rfl ?_)
          have h0 := rcv_inv h
          clear h
          obtain ⟨o12, fs_o12, hr_o12, he_o12, h⟩ := h0
          obtain rfl : o4 = o12 := Option.some.inj hr_o12
          refine ar_VI (kc' := 0) (ks' := 0) (kc := 0) (ks := 0) (a := o4) (ci := 7) (as := [vi a5, vi 2]) (st := [vi x9]) (tX7_cell h) mt_X7_cell rfl qM_RX11_331 qI_X7_cell qV_X7_cell he_o12 rfl (Nat.le_of_ble_eq_true rfl) dX11_fitsSeen_61 ?_
          clear h
          intro x11 F10 h
          refine aw_pc (pc' := 64) rfl ?_
          refine ac_eq rfl rfl dX11_fitsSeen_64 rfl (fun c => ?_) (fun c => ?_)
          · replace h := h.1 c
            exact aw_mask [false, true, true, true, true, true, false] (tX11_fitsSeen_J69 (fun a1' a2' a3' a4' a5' F' h' => ih a1' a2' a3' a4' a5' F' h') h)
          · replace h := h.2 c
            refine aw_iconst dX11_fitsSeen_67 (aw_pc (pc' := 68) rfl ?_)
            exact aw_zret rfl (by decide) dX11_fitsSeen_68 ⟨_, rfl, h⟩
        · replace h := h.2 c
          refine aw_iconst dX11_fitsSeen_67 (aw_pc (pc' := 68) rfl ?_)
          exact aw_zret rfl (by decide) dX11_fitsSeen_68 ⟨_, rfl, h⟩
      · replace h := h.2 c
        exact aw_mask [false, true, true, true, true, true, false] (tX11_fitsSeen_J69 (fun a1' a2' a3' a4' a5' F' h' => ih a1' a2' a3' a4' a5' F' h') h)
    · replace h := h.2 c
      refine aw_iconst dX11_fitsSeen_75 (aw_pc (pc' := 76) rfl ?_)
      exact aw_zret rfl (by decide) dX11_fitsSeen_76 ⟨_, rfl, h⟩
def mX11_fitsSeen (o : Nat) (a1 : Int) (a2 : Int) (a3 : Int) (F : hp) (Q : Int → hp → Prop) : Prop := gR F (some o) 11 0 (fun x1 => gR F x1 5 9 (fun x2 => (∃ k3, mX11_fitsSeen_L12 Q k3 a1 a2 a3 x2 0 F)))
set_option maxHeartbeats 4000000 in
theorem tX11_fitsSeen {d : Nat} {o : Nat} {a1 : Int} {a2 : Int} {a3 : Int} {F : hp} {Q : Int → hp → Prop} (h : mX11_fitsSeen o a1 a2 a3 F Q) : am nX11_fitsSeen (d + 2) 0 0 [vr (some o), vi a1, vi a2, vi a3] F (qI Q) := by
  refine am_of (by decide +kernel) (Nat.le_of_ble_eq_true rfl) ?_
  show aw nX11_fitsSeen (d + 2) 0 0 0 [some (vr (some o)), some (vi a1), some (vi a2), some (vi a3), none, none, none] [] F (qI Q)
  unfold mX11_fitsSeen at h
  refine aw_aload_n dX11_fitsSeen_0 rfl rfl (aw_pc (pc' := 1) rfl ?_)
  refine ar_gR fl_RX11_20 dX11_fitsSeen_1 h ?_
  clear h
  intro x1 h
  refine aw_pc (pc' := 4) rfl ?_
  refine ar_gR fl_RX11_334 dX11_fitsSeen_4 h ?_
  clear h
  intro x2 h
  refine aw_pc (pc' := 7) rfl ?_
  refine aw_astore dX11_fitsSeen_7 (by decide) (aw_pc (pc' := 9) rfl ?_)
  refine aw_iconst dX11_fitsSeen_9 (aw_pc (pc' := 10) rfl ?_)
  refine aw_istore dX11_fitsSeen_10 (by decide) (aw_pc (pc' := 12) rfl ?_)
  obtain ⟨k3, h⟩ := h
  exact aw_mask [false, true, true, true, true, true, false] (tX11_fitsSeen_L12 k3 _ _ _ _ _ _ h)
def mX11_fitsAllSeen_L24 (Q : Int → hp → Prop) : Nat → Nat → Int → Int → Int → Int → Int → Int → hp → Prop
  | 0, _, _, _, _, _, _, _, _ => False
  | k + 1, o, a1, a4, a5, a6, a7, a8, F => (0 < w32 a8 → rcv F (some o) 11 (fun o3 => mX11_fitsSeen o3 a7 a6 a5 F (fun x2 F1 => (w32 x2 = 0 → Q 0 F1) ∧ (¬ w32 x2 = 0 → gR F1 (some o) 11 4 (fun x4 => w32 a8 ≠ 0 ∧ rcv F1 x4 4 (fun o7 => mX4_codeBehind o7 a6 a5 ((w32 ((w32 a1).tdiv (w32 a8))).tmod 9) a4 F1 (fun x6 F5 => (w32 x6 = (-1) → Q 0 F5) ∧ (¬ w32 x6 = (-1) → ∀ v8 : Int, v8 = ((w32 a8).tdiv 9) → mX11_fitsAllSeen_L24 Q k o a1 a4 a5 x6 (a7 + 1) v8 F5)))))))) ∧ (¬ 0 < w32 a8 → rcv F (some o) 11 (fun o11 => mX11_fitsSeen o11 a7 a6 a5 F (fun x10 F9 => (((x10 : Int) = 0 ∨ (x10 : Int) = 1) ∧ Q x10 F9))))
set_option maxHeartbeats 4000000 in
theorem tX11_fitsAllSeen_L24 {d : Nat} {Q : Int → hp → Prop} : ∀ (k : Nat) (o : Nat) (a1 : Int) (a4 : Int) (a5 : Int) (a6 : Int) (a7 : Int) (a8 : Int) (F : hp), mX11_fitsAllSeen_L24 Q k o a1 a4 a5 a6 a7 a8 F → aw nX11_fitsAllSeen (d + 3) 0 0 24 [some (vr (some o)), some (vi a1), none, none, some (vi a4), some (vi a5), some (vi a6), some (vi a7), some (vi a8)] [] F (qI Q) := by
  intro k
  induction k with
  | zero => intro o a1 a4 a5 a6 a7 a8 F h; exact h.elim
  | succ k ih =>
    intro o a1 a4 a5 a6 a7 a8 F h
    simp only [mX11_fitsAllSeen_L24] at h
    refine aw_iload dX11_fitsAllSeen_24 rfl (aw_pc (pc' := 26) rfl ?_)
    refine aw_if_le dX11_fitsAllSeen_26 rfl (fun c => ?_) (fun c => ?_)
    · replace h := h.1 c
      refine aw_aload_n dX11_fitsAllSeen_29 rfl rfl (aw_pc (pc' := 30) rfl ?_)
      refine aw_iload dX11_fitsAllSeen_30 rfl (aw_pc (pc' := 32) rfl ?_)
      refine aw_iload dX11_fitsAllSeen_32 rfl (aw_pc (pc' := 34) rfl ?_)
      refine aw_iload dX11_fitsAllSeen_34 rfl (aw_pc (pc' := 36) rfl ?_)
      have h0 := rcv_inv h
      clear h
      obtain ⟨o3, fs_o3, hr_o3, he_o3, h⟩ := h0
      obtain rfl : o = o3 := Option.some.inj hr_o3
      refine ar_VI (kc' := 0) (ks' := 0) (kc := 0) (ks := 0) (a := o) (ci := 11) (as := [vi a7, vi a6, vi a5]) (st := []) (tX11_fitsSeen h) mt_X11_fitsSeen rfl qM_RX11_349 qI_X11_fitsSeen qV_X11_fitsSeen he_o3 rfl (Nat.le_of_ble_eq_true rfl) dX11_fitsAllSeen_36 ?_
      clear h
      intro x2 F1 h
      refine aw_pc (pc' := 39) rfl ?_
      refine aw_if_ne dX11_fitsAllSeen_39 rfl (fun c => ?_) (fun c => ?_)
      · replace h := h.1 c
        refine aw_iconst dX11_fitsAllSeen_42 (aw_pc (pc' := 43) rfl ?_)
        exact aw_zret rfl (by decide) dX11_fitsAllSeen_43 ⟨_, rfl, h⟩
      · replace h := h.2 c
        refine aw_aload_n dX11_fitsAllSeen_44 rfl rfl (aw_pc (pc' := 45) rfl ?_)
        refine ar_gR fl_RX11_37 dX11_fitsAllSeen_45 h ?_
        clear h
        intro x4 h
        refine aw_pc (pc' := 48) rfl ?_
        refine aw_iload dX11_fitsAllSeen_48 rfl (aw_pc (pc' := 50) rfl ?_)
        refine aw_iload dX11_fitsAllSeen_50 rfl (aw_pc (pc' := 52) rfl ?_)
        refine aw_iload_n dX11_fitsAllSeen_52 rfl rfl (aw_pc (pc' := 53) rfl ?_)
        refine aw_iload dX11_fitsAllSeen_53 rfl (aw_pc (pc' := 55) rfl ?_)
        refine ac_div rfl h.1 dX11_fitsAllSeen_55 (aw_pc (pc' := 56) rfl ?_)
        replace h := h.2
        refine aw_bipush dX11_fitsAllSeen_56 (by decide) (aw_pc (pc' := 58) rfl ?_)
        refine ac_rem wl_9 (by decide) dX11_fitsAllSeen_58 (aw_pc (pc' := 59) rfl ?_)
        refine aw_iload dX11_fitsAllSeen_59 rfl (aw_pc (pc' := 61) rfl ?_)
        have h0 := rcv_inv h
        clear h
        obtain ⟨o7, fs_o7, hr_o7, he_o7, h⟩ := h0
        subst hr_o7
        refine ar_VI (kc' := 0) (ks' := 0) (kc := 0) (ks := 0) (a := o7) (ci := 4) (as := [vi a6, vi a5, vi ((w32 ((w32 a1).tdiv (w32 a8))).tmod 9), vi a4]) (st := []) (tX4_codeBehind h) mt_X4_codeBehind rfl qM_RX11_352 qI_X4_codeBehind qV_X4_codeBehind he_o7 rfl (Nat.le_of_ble_eq_true rfl) dX11_fitsAllSeen_61 ?_
        clear h
        intro x6 F5 h
        refine aw_pc (pc' := 64) rfl ?_
        refine aw_istore dX11_fitsAllSeen_64 (by decide) (aw_pc (pc' := 66) rfl ?_)
        refine aw_iload dX11_fitsAllSeen_66 rfl (aw_pc (pc' := 68) rfl ?_)
        refine aw_iconst dX11_fitsAllSeen_68 (aw_pc (pc' := 69) rfl ?_)
        refine ac_ne rfl wl_m1 dX11_fitsAllSeen_69 rfl (fun c => ?_) (fun c => ?_)
        · replace h := h.1 c
          refine aw_iconst dX11_fitsAllSeen_72 (aw_pc (pc' := 73) rfl ?_)
          exact aw_zret rfl (by decide) dX11_fitsAllSeen_73 ⟨_, rfl, h⟩
        · replace h := h.2 c
          refine aw_iinc dX11_fitsAllSeen_74 rfl (by decide) (aw_pc (pc' := 77) rfl ?_)
          refine aw_iload dX11_fitsAllSeen_77 rfl (aw_pc (pc' := 79) rfl ?_)
          refine aw_bipush dX11_fitsAllSeen_79 (by decide) (aw_pc (pc' := 81) rfl ?_)
          refine ac_div wl_9 (by decide) dX11_fitsAllSeen_81 (aw_pc (pc' := 82) rfl ?_)
          generalize hv_v8 : ((w32 a8).tdiv 9) = v8
          replace h := h v8 hv_v8.symm
          refine aw_istore dX11_fitsAllSeen_82 (by decide) (aw_pc (pc' := 84) rfl ?_)
          refine aw_goto (tgt := 24) dX11_fitsAllSeen_84 rfl ?_
          exact aw_mask [true, true, false, false, true, true, true, true, true] (ih _ _ _ _ _ _ _ _ h)
    · replace h := h.2 c
      refine aw_aload_n dX11_fitsAllSeen_87 rfl rfl (aw_pc (pc' := 88) rfl ?_)
      refine aw_iload dX11_fitsAllSeen_88 rfl (aw_pc (pc' := 90) rfl ?_)
      refine aw_iload dX11_fitsAllSeen_90 rfl (aw_pc (pc' := 92) rfl ?_)
      refine aw_iload dX11_fitsAllSeen_92 rfl (aw_pc (pc' := 94) rfl ?_)
      have h0 := rcv_inv h
      clear h
      obtain ⟨o11, fs_o11, hr_o11, he_o11, h⟩ := h0
      obtain rfl : o = o11 := Option.some.inj hr_o11
      refine ar_VI (kc' := 0) (ks' := 0) (kc := 0) (ks := 0) (a := o) (ci := 11) (as := [vi a7, vi a6, vi a5]) (st := []) (tX11_fitsSeen h) mt_X11_fitsSeen rfl qM_RX11_349 qI_X11_fitsSeen qV_X11_fitsSeen he_o11 rfl (Nat.le_of_ble_eq_true rfl) dX11_fitsAllSeen_94 ?_
      clear h
      intro x10 F9 h
      refine aw_pc (pc' := 97) rfl ?_
      exact aw_zret rfl (nz h.1) dX11_fitsAllSeen_97 ⟨_, rfl, h.2⟩
def mX11_fitsAllSeen (o : Nat) (a1 : Int) (a2 : Int) (a3 : Int) (a4 : Int) (F : hp) (Q : Int → hp → Prop) : Prop := gR F (some o) 11 1 (fun x1 => gR F x1 5 0 (fun x2 => rcv F x2 10 (fun o5 => mX10_countCars o5 F (fun x4 F3 => ∀ v6 : Int, v6 = ((w32 a2).tdiv 9) → (∃ k7, mX11_fitsAllSeen_L24 Q k7 o a1 a4 x4 a3 0 v6 F3)))))
set_option maxHeartbeats 4000000 in
theorem tX11_fitsAllSeen {d : Nat} {o : Nat} {a1 : Int} {a2 : Int} {a3 : Int} {a4 : Int} {F : hp} {Q : Int → hp → Prop} (h : mX11_fitsAllSeen o a1 a2 a3 a4 F Q) : am nX11_fitsAllSeen (d + 3) 0 0 [vr (some o), vi a1, vi a2, vi a3, vi a4] F (qI Q) := by
  refine am_of (by decide +kernel) (Nat.le_of_ble_eq_true rfl) ?_
  show aw nX11_fitsAllSeen (d + 3) 0 0 0 [some (vr (some o)), some (vi a1), some (vi a2), some (vi a3), some (vi a4), none, none, none, none] [] F (qI Q)
  unfold mX11_fitsAllSeen at h
  refine aw_aload_n dX11_fitsAllSeen_0 rfl rfl (aw_pc (pc' := 1) rfl ?_)
  refine ar_gR fl_RX11_24 dX11_fitsAllSeen_1 h ?_
  clear h
  intro x1 h
  refine aw_pc (pc' := 4) rfl ?_
  refine ar_gR fl_RX11_66 dX11_fitsAllSeen_4 h ?_
  clear h
  intro x2 h
  refine aw_pc (pc' := 7) rfl ?_
  have h0 := rcv_inv h
  clear h
  obtain ⟨o5, fs_o5, hr_o5, he_o5, h⟩ := h0
  subst hr_o5
  refine ar_VI (kc' := 0) (ks' := 0) (kc := 0) (ks := 0) (a := o5) (ci := 10) (as := []) (st := []) (tX10_countCars h) mt_X10_countCars rfl qM_RX11_69 qI_X10_countCars qV_X10_countCars he_o5 rfl (Nat.le_of_ble_eq_true rfl) dX11_fitsAllSeen_7 ?_
  clear h
  intro x4 F3 h
  refine aw_pc (pc' := 10) rfl ?_
  refine aw_istore dX11_fitsAllSeen_10 (by decide) (aw_pc (pc' := 12) rfl ?_)
  refine aw_iload_n dX11_fitsAllSeen_12 rfl rfl (aw_pc (pc' := 13) rfl ?_)
  refine aw_istore dX11_fitsAllSeen_13 (by decide) (aw_pc (pc' := 15) rfl ?_)
  refine aw_iconst dX11_fitsAllSeen_15 (aw_pc (pc' := 16) rfl ?_)
  refine aw_istore dX11_fitsAllSeen_16 (by decide) (aw_pc (pc' := 18) rfl ?_)
  refine aw_iload_n dX11_fitsAllSeen_18 rfl rfl (aw_pc (pc' := 19) rfl ?_)
  refine aw_bipush dX11_fitsAllSeen_19 (by decide) (aw_pc (pc' := 21) rfl ?_)
  refine ac_div wl_9 (by decide) dX11_fitsAllSeen_21 (aw_pc (pc' := 22) rfl ?_)
  generalize hv_v6 : ((w32 a2).tdiv 9) = v6
  replace h := h v6 hv_v6.symm
  refine aw_istore dX11_fitsAllSeen_22 (by decide) (aw_pc (pc' := 24) rfl ?_)
  obtain ⟨k7, h⟩ := h
  exact aw_mask [true, true, false, false, true, true, true, true, true] (tX11_fitsAllSeen_L24 k7 _ _ _ _ _ _ _ _ h)
def mX11_histories_J84 (X54 : Nat → Int → Int → Int → Int → Int → Int → hp → Prop) (Q : Int → hp → Prop) (o : Nat) (a1 : Int) (a3 : Int) (a4 : Int) (a5 : Int) (a6 : Int) (a7 : Int) (F : hp) : Prop := X54 o a1 a3 a4 a5 a6 (a7 + 1) F
set_option maxHeartbeats 4000000 in
theorem tX11_histories_J84 {d : Nat} {X54 : Nat → Int → Int → Int → Int → Int → Int → hp → Prop} {Q : Int → hp → Prop} (hX54 : ∀ (o : Nat) (a1 : Int) (a3 : Int) (a4 : Int) (a5 : Int) (a6 : Int) (a7 : Int) (F : hp), X54 o a1 a3 a4 a5 a6 a7 F → aw nX11_histories (d + 4) 0 0 54 [some (vr (some o)), some (vi a1), none, some (vi a3), some (vi a4), some (vi a5), some (vi a6), some (vi a7)] [] F (qI Q)) {o : Nat} {a1 : Int} {a3 : Int} {a4 : Int} {a5 : Int} {a6 : Int} {a7 : Int} {F : hp} (h : mX11_histories_J84 X54 Q o a1 a3 a4 a5 a6 a7 F) : aw nX11_histories (d + 4) 0 0 84 [some (vr (some o)), some (vi a1), none, some (vi a3), some (vi a4), some (vi a5), some (vi a6), some (vi a7)] [] F (qI Q) := by
  unfold mX11_histories_J84 at h
  refine aw_iinc dX11_histories_84 rfl (by decide) (aw_pc (pc' := 87) rfl ?_)
  refine aw_goto (tgt := 54) dX11_histories_87 rfl ?_
  exact aw_mask [true, true, false, true, true, true, true, true] (hX54 _ _ _ _ _ _ _ _ h)
def mX11_histories_L54 (Q : Int → hp → Prop) : Nat → Nat → Int → Int → Int → Int → Int → Int → hp → Prop
  | 0, _, _, _, _, _, _, _, _ => False
  | k + 1, o, a1, a3, a4, a5, a6, a7, F => (w32 a7 < w32 a3 → rcv F (some o) 11 (fun o3 => mX11_fitsAllSeen o3 a7 a3 a4 a5 F (fun x2 F1 => (w32 x2 = 0 → mX11_histories_J84 (fun o' a1' a3' a4' a5' a6' a7' F' => mX11_histories_L54 Q k o' a1' a3' a4' a5' a6' a7' F') Q o a1 a3 a4 a5 a6 a7 F1) ∧ (¬ w32 x2 = 0 → (w32 a1 = 0 → mX11_histories_J84 (fun o' a1' a3' a4' a5' a6' a7' F' => mX11_histories_L54 Q k o' a1' a3' a4' a5' a6' a7' F') Q o a1 a3 a4 a5 (a6 + 1) a7 F1) ∧ (¬ w32 a1 = 0 → Q a7 F1))))) ∧ (¬ w32 a7 < w32 a3 → (w32 a1 = 0 → Q a6 F) ∧ (¬ w32 a1 = 0 → Q (-1) F))
set_option maxHeartbeats 4000000 in
theorem tX11_histories_L54 {d : Nat} {Q : Int → hp → Prop} : ∀ (k : Nat) (o : Nat) (a1 : Int) (a3 : Int) (a4 : Int) (a5 : Int) (a6 : Int) (a7 : Int) (F : hp), mX11_histories_L54 Q k o a1 a3 a4 a5 a6 a7 F → aw nX11_histories (d + 4) 0 0 54 [some (vr (some o)), some (vi a1), none, some (vi a3), some (vi a4), some (vi a5), some (vi a6), some (vi a7)] [] F (qI Q) := by
  intro k
  induction k with
  | zero => intro o a1 a3 a4 a5 a6 a7 F h; exact h.elim
  | succ k ih =>
    intro o a1 a3 a4 a5 a6 a7 F h
    simp only [mX11_histories_L54] at h
    refine aw_iload dX11_histories_54 rfl (aw_pc (pc' := 56) rfl ?_)
    refine aw_iload_n dX11_histories_56 rfl rfl (aw_pc (pc' := 57) rfl ?_)
    refine ac_ge rfl rfl dX11_histories_57 rfl (fun c => ?_) (fun c => ?_)
    · replace h := h.1 c
      refine aw_aload_n dX11_histories_60 rfl rfl (aw_pc (pc' := 61) rfl ?_)
      refine aw_iload dX11_histories_61 rfl (aw_pc (pc' := 63) rfl ?_)
      refine aw_iload_n dX11_histories_63 rfl rfl (aw_pc (pc' := 64) rfl ?_)
      refine aw_iload dX11_histories_64 rfl (aw_pc (pc' := 66) rfl ?_)
      refine aw_iload dX11_histories_66 rfl (aw_pc (pc' := 68) rfl ?_)
      have h0 := rcv_inv h
      clear h
      obtain ⟨o3, fs_o3, hr_o3, he_o3, h⟩ := h0
      obtain rfl : o = o3 := Option.some.inj hr_o3
      refine ar_VI (kc' := 0) (ks' := 0) (kc := 0) (ks := 0) (a := o) (ci := 11) (as := [vi a7, vi a3, vi a4, vi a5]) (st := []) (tX11_fitsAllSeen h) mt_X11_fitsAllSeen rfl qM_RX11_340 qI_X11_fitsAllSeen qV_X11_fitsAllSeen he_o3 rfl (Nat.le_of_ble_eq_true rfl) dX11_histories_68 ?_
      clear h
      intro x2 F1 h
      refine aw_pc (pc' := 71) rfl ?_
      refine aw_if_eq dX11_histories_71 rfl (fun c => ?_) (fun c => ?_)
      · replace h := h.1 c
        exact aw_mask [true, true, false, true, true, true, true, true] (tX11_histories_J84 (fun o' a1' a3' a4' a5' a6' a7' F' h' => ih o' a1' a3' a4' a5' a6' a7' F' h') h)
      · replace h := h.2 c
        refine aw_iload_n dX11_histories_74 rfl rfl (aw_pc (pc' := 75) rfl ?_)
        refine aw_if_eq dX11_histories_75 rfl (fun c => ?_) (fun c => ?_)
        · replace h := h.1 c
          refine aw_iinc dX11_histories_81 rfl (by decide) (aw_pc (pc' := 84) rfl ?_)
          exact aw_mask [true, true, false, true, true, true, true, true] (tX11_histories_J84 (fun o' a1' a3' a4' a5' a6' a7' F' h' => ih o' a1' a3' a4' a5' a6' a7' F' h') h)
        · replace h := h.2 c
          refine aw_iload dX11_histories_78 rfl (aw_pc (pc' := 80) rfl ?_)
          exact aw_iret rfl dX11_histories_80 ⟨_, rfl, h⟩
    · replace h := h.2 c
      refine aw_iload_n dX11_histories_90 rfl rfl (aw_pc (pc' := 91) rfl ?_)
      refine aw_if_eq dX11_histories_91 rfl (fun c => ?_) (fun c => ?_)
      · replace h := h.1 c
        refine aw_iload dX11_histories_98 rfl (aw_pc (pc' := 100) rfl ?_)
        exact aw_iret rfl dX11_histories_100 ⟨_, rfl, h⟩
      · replace h := h.2 c
        refine aw_iconst dX11_histories_94 (aw_pc (pc' := 95) rfl ?_)
        refine aw_goto (tgt := 100) dX11_histories_95 rfl ?_
        exact aw_iret rfl dX11_histories_100 ⟨_, rfl, h⟩
def mX11_histories_L10 (Q : Int → hp → Prop) : Nat → Nat → Int → Int → Int → Int → hp → Prop
  | 0, _, _, _, _, _, _ => False
  | k + 1, o, a1, a2, a3, a4, F => (w32 a4 < w32 a2 → ∀ v1 : Int, v1 = (a3 * 9) → mX11_histories_L10 Q k o a1 a2 v1 (a4 + 1) F) ∧ (¬ w32 a4 < w32 a2 → gR F (some o) 11 1 (fun x2 => gR F x2 5 0 (fun x3 => mX4_codeOf x3 F (fun x5 F4 => gR F4 (some o) 11 0 (fun x6 => rcv F4 x6 5 (fun o9 => mX5_pairsThatMay o9 F4 (fun x8 F7 => (∃ k10, mX11_histories_L54 Q k10 o a1 a3 x5 x8 0 0 F7))))))))
set_option maxHeartbeats 4000000 in
theorem tX11_histories_L10 {d : Nat} {Q : Int → hp → Prop} : ∀ (k : Nat) (o : Nat) (a1 : Int) (a2 : Int) (a3 : Int) (a4 : Int) (F : hp), mX11_histories_L10 Q k o a1 a2 a3 a4 F → aw nX11_histories (d + 4) 0 0 10 [some (vr (some o)), some (vi a1), some (vi a2), some (vi a3), some (vi a4), none, none, none] [] F (qI Q) := by
  intro k
  induction k with
  | zero => intro o a1 a2 a3 a4 F h; exact h.elim
  | succ k ih =>
    intro o a1 a2 a3 a4 F h
    simp only [mX11_histories_L10] at h
    refine aw_iload dX11_histories_10 rfl (aw_pc (pc' := 12) rfl ?_)
    refine aw_iload_n dX11_histories_12 rfl rfl (aw_pc (pc' := 13) rfl ?_)
    refine ac_ge rfl rfl dX11_histories_13 rfl (fun c => ?_) (fun c => ?_)
    · replace h := h.1 c
      refine aw_iload_n dX11_histories_16 rfl rfl (aw_pc (pc' := 17) rfl ?_)
      refine aw_bipush dX11_histories_17 (by decide) (aw_pc (pc' := 19) rfl ?_)
      refine aw_imul dX11_histories_19 (aw_pc (pc' := 20) rfl ?_)
      generalize hv_v1 : (a3 * 9) = v1
      replace h := h v1 hv_v1.symm
      refine aw_istore_n dX11_histories_20 rfl (by decide) (aw_pc (pc' := 21) rfl ?_)
      refine aw_iinc dX11_histories_21 rfl (by decide) (aw_pc (pc' := 24) rfl ?_)
      refine aw_goto (tgt := 10) dX11_histories_24 rfl ?_
      exact aw_mask [true, true, true, true, true, false, false, false] (ih _ _ _ _ _ _ h)
    · replace h := h.2 c
      refine aw_aload_n dX11_histories_27 rfl rfl (aw_pc (pc' := 28) rfl ?_)
      refine ar_gR fl_RX11_24 dX11_histories_28 h ?_
      clear h
      intro x2 h
      refine aw_pc (pc' := 31) rfl ?_
      refine ar_gR fl_RX11_66 dX11_histories_31 h ?_
      clear h
      intro x3 h
      refine aw_pc (pc' := 34) rfl ?_
      refine ar_SI (kc' := 0) (ks' := 0) (kc := 0) (ks := 0) (as := [vr x3]) (st := []) (tX4_codeOf h) mt_X4_codeOf qM_RX11_258 qS_X4_codeOf rfl (Nat.le_of_ble_eq_true rfl) dX11_histories_34 ?_
      clear h
      intro x5 F4 h
      refine aw_pc (pc' := 37) rfl ?_
      refine aw_istore dX11_histories_37 (by decide) (aw_pc (pc' := 39) rfl ?_)
      refine aw_aload_n dX11_histories_39 rfl rfl (aw_pc (pc' := 40) rfl ?_)
      refine ar_gR fl_RX11_20 dX11_histories_40 h ?_
      clear h
      intro x6 h
      refine aw_pc (pc' := 43) rfl ?_
      have h0 := rcv_inv h
      clear h
      obtain ⟨o9, fs_o9, hr_o9, he_o9, h⟩ := h0
      subst hr_o9
      refine ar_VI (kc' := 0) (ks' := 0) (kc := 0) (ks := 0) (a := o9) (ci := 5) (as := []) (st := []) (tX5_pairsThatMay h) mt_X5_pairsThatMay rfl qM_RX11_262 qI_X5_pairsThatMay qV_X5_pairsThatMay he_o9 rfl (Nat.le_of_ble_eq_true rfl) dX11_histories_43 ?_
      clear h
      intro x8 F7 h
      refine aw_pc (pc' := 46) rfl ?_
      refine aw_istore dX11_histories_46 (by decide) (aw_pc (pc' := 48) rfl ?_)
      refine aw_iconst dX11_histories_48 (aw_pc (pc' := 49) rfl ?_)
      refine aw_istore dX11_histories_49 (by decide) (aw_pc (pc' := 51) rfl ?_)
      refine aw_iconst dX11_histories_51 (aw_pc (pc' := 52) rfl ?_)
      refine aw_istore dX11_histories_52 (by decide) (aw_pc (pc' := 54) rfl ?_)
      obtain ⟨k10, h⟩ := h
      exact aw_mask [true, true, false, true, true, true, true, true] (tX11_histories_L54 k10 _ _ _ _ _ _ _ _ h)
def mX11_histories (o : Nat) (a1 : Int) (F : hp) (Q : Int → hp → Prop) : Prop := rcv F (some o) 11 (fun o3 => mX11_lastMomentSeen o3 F (fun x2 F1 => (∃ k4, mX11_histories_L10 Q k4 o a1 x2 1 0 F1)))
set_option maxHeartbeats 4000000 in
theorem tX11_histories {d : Nat} {o : Nat} {a1 : Int} {F : hp} {Q : Int → hp → Prop} (h : mX11_histories o a1 F Q) : am nX11_histories (d + 4) 0 0 [vr (some o), vi a1] F (qI Q) := by
  refine am_of (by decide +kernel) (Nat.le_of_ble_eq_true rfl) ?_
  show aw nX11_histories (d + 4) 0 0 0 [some (vr (some o)), some (vi a1), none, none, none, none, none, none] [] F (qI Q)
  unfold mX11_histories at h
  refine aw_aload_n dX11_histories_0 rfl rfl (aw_pc (pc' := 1) rfl ?_)
  have h0 := rcv_inv h
  clear h
  obtain ⟨o3, fs_o3, hr_o3, he_o3, h⟩ := h0
  obtain rfl : o = o3 := Option.some.inj hr_o3
  refine ar_VI (kc' := 0) (ks' := 0) (kc := 0) (ks := 0) (a := o) (ci := 11) (as := []) (st := []) (tX11_lastMomentSeen h) mt_X11_lastMomentSeen rfl qM_RX11_337 qI_X11_lastMomentSeen qV_X11_lastMomentSeen he_o3 rfl (Nat.le_of_ble_eq_true rfl) dX11_histories_1 ?_
  clear h
  intro x2 F1 h
  refine aw_pc (pc' := 4) rfl ?_
  refine aw_istore_n dX11_histories_4 rfl (by decide) (aw_pc (pc' := 5) rfl ?_)
  refine aw_iconst dX11_histories_5 (aw_pc (pc' := 6) rfl ?_)
  refine aw_istore_n dX11_histories_6 rfl (by decide) (aw_pc (pc' := 7) rfl ?_)
  refine aw_iconst dX11_histories_7 (aw_pc (pc' := 8) rfl ?_)
  refine aw_istore dX11_histories_8 (by decide) (aw_pc (pc' := 10) rfl ?_)
  obtain ⟨k4, h⟩ := h
  exact aw_mask [true, true, true, true, true, false, false, false] (tX11_histories_L10 k4 _ _ _ _ _ _ h)
def mX11_late (o : Nat) (a1 : Int) (a2 : Int) (F : hp) (Q : Int → hp → Prop) : Prop := rcv F (some o) 11 (fun o3 => mX11_isCar o3 a1 F (fun x2 F1 => (w32 x2 = 0 → Q 0 F1) ∧ (¬ w32 x2 = 0 → mX11_within a2 0 10 F1 (fun x5 F4 => (w32 x5 = 0 → Q 0 F4) ∧ (¬ w32 x5 = 0 → gR F4 (some o) 11 0 (fun x6 => gR F4 x6 5 6 (fun x7 => sI F4 x7 0 a1 a2 (fun F8 => Q 1 F8))))))))
set_option maxHeartbeats 4000000 in
theorem tX11_late {d : Nat} {o : Nat} {a1 : Int} {a2 : Int} {F : hp} {Q : Int → hp → Prop} (h : mX11_late o a1 a2 F Q) : am nX11_late (d + 2) 0 0 [vr (some o), vi a1, vi a2] F (qI Q) := by
  refine am_of (by decide +kernel) (Nat.le_of_ble_eq_true rfl) ?_
  show aw nX11_late (d + 2) 0 0 0 [some (vr (some o)), some (vi a1), some (vi a2)] [] F (qI Q)
  unfold mX11_late at h
  refine aw_aload_n dX11_late_0 rfl rfl (aw_pc (pc' := 1) rfl ?_)
  refine aw_iload_n dX11_late_1 rfl rfl (aw_pc (pc' := 2) rfl ?_)
  have h0 := rcv_inv h
  clear h
  obtain ⟨o3, fs_o3, hr_o3, he_o3, h⟩ := h0
  obtain rfl : o = o3 := Option.some.inj hr_o3
  refine ar_VI (kc' := 0) (ks' := 0) (kc := 0) (ks := 0) (a := o) (ci := 11) (as := [vi a1]) (st := []) (tX11_isCar h) mt_X11_isCar rfl qM_RX11_89 qI_X11_isCar qV_X11_isCar he_o3 rfl (Nat.le_of_ble_eq_true rfl) dX11_late_2 ?_
  clear h
  intro x2 F1 h
  refine aw_pc (pc' := 5) rfl ?_
  refine aw_if_eq dX11_late_5 rfl (fun c => ?_) (fun c => ?_)
  · replace h := h.1 c
    refine aw_iconst dX11_late_18 (aw_pc (pc' := 19) rfl ?_)
    exact aw_zret rfl (by decide) dX11_late_19 ⟨_, rfl, h⟩
  · replace h := h.2 c
    refine aw_iload_n dX11_late_8 rfl rfl (aw_pc (pc' := 9) rfl ?_)
    refine aw_iconst dX11_late_9 (aw_pc (pc' := 10) rfl ?_)
    refine aw_bipush dX11_late_10 (by decide) (aw_pc (pc' := 12) rfl ?_)
    refine ar_SI (kc' := 0) (ks' := 0) (kc := 0) (ks := 0) (as := [vi a2, vi 0, vi 10]) (st := []) (tX11_within h) mt_X11_within qM_RX11_62 qS_X11_within rfl (Nat.le_of_ble_eq_true rfl) dX11_late_12 ?_
    clear h
    intro x5 F4 h
    refine aw_pc (pc' := 15) rfl ?_
    refine aw_if_ne dX11_late_15 rfl (fun c => ?_) (fun c => ?_)
    · replace h := h.1 c
      refine aw_iconst dX11_late_18 (aw_pc (pc' := 19) rfl ?_)
      exact aw_zret rfl (by decide) dX11_late_19 ⟨_, rfl, h⟩
    · replace h := h.2 c
      refine aw_aload_n dX11_late_20 rfl rfl (aw_pc (pc' := 21) rfl ?_)
      refine ar_gR fl_RX11_20 dX11_late_21 h ?_
      clear h
      intro x6 h
      refine aw_pc (pc' := 24) rfl ?_
      refine ar_gR fl_RX11_359 dX11_late_24 h ?_
      clear h
      intro x7 h
      refine aw_pc (pc' := 27) rfl ?_
      refine aw_iload_n dX11_late_27 rfl rfl (aw_pc (pc' := 28) rfl ?_)
      refine aw_iload_n dX11_late_28 rfl rfl (aw_pc (pc' := 29) rfl ?_)
      refine ar_sI dX11_late_29 h ?_
      clear h
      intro F8 h
      refine aw_pc (pc' := 30) rfl ?_
      refine aw_iconst dX11_late_30 (aw_pc (pc' := 31) rfl ?_)
      exact aw_zret rfl (by decide) dX11_late_31 ⟨_, rfl, h⟩
def mX11_likely_J70 (X30 : Nat → Int → Int → Int → Int → Int → hp → Prop) (Q : Int → hp → Prop) (o : Nat) (a1 : Int) (a2 : Int) (a3 : Int) (a5 : Int) (a7 : Int) (F : hp) : Prop := X30 o a1 a2 a3 a5 (a7 + 1) F
set_option maxHeartbeats 4000000 in
theorem tX11_likely_J70 {d : Nat} {X30 : Nat → Int → Int → Int → Int → Int → hp → Prop} {Q : Int → hp → Prop} (hX30 : ∀ (o : Nat) (a1 : Int) (a2 : Int) (a3 : Int) (a5 : Int) (a7 : Int) (F : hp), X30 o a1 a2 a3 a5 a7 F → aw nX11_likely (d + 1) 0 0 30 [some (vr (some o)), some (vi a1), some (vi a2), some (vl a3), none, some (vl a5), none, some (vi a7), none] [] F (qL Q)) {o : Nat} {a1 : Int} {a2 : Int} {a3 : Int} {a5 : Int} {a7 : Int} {F : hp} (h : mX11_likely_J70 X30 Q o a1 a2 a3 a5 a7 F) : aw nX11_likely (d + 1) 0 0 70 [some (vr (some o)), some (vi a1), some (vi a2), some (vl a3), none, some (vl a5), none, some (vi a7), none] [] F (qL Q) := by
  unfold mX11_likely_J70 at h
  refine aw_iinc dX11_likely_70 rfl (by decide) (aw_pc (pc' := 73) rfl ?_)
  refine aw_goto (tgt := 30) dX11_likely_73 rfl ?_
  exact aw_mask [true, true, true, true, false, true, false, true, false] (hX30 _ _ _ _ _ _ _ h)
def mX11_likely_L30 (Q : Int → hp → Prop) : Nat → Nat → Int → Int → Int → Int → Int → hp → Prop
  | 0, _, _, _, _, _, _, _ => False
  | k + 1, o, a1, a2, a3, a5, a7, F => (w32 a7 < 5 → (w32 (iAnd (iShr a1 a7) 1) = 0 → mX11_likely_J70 (fun o' a1' a2' a3' a5' a7' F' => mX11_likely_L30 Q k o' a1' a2' a3' a5' a7' F') Q o a1 a2 a3 a5 a7 F) ∧ (¬ w32 (iAnd (iShr a1 a7) 1) = 0 → gR F (some o) 11 0 (fun x1 => gR F x1 5 6 (fun x2 => aI F x2 0 a7 (fun x3 => ∀ v4 : Int, v4 = (a3 * (w32 (10 - x3))) → ∀ v5 : Int, v5 = (a5 * 10) → mX11_likely_J70 (fun o' a1' a2' a3' a5' a7' F' => mX11_likely_L30 Q k o' a1' a2' a3' a5' a7' F') Q o a1 a2 v4 v5 a7 F))))) ∧ (¬ w32 a7 < 5 → mX11_commonDivisor a3 a5 F (fun x7 F6 => (w32 (iCmp x7 0) = 0 → Q (-1) F6) ∧ (¬ w32 (iCmp x7 0) = 0 → (w32 a2 = 0 → w64 x7 ≠ 0 ∧ Q ((w64 a3).tdiv (w64 x7)) F6) ∧ (¬ w32 a2 = 0 → w64 x7 ≠ 0 ∧ Q ((w64 a5).tdiv (w64 x7)) F6))))
set_option maxHeartbeats 4000000 in
theorem tX11_likely_L30 {d : Nat} {Q : Int → hp → Prop} : ∀ (k : Nat) (o : Nat) (a1 : Int) (a2 : Int) (a3 : Int) (a5 : Int) (a7 : Int) (F : hp), mX11_likely_L30 Q k o a1 a2 a3 a5 a7 F → aw nX11_likely (d + 1) 0 0 30 [some (vr (some o)), some (vi a1), some (vi a2), some (vl a3), none, some (vl a5), none, some (vi a7), none] [] F (qL Q) := by
  intro k
  induction k with
  | zero => intro o a1 a2 a3 a5 a7 F h; exact h.elim
  | succ k ih =>
    intro o a1 a2 a3 a5 a7 F h
    simp only [mX11_likely_L30] at h
    refine aw_iload dX11_likely_30 rfl (aw_pc (pc' := 32) rfl ?_)
    refine aw_iconst dX11_likely_32 (aw_pc (pc' := 33) rfl ?_)
    refine ac_ge rfl wl_5 dX11_likely_33 rfl (fun c => ?_) (fun c => ?_)
    · replace h := h.1 c
      refine aw_iload_n dX11_likely_36 rfl rfl (aw_pc (pc' := 37) rfl ?_)
      refine aw_iload dX11_likely_37 rfl (aw_pc (pc' := 39) rfl ?_)
      refine aw_ishr dX11_likely_39 (aw_pc (pc' := 40) rfl ?_)
      refine aw_iconst dX11_likely_40 (aw_pc (pc' := 41) rfl ?_)
      refine aw_iand dX11_likely_41 (aw_pc (pc' := 42) rfl ?_)
      refine aw_if_eq dX11_likely_42 rfl (fun c => ?_) (fun c => ?_)
      · replace h := h.1 c
        exact aw_mask [true, true, true, true, false, true, false, true, false] (tX11_likely_J70 (fun o' a1' a2' a3' a5' a7' F' h' => ih o' a1' a2' a3' a5' a7' F' h') h)
      · replace h := h.2 c
        refine aw_lload_n dX11_likely_45 rfl rfl (aw_pc (pc' := 46) rfl ?_)
        refine aw_bipush dX11_likely_46 (by decide) (aw_pc (pc' := 48) rfl ?_)
        refine aw_aload_n dX11_likely_48 rfl rfl (aw_pc (pc' := 49) rfl ?_)
        refine ar_gR fl_RX11_20 dX11_likely_49 h ?_
        clear h
        intro x1 h
        refine aw_pc (pc' := 52) rfl ?_
        refine ar_gR fl_RX11_359 dX11_likely_52 h ?_
        clear h
        intro x2 h
        refine aw_pc (pc' := 55) rfl ?_
        refine aw_iload dX11_likely_55 rfl (aw_pc (pc' := 57) rfl ?_)
        refine ar_aI dX11_likely_57 h ?_
        clear h
        intro x3 h
        refine aw_pc (pc' := 58) rfl ?_
        refine aw_isub dX11_likely_58 (aw_pc (pc' := 59) rfl ?_)
        refine aw_i2l dX11_likely_59 (aw_pc (pc' := 60) rfl ?_)
        refine aw_lmul dX11_likely_60 (aw_pc (pc' := 61) rfl ?_)
        generalize hv_v4 : (a3 * (w32 (10 - x3))) = v4
        replace h := h v4 hv_v4.symm
        refine aw_lstore_n dX11_likely_61 rfl (by decide) (aw_pc (pc' := 62) rfl ?_)
        refine aw_lload dX11_likely_62 rfl (aw_pc (pc' := 64) rfl ?_)
        refine aw_ldc2 (n := 10) dX11_likely_64 qK_RX11_362 (aw_pc (pc' := 67) rfl ?_)
        refine aw_lmul dX11_likely_67 (aw_pc (pc' := 68) rfl ?_)
        generalize hv_v5 : (a5 * 10) = v5
        replace h := h v5 hv_v5.symm
        refine aw_lstore dX11_likely_68 (by decide) (aw_pc (pc' := 70) rfl ?_)
        exact aw_mask [true, true, true, true, false, true, false, true, false] (tX11_likely_J70 (fun o' a1' a2' a3' a5' a7' F' h' => ih o' a1' a2' a3' a5' a7' F' h') h)
    · replace h := h.2 c
      refine aw_lload_n dX11_likely_76 rfl rfl (aw_pc (pc' := 77) rfl ?_)
      refine aw_lload dX11_likely_77 rfl (aw_pc (pc' := 79) rfl ?_)
      refine ar_SL (kc' := 0) (ks' := 0) (kc := 0) (ks := 0) (as := [vl a3, vl a5]) (st := []) (tX11_commonDivisor h) mt_X11_commonDivisor qM_RX11_364 qS_X11_commonDivisor rfl (Nat.le_of_ble_eq_true rfl) dX11_likely_79 ?_
      clear h
      intro x7 F6 h
      refine aw_pc (pc' := 82) rfl ?_
      refine aw_lstore dX11_likely_82 (by decide) (aw_pc (pc' := 84) rfl ?_)
      refine aw_lload dX11_likely_84 rfl (aw_pc (pc' := 86) rfl ?_)
      refine aw_lconst (v := 0) dX11_likely_86 (by decide) (aw_pc (pc' := 87) rfl ?_)
      refine aw_lcmp dX11_likely_87 (aw_pc (pc' := 88) rfl ?_)
      refine aw_if_ne dX11_likely_88 rfl (fun c => ?_) (fun c => ?_)
      · replace h := h.1 c
        refine aw_ldc2 (n := (-1)) dX11_likely_91 qK_RX11_278 (aw_pc (pc' := 94) rfl ?_)
        exact aw_lret rfl dX11_likely_94 ⟨_, rfl, h⟩
      · replace h := h.2 c
        refine aw_iload_n dX11_likely_95 rfl rfl (aw_pc (pc' := 96) rfl ?_)
        refine aw_if_eq dX11_likely_96 rfl (fun c => ?_) (fun c => ?_)
        · replace h := h.1 c
          refine aw_lload_n dX11_likely_104 rfl rfl (aw_pc (pc' := 105) rfl ?_)
          refine aw_lload dX11_likely_105 rfl (aw_pc (pc' := 107) rfl ?_)
          refine ac_ldiv rfl h.1 dX11_likely_107 (aw_pc (pc' := 108) rfl ?_)
          replace h := h.2
          exact aw_lret rfl dX11_likely_108 ⟨_, rfl, h⟩
        · replace h := h.2 c
          refine aw_lload dX11_likely_99 rfl (aw_pc (pc' := 101) rfl ?_)
          refine aw_goto (tgt := 105) dX11_likely_101 rfl ?_
          refine aw_lload dX11_likely_105 rfl (aw_pc (pc' := 107) rfl ?_)
          refine ac_ldiv rfl h.1 dX11_likely_107 (aw_pc (pc' := 108) rfl ?_)
          replace h := h.2
          exact aw_lret rfl dX11_likely_108 ⟨_, rfl, h⟩
def mX11_likely (o : Nat) (a1 : Int) (a2 : Int) (F : hp) (Q : Int → hp → Prop) : Prop := gR F (some o) 11 0 (fun x1 => gR F x1 5 0 (fun x2 => rcv F x2 10 (fun o5 => mX10_toldCars o5 F (fun x4 F3 => mX11_within a1 0 x4 F3 (fun x7 F6 => (w32 x7 = 0 → Q (-1) F6) ∧ (¬ w32 x7 = 0 → (∃ k8, mX11_likely_L30 Q k8 o a1 a2 1 1 0 F6)))))))
set_option maxHeartbeats 4000000 in
theorem tX11_likely {d : Nat} {o : Nat} {a1 : Int} {a2 : Int} {F : hp} {Q : Int → hp → Prop} (h : mX11_likely o a1 a2 F Q) : am nX11_likely (d + 1) 0 0 [vr (some o), vi a1, vi a2] F (qL Q) := by
  refine am_of (by decide +kernel) (Nat.le_of_ble_eq_true rfl) ?_
  show aw nX11_likely (d + 1) 0 0 0 [some (vr (some o)), some (vi a1), some (vi a2), none, none, none, none, none, none] [] F (qL Q)
  unfold mX11_likely at h
  refine aw_iload_n dX11_likely_0 rfl rfl (aw_pc (pc' := 1) rfl ?_)
  refine aw_iconst dX11_likely_1 (aw_pc (pc' := 2) rfl ?_)
  refine aw_aload_n dX11_likely_2 rfl rfl (aw_pc (pc' := 3) rfl ?_)
  refine ar_gR fl_RX11_20 dX11_likely_3 h ?_
  clear h
  intro x1 h
  refine aw_pc (pc' := 6) rfl ?_
  refine ar_gR fl_RX11_66 dX11_likely_6 h ?_
  clear h
  intro x2 h
  refine aw_pc (pc' := 9) rfl ?_
  have h0 := rcv_inv h
  clear h
  obtain ⟨o5, fs_o5, hr_o5, he_o5, h⟩ := h0
  subst hr_o5
  refine ar_VI (kc' := 0) (ks' := 0) (kc := 0) (ks := 0) (a := o5) (ci := 10) (as := []) (st := [vi 0, vi a1]) (tX10_toldCars h) mt_X10_toldCars rfl qM_RX11_269 qI_X10_toldCars qV_X10_toldCars he_o5 rfl (Nat.le_of_ble_eq_true rfl) dX11_likely_9 ?_
  clear h
  intro x4 F3 h
  refine aw_pc (pc' := 12) rfl ?_
  refine ar_SI (kc' := 0) (ks' := 0) (kc := 0) (ks := 0) (as := [vi a1, vi 0, vi x4]) (st := []) (tX11_within h) mt_X11_within qM_RX11_62 qS_X11_within rfl (Nat.le_of_ble_eq_true rfl) dX11_likely_12 ?_
  clear h
  intro x7 F6 h
  refine aw_pc (pc' := 15) rfl ?_
  refine aw_if_ne dX11_likely_15 rfl (fun c => ?_) (fun c => ?_)
  · replace h := h.1 c
    refine aw_ldc2 (n := (-1)) dX11_likely_18 qK_RX11_278 (aw_pc (pc' := 21) rfl ?_)
    exact aw_lret rfl dX11_likely_21 ⟨_, rfl, h⟩
  · replace h := h.2 c
    refine aw_lconst (v := 1) dX11_likely_22 (by decide) (aw_pc (pc' := 23) rfl ?_)
    refine aw_lstore_n dX11_likely_23 rfl (by decide) (aw_pc (pc' := 24) rfl ?_)
    refine aw_lconst (v := 1) dX11_likely_24 (by decide) (aw_pc (pc' := 25) rfl ?_)
    refine aw_lstore dX11_likely_25 (by decide) (aw_pc (pc' := 27) rfl ?_)
    refine aw_iconst dX11_likely_27 (aw_pc (pc' := 28) rfl ?_)
    refine aw_istore dX11_likely_28 (by decide) (aw_pc (pc' := 30) rfl ?_)
    obtain ⟨k8, h⟩ := h
    exact aw_mask [true, true, true, true, false, true, false, true, false] (tX11_likely_L30 k8 _ _ _ _ _ _ _ h)
def mX11_said (o : Nat) (a1 : Int) (a2 : Int) (F : hp) (Q : Int → hp → Prop) : Prop := (w32 a1 = (-1) → gR F (some o) 11 0 (fun x1 => gR F x1 5 10 (fun x2 => rcv F x2 7 (fun o5 => mX7_empty o5 F (fun x4 F3 => Q x4 F3))))) ∧ (¬ w32 a1 = (-1) → rcv F (some o) 11 (fun o8 => mX11_isCar o8 a1 F (fun x7 F6 => (w32 x7 = 0 → Q (-2) F6) ∧ (¬ w32 x7 = 0 → mX11_within a2 (-9) 9 F6 (fun x10 F9 => (w32 x10 = 0 → Q (-2) F9) ∧ (¬ w32 x10 = 0 → gR F9 (some o) 11 0 (fun x11 => gR F9 x11 5 10 (fun x12 => rcv F9 x12 7 (fun o15 => mX7_add o15 a1 a2 0 F9 (fun x14 F13 => Q x14 F13))))))))))
set_option maxHeartbeats 4000000 in
theorem tX11_said {d : Nat} {o : Nat} {a1 : Int} {a2 : Int} {F : hp} {Q : Int → hp → Prop} (h : mX11_said o a1 a2 F Q) : am nX11_said (d + 2) 0 0 [vr (some o), vi a1, vi a2] F (qI Q) := by
  refine am_of (by decide +kernel) (Nat.le_of_ble_eq_true rfl) ?_
  show aw nX11_said (d + 2) 0 0 0 [some (vr (some o)), some (vi a1), some (vi a2)] [] F (qI Q)
  unfold mX11_said at h
  refine aw_iload_n dX11_said_0 rfl rfl (aw_pc (pc' := 1) rfl ?_)
  refine aw_iconst dX11_said_1 (aw_pc (pc' := 2) rfl ?_)
  refine ac_ne rfl wl_m1 dX11_said_2 rfl (fun c => ?_) (fun c => ?_)
  · replace h := h.1 c
    refine aw_aload_n dX11_said_5 rfl rfl (aw_pc (pc' := 6) rfl ?_)
    refine ar_gR fl_RX11_20 dX11_said_6 h ?_
    clear h
    intro x1 h
    refine aw_pc (pc' := 9) rfl ?_
    refine ar_gR fl_RX11_368 dX11_said_9 h ?_
    clear h
    intro x2 h
    refine aw_pc (pc' := 12) rfl ?_
    have h0 := rcv_inv h
    clear h
    obtain ⟨o5, fs_o5, hr_o5, he_o5, h⟩ := h0
    subst hr_o5
    refine ar_VI (kc' := 0) (ks' := 0) (kc := 0) (ks := 0) (a := o5) (ci := 7) (as := []) (st := []) (tX7_empty h) mt_X7_empty rfl qM_RX11_317 qI_X7_empty qV_X7_empty he_o5 rfl (Nat.le_of_ble_eq_true rfl) dX11_said_12 ?_
    clear h
    intro x4 F3 h
    refine aw_pc (pc' := 15) rfl ?_
    exact aw_iret rfl dX11_said_15 ⟨_, rfl, h⟩
  · replace h := h.2 c
    refine aw_aload_n dX11_said_16 rfl rfl (aw_pc (pc' := 17) rfl ?_)
    refine aw_iload_n dX11_said_17 rfl rfl (aw_pc (pc' := 18) rfl ?_)
    have h0 := rcv_inv h
    clear h
    obtain ⟨o8, fs_o8, hr_o8, he_o8, h⟩ := h0
    obtain rfl : o = o8 := Option.some.inj hr_o8
    refine ar_VI (kc' := 0) (ks' := 0) (kc := 0) (ks := 0) (a := o) (ci := 11) (as := [vi a1]) (st := []) (tX11_isCar h) mt_X11_isCar rfl qM_RX11_89 qI_X11_isCar qV_X11_isCar he_o8 rfl (Nat.le_of_ble_eq_true rfl) dX11_said_18 ?_
    clear h
    intro x7 F6 h
    refine aw_pc (pc' := 21) rfl ?_
    refine aw_if_eq dX11_said_21 rfl (fun c => ?_) (fun c => ?_)
    · replace h := h.1 c
      refine aw_bipush dX11_said_35 (by decide) (aw_pc (pc' := 37) rfl ?_)
      exact aw_iret rfl dX11_said_37 ⟨_, rfl, h⟩
    · replace h := h.2 c
      refine aw_iload_n dX11_said_24 rfl rfl (aw_pc (pc' := 25) rfl ?_)
      refine aw_bipush dX11_said_25 (by decide) (aw_pc (pc' := 27) rfl ?_)
      refine aw_bipush dX11_said_27 (by decide) (aw_pc (pc' := 29) rfl ?_)
      refine ar_SI (kc' := 0) (ks' := 0) (kc := 0) (ks := 0) (as := [vi a2, vi (-9), vi 9]) (st := []) (tX11_within h) mt_X11_within qM_RX11_62 qS_X11_within rfl (Nat.le_of_ble_eq_true rfl) dX11_said_29 ?_
      clear h
      intro x10 F9 h
      refine aw_pc (pc' := 32) rfl ?_
      refine aw_if_ne dX11_said_32 rfl (fun c => ?_) (fun c => ?_)
      · replace h := h.1 c
        refine aw_bipush dX11_said_35 (by decide) (aw_pc (pc' := 37) rfl ?_)
        exact aw_iret rfl dX11_said_37 ⟨_, rfl, h⟩
      · replace h := h.2 c
        refine aw_aload_n dX11_said_38 rfl rfl (aw_pc (pc' := 39) rfl ?_)
        refine ar_gR fl_RX11_20 dX11_said_39 h ?_
        clear h
        intro x11 h
        refine aw_pc (pc' := 42) rfl ?_
        refine ar_gR fl_RX11_368 dX11_said_42 h ?_
        clear h
        intro x12 h
        refine aw_pc (pc' := 45) rfl ?_
        refine aw_iload_n dX11_said_45 rfl rfl (aw_pc (pc' := 46) rfl ?_)
        refine aw_iload_n dX11_said_46 rfl rfl (aw_pc (pc' := 47) rfl ?_)
        refine aw_iconst dX11_said_47 (aw_pc (pc' := 48) rfl ?_)
        have h0 := rcv_inv h
        clear h
        obtain ⟨o15, fs_o15, hr_o15, he_o15, h⟩ := h0
        subst hr_o15
        refine ar_VI (kc' := 0) (ks' := 0) (kc := 0) (ks := 0) (a := o15) (ci := 7) (as := [vi a1, vi a2, vi 0]) (st := []) (tX7_add h) mt_X7_add rfl qM_RX11_322 qI_X7_add qV_X7_add he_o15 rfl (Nat.le_of_ble_eq_true rfl) dX11_said_48 ?_
        clear h
        intro x14 F13 h
        refine aw_pc (pc' := 51) rfl ?_
        exact aw_iret rfl dX11_said_51 ⟨_, rfl, h⟩
def mX11_saysAllThatWasSaid_L10 (Q : Int → hp → Prop) : Nat → Nat → Option Nat → Option Nat → Int → hp → Prop
  | 0, _, _, _, _, _ => False
  | k + 1, o, a1, a2, a3, F => gI F a2 7 2 (fun x1 => (w32 a3 < w32 x1 → gR F (some o) 11 2 (fun x2 => rcv F a2 7 (fun o5 => mX7_cell o5 a3 0 F (fun x4 F3 => rcv F3 x2 9 (fun o8 => mX9_changesSays o8 a1 x4 F3 (fun x7 F6 => rcv F6 (some o5) 7 (fun o11 => mX7_cell o11 a3 1 F6 (fun x10 F9 => (w32 x7 = w32 x10 → mX11_saysAllThatWasSaid_L10 Q k o a1 (some o5) (a3 + 1) F9) ∧ (¬ w32 x7 = w32 x10 → Q 0 F9))))))))) ∧ (¬ w32 a3 < w32 x1 → Q 1 F))
set_option maxHeartbeats 4000000 in
theorem tX11_saysAllThatWasSaid_L10 {d : Nat} {Q : Int → hp → Prop} : ∀ (k : Nat) (o : Nat) (a1 : Option Nat) (a2 : Option Nat) (a3 : Int) (F : hp), mX11_saysAllThatWasSaid_L10 Q k o a1 a2 a3 F → aw nX11_saysAllThatWasSaid (d + 4) 0 0 10 [some (vr (some o)), some (vr a1), some (vr a2), some (vi a3)] [] F (qI Q) := by
  intro k
  induction k with
  | zero => intro o a1 a2 a3 F h; exact h.elim
  | succ k ih =>
    intro o a1 a2 a3 F h
    simp only [mX11_saysAllThatWasSaid_L10] at h
    refine aw_iload_n dX11_saysAllThatWasSaid_10 rfl rfl (aw_pc (pc' := 11) rfl ?_)
    refine aw_aload_n dX11_saysAllThatWasSaid_11 rfl rfl (aw_pc (pc' := 12) rfl ?_)
    refine ar_gI fl_RX11_328 dX11_saysAllThatWasSaid_12 h ?_
    clear h
    intro x1 h
    refine aw_pc (pc' := 15) rfl ?_
    refine ac_ge rfl rfl dX11_saysAllThatWasSaid_15 rfl (fun c => ?_) (fun c => ?_)
    · replace h := h.1 c
      refine aw_aload_n dX11_saysAllThatWasSaid_18 rfl rfl (aw_pc (pc' := 19) rfl ?_)
      refine ar_gR fl_RX11_10 dX11_saysAllThatWasSaid_19 h ?_
      clear h
      intro x2 h
      refine aw_pc (pc' := 22) rfl ?_
      refine aw_aload_n dX11_saysAllThatWasSaid_22 rfl rfl (aw_pc (pc' := 23) rfl ?_)
      refine aw_aload_n dX11_saysAllThatWasSaid_23 rfl rfl (aw_pc (pc' := 24) rfl ?_)
      refine aw_iload_n dX11_saysAllThatWasSaid_24 rfl rfl (aw_pc (pc' := 25) rfl ?_)
      refine aw_iconst dX11_saysAllThatWasSaid_25 (aw_pc (pc' := 26) rfl ?_)
      have h0 := rcv_inv h
      clear h
      obtain ⟨o5, fs_o5, hr_o5, he_o5, h⟩ := h0
      subst hr_o5
      refine ar_VI (kc' := 0) (ks' := 0) (kc := 0) (ks := 0) (a := o5) (ci := 7) (as := [vi a3, vi 0]) (st := [vr a1, vr x2]) (tX7_cell h) mt_X7_cell rfl qM_RX11_331 qI_X7_cell qV_X7_cell he_o5 rfl (Nat.le_of_ble_eq_true rfl) dX11_saysAllThatWasSaid_26 ?_
      clear h
      intro x4 F3 h
      refine aw_pc (pc' := 29) rfl ?_
      have h0 := rcv_inv h
      clear h
      obtain ⟨o8, fs_o8, hr_o8, he_o8, h⟩ := h0
      subst hr_o8
      refine ar_VI (kc' := 0) (ks' := 0) (kc := 0) (ks := 0) (a := o8) (ci := 9) (as := [vr a1, vi x4]) (st := []) (tX9_changesSays h) mt_X9_changesSays rfl qM_RX11_203 qI_X9_changesSays qV_X9_changesSays he_o8 rfl (Nat.le_of_ble_eq_true rfl) dX11_saysAllThatWasSaid_29 ?_
      clear h
      intro x7 F6 h
      refine aw_pc (pc' := 32) rfl ?_
      refine aw_aload_n dX11_saysAllThatWasSaid_32 rfl rfl (aw_pc (pc' := 33) rfl ?_)
      refine aw_iload_n dX11_saysAllThatWasSaid_33 rfl rfl (aw_pc (pc' := 34) rfl ?_)
      refine aw_iconst dX11_saysAllThatWasSaid_34 (aw_pc (pc' := 35) rfl ?_)
      have h0 := rcv_inv h
      clear h
      obtain ⟨o11, fs_o11, hr_o11, he_o11, h⟩ := h0
      obtain rfl : o5 = o11 := Option.some.inj hr_o11
      refine ar_VI (kc' := 0) (ks' := 0) (kc := 0) (ks := 0) (a := o5) (ci := 7) (as := [vi a3, vi 1]) (st := [vi x7]) (tX7_cell h) mt_X7_cell rfl qM_RX11_331 qI_X7_cell qV_X7_cell he_o11 rfl (Nat.le_of_ble_eq_true rfl) dX11_saysAllThatWasSaid_35 ?_
      clear h
      intro x10 F9 h
      refine aw_pc (pc' := 38) rfl ?_
      refine ac_eq rfl rfl dX11_saysAllThatWasSaid_38 rfl (fun c => ?_) (fun c => ?_)
      · replace h := h.1 c
        refine aw_iinc dX11_saysAllThatWasSaid_43 rfl (by decide) (aw_pc (pc' := 46) rfl ?_)
        refine aw_goto (tgt := 10) dX11_saysAllThatWasSaid_46 rfl ?_
        exact aw_mask [true, true, true, true] (ih _ _ _ _ _ h)
      · replace h := h.2 c
        refine aw_iconst dX11_saysAllThatWasSaid_41 (aw_pc (pc' := 42) rfl ?_)
        exact aw_zret rfl (by decide) dX11_saysAllThatWasSaid_42 ⟨_, rfl, h⟩
    · replace h := h.2 c
      refine aw_iconst dX11_saysAllThatWasSaid_49 (aw_pc (pc' := 50) rfl ?_)
      exact aw_zret rfl (by decide) dX11_saysAllThatWasSaid_50 ⟨_, rfl, h⟩
def mX11_saysAllThatWasSaid (o : Nat) (a1 : Option Nat) (F : hp) (Q : Int → hp → Prop) : Prop := gR F (some o) 11 0 (fun x1 => gR F x1 5 10 (fun x2 => (∃ k3, mX11_saysAllThatWasSaid_L10 Q k3 o a1 x2 0 F)))
set_option maxHeartbeats 4000000 in
theorem tX11_saysAllThatWasSaid {d : Nat} {o : Nat} {a1 : Option Nat} {F : hp} {Q : Int → hp → Prop} (h : mX11_saysAllThatWasSaid o a1 F Q) : am nX11_saysAllThatWasSaid (d + 4) 0 0 [vr (some o), vr a1] F (qI Q) := by
  refine am_of (by decide +kernel) (Nat.le_of_ble_eq_true rfl) ?_
  show aw nX11_saysAllThatWasSaid (d + 4) 0 0 0 [some (vr (some o)), some (vr a1), none, none] [] F (qI Q)
  unfold mX11_saysAllThatWasSaid at h
  refine aw_aload_n dX11_saysAllThatWasSaid_0 rfl rfl (aw_pc (pc' := 1) rfl ?_)
  refine ar_gR fl_RX11_20 dX11_saysAllThatWasSaid_1 h ?_
  clear h
  intro x1 h
  refine aw_pc (pc' := 4) rfl ?_
  refine ar_gR fl_RX11_368 dX11_saysAllThatWasSaid_4 h ?_
  clear h
  intro x2 h
  refine aw_pc (pc' := 7) rfl ?_
  refine aw_astore_n dX11_saysAllThatWasSaid_7 rfl (by decide) (aw_pc (pc' := 8) rfl ?_)
  refine aw_iconst dX11_saysAllThatWasSaid_8 (aw_pc (pc' := 9) rfl ?_)
  refine aw_istore_n dX11_saysAllThatWasSaid_9 rfl (by decide) (aw_pc (pc' := 10) rfl ?_)
  obtain ⟨k3, h⟩ := h
  exact aw_mask [true, true, true, true] (tX11_saysAllThatWasSaid_L10 k3 _ _ _ _ _ h)
def mX11_whose_J37 (X4 : Nat → Int → Int → hp → Prop) (Q : Int → hp → Prop) (o : Nat) (a1 : Int) (a2 : Int) (F : hp) : Prop := X4 o a1 (a2 + 1) F
set_option maxHeartbeats 4000000 in
theorem tX11_whose_J37 {d : Nat} {X4 : Nat → Int → Int → hp → Prop} {Q : Int → hp → Prop} (hX4 : ∀ (o : Nat) (a1 : Int) (a2 : Int) (F : hp), X4 o a1 a2 F → aw nX11_whose (d + 5) 0 0 4 [some (vr (some o)), some (vi a1), some (vi a2)] [] F (qI Q)) {o : Nat} {a1 : Int} {a2 : Int} {F : hp} (h : mX11_whose_J37 X4 Q o a1 a2 F) : aw nX11_whose (d + 5) 0 0 37 [some (vr (some o)), some (vi a1), some (vi a2)] [] F (qI Q) := by
  unfold mX11_whose_J37 at h
  refine aw_iinc dX11_whose_37 rfl (by decide) (aw_pc (pc' := 40) rfl ?_)
  refine aw_goto (tgt := 4) dX11_whose_40 rfl ?_
  exact aw_mask [true, true, true] (hX4 _ _ _ _ h)
def mX11_whose_L4 (Q : Int → hp → Prop) : Nat → Nat → Int → Int → hp → Prop
  | 0, _, _, _, _ => False
  | k + 1, o, a1, a2, F => gR F (some o) 11 0 (fun x1 => gI F x1 5 12 (fun x2 => (w32 a2 < w32 x2 → gR F (some o) 11 0 (fun x3 => gR F x3 5 11 (fun x4 => aR F x4 a2 (fun x5 => rcv F (some o) 11 (fun o8 => mX11_saysAllThatWasSaid o8 x5 F (fun x7 F6 => (w32 x7 = 0 → mX11_whose_J37 (fun o' a1' a2' F' => mX11_whose_L4 Q k o' a1' a2' F') Q o a1 a2 F6) ∧ (¬ w32 x7 = 0 → ∀ v9 : Int, v9 = (iOr a1 (iShl 1 a2)) → mX11_whose_J37 (fun o' a1' a2' F' => mX11_whose_L4 Q k o' a1' a2' F') Q o v9 a2 F6))))))) ∧ (¬ w32 a2 < w32 x2 → Q a1 F)))
set_option maxHeartbeats 4000000 in
theorem tX11_whose_L4 {d : Nat} {Q : Int → hp → Prop} : ∀ (k : Nat) (o : Nat) (a1 : Int) (a2 : Int) (F : hp), mX11_whose_L4 Q k o a1 a2 F → aw nX11_whose (d + 5) 0 0 4 [some (vr (some o)), some (vi a1), some (vi a2)] [] F (qI Q) := by
  intro k
  induction k with
  | zero => intro o a1 a2 F h; exact h.elim
  | succ k ih =>
    intro o a1 a2 F h
    simp only [mX11_whose_L4] at h
    refine aw_iload_n dX11_whose_4 rfl rfl (aw_pc (pc' := 5) rfl ?_)
    refine aw_aload_n dX11_whose_5 rfl rfl (aw_pc (pc' := 6) rfl ?_)
    refine ar_gR fl_RX11_20 dX11_whose_6 h ?_
    clear h
    intro x1 h
    refine aw_pc (pc' := 9) rfl ?_
    refine ar_gI fl_RX11_73 dX11_whose_9 h ?_
    clear h
    intro x2 h
    refine aw_pc (pc' := 12) rfl ?_
    refine ac_ge rfl rfl dX11_whose_12 rfl (fun c => ?_) (fun c => ?_)
    · replace h := h.1 c
      refine aw_aload_n dX11_whose_15 rfl rfl (aw_pc (pc' := 16) rfl ?_)
      refine aw_aload_n dX11_whose_16 rfl rfl (aw_pc (pc' := 17) rfl ?_)
      refine ar_gR fl_RX11_20 dX11_whose_17 h ?_
      clear h
      intro x3 h
      refine aw_pc (pc' := 20) rfl ?_
      refine ar_gR fl_RX11_77 dX11_whose_20 h ?_
      clear h
      intro x4 h
      refine aw_pc (pc' := 23) rfl ?_
      refine aw_iload_n dX11_whose_23 rfl rfl (aw_pc (pc' := 24) rfl ?_)
      refine ar_aR dX11_whose_24 h ?_
      clear h
      intro x5 h
      refine aw_pc (pc' := 25) rfl ?_
      have h0 := rcv_inv h
      clear h
      obtain ⟨o8, fs_o8, hr_o8, he_o8, h⟩ := h0
      obtain rfl : o = o8 := Option.some.inj hr_o8
      refine ar_VI (kc' := 0) (ks' := 0) (kc := 0) (ks := 0) (a := o) (ci := 11) (as := [vr x5]) (st := []) (tX11_saysAllThatWasSaid h) mt_X11_saysAllThatWasSaid rfl qM_RX11_371 qI_X11_saysAllThatWasSaid qV_X11_saysAllThatWasSaid he_o8 rfl (Nat.le_of_ble_eq_true rfl) dX11_whose_25 ?_
      clear h
      intro x7 F6 h
      refine aw_pc (pc' := 28) rfl ?_
      refine aw_if_eq dX11_whose_28 rfl (fun c => ?_) (fun c => ?_)
      · replace h := h.1 c
        exact aw_mask [true, true, true] (tX11_whose_J37 (fun o' a1' a2' F' h' => ih o' a1' a2' F' h') h)
      · replace h := h.2 c
        refine aw_iload_n dX11_whose_31 rfl rfl (aw_pc (pc' := 32) rfl ?_)
        refine aw_iconst dX11_whose_32 (aw_pc (pc' := 33) rfl ?_)
        refine aw_iload_n dX11_whose_33 rfl rfl (aw_pc (pc' := 34) rfl ?_)
        refine aw_ishl dX11_whose_34 (aw_pc (pc' := 35) rfl ?_)
        refine aw_ior dX11_whose_35 (aw_pc (pc' := 36) rfl ?_)
        generalize hv_v9 : (iOr a1 (iShl 1 a2)) = v9
        replace h := h v9 hv_v9.symm
        refine aw_istore_n dX11_whose_36 rfl (by decide) (aw_pc (pc' := 37) rfl ?_)
        exact aw_mask [true, true, true] (tX11_whose_J37 (fun o' a1' a2' F' h' => ih o' a1' a2' F' h') h)
    · replace h := h.2 c
      refine aw_iload_n dX11_whose_43 rfl rfl (aw_pc (pc' := 44) rfl ?_)
      exact aw_iret rfl dX11_whose_44 ⟨_, rfl, h⟩
def mX11_whose (o : Nat) (F : hp) (Q : Int → hp → Prop) : Prop := (∃ k1, mX11_whose_L4 Q k1 o 0 0 F)
set_option maxHeartbeats 4000000 in
theorem tX11_whose {d : Nat} {o : Nat} {F : hp} {Q : Int → hp → Prop} (h : mX11_whose o F Q) : am nX11_whose (d + 5) 0 0 [vr (some o)] F (qI Q) := by
  refine am_of (by decide +kernel) (Nat.le_of_ble_eq_true rfl) ?_
  show aw nX11_whose (d + 5) 0 0 0 [some (vr (some o)), none, none] [] F (qI Q)
  unfold mX11_whose at h
  refine aw_iconst dX11_whose_0 (aw_pc (pc' := 1) rfl ?_)
  refine aw_istore_n dX11_whose_1 rfl (by decide) (aw_pc (pc' := 2) rfl ?_)
  refine aw_iconst dX11_whose_2 (aw_pc (pc' := 3) rfl ?_)
  refine aw_istore_n dX11_whose_3 rfl (by decide) (aw_pc (pc' := 4) rfl ?_)
  obtain ⟨k1, h⟩ := h
  exact aw_mask [true, true, true] (tX11_whose_L4 k1 _ _ _ _ h)
def mX11_heaviest_J32 (X6 : Nat → Int → Int → Int → hp → Prop) (Q : Int → hp → Prop) (o : Nat) (a1 : Int) (a2 : Int) (a3 : Int) (F : hp) : Prop := X6 o a1 a2 (a3 + 1) F
set_option maxHeartbeats 4000000 in
theorem tX11_heaviest_J32 {d : Nat} {X6 : Nat → Int → Int → Int → hp → Prop} {Q : Int → hp → Prop} (hX6 : ∀ (o : Nat) (a1 : Int) (a2 : Int) (a3 : Int) (F : hp), X6 o a1 a2 a3 F → aw nX11_heaviest (d + 2) 0 0 6 [some (vr (some o)), some (vi a1), some (vi a2), some (vi a3), none] [] F (qI Q)) {o : Nat} {a1 : Int} {a2 : Int} {a3 : Int} {F : hp} (h : mX11_heaviest_J32 X6 Q o a1 a2 a3 F) : aw nX11_heaviest (d + 2) 0 0 32 [some (vr (some o)), some (vi a1), some (vi a2), some (vi a3), none] [] F (qI Q) := by
  unfold mX11_heaviest_J32 at h
  refine aw_iinc dX11_heaviest_32 rfl (by decide) (aw_pc (pc' := 35) rfl ?_)
  refine aw_goto (tgt := 6) dX11_heaviest_35 rfl ?_
  exact aw_mask [true, true, true, true, false] (hX6 _ _ _ _ _ h)
def mX11_heaviest_L6 (Q : Int → hp → Prop) : Nat → Nat → Int → Int → Int → hp → Prop
  | 0, _, _, _, _, _ => False
  | k + 1, o, a1, a2, a3, F => (w32 a3 < 3 → gR F (some o) 11 0 (fun x1 => rcv F x1 5 (fun o4 => mX5_loadOn o4 a3 F (fun x3 F2 => (w32 a2 < w32 x3 → mX11_heaviest_J32 (fun o' a1' a2' a3' F' => mX11_heaviest_L6 Q k o' a1' a2' a3' F') Q o a3 x3 a3 F2) ∧ (¬ w32 a2 < w32 x3 → mX11_heaviest_J32 (fun o' a1' a2' a3' F' => mX11_heaviest_L6 Q k o' a1' a2' a3' F') Q o a1 a2 a3 F2))))) ∧ (¬ w32 a3 < 3 → Q a1 F)
set_option maxHeartbeats 4000000 in
theorem tX11_heaviest_L6 {d : Nat} {Q : Int → hp → Prop} : ∀ (k : Nat) (o : Nat) (a1 : Int) (a2 : Int) (a3 : Int) (F : hp), mX11_heaviest_L6 Q k o a1 a2 a3 F → aw nX11_heaviest (d + 2) 0 0 6 [some (vr (some o)), some (vi a1), some (vi a2), some (vi a3), none] [] F (qI Q) := by
  intro k
  induction k with
  | zero => intro o a1 a2 a3 F h; exact h.elim
  | succ k ih =>
    intro o a1 a2 a3 F h
    simp only [mX11_heaviest_L6] at h
    refine aw_iload_n dX11_heaviest_6 rfl rfl (aw_pc (pc' := 7) rfl ?_)
    refine aw_iconst dX11_heaviest_7 (aw_pc (pc' := 8) rfl ?_)
    refine ac_ge rfl wl_3 dX11_heaviest_8 rfl (fun c => ?_) (fun c => ?_)
    · replace h := h.1 c
      refine aw_aload_n dX11_heaviest_11 rfl rfl (aw_pc (pc' := 12) rfl ?_)
      refine ar_gR fl_RX11_20 dX11_heaviest_12 h ?_
      clear h
      intro x1 h
      refine aw_pc (pc' := 15) rfl ?_
      refine aw_iload_n dX11_heaviest_15 rfl rfl (aw_pc (pc' := 16) rfl ?_)
      have h0 := rcv_inv h
      clear h
      obtain ⟨o4, fs_o4, hr_o4, he_o4, h⟩ := h0
      subst hr_o4
      refine ar_VI (kc' := 0) (ks' := 0) (kc := 0) (ks := 0) (a := o4) (ci := 5) (as := [vi a3]) (st := []) (tX5_loadOn h) mt_X5_loadOn rfl qM_RX11_375 qI_X5_loadOn qV_X5_loadOn he_o4 rfl (Nat.le_of_ble_eq_true rfl) dX11_heaviest_16 ?_
      clear h
      intro x3 F2 h
      refine aw_pc (pc' := 19) rfl ?_
      refine aw_istore dX11_heaviest_19 (by decide) (aw_pc (pc' := 21) rfl ?_)
      refine aw_iload dX11_heaviest_21 rfl (aw_pc (pc' := 23) rfl ?_)
      refine aw_iload_n dX11_heaviest_23 rfl rfl (aw_pc (pc' := 24) rfl ?_)
      refine ac_le rfl rfl dX11_heaviest_24 rfl (fun c => ?_) (fun c => ?_)
      · replace h := h.1 c
        refine aw_iload dX11_heaviest_27 rfl (aw_pc (pc' := 29) rfl ?_)
        refine aw_istore_n dX11_heaviest_29 rfl (by decide) (aw_pc (pc' := 30) rfl ?_)
        refine aw_iload_n dX11_heaviest_30 rfl rfl (aw_pc (pc' := 31) rfl ?_)
        refine aw_istore_n dX11_heaviest_31 rfl (by decide) (aw_pc (pc' := 32) rfl ?_)
        exact aw_mask [true, true, true, true, false] (tX11_heaviest_J32 (fun o' a1' a2' a3' F' h' => ih o' a1' a2' a3' F' h') h)
      · replace h := h.2 c
        exact aw_mask [true, true, true, true, false] (tX11_heaviest_J32 (fun o' a1' a2' a3' F' h' => ih o' a1' a2' a3' F' h') h)
    · replace h := h.2 c
      refine aw_iload_n dX11_heaviest_38 rfl rfl (aw_pc (pc' := 39) rfl ?_)
      exact aw_iret rfl dX11_heaviest_39 ⟨_, rfl, h⟩
def mX11_heaviest (o : Nat) (F : hp) (Q : Int → hp → Prop) : Prop := (∃ k1, mX11_heaviest_L6 Q k1 o (-1) 0 0 F)
set_option maxHeartbeats 4000000 in
theorem tX11_heaviest {d : Nat} {o : Nat} {F : hp} {Q : Int → hp → Prop} (h : mX11_heaviest o F Q) : am nX11_heaviest (d + 2) 0 0 [vr (some o)] F (qI Q) := by
  refine am_of (by decide +kernel) (Nat.le_of_ble_eq_true rfl) ?_
  show aw nX11_heaviest (d + 2) 0 0 0 [some (vr (some o)), none, none, none, none] [] F (qI Q)
  unfold mX11_heaviest at h
  refine aw_iconst dX11_heaviest_0 (aw_pc (pc' := 1) rfl ?_)
  refine aw_istore_n dX11_heaviest_1 rfl (by decide) (aw_pc (pc' := 2) rfl ?_)
  refine aw_iconst dX11_heaviest_2 (aw_pc (pc' := 3) rfl ?_)
  refine aw_istore_n dX11_heaviest_3 rfl (by decide) (aw_pc (pc' := 4) rfl ?_)
  refine aw_iconst dX11_heaviest_4 (aw_pc (pc' := 5) rfl ?_)
  refine aw_istore_n dX11_heaviest_5 rfl (by decide) (aw_pc (pc' := 6) rfl ?_)
  obtain ⟨k1, h⟩ := h
  exact aw_mask [true, true, true, true, false] (tX11_heaviest_L6 k1 _ _ _ _ _ h)
def mX11_worn_J49 (X6 : Nat → Int → Int → Int → hp → Prop) (Q : Int → hp → Prop) (o : Nat) (a1 : Int) (a2 : Int) (a3 : Int) (F : hp) : Prop := X6 o a1 a2 (a3 + 1) F
set_option maxHeartbeats 4000000 in
theorem tX11_worn_J49 {d : Nat} {X6 : Nat → Int → Int → Int → hp → Prop} {Q : Int → hp → Prop} (hX6 : ∀ (o : Nat) (a1 : Int) (a2 : Int) (a3 : Int) (F : hp), X6 o a1 a2 a3 F → aw nX11_worn (d + 1) 0 0 6 [some (vr (some o)), some (vi a1), some (vi a2), some (vi a3)] [] F (qI Q)) {o : Nat} {a1 : Int} {a2 : Int} {a3 : Int} {F : hp} (h : mX11_worn_J49 X6 Q o a1 a2 a3 F) : aw nX11_worn (d + 1) 0 0 49 [some (vr (some o)), some (vi a1), some (vi a2), some (vi a3)] [] F (qI Q) := by
  unfold mX11_worn_J49 at h
  refine aw_iinc dX11_worn_49 rfl (by decide) (aw_pc (pc' := 52) rfl ?_)
  refine aw_goto (tgt := 6) dX11_worn_52 rfl ?_
  exact aw_mask [true, true, true, true] (hX6 _ _ _ _ _ h)
def mX11_worn_L6 (Q : Int → hp → Prop) : Nat → Nat → Int → Int → Int → hp → Prop
  | 0, _, _, _, _, _ => False
  | k + 1, o, a1, a2, a3, F => gR F (some o) 11 0 (fun x1 => gR F x1 5 0 (fun x2 => rcv F x2 10 (fun o5 => mX10_countCars o5 F (fun x4 F3 => (w32 a3 < w32 x4 → gR F3 (some o) 11 0 (fun x6 => gR F3 x6 5 0 (fun x7 => rcv F3 x7 10 (fun o10 => mX10_wornOf o10 a3 F3 (fun x9 F8 => (w32 a2 < w32 x9 → gR F8 (some o) 11 0 (fun x11 => gR F8 x11 5 0 (fun x12 => rcv F8 x12 10 (fun o15 => mX10_wornOf o15 a3 F8 (fun x14 F13 => mX11_worn_J49 (fun o' a1' a2' a3' F' => mX11_worn_L6 Q k o' a1' a2' a3' F') Q o a3 x14 a3 F13))))) ∧ (¬ w32 a2 < w32 x9 → mX11_worn_J49 (fun o' a1' a2' a3' F' => mX11_worn_L6 Q k o' a1' a2' a3' F') Q o a1 a2 a3 F8)))))) ∧ (¬ w32 a3 < w32 x4 → Q a1 F3)))))
set_option maxHeartbeats 4000000 in
theorem tX11_worn_L6 {d : Nat} {Q : Int → hp → Prop} : ∀ (k : Nat) (o : Nat) (a1 : Int) (a2 : Int) (a3 : Int) (F : hp), mX11_worn_L6 Q k o a1 a2 a3 F → aw nX11_worn (d + 1) 0 0 6 [some (vr (some o)), some (vi a1), some (vi a2), some (vi a3)] [] F (qI Q) := by
  intro k
  induction k with
  | zero => intro o a1 a2 a3 F h; exact h.elim
  | succ k ih =>
    intro o a1 a2 a3 F h
    simp only [mX11_worn_L6] at h
    refine aw_iload_n dX11_worn_6 rfl rfl (aw_pc (pc' := 7) rfl ?_)
    refine aw_aload_n dX11_worn_7 rfl rfl (aw_pc (pc' := 8) rfl ?_)
    refine ar_gR fl_RX11_20 dX11_worn_8 h ?_
    clear h
    intro x1 h
    refine aw_pc (pc' := 11) rfl ?_
    refine ar_gR fl_RX11_66 dX11_worn_11 h ?_
    clear h
    intro x2 h
    refine aw_pc (pc' := 14) rfl ?_
    have h0 := rcv_inv h
    clear h
    obtain ⟨o5, fs_o5, hr_o5, he_o5, h⟩ := h0
    subst hr_o5
    refine ar_VI (kc' := 0) (ks' := 0) (kc := 0) (ks := 0) (a := o5) (ci := 10) (as := []) (st := [vi a3]) (tX10_countCars h) mt_X10_countCars rfl qM_RX11_69 qI_X10_countCars qV_X10_countCars he_o5 rfl (Nat.le_of_ble_eq_true rfl) dX11_worn_14 ?_
    clear h
    intro x4 F3 h
    refine aw_pc (pc' := 17) rfl ?_
    refine ac_ge rfl rfl dX11_worn_17 rfl (fun c => ?_) (fun c => ?_)
    · replace h := h.1 c
      refine aw_aload_n dX11_worn_20 rfl rfl (aw_pc (pc' := 21) rfl ?_)
      refine ar_gR fl_RX11_20 dX11_worn_21 h ?_
      clear h
      intro x6 h
      refine aw_pc (pc' := 24) rfl ?_
      refine ar_gR fl_RX11_66 dX11_worn_24 h ?_
      clear h
      intro x7 h
      refine aw_pc (pc' := 27) rfl ?_
      refine aw_iload_n dX11_worn_27 rfl rfl (aw_pc (pc' := 28) rfl ?_)
      have h0 := rcv_inv h
      clear h
      obtain ⟨o10, fs_o10, hr_o10, he_o10, h⟩ := h0
      subst hr_o10
      refine ar_VI (kc' := 0) (ks' := 0) (kc := 0) (ks := 0) (a := o10) (ci := 10) (as := [vi a3]) (st := []) (tX10_wornOf h) mt_X10_wornOf rfl qM_RX11_188 qI_X10_wornOf qV_X10_wornOf he_o10 rfl (Nat.le_of_ble_eq_true rfl) dX11_worn_28 ?_
      clear h
      intro x9 F8 h
      refine aw_pc (pc' := 31) rfl ?_
      refine aw_iload_n dX11_worn_31 rfl rfl (aw_pc (pc' := 32) rfl ?_)
      refine ac_le rfl rfl dX11_worn_32 rfl (fun c => ?_) (fun c => ?_)
      · replace h := h.1 c
        refine aw_aload_n dX11_worn_35 rfl rfl (aw_pc (pc' := 36) rfl ?_)
        refine ar_gR fl_RX11_20 dX11_worn_36 h ?_
        clear h
        intro x11 h
        refine aw_pc (pc' := 39) rfl ?_
        refine ar_gR fl_RX11_66 dX11_worn_39 h ?_
        clear h
        intro x12 h
        refine aw_pc (pc' := 42) rfl ?_
        refine aw_iload_n dX11_worn_42 rfl rfl (aw_pc (pc' := 43) rfl ?_)
        have h0 := rcv_inv h
        clear h
        obtain ⟨o15, fs_o15, hr_o15, he_o15, h⟩ := h0
        subst hr_o15
        refine ar_VI (kc' := 0) (ks' := 0) (kc := 0) (ks := 0) (a := o15) (ci := 10) (as := [vi a3]) (st := []) (tX10_wornOf h) mt_X10_wornOf rfl qM_RX11_188 qI_X10_wornOf qV_X10_wornOf he_o15 rfl (Nat.le_of_ble_eq_true rfl) dX11_worn_43 ?_
        clear h
        intro x14 F13 h
        refine aw_pc (pc' := 46) rfl ?_
        refine aw_istore_n dX11_worn_46 rfl (by decide) (aw_pc (pc' := 47) rfl ?_)
        refine aw_iload_n dX11_worn_47 rfl rfl (aw_pc (pc' := 48) rfl ?_)
        refine aw_istore_n dX11_worn_48 rfl (by decide) (aw_pc (pc' := 49) rfl ?_)
        exact aw_mask [true, true, true, true] (tX11_worn_J49 (fun o' a1' a2' a3' F' h' => ih o' a1' a2' a3' F' h') h)
      · replace h := h.2 c
        exact aw_mask [true, true, true, true] (tX11_worn_J49 (fun o' a1' a2' a3' F' h' => ih o' a1' a2' a3' F' h') h)
    · replace h := h.2 c
      refine aw_iload_n dX11_worn_55 rfl rfl (aw_pc (pc' := 56) rfl ?_)
      exact aw_iret rfl dX11_worn_56 ⟨_, rfl, h⟩
def mX11_worn (o : Nat) (F : hp) (Q : Int → hp → Prop) : Prop := (∃ k1, mX11_worn_L6 Q k1 o (-1) 0 0 F)
set_option maxHeartbeats 4000000 in
theorem tX11_worn {d : Nat} {o : Nat} {F : hp} {Q : Int → hp → Prop} (h : mX11_worn o F Q) : am nX11_worn (d + 1) 0 0 [vr (some o)] F (qI Q) := by
  refine am_of (by decide +kernel) (Nat.le_of_ble_eq_true rfl) ?_
  show aw nX11_worn (d + 1) 0 0 0 [some (vr (some o)), none, none, none] [] F (qI Q)
  unfold mX11_worn at h
  refine aw_iconst dX11_worn_0 (aw_pc (pc' := 1) rfl ?_)
  refine aw_istore_n dX11_worn_1 rfl (by decide) (aw_pc (pc' := 2) rfl ?_)
  refine aw_iconst dX11_worn_2 (aw_pc (pc' := 3) rfl ?_)
  refine aw_istore_n dX11_worn_3 rfl (by decide) (aw_pc (pc' := 4) rfl ?_)
  refine aw_iconst dX11_worn_4 (aw_pc (pc' := 5) rfl ?_)
  refine aw_istore_n dX11_worn_5 rfl (by decide) (aw_pc (pc' := 6) rfl ?_)
  obtain ⟨k1, h⟩ := h
  exact aw_mask [true, true, true, true] (tX11_worn_L6 k1 _ _ _ _ _ h)
def mX11_amiss_J65 (X4 : Nat → Int → Int → hp → Prop) (X11 : Nat → Int → Int → Int → hp → Prop) (Q : Int → hp → Prop) (o : Nat) (a1 : Int) (a2 : Int) (a3 : Int) (F : hp) : Prop := X11 o a1 a2 (a3 + 1) F
set_option maxHeartbeats 4000000 in
theorem tX11_amiss_J65 {d : Nat} {X4 : Nat → Int → Int → hp → Prop} {X11 : Nat → Int → Int → Int → hp → Prop} {Q : Int → hp → Prop} (hX4 : ∀ (o : Nat) (a1 : Int) (a2 : Int) (F : hp), X4 o a1 a2 F → aw nX11_amiss (d + 1) 0 0 4 [some (vr (some o)), some (vi a1), some (vi a2), none] [] F (qI Q)) (hX11 : ∀ (o : Nat) (a1 : Int) (a2 : Int) (a3 : Int) (F : hp), X11 o a1 a2 a3 F → aw nX11_amiss (d + 1) 0 0 11 [some (vr (some o)), some (vi a1), some (vi a2), some (vi a3)] [] F (qI Q)) {o : Nat} {a1 : Int} {a2 : Int} {a3 : Int} {F : hp} (h : mX11_amiss_J65 X4 X11 Q o a1 a2 a3 F) : aw nX11_amiss (d + 1) 0 0 65 [some (vr (some o)), some (vi a1), some (vi a2), some (vi a3)] [] F (qI Q) := by
  unfold mX11_amiss_J65 at h
  refine aw_iinc dX11_amiss_65 rfl (by decide) (aw_pc (pc' := 68) rfl ?_)
  refine aw_goto (tgt := 11) dX11_amiss_68 rfl ?_
  exact aw_mask [true, true, true, true] (hX11 _ _ _ _ _ h)
def mX11_amiss_L11 (X4 : Nat → Int → Int → hp → Prop) (Q : Int → hp → Prop) : Nat → Nat → Int → Int → Int → hp → Prop
  | 0, _, _, _, _, _ => False
  | k + 1, o, a1, a2, a3, F => gR F (some o) 11 0 (fun x1 => gR F x1 5 0 (fun x2 => rcv F x2 10 (fun o5 => mX10_countOn o5 a2 F (fun x4 F3 => (w32 a3 < w32 x4 → gR F3 (some o) 11 0 (fun x6 => gR F3 (some o) 11 0 (fun x7 => gR F3 x7 5 0 (fun x8 => rcv F3 x8 10 (fun o11 => mX10_carAt o11 a2 (a3 - 1) F3 (fun x10 F9 => gR F9 (some o) 11 0 (fun x12 => gR F9 x12 5 0 (fun x13 => rcv F9 x13 10 (fun o16 => mX10_carAt o16 a2 a3 F9 (fun x15 F14 => rcv F14 x6 5 (fun o19 => mX5_mayStandBeside o19 x10 x15 F14 (fun x18 F17 => (w32 x18 = 0 → mX11_amiss_J65 X4 (fun o' a1' a2' a3' F' => mX11_amiss_L11 X4 Q k o' a1' a2' a3' F') Q o (a1 + 1) a2 a3 F17) ∧ (¬ w32 x18 = 0 → mX11_amiss_J65 X4 (fun o' a1' a2' a3' F' => mX11_amiss_L11 X4 Q k o' a1' a2' a3' F') Q o a1 a2 a3 F17))))))))))))) ∧ (¬ w32 a3 < w32 x4 → X4 o a1 (a2 + 1) F3)))))
set_option maxHeartbeats 4000000 in
theorem tX11_amiss_L11 {d : Nat} {X4 : Nat → Int → Int → hp → Prop} {Q : Int → hp → Prop} (hX4 : ∀ (o : Nat) (a1 : Int) (a2 : Int) (F : hp), X4 o a1 a2 F → aw nX11_amiss (d + 1) 0 0 4 [some (vr (some o)), some (vi a1), some (vi a2), none] [] F (qI Q)) : ∀ (k : Nat) (o : Nat) (a1 : Int) (a2 : Int) (a3 : Int) (F : hp), mX11_amiss_L11 X4 Q k o a1 a2 a3 F → aw nX11_amiss (d + 1) 0 0 11 [some (vr (some o)), some (vi a1), some (vi a2), some (vi a3)] [] F (qI Q) := by
  intro k
  induction k with
  | zero => intro o a1 a2 a3 F h; exact h.elim
  | succ k ih =>
    intro o a1 a2 a3 F h
    simp only [mX11_amiss_L11] at h
    refine aw_iload_n dX11_amiss_11 rfl rfl (aw_pc (pc' := 12) rfl ?_)
    refine aw_aload_n dX11_amiss_12 rfl rfl (aw_pc (pc' := 13) rfl ?_)
    refine ar_gR fl_RX11_20 dX11_amiss_13 h ?_
    clear h
    intro x1 h
    refine aw_pc (pc' := 16) rfl ?_
    refine ar_gR fl_RX11_66 dX11_amiss_16 h ?_
    clear h
    intro x2 h
    refine aw_pc (pc' := 19) rfl ?_
    refine aw_iload_n dX11_amiss_19 rfl rfl (aw_pc (pc' := 20) rfl ?_)
    have h0 := rcv_inv h
    clear h
    obtain ⟨o5, fs_o5, hr_o5, he_o5, h⟩ := h0
    subst hr_o5
    refine ar_VI (kc' := 0) (ks' := 0) (kc := 0) (ks := 0) (a := o5) (ci := 10) (as := [vi a2]) (st := [vi a3]) (tX10_countOn h) mt_X10_countOn rfl qM_RX11_191 qI_X10_countOn qV_X10_countOn he_o5 rfl (Nat.le_of_ble_eq_true rfl) dX11_amiss_20 ?_
    clear h
    intro x4 F3 h
    refine aw_pc (pc' := 23) rfl ?_
    refine ac_ge rfl rfl dX11_amiss_23 rfl (fun c => ?_) (fun c => ?_)
    · replace h := h.1 c
      refine aw_aload_n dX11_amiss_26 rfl rfl (aw_pc (pc' := 27) rfl ?_)
      refine ar_gR fl_RX11_20 dX11_amiss_27 h ?_
      clear h
      intro x6 h
      refine aw_pc (pc' := 30) rfl ?_
      refine aw_aload_n dX11_amiss_30 rfl rfl (aw_pc (pc' := 31) rfl ?_)
      refine ar_gR fl_RX11_20 dX11_amiss_31 h ?_
      clear h
      intro x7 h
      refine aw_pc (pc' := 34) rfl ?_
      refine ar_gR fl_RX11_66 dX11_amiss_34 h ?_
      clear h
      intro x8 h
      refine aw_pc (pc' := 37) rfl ?_
      refine aw_iload_n dX11_amiss_37 rfl rfl (aw_pc (pc' := 38) rfl ?_)
      refine aw_iload_n dX11_amiss_38 rfl rfl (aw_pc (pc' := 39) rfl ?_)
      refine aw_iconst dX11_amiss_39 (aw_pc (pc' := 40) rfl ?_)
      refine aw_isub dX11_amiss_40 (aw_pc (pc' := 41) rfl ?_)
      have h0 := rcv_inv h
      clear h
      obtain ⟨o11, fs_o11, hr_o11, he_o11, h⟩ := h0
      subst hr_o11
      refine ar_VI (kc' := 0) (ks' := 0) (kc := 0) (ks := 0) (a := o11) (ci := 10) (as := [vi a2, vi (a3 - 1)]) (st := [vr x6]) (tX10_carAt h) mt_X10_carAt rfl qM_RX11_194 qI_X10_carAt qV_X10_carAt he_o11 rfl (Nat.le_of_ble_eq_true rfl) dX11_amiss_41 ?_
      clear h
      intro x10 F9 h
      refine aw_pc (pc' := 44) rfl ?_
      refine aw_aload_n dX11_amiss_44 rfl rfl (aw_pc (pc' := 45) rfl ?_)
      refine ar_gR fl_RX11_20 dX11_amiss_45 h ?_
      clear h
      intro x12 h
      refine aw_pc (pc' := 48) rfl ?_
      refine ar_gR fl_RX11_66 dX11_amiss_48 h ?_
      clear h
      intro x13 h
      refine aw_pc (pc' := 51) rfl ?_
      refine aw_iload_n dX11_amiss_51 rfl rfl (aw_pc (pc' := 52) rfl ?_)
      refine aw_iload_n dX11_amiss_52 rfl rfl (aw_pc (pc' := 53) rfl ?_)
      have h0 := rcv_inv h
      clear h
      obtain ⟨o16, fs_o16, hr_o16, he_o16, h⟩ := h0
      subst hr_o16
      refine ar_VI (kc' := 0) (ks' := 0) (kc := 0) (ks := 0) (a := o16) (ci := 10) (as := [vi a2, vi a3]) (st := [vi x10, vr x6]) (tX10_carAt h) mt_X10_carAt rfl qM_RX11_194 qI_X10_carAt qV_X10_carAt he_o16 rfl (Nat.le_of_ble_eq_true rfl) dX11_amiss_53 ?_
      clear h
      intro x15 F14 h
      refine aw_pc (pc' := 56) rfl ?_
      have h0 := rcv_inv h
      clear h
      obtain ⟨o19, fs_o19, hr_o19, he_o19, h⟩ := h0
      subst hr_o19
      refine ar_VI (kc' := 0) (ks' := 0) (kc := 0) (ks := 0) (a := o19) (ci := 5) (as := [vi x10, vi x15]) (st := []) (tX5_mayStandBeside h) mt_X5_mayStandBeside rfl qM_RX11_378 qI_X5_mayStandBeside qV_X5_mayStandBeside he_o19 rfl (Nat.le_of_ble_eq_true rfl) dX11_amiss_56 ?_
      clear h
      intro x18 F17 h
      refine aw_pc (pc' := 59) rfl ?_
      refine aw_if_ne dX11_amiss_59 rfl (fun c => ?_) (fun c => ?_)
      · replace h := h.1 c
        refine aw_iinc dX11_amiss_62 rfl (by decide) (aw_pc (pc' := 65) rfl ?_)
        exact aw_mask [true, true, true, true] (tX11_amiss_J65 hX4 (fun o' a1' a2' a3' F' h' => ih o' a1' a2' a3' F' h') h)
      · replace h := h.2 c
        exact aw_mask [true, true, true, true] (tX11_amiss_J65 hX4 (fun o' a1' a2' a3' F' h' => ih o' a1' a2' a3' F' h') h)
    · replace h := h.2 c
      refine aw_iinc dX11_amiss_71 rfl (by decide) (aw_pc (pc' := 74) rfl ?_)
      refine aw_goto (tgt := 4) dX11_amiss_74 rfl ?_
      exact aw_mask [true, true, true, false] (hX4 _ _ _ _ h)
def mX11_amiss_L4 (Q : Int → hp → Prop) : Nat → Nat → Int → Int → hp → Prop
  | 0, _, _, _, _ => False
  | k + 1, o, a1, a2, F => (w32 a2 < 3 → (∃ k1, mX11_amiss_L11 (fun o' a1' a2' F' => mX11_amiss_L4 Q k o' a1' a2' F') Q k1 o a1 a2 1 F)) ∧ (¬ w32 a2 < 3 → Q a1 F)
set_option maxHeartbeats 4000000 in
theorem tX11_amiss_L4 {d : Nat} {Q : Int → hp → Prop} : ∀ (k : Nat) (o : Nat) (a1 : Int) (a2 : Int) (F : hp), mX11_amiss_L4 Q k o a1 a2 F → aw nX11_amiss (d + 1) 0 0 4 [some (vr (some o)), some (vi a1), some (vi a2), none] [] F (qI Q) := by
  intro k
  induction k with
  | zero => intro o a1 a2 F h; exact h.elim
  | succ k ih =>
    intro o a1 a2 F h
    simp only [mX11_amiss_L4] at h
    refine aw_iload_n dX11_amiss_4 rfl rfl (aw_pc (pc' := 5) rfl ?_)
    refine aw_iconst dX11_amiss_5 (aw_pc (pc' := 6) rfl ?_)
    refine ac_ge rfl wl_3 dX11_amiss_6 rfl (fun c => ?_) (fun c => ?_)
    · replace h := h.1 c
      refine aw_iconst dX11_amiss_9 (aw_pc (pc' := 10) rfl ?_)
      refine aw_istore_n dX11_amiss_10 rfl (by decide) (aw_pc (pc' := 11) rfl ?_)
      obtain ⟨k1, h⟩ := h
      exact aw_mask [true, true, true, true] (tX11_amiss_L11 (fun o' a1' a2' F' h' => ih o' a1' a2' F' h') k1 _ _ _ _ _ h)
    · replace h := h.2 c
      refine aw_iload_n dX11_amiss_77 rfl rfl (aw_pc (pc' := 78) rfl ?_)
      exact aw_iret rfl dX11_amiss_78 ⟨_, rfl, h⟩
def mX11_amiss (o : Nat) (F : hp) (Q : Int → hp → Prop) : Prop := (∃ k1, mX11_amiss_L4 Q k1 o 0 0 F)
set_option maxHeartbeats 4000000 in
theorem tX11_amiss {d : Nat} {o : Nat} {F : hp} {Q : Int → hp → Prop} (h : mX11_amiss o F Q) : am nX11_amiss (d + 1) 0 0 [vr (some o)] F (qI Q) := by
  refine am_of (by decide +kernel) (Nat.le_of_ble_eq_true rfl) ?_
  show aw nX11_amiss (d + 1) 0 0 0 [some (vr (some o)), none, none, none] [] F (qI Q)
  unfold mX11_amiss at h
  refine aw_iconst dX11_amiss_0 (aw_pc (pc' := 1) rfl ?_)
  refine aw_istore_n dX11_amiss_1 rfl (by decide) (aw_pc (pc' := 2) rfl ?_)
  refine aw_iconst dX11_amiss_2 (aw_pc (pc' := 3) rfl ?_)
  refine aw_istore_n dX11_amiss_3 rfl (by decide) (aw_pc (pc' := 4) rfl ?_)
  obtain ⟨k1, h⟩ := h
  exact aw_mask [true, true, true, false] (tX11_amiss_L4 k1 _ _ _ _ h)
def mX11_ledger_J49 (X16 : Nat → Int → Int → Int → hp → Prop) (Q : Int → hp → Prop) (o : Nat) (a1 : Int) (a2 : Int) (a3 : Int) (F : hp) : Prop := X16 o a1 a2 (a3 + 1) F
set_option maxHeartbeats 4000000 in
theorem tX11_ledger_J49 {d : Nat} {X16 : Nat → Int → Int → Int → hp → Prop} {Q : Int → hp → Prop} (hX16 : ∀ (o : Nat) (a1 : Int) (a2 : Int) (a3 : Int) (F : hp), X16 o a1 a2 a3 F → aw nX11_ledger (d + 1) 0 0 16 [some (vr (some o)), some (vi a1), some (vi a2), some (vi a3)] [] F (qI Q)) {o : Nat} {a1 : Int} {a2 : Int} {a3 : Int} {F : hp} (h : mX11_ledger_J49 X16 Q o a1 a2 a3 F) : aw nX11_ledger (d + 1) 0 0 49 [some (vr (some o)), some (vi a1), some (vi a2), some (vi a3)] [] F (qI Q) := by
  unfold mX11_ledger_J49 at h
  refine aw_iinc dX11_ledger_49 rfl (by decide) (aw_pc (pc' := 52) rfl ?_)
  refine aw_goto (tgt := 16) dX11_ledger_52 rfl ?_
  exact aw_mask [true, true, true, true] (hX16 _ _ _ _ _ h)
def mX11_ledger_L16 (Q : Int → hp → Prop) : Nat → Nat → Int → Int → Int → hp → Prop
  | 0, _, _, _, _, _ => False
  | k + 1, o, a1, a2, a3, F => gR F (some o) 11 0 (fun x1 => gR F x1 5 0 (fun x2 => rcv F x2 10 (fun o5 => mX10_countLines o5 F (fun x4 F3 => (w32 a3 < w32 x4 → gR F3 (some o) 11 0 (fun x6 => gR F3 x6 5 0 (fun x7 => rcv F3 x7 10 (fun o10 => mX10_lineTells o10 a3 2 F3 (fun x9 F8 => (w32 x9 = w32 a1 → mX11_ledger_J49 (fun o' a1' a2' a3' F' => mX11_ledger_L16 Q k o' a1' a2' a3' F') Q o a1 (a2 + 1) a3 F8) ∧ (¬ w32 x9 = w32 a1 → mX11_ledger_J49 (fun o' a1' a2' a3' F' => mX11_ledger_L16 Q k o' a1' a2' a3' F') Q o a1 a2 a3 F8)))))) ∧ (¬ w32 a3 < w32 x4 → Q a2 F3)))))
set_option maxHeartbeats 4000000 in
theorem tX11_ledger_L16 {d : Nat} {Q : Int → hp → Prop} : ∀ (k : Nat) (o : Nat) (a1 : Int) (a2 : Int) (a3 : Int) (F : hp), mX11_ledger_L16 Q k o a1 a2 a3 F → aw nX11_ledger (d + 1) 0 0 16 [some (vr (some o)), some (vi a1), some (vi a2), some (vi a3)] [] F (qI Q) := by
  intro k
  induction k with
  | zero => intro o a1 a2 a3 F h; exact h.elim
  | succ k ih =>
    intro o a1 a2 a3 F h
    simp only [mX11_ledger_L16] at h
    refine aw_iload_n dX11_ledger_16 rfl rfl (aw_pc (pc' := 17) rfl ?_)
    refine aw_aload_n dX11_ledger_17 rfl rfl (aw_pc (pc' := 18) rfl ?_)
    refine ar_gR fl_RX11_20 dX11_ledger_18 h ?_
    clear h
    intro x1 h
    refine aw_pc (pc' := 21) rfl ?_
    refine ar_gR fl_RX11_66 dX11_ledger_21 h ?_
    clear h
    intro x2 h
    refine aw_pc (pc' := 24) rfl ?_
    have h0 := rcv_inv h
    clear h
    obtain ⟨o5, fs_o5, hr_o5, he_o5, h⟩ := h0
    subst hr_o5
    refine ar_VI (kc' := 0) (ks' := 0) (kc := 0) (ks := 0) (a := o5) (ci := 10) (as := []) (st := [vi a3]) (tX10_countLines h) mt_X10_countLines rfl qM_RX11_217 qI_X10_countLines qV_X10_countLines he_o5 rfl (Nat.le_of_ble_eq_true rfl) dX11_ledger_24 ?_
    clear h
    intro x4 F3 h
    refine aw_pc (pc' := 27) rfl ?_
    refine ac_ge rfl rfl dX11_ledger_27 rfl (fun c => ?_) (fun c => ?_)
    · replace h := h.1 c
      refine aw_aload_n dX11_ledger_30 rfl rfl (aw_pc (pc' := 31) rfl ?_)
      refine ar_gR fl_RX11_20 dX11_ledger_31 h ?_
      clear h
      intro x6 h
      refine aw_pc (pc' := 34) rfl ?_
      refine ar_gR fl_RX11_66 dX11_ledger_34 h ?_
      clear h
      intro x7 h
      refine aw_pc (pc' := 37) rfl ?_
      refine aw_iload_n dX11_ledger_37 rfl rfl (aw_pc (pc' := 38) rfl ?_)
      refine aw_iconst dX11_ledger_38 (aw_pc (pc' := 39) rfl ?_)
      have h0 := rcv_inv h
      clear h
      obtain ⟨o10, fs_o10, hr_o10, he_o10, h⟩ := h0
      subst hr_o10
      refine ar_VI (kc' := 0) (ks' := 0) (kc := 0) (ks := 0) (a := o10) (ci := 10) (as := [vi a3, vi 2]) (st := []) (tX10_lineTells h) mt_X10_lineTells rfl qM_RX11_220 qI_X10_lineTells qV_X10_lineTells he_o10 rfl (Nat.le_of_ble_eq_true rfl) dX11_ledger_39 ?_
      clear h
      intro x9 F8 h
      refine aw_pc (pc' := 42) rfl ?_
      refine aw_iload_n dX11_ledger_42 rfl rfl (aw_pc (pc' := 43) rfl ?_)
      refine ac_ne rfl rfl dX11_ledger_43 rfl (fun c => ?_) (fun c => ?_)
      · replace h := h.1 c
        refine aw_iinc dX11_ledger_46 rfl (by decide) (aw_pc (pc' := 49) rfl ?_)
        exact aw_mask [true, true, true, true] (tX11_ledger_J49 (fun o' a1' a2' a3' F' h' => ih o' a1' a2' a3' F' h') h)
      · replace h := h.2 c
        exact aw_mask [true, true, true, true] (tX11_ledger_J49 (fun o' a1' a2' a3' F' h' => ih o' a1' a2' a3' F' h') h)
    · replace h := h.2 c
      refine aw_iload_n dX11_ledger_55 rfl rfl (aw_pc (pc' := 56) rfl ?_)
      exact aw_iret rfl dX11_ledger_56 ⟨_, rfl, h⟩
def mX11_ledger (o : Nat) (a1 : Int) (F : hp) (Q : Int → hp → Prop) : Prop := mX11_within a1 0 2 F (fun x2 F1 => (w32 x2 = 0 → Q (-2) F1) ∧ (¬ w32 x2 = 0 → (∃ k3, mX11_ledger_L16 Q k3 o a1 0 0 F1)))
set_option maxHeartbeats 4000000 in
theorem tX11_ledger {d : Nat} {o : Nat} {a1 : Int} {F : hp} {Q : Int → hp → Prop} (h : mX11_ledger o a1 F Q) : am nX11_ledger (d + 1) 0 0 [vr (some o), vi a1] F (qI Q) := by
  refine am_of (by decide +kernel) (Nat.le_of_ble_eq_true rfl) ?_
  show aw nX11_ledger (d + 1) 0 0 0 [some (vr (some o)), some (vi a1), none, none] [] F (qI Q)
  unfold mX11_ledger at h
  refine aw_iload_n dX11_ledger_0 rfl rfl (aw_pc (pc' := 1) rfl ?_)
  refine aw_iconst dX11_ledger_1 (aw_pc (pc' := 2) rfl ?_)
  refine aw_iconst dX11_ledger_2 (aw_pc (pc' := 3) rfl ?_)
  refine ar_SI (kc' := 0) (ks' := 0) (kc := 0) (ks := 0) (as := [vi a1, vi 0, vi 2]) (st := []) (tX11_within h) mt_X11_within qM_RX11_62 qS_X11_within rfl (Nat.le_of_ble_eq_true rfl) dX11_ledger_3 ?_
  clear h
  intro x2 F1 h
  refine aw_pc (pc' := 6) rfl ?_
  refine aw_if_ne dX11_ledger_6 rfl (fun c => ?_) (fun c => ?_)
  · replace h := h.1 c
    refine aw_bipush dX11_ledger_9 (by decide) (aw_pc (pc' := 11) rfl ?_)
    exact aw_iret rfl dX11_ledger_11 ⟨_, rfl, h⟩
  · replace h := h.2 c
    refine aw_iconst dX11_ledger_12 (aw_pc (pc' := 13) rfl ?_)
    refine aw_istore_n dX11_ledger_13 rfl (by decide) (aw_pc (pc' := 14) rfl ?_)
    refine aw_iconst dX11_ledger_14 (aw_pc (pc' := 15) rfl ?_)
    refine aw_istore_n dX11_ledger_15 rfl (by decide) (aw_pc (pc' := 16) rfl ?_)
    obtain ⟨k3, h⟩ := h
    exact aw_mask [true, true, true, true] (tX11_ledger_L16 k3 _ _ _ _ _ h)
def mX11_image (o : Nat) (F : hp) (Q : Int → hp → Prop) : Prop := gR F (some o) 11 1 (fun x1 => gR F (some o) 11 0 (fun x2 => rcv F x1 5 (fun o4 => mX5_copyFrom o4 x2 F (fun F3 => gR F3 (some o) 11 0 (fun x5 => gR F3 x5 5 0 (fun x6 => rcv F3 x6 10 (fun o9 => mX10_hourNow o9 F3 (fun x8 F7 => Q x8 F7))))))))
set_option maxHeartbeats 4000000 in
theorem tX11_image {d : Nat} {o : Nat} {F : hp} {Q : Int → hp → Prop} (h : mX11_image o F Q) : am nX11_image (d + 3) 0 0 [vr (some o)] F (qI Q) := by
  refine am_of (by decide +kernel) (Nat.le_of_ble_eq_true rfl) ?_
  show aw nX11_image (d + 3) 0 0 0 [some (vr (some o))] [] F (qI Q)
  unfold mX11_image at h
  refine aw_aload_n dX11_image_0 rfl rfl (aw_pc (pc' := 1) rfl ?_)
  refine ar_gR fl_RX11_24 dX11_image_1 h ?_
  clear h
  intro x1 h
  refine aw_pc (pc' := 4) rfl ?_
  refine aw_aload_n dX11_image_4 rfl rfl (aw_pc (pc' := 5) rfl ?_)
  refine ar_gR fl_RX11_20 dX11_image_5 h ?_
  clear h
  intro x2 h
  refine aw_pc (pc' := 8) rfl ?_
  have h0 := rcv_inv h
  clear h
  obtain ⟨o4, fs_o4, hr_o4, he_o4, h⟩ := h0
  subst hr_o4
  refine ar_VV (kc' := 0) (ks' := 0) (kc := 0) (ks := 0) (a := o4) (ci := 5) (as := [vr x2]) (st := []) (tX5_copyFrom h) mt_X5_copyFrom rfl qM_RX11_381 qI_X5_copyFrom qV_X5_copyFrom he_o4 rfl (Nat.le_of_ble_eq_true rfl) dX11_image_8 ?_
  clear h
  intro F3 h
  refine aw_pc (pc' := 11) rfl ?_
  refine aw_aload_n dX11_image_11 rfl rfl (aw_pc (pc' := 12) rfl ?_)
  refine ar_gR fl_RX11_20 dX11_image_12 h ?_
  clear h
  intro x5 h
  refine aw_pc (pc' := 15) rfl ?_
  refine ar_gR fl_RX11_66 dX11_image_15 h ?_
  clear h
  intro x6 h
  refine aw_pc (pc' := 18) rfl ?_
  have h0 := rcv_inv h
  clear h
  obtain ⟨o9, fs_o9, hr_o9, he_o9, h⟩ := h0
  subst hr_o9
  refine ar_VI (kc' := 0) (ks' := 0) (kc := 0) (ks := 0) (a := o9) (ci := 10) (as := []) (st := []) (tX10_hourNow h) mt_X10_hourNow rfl qM_RX11_138 qI_X10_hourNow qV_X10_hourNow he_o9 rfl (Nat.le_of_ble_eq_true rfl) dX11_image_18 ?_
  clear h
  intro x8 F7 h
  refine aw_pc (pc' := 21) rfl ?_
  exact aw_iret rfl dX11_image_21 ⟨_, rfl, h⟩
def mX11_back (o : Nat) (F : hp) (Q : Int → hp → Prop) : Prop := gR F (some o) 11 0 (fun x1 => gR F (some o) 11 1 (fun x2 => rcv F x1 5 (fun o4 => mX5_copyFrom o4 x2 F (fun F3 => gR F3 (some o) 11 0 (fun x5 => gR F3 x5 5 0 (fun x6 => rcv F3 x6 10 (fun o9 => mX10_hourNow o9 F3 (fun x8 F7 => Q x8 F7))))))))
set_option maxHeartbeats 4000000 in
theorem tX11_back {d : Nat} {o : Nat} {F : hp} {Q : Int → hp → Prop} (h : mX11_back o F Q) : am nX11_back (d + 3) 0 0 [vr (some o)] F (qI Q) := by
  refine am_of (by decide +kernel) (Nat.le_of_ble_eq_true rfl) ?_
  show aw nX11_back (d + 3) 0 0 0 [some (vr (some o))] [] F (qI Q)
  unfold mX11_back at h
  refine aw_aload_n dX11_back_0 rfl rfl (aw_pc (pc' := 1) rfl ?_)
  refine ar_gR fl_RX11_20 dX11_back_1 h ?_
  clear h
  intro x1 h
  refine aw_pc (pc' := 4) rfl ?_
  refine aw_aload_n dX11_back_4 rfl rfl (aw_pc (pc' := 5) rfl ?_)
  refine ar_gR fl_RX11_24 dX11_back_5 h ?_
  clear h
  intro x2 h
  refine aw_pc (pc' := 8) rfl ?_
  have h0 := rcv_inv h
  clear h
  obtain ⟨o4, fs_o4, hr_o4, he_o4, h⟩ := h0
  subst hr_o4
  refine ar_VV (kc' := 0) (ks' := 0) (kc := 0) (ks := 0) (a := o4) (ci := 5) (as := [vr x2]) (st := []) (tX5_copyFrom h) mt_X5_copyFrom rfl qM_RX11_381 qI_X5_copyFrom qV_X5_copyFrom he_o4 rfl (Nat.le_of_ble_eq_true rfl) dX11_back_8 ?_
  clear h
  intro F3 h
  refine aw_pc (pc' := 11) rfl ?_
  refine aw_aload_n dX11_back_11 rfl rfl (aw_pc (pc' := 12) rfl ?_)
  refine ar_gR fl_RX11_20 dX11_back_12 h ?_
  clear h
  intro x5 h
  refine aw_pc (pc' := 15) rfl ?_
  refine ar_gR fl_RX11_66 dX11_back_15 h ?_
  clear h
  intro x6 h
  refine aw_pc (pc' := 18) rfl ?_
  have h0 := rcv_inv h
  clear h
  obtain ⟨o9, fs_o9, hr_o9, he_o9, h⟩ := h0
  subst hr_o9
  refine ar_VI (kc' := 0) (ks' := 0) (kc := 0) (ks := 0) (a := o9) (ci := 10) (as := []) (st := []) (tX10_hourNow h) mt_X10_hourNow rfl qM_RX11_138 qI_X10_hourNow qV_X10_hourNow he_o9 rfl (Nat.le_of_ble_eq_true rfl) dX11_back_18 ?_
  clear h
  intro x8 F7 h
  refine aw_pc (pc' := 21) rfl ?_
  exact aw_iret rfl dX11_back_21 ⟨_, rfl, h⟩
def mX11_about (o : Nat) (a1 : Int) (F : hp) (Q : Int → hp → Prop) : Prop := (w32 a1 = 0 → gR F (some o) 11 0 (fun x1 => gR F x1 5 0 (fun x2 => rcv F x2 10 (fun o5 => mX10_countCars o5 F (fun x4 F3 => Q x4 F3))))) ∧ (w32 a1 = 1 → gR F (some o) 11 0 (fun x6 => gI F x6 5 12 (fun x7 => Q x7 F))) ∧ (w32 a1 = 2 → gR F (some o) 11 0 (fun x8 => gI F x8 5 13 (fun x9 => Q x9 F))) ∧ (w32 a1 = 3 → gR F (some o) 11 0 (fun x10 => gR F x10 5 1 (fun x11 => gI F x11 6 2 (fun x12 => Q x12 F)))) ∧ (w32 a1 = 4 → gR F (some o) 11 0 (fun x13 => gR F x13 5 8 (fun x14 => gI F x14 7 2 (fun x15 => Q x15 F)))) ∧ (w32 a1 = 5 → gR F (some o) 11 0 (fun x16 => gR F x16 5 9 (fun x17 => gI F x17 7 2 (fun x18 => Q x18 F)))) ∧ (w32 a1 = 6 → gR F (some o) 11 0 (fun x19 => gR F x19 5 10 (fun x20 => gI F x20 7 2 (fun x21 => Q x21 F)))) ∧ (w32 a1 = 7 → gR F (some o) 11 3 (fun x22 => gI F x22 2 6 (fun x23 => Q x23 F))) ∧ (w32 a1 < 0 ∨ 7 < w32 a1 → Q (-2) F)
set_option maxHeartbeats 4000000 in
theorem tX11_about {d : Nat} {o : Nat} {a1 : Int} {F : hp} {Q : Int → hp → Prop} (h : mX11_about o a1 F Q) : am nX11_about (d + 1) 0 0 [vr (some o), vi a1] F (qI Q) := by
  refine am_of (by decide +kernel) (Nat.le_of_ble_eq_true rfl) ?_
  show aw nX11_about (d + 1) 0 0 0 [some (vr (some o)), some (vi a1)] [] F (qI Q)
  unfold mX11_about at h
  refine aw_iload_n dX11_about_0 rfl rfl (aw_pc (pc' := 1) rfl ?_)
  refine aw_table dX11_about_1 (td := 127) rfl (fun j => [48, 59, 67, 75, 86, 97, 108, 119].getD j 0) rfl (by decide) (fun j hj hx => ?_) (fun hx => ?_)
  · have hj : j = 0 ∨ j = 1 ∨ j = 2 ∨ j = 3 ∨ j = 4 ∨ j = 5 ∨ j = 6 ∨ j = 7 := by (simp at hj; omega)
    rcases hj with rfl | rfl | rfl | rfl | rfl | rfl | rfl | rfl
    · replace h := h.1 (by omega)
      refine aw_pc (pc' := 48) rfl ?_
      refine aw_aload_n dX11_about_48 rfl rfl (aw_pc (pc' := 49) rfl ?_)
      refine ar_gR fl_RX11_20 dX11_about_49 h ?_
      clear h
      intro x1 h
      refine aw_pc (pc' := 52) rfl ?_
      refine ar_gR fl_RX11_66 dX11_about_52 h ?_
      clear h
      intro x2 h
      refine aw_pc (pc' := 55) rfl ?_
      have h0 := rcv_inv h
      clear h
      obtain ⟨o5, fs_o5, hr_o5, he_o5, h⟩ := h0
      subst hr_o5
      refine ar_VI (kc' := 0) (ks' := 0) (kc := 0) (ks := 0) (a := o5) (ci := 10) (as := []) (st := []) (tX10_countCars h) mt_X10_countCars rfl qM_RX11_69 qI_X10_countCars qV_X10_countCars he_o5 rfl (Nat.le_of_ble_eq_true rfl) dX11_about_55 ?_
      clear h
      intro x4 F3 h
      refine aw_pc (pc' := 58) rfl ?_
      exact aw_iret rfl dX11_about_58 ⟨_, rfl, h⟩
    · replace h := h.2.1 (by omega)
      refine aw_pc (pc' := 59) rfl ?_
      refine aw_aload_n dX11_about_59 rfl rfl (aw_pc (pc' := 60) rfl ?_)
      refine ar_gR fl_RX11_20 dX11_about_60 h ?_
      clear h
      intro x6 h
      refine aw_pc (pc' := 63) rfl ?_
      refine ar_gI fl_RX11_73 dX11_about_63 h ?_
      clear h
      intro x7 h
      refine aw_pc (pc' := 66) rfl ?_
      exact aw_iret rfl dX11_about_66 ⟨_, rfl, h⟩
    · replace h := h.2.2.1 (by omega)
      refine aw_pc (pc' := 67) rfl ?_
      refine aw_aload_n dX11_about_67 rfl rfl (aw_pc (pc' := 68) rfl ?_)
      refine ar_gR fl_RX11_20 dX11_about_68 h ?_
      clear h
      intro x8 h
      refine aw_pc (pc' := 71) rfl ?_
      refine ar_gI fl_RX11_120 dX11_about_71 h ?_
      clear h
      intro x9 h
      refine aw_pc (pc' := 74) rfl ?_
      exact aw_iret rfl dX11_about_74 ⟨_, rfl, h⟩
    · replace h := h.2.2.2.1 (by omega)
      refine aw_pc (pc' := 75) rfl ?_
      refine aw_aload_n dX11_about_75 rfl rfl (aw_pc (pc' := 76) rfl ?_)
      refine ar_gR fl_RX11_20 dX11_about_76 h ?_
      clear h
      intro x10 h
      refine aw_pc (pc' := 79) rfl ?_
      refine ar_gR fl_RX11_160 dX11_about_79 h ?_
      clear h
      intro x11 h
      refine aw_pc (pc' := 82) rfl ?_
      refine ar_gI fl_RX11_170 dX11_about_82 h ?_
      clear h
      intro x12 h
      refine aw_pc (pc' := 85) rfl ?_
      exact aw_iret rfl dX11_about_85 ⟨_, rfl, h⟩
    · replace h := h.2.2.2.2.1 (by omega)
      refine aw_pc (pc' := 86) rfl ?_
      refine aw_aload_n dX11_about_86 rfl rfl (aw_pc (pc' := 87) rfl ?_)
      refine ar_gR fl_RX11_20 dX11_about_87 h ?_
      clear h
      intro x13 h
      refine aw_pc (pc' := 90) rfl ?_
      refine ar_gR fl_RX11_313 dX11_about_90 h ?_
      clear h
      intro x14 h
      refine aw_pc (pc' := 93) rfl ?_
      refine ar_gI fl_RX11_328 dX11_about_93 h ?_
      clear h
      intro x15 h
      refine aw_pc (pc' := 96) rfl ?_
      exact aw_iret rfl dX11_about_96 ⟨_, rfl, h⟩
    · replace h := h.2.2.2.2.2.1 (by omega)
      refine aw_pc (pc' := 97) rfl ?_
      refine aw_aload_n dX11_about_97 rfl rfl (aw_pc (pc' := 98) rfl ?_)
      refine ar_gR fl_RX11_20 dX11_about_98 h ?_
      clear h
      intro x16 h
      refine aw_pc (pc' := 101) rfl ?_
      refine ar_gR fl_RX11_334 dX11_about_101 h ?_
      clear h
      intro x17 h
      refine aw_pc (pc' := 104) rfl ?_
      refine ar_gI fl_RX11_328 dX11_about_104 h ?_
      clear h
      intro x18 h
      refine aw_pc (pc' := 107) rfl ?_
      exact aw_iret rfl dX11_about_107 ⟨_, rfl, h⟩
    · replace h := h.2.2.2.2.2.2.1 (by omega)
      refine aw_pc (pc' := 108) rfl ?_
      refine aw_aload_n dX11_about_108 rfl rfl (aw_pc (pc' := 109) rfl ?_)
      refine ar_gR fl_RX11_20 dX11_about_109 h ?_
      clear h
      intro x19 h
      refine aw_pc (pc' := 112) rfl ?_
      refine ar_gR fl_RX11_368 dX11_about_112 h ?_
      clear h
      intro x20 h
      refine aw_pc (pc' := 115) rfl ?_
      refine ar_gI fl_RX11_328 dX11_about_115 h ?_
      clear h
      intro x21 h
      refine aw_pc (pc' := 118) rfl ?_
      exact aw_iret rfl dX11_about_118 ⟨_, rfl, h⟩
    · replace h := h.2.2.2.2.2.2.2.1 (by omega)
      refine aw_pc (pc' := 119) rfl ?_
      refine aw_aload_n dX11_about_119 rfl rfl (aw_pc (pc' := 120) rfl ?_)
      refine ar_gR fl_RX11_30 dX11_about_120 h ?_
      clear h
      intro x22 h
      refine aw_pc (pc' := 123) rfl ?_
      refine ar_gI fl_RX11_100 dX11_about_123 h ?_
      clear h
      intro x23 h
      refine aw_pc (pc' := 126) rfl ?_
      exact aw_iret rfl dX11_about_126 ⟨_, rfl, h⟩
  · replace h := h.2.2.2.2.2.2.2.2 hx
    refine aw_bipush dX11_about_127 (by decide) (aw_pc (pc' := 129) rfl ?_)
    exact aw_iret rfl dX11_about_129 ⟨_, rfl, h⟩
