def mX10_toldCars (o : Nat) (F : hp) (Q : Int → hp → Prop) : Prop := gR F (some o) 10 0 (fun x1 => aI F x1 0 4 (fun x2 => Q ((iShl 1 x2) - 1) F))
set_option maxHeartbeats 4000000 in
theorem tX10_toldCars {d : Nat} {o : Nat} {F : hp} {Q : Int → hp → Prop} (h : mX10_toldCars o F Q) : am nX10_toldCars d 0 0 [vr (some o)] F (qI Q) := by
  refine am_of (by decide +kernel) (Nat.le_of_ble_eq_true rfl) ?_
  show aw nX10_toldCars d 0 0 0 [some (vr (some o))] [] F (qI Q)
  unfold mX10_toldCars at h
  refine aw_iconst dX10_toldCars_0 (aw_pc (pc' := 1) rfl ?_)
  refine aw_aload_n dX10_toldCars_1 rfl rfl (aw_pc (pc' := 2) rfl ?_)
  refine ar_gR fl_RX10_11 dX10_toldCars_2 h ?_
  clear h
  intro x1 h
  refine aw_pc (pc' := 5) rfl ?_
  refine aw_iconst dX10_toldCars_5 (aw_pc (pc' := 6) rfl ?_)
  refine ar_aI dX10_toldCars_6 h ?_
  clear h
  intro x2 h
  refine aw_pc (pc' := 7) rfl ?_
  refine aw_ishl dX10_toldCars_7 (aw_pc (pc' := 8) rfl ?_)
  refine aw_iconst dX10_toldCars_8 (aw_pc (pc' := 9) rfl ?_)
  refine aw_isub dX10_toldCars_9 (aw_pc (pc' := 10) rfl ?_)
  exact aw_iret rfl dX10_toldCars_10 ⟨_, rfl, h⟩
def mX10_countOn (o : Nat) (a1 : Int) (F : hp) (Q : Int → hp → Prop) : Prop := gR F (some o) 10 0 (fun x1 => aI F x1 0 (11 + a1) (fun x2 => Q x2 F))
set_option maxHeartbeats 4000000 in
theorem tX10_countOn {d : Nat} {o : Nat} {a1 : Int} {F : hp} {Q : Int → hp → Prop} (h : mX10_countOn o a1 F Q) : am nX10_countOn d 0 0 [vr (some o), vi a1] F (qI Q) := by
  refine am_of (by decide +kernel) (Nat.le_of_ble_eq_true rfl) ?_
  show aw nX10_countOn d 0 0 0 [some (vr (some o)), some (vi a1)] [] F (qI Q)
  unfold mX10_countOn at h
  refine aw_aload_n dX10_countOn_0 rfl rfl (aw_pc (pc' := 1) rfl ?_)
  refine ar_gR fl_RX10_11 dX10_countOn_1 h ?_
  clear h
  intro x1 h
  refine aw_pc (pc' := 4) rfl ?_
  refine aw_bipush dX10_countOn_4 (by decide) (aw_pc (pc' := 6) rfl ?_)
  refine aw_iload_n dX10_countOn_6 rfl rfl (aw_pc (pc' := 7) rfl ?_)
  refine aw_iadd dX10_countOn_7 (aw_pc (pc' := 8) rfl ?_)
  refine ar_aI dX10_countOn_8 h ?_
  clear h
  intro x2 h
  refine aw_pc (pc' := 9) rfl ?_
  exact aw_iret rfl dX10_countOn_9 ⟨_, rfl, h⟩
def mX10_carAt (o : Nat) (a1 : Int) (a2 : Int) (F : hp) (Q : Int → hp → Prop) : Prop := gR F (some o) 10 0 (fun x1 => aI F x1 0 ((14 + (5 * a1)) + a2) (fun x2 => Q x2 F))
set_option maxHeartbeats 4000000 in
theorem tX10_carAt {d : Nat} {o : Nat} {a1 : Int} {a2 : Int} {F : hp} {Q : Int → hp → Prop} (h : mX10_carAt o a1 a2 F Q) : am nX10_carAt d 0 0 [vr (some o), vi a1, vi a2] F (qI Q) := by
  refine am_of (by decide +kernel) (Nat.le_of_ble_eq_true rfl) ?_
  show aw nX10_carAt d 0 0 0 [some (vr (some o)), some (vi a1), some (vi a2)] [] F (qI Q)
  unfold mX10_carAt at h
  refine aw_aload_n dX10_carAt_0 rfl rfl (aw_pc (pc' := 1) rfl ?_)
  refine ar_gR fl_RX10_11 dX10_carAt_1 h ?_
  clear h
  intro x1 h
  refine aw_pc (pc' := 4) rfl ?_
  refine aw_bipush dX10_carAt_4 (by decide) (aw_pc (pc' := 6) rfl ?_)
  refine aw_iconst dX10_carAt_6 (aw_pc (pc' := 7) rfl ?_)
  refine aw_iload_n dX10_carAt_7 rfl rfl (aw_pc (pc' := 8) rfl ?_)
  refine aw_imul dX10_carAt_8 (aw_pc (pc' := 9) rfl ?_)
  refine aw_iadd dX10_carAt_9 (aw_pc (pc' := 10) rfl ?_)
  refine aw_iload_n dX10_carAt_10 rfl rfl (aw_pc (pc' := 11) rfl ?_)
  refine aw_iadd dX10_carAt_11 (aw_pc (pc' := 12) rfl ?_)
  refine ar_aI dX10_carAt_12 h ?_
  clear h
  intro x2 h
  refine aw_pc (pc' := 13) rfl ?_
  exact aw_iret rfl dX10_carAt_13 ⟨_, rfl, h⟩
def mX10_init (o : Nat) (F : hp) (Q : hp → Prop) : Prop := nwc F (cA 0 60 (fun _ => 0)) (fun n1 F2 => pF F2 (some o) 10 0 (vr (some n1)) (fun F3 => gR F3 (some o) 10 0 (fun x4 => sI F3 x4 0 1 353 (fun F5 => gR F5 (some o) 10 0 (fun x6 => sI F5 x6 0 2 1 (fun F7 => gR F7 (some o) 10 0 (fun x8 => sI F7 x8 0 3 1 (fun F9 => Q F9))))))))
set_option maxHeartbeats 4000000 in
theorem tX10_init {d : Nat} {o : Nat} {F : hp} {Q : hp → Prop} (h : mX10_init o F Q) : am nX10_init (d + 1) 1 60 [vr (some o)] F (qV Q) := by
  refine am_of (by decide +kernel) (Nat.le_of_ble_eq_true rfl) ?_
  show aw nX10_init (d + 1) 1 60 0 [some (vr (some o))] [] F (qV Q)
  unfold mX10_init at h
  refine aw_aload_n dX10_init_0 rfl rfl (aw_pc (pc' := 1) rfl ?_)
  refine aw_obj qM_RX10_3 mw_obj (Nat.le_of_ble_eq_true rfl) dX10_init_1 (aw_pc (pc' := 4) rfl ?_)
  refine aw_aload_n dX10_init_4 rfl rfl (aw_pc (pc' := 5) rfl ?_)
  refine aw_bipush dX10_init_5 (by decide) (aw_pc (pc' := 7) rfl ?_)
  refine ar_newarr (k := 0) (kc := 0) (ks := 0) (ms := 60) (Or.inl rfl) rfl qY_int (by decide) dX10_init_7 h ?_
  clear h
  intro n1 F2 h
  refine aw_pc (pc' := 9) rfl ?_
  refine ar_pFF fl_RX10_11 ft_X10_0 rfl rfl (okA _ _) dX10_init_9 h ?_
  clear h
  intro F3 h
  refine aw_pc (pc' := 12) rfl ?_
  refine aw_aload_n dX10_init_12 rfl rfl (aw_pc (pc' := 13) rfl ?_)
  refine ar_gR fl_RX10_11 dX10_init_13 h ?_
  clear h
  intro x4 h
  refine aw_pc (pc' := 16) rfl ?_
  refine aw_iconst dX10_init_16 (aw_pc (pc' := 17) rfl ?_)
  refine aw_sipush dX10_init_17 (by decide) (aw_pc (pc' := 20) rfl ?_)
  refine ar_sI dX10_init_20 h ?_
  clear h
  intro F5 h
  refine aw_pc (pc' := 21) rfl ?_
  refine aw_aload_n dX10_init_21 rfl rfl (aw_pc (pc' := 22) rfl ?_)
  refine ar_gR fl_RX10_11 dX10_init_22 h ?_
  clear h
  intro x6 h
  refine aw_pc (pc' := 25) rfl ?_
  refine aw_iconst dX10_init_25 (aw_pc (pc' := 26) rfl ?_)
  refine aw_iconst dX10_init_26 (aw_pc (pc' := 27) rfl ?_)
  refine ar_sI dX10_init_27 h ?_
  clear h
  intro F7 h
  refine aw_pc (pc' := 28) rfl ?_
  refine aw_aload_n dX10_init_28 rfl rfl (aw_pc (pc' := 29) rfl ?_)
  refine ar_gR fl_RX10_11 dX10_init_29 h ?_
  clear h
  intro x8 h
  refine aw_pc (pc' := 32) rfl ?_
  refine aw_iconst dX10_init_32 (aw_pc (pc' := 33) rfl ?_)
  refine aw_iconst dX10_init_33 (aw_pc (pc' := 34) rfl ?_)
  refine ar_sI dX10_init_34 h ?_
  clear h
  intro F9 h
  refine aw_pc (pc' := 35) rfl ?_
  exact aw_vret rfl dX10_init_35 ⟨rfl, h⟩
def mX10_copyFrom (o : Nat) (a1 : Option Nat) (F : hp) (Q : hp → Prop) : Prop := gR F a1 10 0 (fun x1 => gR F (some o) 10 0 (fun x2 => cpI F x1 0 x2 0 60 (fun F3 => Q F3)))
set_option maxHeartbeats 4000000 in
theorem tX10_copyFrom {d : Nat} {o : Nat} {a1 : Option Nat} {F : hp} {Q : hp → Prop} (h : mX10_copyFrom o a1 F Q) : am nX10_copyFrom (d + 1) 0 0 [vr (some o), vr a1] F (qV Q) := by
  refine am_of (by decide +kernel) (Nat.le_of_ble_eq_true rfl) ?_
  show aw nX10_copyFrom (d + 1) 0 0 0 [some (vr (some o)), some (vr a1)] [] F (qV Q)
  unfold mX10_copyFrom at h
  refine aw_aload_n dX10_copyFrom_0 rfl rfl (aw_pc (pc' := 1) rfl ?_)
  refine ar_gR fl_RX10_11 dX10_copyFrom_1 h ?_
  clear h
  intro x1 h
  refine aw_pc (pc' := 4) rfl ?_
  refine aw_iconst dX10_copyFrom_4 (aw_pc (pc' := 5) rfl ?_)
  refine aw_aload_n dX10_copyFrom_5 rfl rfl (aw_pc (pc' := 6) rfl ?_)
  refine ar_gR fl_RX10_11 dX10_copyFrom_6 h ?_
  clear h
  intro x2 h
  refine aw_pc (pc' := 9) rfl ?_
  refine aw_iconst dX10_copyFrom_9 (aw_pc (pc' := 10) rfl ?_)
  refine aw_bipush dX10_copyFrom_10 (by decide) (aw_pc (pc' := 12) rfl ?_)
  refine ar_cpI qM_RX10_15 mw_copy (Nat.le_of_ble_eq_true rfl) dX10_copyFrom_12 h ?_
  clear h
  intro F3 h
  refine aw_pc (pc' := 15) rfl ?_
  exact aw_vret rfl dX10_copyFrom_15 ⟨rfl, h⟩
def mX10_putUppermost (o : Nat) (a1 : Int) (a2 : Int) (F : hp) (Q : hp → Prop) : Prop := rcv F (some o) 10 (fun o3 => mX10_countOn o3 a1 F (fun x2 F1 => (w32 x2 < 5 → gR F1 (some o) 10 0 (fun x4 => sI F1 x4 0 ((14 + (5 * a1)) + x2) a2 (fun F5 => gR F5 (some o) 10 0 (fun x6 => sI F5 x6 0 (11 + a1) (x2 + 1) (fun F7 => Q F7))))) ∧ (¬ w32 x2 < 5 → Q F1)))
set_option maxHeartbeats 4000000 in
theorem tX10_putUppermost {d : Nat} {o : Nat} {a1 : Int} {a2 : Int} {F : hp} {Q : hp → Prop} (h : mX10_putUppermost o a1 a2 F Q) : am nX10_putUppermost (d + 1) 0 0 [vr (some o), vi a1, vi a2] F (qV Q) := by
  refine am_of (by decide +kernel) (Nat.le_of_ble_eq_true rfl) ?_
  show aw nX10_putUppermost (d + 1) 0 0 0 [some (vr (some o)), some (vi a1), some (vi a2), none] [] F (qV Q)
  unfold mX10_putUppermost at h
  refine aw_aload_n dX10_putUppermost_0 rfl rfl (aw_pc (pc' := 1) rfl ?_)
  refine aw_iload_n dX10_putUppermost_1 rfl rfl (aw_pc (pc' := 2) rfl ?_)
  have h0 := rcv_inv h
  clear h
  obtain ⟨o3, fs_o3, hr_o3, he_o3, h⟩ := h0
  obtain rfl : o = o3 := Option.some.inj hr_o3
  refine ar_VI (kc' := 0) (ks' := 0) (kc := 0) (ks := 0) (a := o) (ci := 10) (as := [vi a1]) (st := []) (tX10_countOn h) mt_X10_countOn rfl qM_RX10_25 qI_X10_countOn qV_X10_countOn he_o3 rfl (Nat.le_of_ble_eq_true rfl) dX10_putUppermost_2 ?_
  clear h
  intro x2 F1 h
  refine aw_pc (pc' := 5) rfl ?_
  refine aw_istore_n dX10_putUppermost_5 rfl (by decide) (aw_pc (pc' := 6) rfl ?_)
  refine aw_iload_n dX10_putUppermost_6 rfl rfl (aw_pc (pc' := 7) rfl ?_)
  refine aw_iconst dX10_putUppermost_7 (aw_pc (pc' := 8) rfl ?_)
  refine ac_ge rfl wl_5 dX10_putUppermost_8 rfl (fun c => ?_) (fun c => ?_)
  · replace h := h.1 c
    refine aw_aload_n dX10_putUppermost_11 rfl rfl (aw_pc (pc' := 12) rfl ?_)
    refine ar_gR fl_RX10_11 dX10_putUppermost_12 h ?_
    clear h
    intro x4 h
    refine aw_pc (pc' := 15) rfl ?_
    refine aw_bipush dX10_putUppermost_15 (by decide) (aw_pc (pc' := 17) rfl ?_)
    refine aw_iconst dX10_putUppermost_17 (aw_pc (pc' := 18) rfl ?_)
    refine aw_iload_n dX10_putUppermost_18 rfl rfl (aw_pc (pc' := 19) rfl ?_)
    refine aw_imul dX10_putUppermost_19 (aw_pc (pc' := 20) rfl ?_)
    refine aw_iadd dX10_putUppermost_20 (aw_pc (pc' := 21) rfl ?_)
    refine aw_iload_n dX10_putUppermost_21 rfl rfl (aw_pc (pc' := 22) rfl ?_)
    refine aw_iadd dX10_putUppermost_22 (aw_pc (pc' := 23) rfl ?_)
    refine aw_iload_n dX10_putUppermost_23 rfl rfl (aw_pc (pc' := 24) rfl ?_)
    refine ar_sI dX10_putUppermost_24 h ?_
    clear h
    intro F5 h
    refine aw_pc (pc' := 25) rfl ?_
    refine aw_aload_n dX10_putUppermost_25 rfl rfl (aw_pc (pc' := 26) rfl ?_)
    refine ar_gR fl_RX10_11 dX10_putUppermost_26 h ?_
    clear h
    intro x6 h
    refine aw_pc (pc' := 29) rfl ?_
    refine aw_bipush dX10_putUppermost_29 (by decide) (aw_pc (pc' := 31) rfl ?_)
    refine aw_iload_n dX10_putUppermost_31 rfl rfl (aw_pc (pc' := 32) rfl ?_)
    refine aw_iadd dX10_putUppermost_32 (aw_pc (pc' := 33) rfl ?_)
    refine aw_iload_n dX10_putUppermost_33 rfl rfl (aw_pc (pc' := 34) rfl ?_)
    refine aw_iconst dX10_putUppermost_34 (aw_pc (pc' := 35) rfl ?_)
    refine aw_iadd dX10_putUppermost_35 (aw_pc (pc' := 36) rfl ?_)
    refine ar_sI dX10_putUppermost_36 h ?_
    clear h
    intro F7 h
    refine aw_pc (pc' := 37) rfl ?_
    exact aw_vret rfl dX10_putUppermost_37 ⟨rfl, h⟩
  · replace h := h.2 c
    exact aw_vret rfl dX10_putUppermost_37 ⟨rfl, h⟩
def mX10_addCar (o : Nat) (F : hp) (Q : Int → hp → Prop) : Prop := gR F (some o) 10 0 (fun x1 => aI F x1 0 4 (fun x2 => (w32 x2 < 5 → gR F (some o) 10 0 (fun x3 => sI F x3 0 4 (x2 + 1) (fun F4 => rcv F4 (some o) 10 (fun o6 => mX10_putUppermost o6 0 x2 F4 (fun F5 => Q x2 F5))))) ∧ (¬ w32 x2 < 5 → Q (-1) F)))
set_option maxHeartbeats 4000000 in
theorem tX10_addCar {d : Nat} {o : Nat} {F : hp} {Q : Int → hp → Prop} (h : mX10_addCar o F Q) : am nX10_addCar (d + 2) 0 0 [vr (some o)] F (qI Q) := by
  refine am_of (by decide +kernel) (Nat.le_of_ble_eq_true rfl) ?_
  show aw nX10_addCar (d + 2) 0 0 0 [some (vr (some o)), none] [] F (qI Q)
  unfold mX10_addCar at h
  refine aw_aload_n dX10_addCar_0 rfl rfl (aw_pc (pc' := 1) rfl ?_)
  refine ar_gR fl_RX10_11 dX10_addCar_1 h ?_
  clear h
  intro x1 h
  refine aw_pc (pc' := 4) rfl ?_
  refine aw_iconst dX10_addCar_4 (aw_pc (pc' := 5) rfl ?_)
  refine ar_aI dX10_addCar_5 h ?_
  clear h
  intro x2 h
  refine aw_pc (pc' := 6) rfl ?_
  refine aw_istore_n dX10_addCar_6 rfl (by decide) (aw_pc (pc' := 7) rfl ?_)
  refine aw_iload_n dX10_addCar_7 rfl rfl (aw_pc (pc' := 8) rfl ?_)
  refine aw_iconst dX10_addCar_8 (aw_pc (pc' := 9) rfl ?_)
  refine ac_lt rfl wl_5 dX10_addCar_9 rfl (fun c => ?_) (fun c => ?_)
  · replace h := h.1 c
    refine aw_aload_n dX10_addCar_14 rfl rfl (aw_pc (pc' := 15) rfl ?_)
    refine ar_gR fl_RX10_11 dX10_addCar_15 h ?_
    clear h
    intro x3 h
    refine aw_pc (pc' := 18) rfl ?_
    refine aw_iconst dX10_addCar_18 (aw_pc (pc' := 19) rfl ?_)
    refine aw_iload_n dX10_addCar_19 rfl rfl (aw_pc (pc' := 20) rfl ?_)
    refine aw_iconst dX10_addCar_20 (aw_pc (pc' := 21) rfl ?_)
    refine aw_iadd dX10_addCar_21 (aw_pc (pc' := 22) rfl ?_)
    refine ar_sI dX10_addCar_22 h ?_
    clear h
    intro F4 h
    refine aw_pc (pc' := 23) rfl ?_
    refine aw_aload_n dX10_addCar_23 rfl rfl (aw_pc (pc' := 24) rfl ?_)
    refine aw_iconst dX10_addCar_24 (aw_pc (pc' := 25) rfl ?_)
    refine aw_iload_n dX10_addCar_25 rfl rfl (aw_pc (pc' := 26) rfl ?_)
    have h0 := rcv_inv h
    clear h
    obtain ⟨o6, fs_o6, hr_o6, he_o6, h⟩ := h0
    obtain rfl : o = o6 := Option.some.inj hr_o6
    refine ar_VV (kc' := 0) (ks' := 0) (kc := 0) (ks := 0) (a := o) (ci := 10) (as := [vi 0, vi x2]) (st := []) (tX10_putUppermost h) mt_X10_putUppermost rfl qM_RX10_38 qI_X10_putUppermost qV_X10_putUppermost he_o6 rfl (Nat.le_of_ble_eq_true rfl) dX10_addCar_26 ?_
    clear h
    intro F5 h
    refine aw_pc (pc' := 29) rfl ?_
    refine aw_iload_n dX10_addCar_29 rfl rfl (aw_pc (pc' := 30) rfl ?_)
    exact aw_iret rfl dX10_addCar_30 ⟨_, rfl, h⟩
  · replace h := h.2 c
    refine aw_iconst dX10_addCar_12 (aw_pc (pc' := 13) rfl ?_)
    exact aw_iret rfl dX10_addCar_13 ⟨_, rfl, h⟩
def mX10_countCars (o : Nat) (F : hp) (Q : Int → hp → Prop) : Prop := gR F (some o) 10 0 (fun x1 => aI F x1 0 4 (fun x2 => Q x2 F))
set_option maxHeartbeats 4000000 in
theorem tX10_countCars {d : Nat} {o : Nat} {F : hp} {Q : Int → hp → Prop} (h : mX10_countCars o F Q) : am nX10_countCars d 0 0 [vr (some o)] F (qI Q) := by
  refine am_of (by decide +kernel) (Nat.le_of_ble_eq_true rfl) ?_
  show aw nX10_countCars d 0 0 0 [some (vr (some o))] [] F (qI Q)
  unfold mX10_countCars at h
  refine aw_aload_n dX10_countCars_0 rfl rfl (aw_pc (pc' := 1) rfl ?_)
  refine ar_gR fl_RX10_11 dX10_countCars_1 h ?_
  clear h
  intro x1 h
  refine aw_pc (pc' := 4) rfl ?_
  refine aw_iconst dX10_countCars_4 (aw_pc (pc' := 5) rfl ?_)
  refine ar_aI dX10_countCars_5 h ?_
  clear h
  intro x2 h
  refine aw_pc (pc' := 6) rfl ?_
  exact aw_iret rfl dX10_countCars_6 ⟨_, rfl, h⟩
def mX10_uppermost (o : Nat) (a1 : Int) (F : hp) (Q : Int → hp → Prop) : Prop := gR F (some o) 10 0 (fun x1 => aI F x1 0 (11 + a1) (fun x2 => (0 < w32 x2 → gR F (some o) 10 0 (fun x3 => aI F x3 0 (((14 + (5 * a1)) + x2) - 1) (fun x4 => Q x4 F))) ∧ (¬ 0 < w32 x2 → Q (-1) F)))
set_option maxHeartbeats 4000000 in
theorem tX10_uppermost {d : Nat} {o : Nat} {a1 : Int} {F : hp} {Q : Int → hp → Prop} (h : mX10_uppermost o a1 F Q) : am nX10_uppermost d 0 0 [vr (some o), vi a1] F (qI Q) := by
  refine am_of (by decide +kernel) (Nat.le_of_ble_eq_true rfl) ?_
  show aw nX10_uppermost d 0 0 0 [some (vr (some o)), some (vi a1), none] [] F (qI Q)
  unfold mX10_uppermost at h
  refine aw_aload_n dX10_uppermost_0 rfl rfl (aw_pc (pc' := 1) rfl ?_)
  refine ar_gR fl_RX10_11 dX10_uppermost_1 h ?_
  clear h
  intro x1 h
  refine aw_pc (pc' := 4) rfl ?_
  refine aw_bipush dX10_uppermost_4 (by decide) (aw_pc (pc' := 6) rfl ?_)
  refine aw_iload_n dX10_uppermost_6 rfl rfl (aw_pc (pc' := 7) rfl ?_)
  refine aw_iadd dX10_uppermost_7 (aw_pc (pc' := 8) rfl ?_)
  refine ar_aI dX10_uppermost_8 h ?_
  clear h
  intro x2 h
  refine aw_pc (pc' := 9) rfl ?_
  refine aw_istore_n dX10_uppermost_9 rfl (by decide) (aw_pc (pc' := 10) rfl ?_)
  refine aw_iload_n dX10_uppermost_10 rfl rfl (aw_pc (pc' := 11) rfl ?_)
  refine aw_if_le dX10_uppermost_11 rfl (fun c => ?_) (fun c => ?_)
  · replace h := h.1 c
    refine aw_aload_n dX10_uppermost_14 rfl rfl (aw_pc (pc' := 15) rfl ?_)
    refine ar_gR fl_RX10_11 dX10_uppermost_15 h ?_
    clear h
    intro x3 h
    refine aw_pc (pc' := 18) rfl ?_
    refine aw_bipush dX10_uppermost_18 (by decide) (aw_pc (pc' := 20) rfl ?_)
    refine aw_iconst dX10_uppermost_20 (aw_pc (pc' := 21) rfl ?_)
    refine aw_iload_n dX10_uppermost_21 rfl rfl (aw_pc (pc' := 22) rfl ?_)
    refine aw_imul dX10_uppermost_22 (aw_pc (pc' := 23) rfl ?_)
    refine aw_iadd dX10_uppermost_23 (aw_pc (pc' := 24) rfl ?_)
    refine aw_iload_n dX10_uppermost_24 rfl rfl (aw_pc (pc' := 25) rfl ?_)
    refine aw_iadd dX10_uppermost_25 (aw_pc (pc' := 26) rfl ?_)
    refine aw_iconst dX10_uppermost_26 (aw_pc (pc' := 27) rfl ?_)
    refine aw_isub dX10_uppermost_27 (aw_pc (pc' := 28) rfl ?_)
    refine ar_aI dX10_uppermost_28 h ?_
    clear h
    intro x4 h
    refine aw_pc (pc' := 29) rfl ?_
    refine aw_goto (tgt := 33) dX10_uppermost_29 rfl ?_
    exact aw_iret rfl dX10_uppermost_33 ⟨_, rfl, h⟩
  · replace h := h.2 c
    refine aw_iconst dX10_uppermost_32 (aw_pc (pc' := 33) rfl ?_)
    exact aw_iret rfl dX10_uppermost_33 ⟨_, rfl, h⟩
def mX10_hourNow (o : Nat) (F : hp) (Q : Int → hp → Prop) : Prop := gR F (some o) 10 0 (fun x1 => aI F x1 0 0 (fun x2 => Q x2 F))
set_option maxHeartbeats 4000000 in
theorem tX10_hourNow {d : Nat} {o : Nat} {F : hp} {Q : Int → hp → Prop} (h : mX10_hourNow o F Q) : am nX10_hourNow d 0 0 [vr (some o)] F (qI Q) := by
  refine am_of (by decide +kernel) (Nat.le_of_ble_eq_true rfl) ?_
  show aw nX10_hourNow d 0 0 0 [some (vr (some o))] [] F (qI Q)
  unfold mX10_hourNow at h
  refine aw_aload_n dX10_hourNow_0 rfl rfl (aw_pc (pc' := 1) rfl ?_)
  refine ar_gR fl_RX10_11 dX10_hourNow_1 h ?_
  clear h
  intro x1 h
  refine aw_pc (pc' := 4) rfl ?_
  refine aw_iconst dX10_hourNow_4 (aw_pc (pc' := 5) rfl ?_)
  refine ar_aI dX10_hourNow_5 h ?_
  clear h
  intro x2 h
  refine aw_pc (pc' := 6) rfl ?_
  exact aw_iret rfl dX10_hourNow_6 ⟨_, rfl, h⟩
def mX10_isWide (o : Nat) (a1 : Int) (F : hp) (Q : Int → hp → Prop) : Prop := gR F (some o) 10 0 (fun x1 => aI F x1 0 5 (fun x2 => (w32 (iAnd (iShr x2 a1) 1) = 0 → Q 0 F) ∧ (¬ w32 (iAnd (iShr x2 a1) 1) = 0 → Q 1 F)))
set_option maxHeartbeats 4000000 in
theorem tX10_isWide {d : Nat} {o : Nat} {a1 : Int} {F : hp} {Q : Int → hp → Prop} (h : mX10_isWide o a1 F Q) : am nX10_isWide d 0 0 [vr (some o), vi a1] F (qI Q) := by
  refine am_of (by decide +kernel) (Nat.le_of_ble_eq_true rfl) ?_
  show aw nX10_isWide d 0 0 0 [some (vr (some o)), some (vi a1)] [] F (qI Q)
  unfold mX10_isWide at h
  refine aw_aload_n dX10_isWide_0 rfl rfl (aw_pc (pc' := 1) rfl ?_)
  refine ar_gR fl_RX10_11 dX10_isWide_1 h ?_
  clear h
  intro x1 h
  refine aw_pc (pc' := 4) rfl ?_
  refine aw_iconst dX10_isWide_4 (aw_pc (pc' := 5) rfl ?_)
  refine ar_aI dX10_isWide_5 h ?_
  clear h
  intro x2 h
  refine aw_pc (pc' := 6) rfl ?_
  refine aw_iload_n dX10_isWide_6 rfl rfl (aw_pc (pc' := 7) rfl ?_)
  refine aw_ishr dX10_isWide_7 (aw_pc (pc' := 8) rfl ?_)
  refine aw_iconst dX10_isWide_8 (aw_pc (pc' := 9) rfl ?_)
  refine aw_iand dX10_isWide_9 (aw_pc (pc' := 10) rfl ?_)
  refine aw_if_eq dX10_isWide_10 rfl (fun c => ?_) (fun c => ?_)
  · replace h := h.1 c
    refine aw_iconst dX10_isWide_17 (aw_pc (pc' := 18) rfl ?_)
    exact aw_zret rfl (by decide) dX10_isWide_18 ⟨_, rfl, h⟩
  · replace h := h.2 c
    refine aw_iconst dX10_isWide_13 (aw_pc (pc' := 14) rfl ?_)
    refine aw_goto (tgt := 18) dX10_isWide_14 rfl ?_
    exact aw_zret rfl (by decide) dX10_isWide_18 ⟨_, rfl, h⟩
def mX10_wornOf (o : Nat) (a1 : Int) (F : hp) (Q : Int → hp → Prop) : Prop := gR F (some o) 10 0 (fun x1 => aI F x1 0 (6 + a1) (fun x2 => Q x2 F))
set_option maxHeartbeats 4000000 in
theorem tX10_wornOf {d : Nat} {o : Nat} {a1 : Int} {F : hp} {Q : Int → hp → Prop} (h : mX10_wornOf o a1 F Q) : am nX10_wornOf d 0 0 [vr (some o), vi a1] F (qI Q) := by
  refine am_of (by decide +kernel) (Nat.le_of_ble_eq_true rfl) ?_
  show aw nX10_wornOf d 0 0 0 [some (vr (some o)), some (vi a1)] [] F (qI Q)
  unfold mX10_wornOf at h
  refine aw_aload_n dX10_wornOf_0 rfl rfl (aw_pc (pc' := 1) rfl ?_)
  refine ar_gR fl_RX10_11 dX10_wornOf_1 h ?_
  clear h
  intro x1 h
  refine aw_pc (pc' := 4) rfl ?_
  refine aw_bipush dX10_wornOf_4 (by decide) (aw_pc (pc' := 6) rfl ?_)
  refine aw_iload_n dX10_wornOf_6 rfl rfl (aw_pc (pc' := 7) rfl ?_)
  refine aw_iadd dX10_wornOf_7 (aw_pc (pc' := 8) rfl ?_)
  refine ar_aI dX10_wornOf_8 h ?_
  clear h
  intro x2 h
  refine aw_pc (pc' := 9) rfl ?_
  exact aw_iret rfl dX10_wornOf_9 ⟨_, rfl, h⟩
def mX10_wheelsOf (o : Nat) (a1 : Int) (F : hp) (Q : Int → hp → Prop) : Prop := gR F (some o) 10 0 (fun x1 => aI F x1 0 (2 + a1) (fun x2 => Q x2 F))
set_option maxHeartbeats 4000000 in
theorem tX10_wheelsOf {d : Nat} {o : Nat} {a1 : Int} {F : hp} {Q : Int → hp → Prop} (h : mX10_wheelsOf o a1 F Q) : am nX10_wheelsOf d 0 0 [vr (some o), vi a1] F (qI Q) := by
  refine am_of (by decide +kernel) (Nat.le_of_ble_eq_true rfl) ?_
  show aw nX10_wheelsOf d 0 0 0 [some (vr (some o)), some (vi a1)] [] F (qI Q)
  unfold mX10_wheelsOf at h
  refine aw_aload_n dX10_wheelsOf_0 rfl rfl (aw_pc (pc' := 1) rfl ?_)
  refine ar_gR fl_RX10_11 dX10_wheelsOf_1 h ?_
  clear h
  intro x1 h
  refine aw_pc (pc' := 4) rfl ?_
  refine aw_iconst dX10_wheelsOf_4 (aw_pc (pc' := 5) rfl ?_)
  refine aw_iload_n dX10_wheelsOf_5 rfl rfl (aw_pc (pc' := 6) rfl ?_)
  refine aw_iadd dX10_wheelsOf_6 (aw_pc (pc' := 7) rfl ?_)
  refine ar_aI dX10_wheelsOf_7 h ?_
  clear h
  intro x2 h
  refine aw_pc (pc' := 8) rfl ?_
  exact aw_iret rfl dX10_wheelsOf_8 ⟨_, rfl, h⟩
def mX10_write_J38 (Q : hp → Prop) (o : Nat) (a1 : Int) (a2 : Int) (a3 : Int) (F : hp) : Prop := gR F (some o) 10 0 (fun x1 => gR F (some o) 10 0 (fun x2 => aI F x2 0 29 (fun x3 => gR F (some o) 10 0 (fun x4 => aI F x4 0 0 (fun x5 => sI F x1 0 (30 + x3) (iOr (iOr (iOr (iShl x5 8) (iShl (a1 + 1) 4)) (iShl a2 2)) a3) (fun F6 => gR F6 (some o) 10 0 (fun x7 => aI F6 x7 0 29 (fun x8 => sI F6 x7 0 29 (x8 + 1) (fun F9 => Q F9)))))))))
set_option maxHeartbeats 4000000 in
theorem tX10_write_J38 {d : Nat} {Q : hp → Prop} {o : Nat} {a1 : Int} {a2 : Int} {a3 : Int} {F : hp} (h : mX10_write_J38 Q o a1 a2 a3 F) : aw nX10_write (d + 1) 0 0 38 [some (vr (some o)), some (vi a1), some (vi a2), some (vi a3)] [] F (qV Q) := by
  unfold mX10_write_J38 at h
  refine aw_aload_n dX10_write_38 rfl rfl (aw_pc (pc' := 39) rfl ?_)
  refine ar_gR fl_RX10_11 dX10_write_39 h ?_
  clear h
  intro x1 h
  refine aw_pc (pc' := 42) rfl ?_
  refine aw_bipush dX10_write_42 (by decide) (aw_pc (pc' := 44) rfl ?_)
  refine aw_aload_n dX10_write_44 rfl rfl (aw_pc (pc' := 45) rfl ?_)
  refine ar_gR fl_RX10_11 dX10_write_45 h ?_
  clear h
  intro x2 h
  refine aw_pc (pc' := 48) rfl ?_
  refine aw_bipush dX10_write_48 (by decide) (aw_pc (pc' := 50) rfl ?_)
  refine ar_aI dX10_write_50 h ?_
  clear h
  intro x3 h
  refine aw_pc (pc' := 51) rfl ?_
  refine aw_iadd dX10_write_51 (aw_pc (pc' := 52) rfl ?_)
  refine aw_aload_n dX10_write_52 rfl rfl (aw_pc (pc' := 53) rfl ?_)
  refine ar_gR fl_RX10_11 dX10_write_53 h ?_
  clear h
  intro x4 h
  refine aw_pc (pc' := 56) rfl ?_
  refine aw_iconst dX10_write_56 (aw_pc (pc' := 57) rfl ?_)
  refine ar_aI dX10_write_57 h ?_
  clear h
  intro x5 h
  refine aw_pc (pc' := 58) rfl ?_
  refine aw_bipush dX10_write_58 (by decide) (aw_pc (pc' := 60) rfl ?_)
  refine aw_ishl dX10_write_60 (aw_pc (pc' := 61) rfl ?_)
  refine aw_iload_n dX10_write_61 rfl rfl (aw_pc (pc' := 62) rfl ?_)
  refine aw_iconst dX10_write_62 (aw_pc (pc' := 63) rfl ?_)
  refine aw_iadd dX10_write_63 (aw_pc (pc' := 64) rfl ?_)
  refine aw_iconst dX10_write_64 (aw_pc (pc' := 65) rfl ?_)
  refine aw_ishl dX10_write_65 (aw_pc (pc' := 66) rfl ?_)
  refine aw_ior dX10_write_66 (aw_pc (pc' := 67) rfl ?_)
  refine aw_iload_n dX10_write_67 rfl rfl (aw_pc (pc' := 68) rfl ?_)
  refine aw_iconst dX10_write_68 (aw_pc (pc' := 69) rfl ?_)
  refine aw_ishl dX10_write_69 (aw_pc (pc' := 70) rfl ?_)
  refine aw_ior dX10_write_70 (aw_pc (pc' := 71) rfl ?_)
  refine aw_iload_n dX10_write_71 rfl rfl (aw_pc (pc' := 72) rfl ?_)
  refine aw_ior dX10_write_72 (aw_pc (pc' := 73) rfl ?_)
  refine ar_sI dX10_write_73 h ?_
  clear h
  intro F6 h
  refine aw_pc (pc' := 74) rfl ?_
  refine aw_aload_n dX10_write_74 rfl rfl (aw_pc (pc' := 75) rfl ?_)
  refine ar_gR fl_RX10_11 dX10_write_75 h ?_
  clear h
  intro x7 h
  refine aw_pc (pc' := 78) rfl ?_
  refine aw_bipush dX10_write_78 (by decide) (aw_pc (pc' := 80) rfl ?_)
  refine aw_dup2 dX10_write_80 trivial trivial (aw_pc (pc' := 81) rfl ?_)
  refine ar_aI dX10_write_81 h ?_
  clear h
  intro x8 h
  refine aw_pc (pc' := 82) rfl ?_
  refine aw_iconst dX10_write_82 (aw_pc (pc' := 83) rfl ?_)
  refine aw_iadd dX10_write_83 (aw_pc (pc' := 84) rfl ?_)
  refine ar_sI dX10_write_84 h ?_
  clear h
  intro F9 h
  refine aw_pc (pc' := 85) rfl ?_
  exact aw_vret rfl dX10_write_85 ⟨rfl, h⟩
def mX10_write (o : Nat) (a1 : Int) (a2 : Int) (a3 : Int) (F : hp) (Q : hp → Prop) : Prop := gR F (some o) 10 0 (fun x1 => aI F x1 0 29 (fun x2 => (w32 x2 < 30 → mX10_write_J38 Q o a1 a2 a3 F) ∧ (¬ w32 x2 < 30 → gR F (some o) 10 0 (fun x3 => gR F (some o) 10 0 (fun x4 => cpI F x3 31 x4 30 29 (fun F5 => gR F5 (some o) 10 0 (fun x6 => sI F5 x6 0 29 29 (fun F7 => mX10_write_J38 Q o a1 a2 a3 F7))))))))
set_option maxHeartbeats 4000000 in
theorem tX10_write {d : Nat} {o : Nat} {a1 : Int} {a2 : Int} {a3 : Int} {F : hp} {Q : hp → Prop} (h : mX10_write o a1 a2 a3 F Q) : am nX10_write (d + 1) 0 0 [vr (some o), vi a1, vi a2, vi a3] F (qV Q) := by
  refine am_of (by decide +kernel) (Nat.le_of_ble_eq_true rfl) ?_
  show aw nX10_write (d + 1) 0 0 0 [some (vr (some o)), some (vi a1), some (vi a2), some (vi a3)] [] F (qV Q)
  unfold mX10_write at h
  refine aw_aload_n dX10_write_0 rfl rfl (aw_pc (pc' := 1) rfl ?_)
  refine ar_gR fl_RX10_11 dX10_write_1 h ?_
  clear h
  intro x1 h
  refine aw_pc (pc' := 4) rfl ?_
  refine aw_bipush dX10_write_4 (by decide) (aw_pc (pc' := 6) rfl ?_)
  refine ar_aI dX10_write_6 h ?_
  clear h
  intro x2 h
  refine aw_pc (pc' := 7) rfl ?_
  refine aw_bipush dX10_write_7 (by decide) (aw_pc (pc' := 9) rfl ?_)
  refine ac_lt rfl wl_30 dX10_write_9 rfl (fun c => ?_) (fun c => ?_)
  · replace h := h.1 c
    exact aw_mask [true, true, true, true] (tX10_write_J38 h)
  · replace h := h.2 c
    refine aw_aload_n dX10_write_12 rfl rfl (aw_pc (pc' := 13) rfl ?_)
    refine ar_gR fl_RX10_11 dX10_write_13 h ?_
    clear h
    intro x3 h
    refine aw_pc (pc' := 16) rfl ?_
    refine aw_bipush dX10_write_16 (by decide) (aw_pc (pc' := 18) rfl ?_)
    refine aw_aload_n dX10_write_18 rfl rfl (aw_pc (pc' := 19) rfl ?_)
    refine ar_gR fl_RX10_11 dX10_write_19 h ?_
    clear h
    intro x4 h
    refine aw_pc (pc' := 22) rfl ?_
    refine aw_bipush dX10_write_22 (by decide) (aw_pc (pc' := 24) rfl ?_)
    refine aw_bipush dX10_write_24 (by decide) (aw_pc (pc' := 26) rfl ?_)
    refine ar_cpI qM_RX10_15 mw_copy (Nat.le_of_ble_eq_true rfl) dX10_write_26 h ?_
    clear h
    intro F5 h
    refine aw_pc (pc' := 29) rfl ?_
    refine aw_aload_n dX10_write_29 rfl rfl (aw_pc (pc' := 30) rfl ?_)
    refine ar_gR fl_RX10_11 dX10_write_30 h ?_
    clear h
    intro x6 h
    refine aw_pc (pc' := 33) rfl ?_
    refine aw_bipush dX10_write_33 (by decide) (aw_pc (pc' := 35) rfl ?_)
    refine aw_bipush dX10_write_35 (by decide) (aw_pc (pc' := 37) rfl ?_)
    refine ar_sI dX10_write_37 h ?_
    clear h
    intro F7 h
    refine aw_pc (pc' := 38) rfl ?_
    exact aw_mask [true, true, true, true] (tX10_write_J38 h)
def mX10_moveUppermost (o : Nat) (a1 : Int) (a2 : Int) (F : hp) (Q : hp → Prop) : Prop := rcv F (some o) 10 (fun o3 => mX10_uppermost o3 a1 F (fun x2 F1 => (w32 x2 = (-1) → Q F1) ∧ (¬ w32 x2 = (-1) → gR F1 (some o) 10 0 (fun x4 => aI F1 x4 0 (11 + a1) (fun x5 => sI F1 x4 0 (11 + a1) (x5 - 1) (fun F6 => rcv F6 (some o) 10 (fun o8 => mX10_putUppermost o8 a2 x2 F6 (fun F7 => rcv F7 (some o) 10 (fun o10 => mX10_write o10 x2 0 a2 F7 (fun F9 => Q F9))))))))))
set_option maxHeartbeats 4000000 in
theorem tX10_moveUppermost {d : Nat} {o : Nat} {a1 : Int} {a2 : Int} {F : hp} {Q : hp → Prop} (h : mX10_moveUppermost o a1 a2 F Q) : am nX10_moveUppermost (d + 2) 0 0 [vr (some o), vi a1, vi a2] F (qV Q) := by
  refine am_of (by decide +kernel) (Nat.le_of_ble_eq_true rfl) ?_
  show aw nX10_moveUppermost (d + 2) 0 0 0 [some (vr (some o)), some (vi a1), some (vi a2), none] [] F (qV Q)
  unfold mX10_moveUppermost at h
  refine aw_aload_n dX10_moveUppermost_0 rfl rfl (aw_pc (pc' := 1) rfl ?_)
  refine aw_iload_n dX10_moveUppermost_1 rfl rfl (aw_pc (pc' := 2) rfl ?_)
  have h0 := rcv_inv h
  clear h
  obtain ⟨o3, fs_o3, hr_o3, he_o3, h⟩ := h0
  obtain rfl : o = o3 := Option.some.inj hr_o3
  refine ar_VI (kc' := 0) (ks' := 0) (kc := 0) (ks := 0) (a := o) (ci := 10) (as := [vi a1]) (st := []) (tX10_uppermost h) mt_X10_uppermost rfl qM_RX10_42 qI_X10_uppermost qV_X10_uppermost he_o3 rfl (Nat.le_of_ble_eq_true rfl) dX10_moveUppermost_2 ?_
  clear h
  intro x2 F1 h
  refine aw_pc (pc' := 5) rfl ?_
  refine aw_istore_n dX10_moveUppermost_5 rfl (by decide) (aw_pc (pc' := 6) rfl ?_)
  refine aw_iload_n dX10_moveUppermost_6 rfl rfl (aw_pc (pc' := 7) rfl ?_)
  refine aw_iconst dX10_moveUppermost_7 (aw_pc (pc' := 8) rfl ?_)
  refine ac_ne rfl wl_m1 dX10_moveUppermost_8 rfl (fun c => ?_) (fun c => ?_)
  · replace h := h.1 c
    exact aw_vret rfl dX10_moveUppermost_11 ⟨rfl, h⟩
  · replace h := h.2 c
    refine aw_aload_n dX10_moveUppermost_12 rfl rfl (aw_pc (pc' := 13) rfl ?_)
    refine ar_gR fl_RX10_11 dX10_moveUppermost_13 h ?_
    clear h
    intro x4 h
    refine aw_pc (pc' := 16) rfl ?_
    refine aw_bipush dX10_moveUppermost_16 (by decide) (aw_pc (pc' := 18) rfl ?_)
    refine aw_iload_n dX10_moveUppermost_18 rfl rfl (aw_pc (pc' := 19) rfl ?_)
    refine aw_iadd dX10_moveUppermost_19 (aw_pc (pc' := 20) rfl ?_)
    refine aw_dup2 dX10_moveUppermost_20 trivial trivial (aw_pc (pc' := 21) rfl ?_)
    refine ar_aI dX10_moveUppermost_21 h ?_
    clear h
    intro x5 h
    refine aw_pc (pc' := 22) rfl ?_
    refine aw_iconst dX10_moveUppermost_22 (aw_pc (pc' := 23) rfl ?_)
    refine aw_isub dX10_moveUppermost_23 (aw_pc (pc' := 24) rfl ?_)
    refine ar_sI dX10_moveUppermost_24 h ?_
    clear h
    intro F6 h
    refine aw_pc (pc' := 25) rfl ?_
    refine aw_aload_n dX10_moveUppermost_25 rfl rfl (aw_pc (pc' := 26) rfl ?_)
    refine aw_iload_n dX10_moveUppermost_26 rfl rfl (aw_pc (pc' := 27) rfl ?_)
    refine aw_iload_n dX10_moveUppermost_27 rfl rfl (aw_pc (pc' := 28) rfl ?_)
    have h0 := rcv_inv h
    clear h
    obtain ⟨o8, fs_o8, hr_o8, he_o8, h⟩ := h0
    obtain rfl : o = o8 := Option.some.inj hr_o8
    refine ar_VV (kc' := 0) (ks' := 0) (kc := 0) (ks := 0) (a := o) (ci := 10) (as := [vi a2, vi x2]) (st := []) (tX10_putUppermost h) mt_X10_putUppermost rfl qM_RX10_38 qI_X10_putUppermost qV_X10_putUppermost he_o8 rfl (Nat.le_of_ble_eq_true rfl) dX10_moveUppermost_28 ?_
    clear h
    intro F7 h
    refine aw_pc (pc' := 31) rfl ?_
    refine aw_aload_n dX10_moveUppermost_31 rfl rfl (aw_pc (pc' := 32) rfl ?_)
    refine aw_iload_n dX10_moveUppermost_32 rfl rfl (aw_pc (pc' := 33) rfl ?_)
    refine aw_iconst dX10_moveUppermost_33 (aw_pc (pc' := 34) rfl ?_)
    refine aw_iload_n dX10_moveUppermost_34 rfl rfl (aw_pc (pc' := 35) rfl ?_)
    have h0 := rcv_inv h
    clear h
    obtain ⟨o10, fs_o10, hr_o10, he_o10, h⟩ := h0
    obtain rfl : o = o10 := Option.some.inj hr_o10
    refine ar_VV (kc' := 0) (ks' := 0) (kc := 0) (ks := 0) (a := o) (ci := 10) (as := [vi x2, vi 0, vi a2]) (st := []) (tX10_write h) mt_X10_write rfl qM_RX10_45 qI_X10_write qV_X10_write he_o10 rfl (Nat.le_of_ble_eq_true rfl) dX10_moveUppermost_35 ?_
    clear h
    intro F9 h
    refine aw_pc (pc' := 38) rfl ?_
    exact aw_vret rfl dX10_moveUppermost_38 ⟨rfl, h⟩
def mX10_gainWheel (o : Nat) (a1 : Int) (F : hp) (Q : hp → Prop) : Prop := gR F (some o) 10 0 (fun x1 => gR F (some o) 10 0 (fun x2 => aI F x2 0 (2 + a1) (fun x3 => sI F x1 0 (2 + a1) (iMin 9 (x3 + 1)) (fun F4 => Q F4))))
set_option maxHeartbeats 4000000 in
theorem tX10_gainWheel {d : Nat} {o : Nat} {a1 : Int} {F : hp} {Q : hp → Prop} (h : mX10_gainWheel o a1 F Q) : am nX10_gainWheel (d + 1) 0 0 [vr (some o), vi a1] F (qV Q) := by
  refine am_of (by decide +kernel) (Nat.le_of_ble_eq_true rfl) ?_
  show aw nX10_gainWheel (d + 1) 0 0 0 [some (vr (some o)), some (vi a1)] [] F (qV Q)
  unfold mX10_gainWheel at h
  refine aw_aload_n dX10_gainWheel_0 rfl rfl (aw_pc (pc' := 1) rfl ?_)
  refine ar_gR fl_RX10_11 dX10_gainWheel_1 h ?_
  clear h
  intro x1 h
  refine aw_pc (pc' := 4) rfl ?_
  refine aw_iconst dX10_gainWheel_4 (aw_pc (pc' := 5) rfl ?_)
  refine aw_iload_n dX10_gainWheel_5 rfl rfl (aw_pc (pc' := 6) rfl ?_)
  refine aw_iadd dX10_gainWheel_6 (aw_pc (pc' := 7) rfl ?_)
  refine aw_bipush dX10_gainWheel_7 (by decide) (aw_pc (pc' := 9) rfl ?_)
  refine aw_aload_n dX10_gainWheel_9 rfl rfl (aw_pc (pc' := 10) rfl ?_)
  refine ar_gR fl_RX10_11 dX10_gainWheel_10 h ?_
  clear h
  intro x2 h
  refine aw_pc (pc' := 13) rfl ?_
  refine aw_iconst dX10_gainWheel_13 (aw_pc (pc' := 14) rfl ?_)
  refine aw_iload_n dX10_gainWheel_14 rfl rfl (aw_pc (pc' := 15) rfl ?_)
  refine aw_iadd dX10_gainWheel_15 (aw_pc (pc' := 16) rfl ?_)
  refine ar_aI dX10_gainWheel_16 h ?_
  clear h
  intro x3 h
  refine aw_pc (pc' := 17) rfl ?_
  refine aw_iconst dX10_gainWheel_17 (aw_pc (pc' := 18) rfl ?_)
  refine aw_iadd dX10_gainWheel_18 (aw_pc (pc' := 19) rfl ?_)
  refine aw_min qM_RX10_57 mw_min (Nat.le_of_ble_eq_true rfl) dX10_gainWheel_19 (aw_pc (pc' := 22) rfl ?_)
  refine ar_sI dX10_gainWheel_22 h ?_
  clear h
  intro F4 h
  refine aw_pc (pc' := 23) rfl ?_
  exact aw_vret rfl dX10_gainWheel_23 ⟨rfl, h⟩
def mX10_changeFeet_J13 (Q : hp → Prop) (o : Nat) (a1 : Int) (s0 : Int) (F : hp) : Prop := ∀ v1 : Int, v1 = (1 - s0) → gR F (some o) 10 0 (fun x2 => aI F x2 0 (2 + v1) (fun x3 => sI F x2 0 (2 + v1) (x3 - 1) (fun F4 => rcv F4 (some o) 10 (fun o6 => mX10_gainWheel o6 s0 F4 (fun F5 => gR F5 (some o) 10 0 (fun x7 => aI F5 x7 0 5 (fun x8 => sI F5 x7 0 5 (iXor x8 (iShl 1 a1)) (fun F9 => gR F9 (some o) 10 0 (fun x10 => sI F9 x10 0 (6 + a1) 0 (fun F11 => rcv F11 (some o) 10 (fun o13 => mX10_write o13 a1 1 v1 F11 (fun F12 => Q F12))))))))))))
set_option maxHeartbeats 4000000 in
theorem tX10_changeFeet_J13 {d : Nat} {Q : hp → Prop} {o : Nat} {a1 : Int} {s0 : Int} {F : hp} (h : mX10_changeFeet_J13 Q o a1 s0 F) : aw nX10_changeFeet (d + 2) 0 0 13 [some (vr (some o)), some (vi a1), none, none] [vi s0] F (qV Q) := by
  unfold mX10_changeFeet_J13 at h
  refine aw_istore_n dX10_changeFeet_13 rfl (by decide) (aw_pc (pc' := 14) rfl ?_)
  refine aw_iconst dX10_changeFeet_14 (aw_pc (pc' := 15) rfl ?_)
  refine aw_iload_n dX10_changeFeet_15 rfl rfl (aw_pc (pc' := 16) rfl ?_)
  refine aw_isub dX10_changeFeet_16 (aw_pc (pc' := 17) rfl ?_)
  generalize hv_v1 : (1 - s0) = v1
  replace h := h v1 hv_v1.symm
  refine aw_istore_n dX10_changeFeet_17 rfl (by decide) (aw_pc (pc' := 18) rfl ?_)
  refine aw_aload_n dX10_changeFeet_18 rfl rfl (aw_pc (pc' := 19) rfl ?_)
  refine ar_gR fl_RX10_11 dX10_changeFeet_19 h ?_
  clear h
  intro x2 h
  refine aw_pc (pc' := 22) rfl ?_
  refine aw_iconst dX10_changeFeet_22 (aw_pc (pc' := 23) rfl ?_)
  refine aw_iload_n dX10_changeFeet_23 rfl rfl (aw_pc (pc' := 24) rfl ?_)
  refine aw_iadd dX10_changeFeet_24 (aw_pc (pc' := 25) rfl ?_)
  refine aw_dup2 dX10_changeFeet_25 trivial trivial (aw_pc (pc' := 26) rfl ?_)
  refine ar_aI dX10_changeFeet_26 h ?_
  clear h
  intro x3 h
  refine aw_pc (pc' := 27) rfl ?_
  refine aw_iconst dX10_changeFeet_27 (aw_pc (pc' := 28) rfl ?_)
  refine aw_isub dX10_changeFeet_28 (aw_pc (pc' := 29) rfl ?_)
  refine ar_sI dX10_changeFeet_29 h ?_
  clear h
  intro F4 h
  refine aw_pc (pc' := 30) rfl ?_
  refine aw_aload_n dX10_changeFeet_30 rfl rfl (aw_pc (pc' := 31) rfl ?_)
  refine aw_iload_n dX10_changeFeet_31 rfl rfl (aw_pc (pc' := 32) rfl ?_)
  have h0 := rcv_inv h
  clear h
  obtain ⟨o6, fs_o6, hr_o6, he_o6, h⟩ := h0
  obtain rfl : o = o6 := Option.some.inj hr_o6
  refine ar_VV (kc' := 0) (ks' := 0) (kc := 0) (ks := 0) (a := o) (ci := 10) (as := [vi s0]) (st := []) (tX10_gainWheel h) mt_X10_gainWheel rfl qM_RX10_53 qI_X10_gainWheel qV_X10_gainWheel he_o6 rfl (Nat.le_of_ble_eq_true rfl) dX10_changeFeet_32 ?_
  clear h
  intro F5 h
  refine aw_pc (pc' := 35) rfl ?_
  refine aw_aload_n dX10_changeFeet_35 rfl rfl (aw_pc (pc' := 36) rfl ?_)
  refine ar_gR fl_RX10_11 dX10_changeFeet_36 h ?_
  clear h
  intro x7 h
  refine aw_pc (pc' := 39) rfl ?_
  refine aw_iconst dX10_changeFeet_39 (aw_pc (pc' := 40) rfl ?_)
  refine aw_dup2 dX10_changeFeet_40 trivial trivial (aw_pc (pc' := 41) rfl ?_)
  refine ar_aI dX10_changeFeet_41 h ?_
  clear h
  intro x8 h
  refine aw_pc (pc' := 42) rfl ?_
  refine aw_iconst dX10_changeFeet_42 (aw_pc (pc' := 43) rfl ?_)
  refine aw_iload_n dX10_changeFeet_43 rfl rfl (aw_pc (pc' := 44) rfl ?_)
  refine aw_ishl dX10_changeFeet_44 (aw_pc (pc' := 45) rfl ?_)
  refine aw_ixor dX10_changeFeet_45 (aw_pc (pc' := 46) rfl ?_)
  refine ar_sI dX10_changeFeet_46 h ?_
  clear h
  intro F9 h
  refine aw_pc (pc' := 47) rfl ?_
  refine aw_aload_n dX10_changeFeet_47 rfl rfl (aw_pc (pc' := 48) rfl ?_)
  refine ar_gR fl_RX10_11 dX10_changeFeet_48 h ?_
  clear h
  intro x10 h
  refine aw_pc (pc' := 51) rfl ?_
  refine aw_bipush dX10_changeFeet_51 (by decide) (aw_pc (pc' := 53) rfl ?_)
  refine aw_iload_n dX10_changeFeet_53 rfl rfl (aw_pc (pc' := 54) rfl ?_)
  refine aw_iadd dX10_changeFeet_54 (aw_pc (pc' := 55) rfl ?_)
  refine aw_iconst dX10_changeFeet_55 (aw_pc (pc' := 56) rfl ?_)
  refine ar_sI dX10_changeFeet_56 h ?_
  clear h
  intro F11 h
  refine aw_pc (pc' := 57) rfl ?_
  refine aw_aload_n dX10_changeFeet_57 rfl rfl (aw_pc (pc' := 58) rfl ?_)
  refine aw_iload_n dX10_changeFeet_58 rfl rfl (aw_pc (pc' := 59) rfl ?_)
  refine aw_iconst dX10_changeFeet_59 (aw_pc (pc' := 60) rfl ?_)
  refine aw_iload_n dX10_changeFeet_60 rfl rfl (aw_pc (pc' := 61) rfl ?_)
  have h0 := rcv_inv h
  clear h
  obtain ⟨o13, fs_o13, hr_o13, he_o13, h⟩ := h0
  obtain rfl : o = o13 := Option.some.inj hr_o13
  refine ar_VV (kc' := 0) (ks' := 0) (kc := 0) (ks := 0) (a := o) (ci := 10) (as := [vi a1, vi 1, vi v1]) (st := []) (tX10_write h) mt_X10_write rfl qM_RX10_45 qI_X10_write qV_X10_write he_o13 rfl (Nat.le_of_ble_eq_true rfl) dX10_changeFeet_61 ?_
  clear h
  intro F12 h
  refine aw_pc (pc' := 64) rfl ?_
  exact aw_vret rfl dX10_changeFeet_64 ⟨rfl, h⟩
def mX10_changeFeet (o : Nat) (a1 : Int) (F : hp) (Q : hp → Prop) : Prop := rcv F (some o) 10 (fun o3 => mX10_isWide o3 a1 F (fun x2 F1 => (w32 x2 = 0 → mX10_changeFeet_J13 Q o a1 0 F1) ∧ (¬ w32 x2 = 0 → mX10_changeFeet_J13 Q o a1 1 F1)))
set_option maxHeartbeats 4000000 in
theorem tX10_changeFeet {d : Nat} {o : Nat} {a1 : Int} {F : hp} {Q : hp → Prop} (h : mX10_changeFeet o a1 F Q) : am nX10_changeFeet (d + 2) 0 0 [vr (some o), vi a1] F (qV Q) := by
  refine am_of (by decide +kernel) (Nat.le_of_ble_eq_true rfl) ?_
  show aw nX10_changeFeet (d + 2) 0 0 0 [some (vr (some o)), some (vi a1), none, none] [] F (qV Q)
  unfold mX10_changeFeet at h
  refine aw_aload_n dX10_changeFeet_0 rfl rfl (aw_pc (pc' := 1) rfl ?_)
  refine aw_iload_n dX10_changeFeet_1 rfl rfl (aw_pc (pc' := 2) rfl ?_)
  have h0 := rcv_inv h
  clear h
  obtain ⟨o3, fs_o3, hr_o3, he_o3, h⟩ := h0
  obtain rfl : o = o3 := Option.some.inj hr_o3
  refine ar_VI (kc' := 0) (ks' := 0) (kc := 0) (ks := 0) (a := o) (ci := 10) (as := [vi a1]) (st := []) (tX10_isWide h) mt_X10_isWide rfl qM_RX10_49 qI_X10_isWide qV_X10_isWide he_o3 rfl (Nat.le_of_ble_eq_true rfl) dX10_changeFeet_2 ?_
  clear h
  intro x2 F1 h
  refine aw_pc (pc' := 5) rfl ?_
  refine aw_if_eq dX10_changeFeet_5 rfl (fun c => ?_) (fun c => ?_)
  · replace h := h.1 c
    refine aw_iconst dX10_changeFeet_12 (aw_pc (pc' := 13) rfl ?_)
    exact aw_mask [true, true, false, false] (tX10_changeFeet_J13 h)
  · replace h := h.2 c
    refine aw_iconst dX10_changeFeet_8 (aw_pc (pc' := 9) rfl ?_)
    refine aw_goto (tgt := 13) dX10_changeFeet_9 rfl ?_
    exact aw_mask [true, true, false, false] (tX10_changeFeet_J13 h)
def mX10_hourCanPass (o : Nat) (F : hp) (Q : Int → hp → Prop) : Prop := gR F (some o) 10 0 (fun x1 => aI F x1 0 0 (fun x2 => (w32 x2 < 9999 → Q 1 F) ∧ (¬ w32 x2 < 9999 → Q 0 F)))
set_option maxHeartbeats 4000000 in
theorem tX10_hourCanPass {d : Nat} {o : Nat} {F : hp} {Q : Int → hp → Prop} (h : mX10_hourCanPass o F Q) : am nX10_hourCanPass d 0 0 [vr (some o)] F (qI Q) := by
  refine am_of (by decide +kernel) (Nat.le_of_ble_eq_true rfl) ?_
  show aw nX10_hourCanPass d 0 0 0 [some (vr (some o))] [] F (qI Q)
  unfold mX10_hourCanPass at h
  refine aw_aload_n dX10_hourCanPass_0 rfl rfl (aw_pc (pc' := 1) rfl ?_)
  refine ar_gR fl_RX10_11 dX10_hourCanPass_1 h ?_
  clear h
  intro x1 h
  refine aw_pc (pc' := 4) rfl ?_
  refine aw_iconst dX10_hourCanPass_4 (aw_pc (pc' := 5) rfl ?_)
  refine ar_aI dX10_hourCanPass_5 h ?_
  clear h
  intro x2 h
  refine aw_pc (pc' := 6) rfl ?_
  refine aw_sipush dX10_hourCanPass_6 (by decide) (aw_pc (pc' := 9) rfl ?_)
  refine ac_ge rfl wl_9999 dX10_hourCanPass_9 rfl (fun c => ?_) (fun c => ?_)
  · replace h := h.1 c
    refine aw_iconst dX10_hourCanPass_12 (aw_pc (pc' := 13) rfl ?_)
    refine aw_goto (tgt := 17) dX10_hourCanPass_13 rfl ?_
    exact aw_zret rfl (by decide) dX10_hourCanPass_17 ⟨_, rfl, h⟩
  · replace h := h.2 c
    refine aw_iconst dX10_hourCanPass_16 (aw_pc (pc' := 17) rfl ?_)
    exact aw_zret rfl (by decide) dX10_hourCanPass_17 ⟨_, rfl, h⟩
def mX10_drawnX (o : Nat) (F : hp) (Q : Int → hp → Prop) : Prop := gR F (some o) 10 0 (fun x1 => aI F x1 0 1 (fun x2 => gR F (some o) 10 0 (fun x3 => sI F x3 0 1 ((w32 ((x2 * 607) + 479)).tmod 30851) (fun F4 => Q x2 F4))))
set_option maxHeartbeats 4000000 in
theorem tX10_drawnX {d : Nat} {o : Nat} {F : hp} {Q : Int → hp → Prop} (h : mX10_drawnX o F Q) : am nX10_drawnX d 0 0 [vr (some o)] F (qI Q) := by
  refine am_of (by decide +kernel) (Nat.le_of_ble_eq_true rfl) ?_
  show aw nX10_drawnX d 0 0 0 [some (vr (some o)), none] [] F (qI Q)
  unfold mX10_drawnX at h
  refine aw_aload_n dX10_drawnX_0 rfl rfl (aw_pc (pc' := 1) rfl ?_)
  refine ar_gR fl_RX10_11 dX10_drawnX_1 h ?_
  clear h
  intro x1 h
  refine aw_pc (pc' := 4) rfl ?_
  refine aw_iconst dX10_drawnX_4 (aw_pc (pc' := 5) rfl ?_)
  refine ar_aI dX10_drawnX_5 h ?_
  clear h
  intro x2 h
  refine aw_pc (pc' := 6) rfl ?_
  refine aw_istore_n dX10_drawnX_6 rfl (by decide) (aw_pc (pc' := 7) rfl ?_)
  refine aw_aload_n dX10_drawnX_7 rfl rfl (aw_pc (pc' := 8) rfl ?_)
  refine ar_gR fl_RX10_11 dX10_drawnX_8 h ?_
  clear h
  intro x3 h
  refine aw_pc (pc' := 11) rfl ?_
  refine aw_iconst dX10_drawnX_11 (aw_pc (pc' := 12) rfl ?_)
  refine aw_iload_n dX10_drawnX_12 rfl rfl (aw_pc (pc' := 13) rfl ?_)
  refine aw_sipush dX10_drawnX_13 (by decide) (aw_pc (pc' := 16) rfl ?_)
  refine aw_imul dX10_drawnX_16 (aw_pc (pc' := 17) rfl ?_)
  refine aw_sipush dX10_drawnX_17 (by decide) (aw_pc (pc' := 20) rfl ?_)
  refine aw_iadd dX10_drawnX_20 (aw_pc (pc' := 21) rfl ?_)
  refine aw_sipush dX10_drawnX_21 (by decide) (aw_pc (pc' := 24) rfl ?_)
  refine ac_rem wl_30851 (by decide) dX10_drawnX_24 (aw_pc (pc' := 25) rfl ?_)
  refine ar_sI dX10_drawnX_25 h ?_
  clear h
  intro F4 h
  refine aw_pc (pc' := 26) rfl ?_
  refine aw_iload_n dX10_drawnX_26 rfl rfl (aw_pc (pc' := 27) rfl ?_)
  exact aw_iret rfl dX10_drawnX_27 ⟨_, rfl, h⟩
def mX10_draw (o : Nat) (a1 : Int) (F : hp) (Q : Int → hp → Prop) : Prop := rcv F (some o) 10 (fun o3 => mX10_drawnX o3 F (fun x2 F1 => (0 < w32 a1 → w32 a1 ≠ 0 ∧ Q ((w32 x2).tmod (w32 a1)) F1) ∧ (¬ 0 < w32 a1 → Q 0 F1)))
set_option maxHeartbeats 4000000 in
theorem tX10_draw {d : Nat} {o : Nat} {a1 : Int} {F : hp} {Q : Int → hp → Prop} (h : mX10_draw o a1 F Q) : am nX10_draw (d + 1) 0 0 [vr (some o), vi a1] F (qI Q) := by
  refine am_of (by decide +kernel) (Nat.le_of_ble_eq_true rfl) ?_
  show aw nX10_draw (d + 1) 0 0 0 [some (vr (some o)), some (vi a1), none] [] F (qI Q)
  unfold mX10_draw at h
  refine aw_aload_n dX10_draw_0 rfl rfl (aw_pc (pc' := 1) rfl ?_)
  have h0 := rcv_inv h
  clear h
  obtain ⟨o3, fs_o3, hr_o3, he_o3, h⟩ := h0
  obtain rfl : o = o3 := Option.some.inj hr_o3
  refine ar_VI (kc' := 0) (ks' := 0) (kc := 0) (ks := 0) (a := o) (ci := 10) (as := []) (st := []) (tX10_drawnX h) mt_X10_drawnX rfl qM_RX10_62 qI_X10_drawnX qV_X10_drawnX he_o3 rfl (Nat.le_of_ble_eq_true rfl) dX10_draw_1 ?_
  clear h
  intro x2 F1 h
  refine aw_pc (pc' := 4) rfl ?_
  refine aw_istore_n dX10_draw_4 rfl (by decide) (aw_pc (pc' := 5) rfl ?_)
  refine aw_iload_n dX10_draw_5 rfl rfl (aw_pc (pc' := 6) rfl ?_)
  refine aw_if_le dX10_draw_6 rfl (fun c => ?_) (fun c => ?_)
  · replace h := h.1 c
    refine aw_iload_n dX10_draw_9 rfl rfl (aw_pc (pc' := 10) rfl ?_)
    refine aw_iload_n dX10_draw_10 rfl rfl (aw_pc (pc' := 11) rfl ?_)
    refine ac_rem rfl h.1 dX10_draw_11 (aw_pc (pc' := 12) rfl ?_)
    replace h := h.2
    refine aw_goto (tgt := 16) dX10_draw_12 rfl ?_
    exact aw_iret rfl dX10_draw_16 ⟨_, rfl, h⟩
  · replace h := h.2 c
    refine aw_iconst dX10_draw_15 (aw_pc (pc' := 16) rfl ?_)
    exact aw_iret rfl dX10_draw_16 ⟨_, rfl, h⟩
def mX10_passHour_J106 (Q : Int → hp → Prop) (o : Nat) (a1 : Int) (F : hp) : Prop := gR F (some o) 10 0 (fun x1 => aI F x1 0 0 (fun x2 => sI F x1 0 0 (x2 + 1) (fun F3 => Q a1 F3)))
set_option maxHeartbeats 4000000 in
theorem tX10_passHour_J106 {d : Nat} {Q : Int → hp → Prop} {o : Nat} {a1 : Int} {F : hp} (h : mX10_passHour_J106 Q o a1 F) : aw nX10_passHour (d + 2) 0 0 106 [some (vr (some o)), some (vi a1), none, none] [] F (qI Q) := by
  unfold mX10_passHour_J106 at h
  refine aw_aload_n dX10_passHour_106 rfl rfl (aw_pc (pc' := 107) rfl ?_)
  refine ar_gR fl_RX10_11 dX10_passHour_107 h ?_
  clear h
  intro x1 h
  refine aw_pc (pc' := 110) rfl ?_
  refine aw_iconst dX10_passHour_110 (aw_pc (pc' := 111) rfl ?_)
  refine aw_dup2 dX10_passHour_111 trivial trivial (aw_pc (pc' := 112) rfl ?_)
  refine ar_aI dX10_passHour_112 h ?_
  clear h
  intro x2 h
  refine aw_pc (pc' := 113) rfl ?_
  refine aw_iconst dX10_passHour_113 (aw_pc (pc' := 114) rfl ?_)
  refine aw_iadd dX10_passHour_114 (aw_pc (pc' := 115) rfl ?_)
  refine ar_sI dX10_passHour_115 h ?_
  clear h
  intro F3 h
  refine aw_pc (pc' := 116) rfl ?_
  refine aw_iload_n dX10_passHour_116 rfl rfl (aw_pc (pc' := 117) rfl ?_)
  exact aw_iret rfl dX10_passHour_117 ⟨_, rfl, h⟩
def mX10_passHour_J65 (Q : Int → hp → Prop) (o : Nat) (a1 : Int) (F : hp) : Prop := rcv F (some o) 10 (fun o3 => mX10_countCars o3 F (fun x2 F1 => (0 < w32 x2 → rcv F1 (some o) 10 (fun o6 => mX10_countCars o6 F1 (fun x5 F4 => rcv F4 (some o) 10 (fun o9 => mX10_draw o9 x5 F4 (fun x8 F7 => gR F7 (some o) 10 0 (fun x10 => gR F7 (some o) 10 0 (fun x11 => aI F7 x11 0 (6 + x8) (fun x12 => sI F7 x10 0 (6 + x8) (iMin 9 (x12 + 1)) (fun F13 => mX10_passHour_J106 Q o a1 F13))))))))) ∧ (¬ 0 < w32 x2 → mX10_passHour_J106 Q o a1 F1)))
set_option maxHeartbeats 4000000 in
theorem tX10_passHour_J65 {d : Nat} {Q : Int → hp → Prop} {o : Nat} {a1 : Int} {F : hp} (h : mX10_passHour_J65 Q o a1 F) : aw nX10_passHour (d + 2) 0 0 65 [some (vr (some o)), some (vi a1), none, none] [] F (qI Q) := by
  unfold mX10_passHour_J65 at h
  refine aw_aload_n dX10_passHour_65 rfl rfl (aw_pc (pc' := 66) rfl ?_)
  have h0 := rcv_inv h
  clear h
  obtain ⟨o3, fs_o3, hr_o3, he_o3, h⟩ := h0
  obtain rfl : o = o3 := Option.some.inj hr_o3
  refine ar_VI (kc' := 0) (ks' := 0) (kc := 0) (ks := 0) (a := o) (ci := 10) (as := []) (st := []) (tX10_countCars h) mt_X10_countCars rfl qM_RX10_69 qI_X10_countCars qV_X10_countCars he_o3 rfl (Nat.le_of_ble_eq_true rfl) dX10_passHour_66 ?_
  clear h
  intro x2 F1 h
  refine aw_pc (pc' := 69) rfl ?_
  refine aw_if_le dX10_passHour_69 rfl (fun c => ?_) (fun c => ?_)
  · replace h := h.1 c
    refine aw_aload_n dX10_passHour_72 rfl rfl (aw_pc (pc' := 73) rfl ?_)
    refine aw_aload_n dX10_passHour_73 rfl rfl (aw_pc (pc' := 74) rfl ?_)
    have h0 := rcv_inv h
    clear h
    obtain ⟨o6, fs_o6, hr_o6, he_o6, h⟩ := h0
    obtain rfl : o = o6 := Option.some.inj hr_o6
    refine ar_VI (kc' := 0) (ks' := 0) (kc := 0) (ks := 0) (a := o) (ci := 10) (as := []) (st := [vr (some o)]) (tX10_countCars h) mt_X10_countCars rfl qM_RX10_69 qI_X10_countCars qV_X10_countCars he_o6 rfl (Nat.le_of_ble_eq_true rfl) dX10_passHour_74 ?_
    clear h
    intro x5 F4 h
    refine aw_pc (pc' := 77) rfl ?_
    have h0 := rcv_inv h
    clear h
    obtain ⟨o9, fs_o9, hr_o9, he_o9, h⟩ := h0
    obtain rfl : o = o9 := Option.some.inj hr_o9
    refine ar_VI (kc' := 0) (ks' := 0) (kc := 0) (ks := 0) (a := o) (ci := 10) (as := [vi x5]) (st := []) (tX10_draw h) mt_X10_draw rfl qM_RX10_66 qI_X10_draw qV_X10_draw he_o9 rfl (Nat.le_of_ble_eq_true rfl) dX10_passHour_77 ?_
    clear h
    intro x8 F7 h
    refine aw_pc (pc' := 80) rfl ?_
    refine aw_istore_n dX10_passHour_80 rfl (by decide) (aw_pc (pc' := 81) rfl ?_)
    refine aw_aload_n dX10_passHour_81 rfl rfl (aw_pc (pc' := 82) rfl ?_)
    refine ar_gR fl_RX10_11 dX10_passHour_82 h ?_
    clear h
    intro x10 h
    refine aw_pc (pc' := 85) rfl ?_
    refine aw_bipush dX10_passHour_85 (by decide) (aw_pc (pc' := 87) rfl ?_)
    refine aw_iload_n dX10_passHour_87 rfl rfl (aw_pc (pc' := 88) rfl ?_)
    refine aw_iadd dX10_passHour_88 (aw_pc (pc' := 89) rfl ?_)
    refine aw_bipush dX10_passHour_89 (by decide) (aw_pc (pc' := 91) rfl ?_)
    refine aw_aload_n dX10_passHour_91 rfl rfl (aw_pc (pc' := 92) rfl ?_)
    refine ar_gR fl_RX10_11 dX10_passHour_92 h ?_
    clear h
    intro x11 h
    refine aw_pc (pc' := 95) rfl ?_
    refine aw_bipush dX10_passHour_95 (by decide) (aw_pc (pc' := 97) rfl ?_)
    refine aw_iload_n dX10_passHour_97 rfl rfl (aw_pc (pc' := 98) rfl ?_)
    refine aw_iadd dX10_passHour_98 (aw_pc (pc' := 99) rfl ?_)
    refine ar_aI dX10_passHour_99 h ?_
    clear h
    intro x12 h
    refine aw_pc (pc' := 100) rfl ?_
    refine aw_iconst dX10_passHour_100 (aw_pc (pc' := 101) rfl ?_)
    refine aw_iadd dX10_passHour_101 (aw_pc (pc' := 102) rfl ?_)
    refine aw_min qM_RX10_57 mw_min (Nat.le_of_ble_eq_true rfl) dX10_passHour_102 (aw_pc (pc' := 105) rfl ?_)
    refine ar_sI dX10_passHour_105 h ?_
    clear h
    intro F13 h
    refine aw_pc (pc' := 106) rfl ?_
    exact aw_mask [true, true, false, false] (tX10_passHour_J106 h)
  · replace h := h.2 c
    exact aw_mask [true, true, false, false] (tX10_passHour_J106 h)
def mX10_passHour (o : Nat) (F : hp) (Q : Int → hp → Prop) : Prop := rcv F (some o) 10 (fun o3 => mX10_draw o3 10 F (fun x2 F1 => (w32 x2 < 2 → rcv F1 (some o) 10 (fun o5 => mX10_gainWheel o5 x2 F1 (fun F4 => mX10_passHour_J65 Q o 0 F4))) ∧ (¬ w32 x2 < 2 → (w32 x2 < 4 → gR F1 (some o) 10 0 (fun x6 => aI F1 x6 0 ((2 + x2) - 2) (fun x7 => (0 < w32 x7 → gR F1 (some o) 10 0 (fun x8 => aI F1 x8 0 ((2 + x2) - 2) (fun x9 => sI F1 x8 0 ((2 + x2) - 2) (x9 - 1) (fun F10 => rcv F10 (some o) 10 (fun o12 => mX10_write o12 (-1) 2 (x2 - 2) F10 (fun F11 => mX10_passHour_J65 Q o 1 F11)))))) ∧ (¬ 0 < w32 x7 → mX10_passHour_J65 Q o 0 F1)))) ∧ (¬ w32 x2 < 4 → mX10_passHour_J65 Q o 0 F1))))
set_option maxHeartbeats 4000000 in
theorem tX10_passHour {d : Nat} {o : Nat} {F : hp} {Q : Int → hp → Prop} (h : mX10_passHour o F Q) : am nX10_passHour (d + 2) 0 0 [vr (some o)] F (qI Q) := by
  refine am_of (by decide +kernel) (Nat.le_of_ble_eq_true rfl) ?_
  show aw nX10_passHour (d + 2) 0 0 0 [some (vr (some o)), none, none, none] [] F (qI Q)
  unfold mX10_passHour at h
  refine aw_iconst dX10_passHour_0 (aw_pc (pc' := 1) rfl ?_)
  refine aw_istore_n dX10_passHour_1 rfl (by decide) (aw_pc (pc' := 2) rfl ?_)
  refine aw_aload_n dX10_passHour_2 rfl rfl (aw_pc (pc' := 3) rfl ?_)
  refine aw_bipush dX10_passHour_3 (by decide) (aw_pc (pc' := 5) rfl ?_)
  have h0 := rcv_inv h
  clear h
  obtain ⟨o3, fs_o3, hr_o3, he_o3, h⟩ := h0
  obtain rfl : o = o3 := Option.some.inj hr_o3
  refine ar_VI (kc' := 0) (ks' := 0) (kc := 0) (ks := 0) (a := o) (ci := 10) (as := [vi 10]) (st := []) (tX10_draw h) mt_X10_draw rfl qM_RX10_66 qI_X10_draw qV_X10_draw he_o3 rfl (Nat.le_of_ble_eq_true rfl) dX10_passHour_5 ?_
  clear h
  intro x2 F1 h
  refine aw_pc (pc' := 8) rfl ?_
  refine aw_istore_n dX10_passHour_8 rfl (by decide) (aw_pc (pc' := 9) rfl ?_)
  refine aw_iload_n dX10_passHour_9 rfl rfl (aw_pc (pc' := 10) rfl ?_)
  refine aw_iconst dX10_passHour_10 (aw_pc (pc' := 11) rfl ?_)
  refine ac_ge rfl wl_2 dX10_passHour_11 rfl (fun c => ?_) (fun c => ?_)
  · replace h := h.1 c
    refine aw_aload_n dX10_passHour_14 rfl rfl (aw_pc (pc' := 15) rfl ?_)
    refine aw_iload_n dX10_passHour_15 rfl rfl (aw_pc (pc' := 16) rfl ?_)
    have h0 := rcv_inv h
    clear h
    obtain ⟨o5, fs_o5, hr_o5, he_o5, h⟩ := h0
    obtain rfl : o = o5 := Option.some.inj hr_o5
    refine ar_VV (kc' := 0) (ks' := 0) (kc := 0) (ks := 0) (a := o) (ci := 10) (as := [vi x2]) (st := []) (tX10_gainWheel h) mt_X10_gainWheel rfl qM_RX10_53 qI_X10_gainWheel qV_X10_gainWheel he_o5 rfl (Nat.le_of_ble_eq_true rfl) dX10_passHour_16 ?_
    clear h
    intro F4 h
    refine aw_pc (pc' := 19) rfl ?_
    refine aw_goto (tgt := 65) dX10_passHour_19 rfl ?_
    exact aw_mask [true, true, false, false] (tX10_passHour_J65 h)
  · replace h := h.2 c
    refine aw_iload_n dX10_passHour_22 rfl rfl (aw_pc (pc' := 23) rfl ?_)
    refine aw_iconst dX10_passHour_23 (aw_pc (pc' := 24) rfl ?_)
    refine ac_ge rfl wl_4 dX10_passHour_24 rfl (fun c => ?_) (fun c => ?_)
    · replace h := h.1 c
      refine aw_aload_n dX10_passHour_27 rfl rfl (aw_pc (pc' := 28) rfl ?_)
      refine ar_gR fl_RX10_11 dX10_passHour_28 h ?_
      clear h
      intro x6 h
      refine aw_pc (pc' := 31) rfl ?_
      refine aw_iconst dX10_passHour_31 (aw_pc (pc' := 32) rfl ?_)
      refine aw_iload_n dX10_passHour_32 rfl rfl (aw_pc (pc' := 33) rfl ?_)
      refine aw_iadd dX10_passHour_33 (aw_pc (pc' := 34) rfl ?_)
      refine aw_iconst dX10_passHour_34 (aw_pc (pc' := 35) rfl ?_)
      refine aw_isub dX10_passHour_35 (aw_pc (pc' := 36) rfl ?_)
      refine ar_aI dX10_passHour_36 h ?_
      clear h
      intro x7 h
      refine aw_pc (pc' := 37) rfl ?_
      refine aw_if_le dX10_passHour_37 rfl (fun c => ?_) (fun c => ?_)
      · replace h := h.1 c
        refine aw_aload_n dX10_passHour_40 rfl rfl (aw_pc (pc' := 41) rfl ?_)
        refine ar_gR fl_RX10_11 dX10_passHour_41 h ?_
        clear h
        intro x8 h
        refine aw_pc (pc' := 44) rfl ?_
        refine aw_iconst dX10_passHour_44 (aw_pc (pc' := 45) rfl ?_)
        refine aw_iload_n dX10_passHour_45 rfl rfl (aw_pc (pc' := 46) rfl ?_)
        refine aw_iadd dX10_passHour_46 (aw_pc (pc' := 47) rfl ?_)
        refine aw_iconst dX10_passHour_47 (aw_pc (pc' := 48) rfl ?_)
        refine aw_isub dX10_passHour_48 (aw_pc (pc' := 49) rfl ?_)
        refine aw_dup2 dX10_passHour_49 trivial trivial (aw_pc (pc' := 50) rfl ?_)
        refine ar_aI dX10_passHour_50 h ?_
        clear h
        intro x9 h
        refine aw_pc (pc' := 51) rfl ?_
        refine aw_iconst dX10_passHour_51 (aw_pc (pc' := 52) rfl ?_)
        refine aw_isub dX10_passHour_52 (aw_pc (pc' := 53) rfl ?_)
        refine ar_sI dX10_passHour_53 h ?_
        clear h
        intro F10 h
        refine aw_pc (pc' := 54) rfl ?_
        refine aw_aload_n dX10_passHour_54 rfl rfl (aw_pc (pc' := 55) rfl ?_)
        refine aw_iconst dX10_passHour_55 (aw_pc (pc' := 56) rfl ?_)
        refine aw_iconst dX10_passHour_56 (aw_pc (pc' := 57) rfl ?_)
        refine aw_iload_n dX10_passHour_57 rfl rfl (aw_pc (pc' := 58) rfl ?_)
        refine aw_iconst dX10_passHour_58 (aw_pc (pc' := 59) rfl ?_)
        refine aw_isub dX10_passHour_59 (aw_pc (pc' := 60) rfl ?_)
        have h0 := rcv_inv h
        clear h
        obtain ⟨o12, fs_o12, hr_o12, he_o12, h⟩ := h0
        obtain rfl : o = o12 := Option.some.inj hr_o12
        refine ar_VV (kc' := 0) (ks' := 0) (kc := 0) (ks := 0) (a := o) (ci := 10) (as := [vi (-1), vi 2, vi (x2 - 2)]) (st := []) (tX10_write h) mt_X10_write rfl qM_RX10_45 qI_X10_write qV_X10_write he_o12 rfl (Nat.le_of_ble_eq_true rfl) dX10_passHour_60 ?_
        clear h
        intro F11 h
        refine aw_pc (pc' := 63) rfl ?_
        refine aw_iconst dX10_passHour_63 (aw_pc (pc' := 64) rfl ?_)
        refine aw_istore_n dX10_passHour_64 rfl (by decide) (aw_pc (pc' := 65) rfl ?_)
        exact aw_mask [true, true, false, false] (tX10_passHour_J65 h)
      · replace h := h.2 c
        exact aw_mask [true, true, false, false] (tX10_passHour_J65 h)
    · replace h := h.2 c
      exact aw_mask [true, true, false, false] (tX10_passHour_J65 h)
def mX10_wornTogether_L4 (Q : Int → hp → Prop) : Nat → Nat → Int → Int → hp → Prop
  | 0, _, _, _, _ => False
  | k + 1, o, a1, a2, F => (w32 a2 < 5 → rcv F (some o) 10 (fun o3 => mX10_wornOf o3 a2 F (fun x2 F1 => ∀ v4 : Int, v4 = (a1 + x2) → mX10_wornTogether_L4 Q k o v4 (a2 + 1) F1))) ∧ (¬ w32 a2 < 5 → Q a1 F)
set_option maxHeartbeats 4000000 in
theorem tX10_wornTogether_L4 {d : Nat} {Q : Int → hp → Prop} : ∀ (k : Nat) (o : Nat) (a1 : Int) (a2 : Int) (F : hp), mX10_wornTogether_L4 Q k o a1 a2 F → aw nX10_wornTogether (d + 1) 0 0 4 [some (vr (some o)), some (vi a1), some (vi a2)] [] F (qI Q) := by
  intro k
  induction k with
  | zero => intro o a1 a2 F h; exact h.elim
  | succ k ih =>
    intro o a1 a2 F h
    simp only [mX10_wornTogether_L4] at h
    refine aw_iload_n dX10_wornTogether_4 rfl rfl (aw_pc (pc' := 5) rfl ?_)
    refine aw_iconst dX10_wornTogether_5 (aw_pc (pc' := 6) rfl ?_)
    refine ac_ge rfl wl_5 dX10_wornTogether_6 rfl (fun c => ?_) (fun c => ?_)
    · replace h := h.1 c
      refine aw_iload_n dX10_wornTogether_9 rfl rfl (aw_pc (pc' := 10) rfl ?_)
      refine aw_aload_n dX10_wornTogether_10 rfl rfl (aw_pc (pc' := 11) rfl ?_)
      refine aw_iload_n dX10_wornTogether_11 rfl rfl (aw_pc (pc' := 12) rfl ?_)
      have h0 := rcv_inv h
      clear h
      obtain ⟨o3, fs_o3, hr_o3, he_o3, h⟩ := h0
      obtain rfl : o = o3 := Option.some.inj hr_o3
      refine ar_VI (kc' := 0) (ks' := 0) (kc := 0) (ks := 0) (a := o) (ci := 10) (as := [vi a2]) (st := [vi a1]) (tX10_wornOf h) mt_X10_wornOf rfl qM_RX10_21 qI_X10_wornOf qV_X10_wornOf he_o3 rfl (Nat.le_of_ble_eq_true rfl) dX10_wornTogether_12 ?_
      clear h
      intro x2 F1 h
      refine aw_pc (pc' := 15) rfl ?_
      refine aw_iadd dX10_wornTogether_15 (aw_pc (pc' := 16) rfl ?_)
      generalize hv_v4 : (a1 + x2) = v4
      replace h := h v4 hv_v4.symm
      refine aw_istore_n dX10_wornTogether_16 rfl (by decide) (aw_pc (pc' := 17) rfl ?_)
      refine aw_iinc dX10_wornTogether_17 rfl (by decide) (aw_pc (pc' := 20) rfl ?_)
      refine aw_goto (tgt := 4) dX10_wornTogether_20 rfl ?_
      exact aw_mask [true, true, true] (ih _ _ _ _ h)
    · replace h := h.2 c
      refine aw_iload_n dX10_wornTogether_23 rfl rfl (aw_pc (pc' := 24) rfl ?_)
      exact aw_iret rfl dX10_wornTogether_24 ⟨_, rfl, h⟩
def mX10_wornTogether (o : Nat) (F : hp) (Q : Int → hp → Prop) : Prop := (∃ k1, mX10_wornTogether_L4 Q k1 o 0 0 F)
set_option maxHeartbeats 4000000 in
theorem tX10_wornTogether {d : Nat} {o : Nat} {F : hp} {Q : Int → hp → Prop} (h : mX10_wornTogether o F Q) : am nX10_wornTogether (d + 1) 0 0 [vr (some o)] F (qI Q) := by
  refine am_of (by decide +kernel) (Nat.le_of_ble_eq_true rfl) ?_
  show aw nX10_wornTogether (d + 1) 0 0 0 [some (vr (some o)), none, none] [] F (qI Q)
  unfold mX10_wornTogether at h
  refine aw_iconst dX10_wornTogether_0 (aw_pc (pc' := 1) rfl ?_)
  refine aw_istore_n dX10_wornTogether_1 rfl (by decide) (aw_pc (pc' := 2) rfl ?_)
  refine aw_iconst dX10_wornTogether_2 (aw_pc (pc' := 3) rfl ?_)
  refine aw_istore_n dX10_wornTogether_3 rfl (by decide) (aw_pc (pc' := 4) rfl ?_)
  obtain ⟨k1, h⟩ := h
  exact aw_mask [true, true, true] (tX10_wornTogether_L4 k1 _ _ _ _ h)
def mX10_carsOn_L4 (Q : Int → hp → Prop) : Nat → Nat → Int → Int → Int → hp → Prop
  | 0, _, _, _, _, _ => False
  | k + 1, o, a1, a2, a3, F => rcv F (some o) 10 (fun o3 => mX10_countOn o3 a1 F (fun x2 F1 => (w32 a3 < w32 x2 → rcv F1 (some o) 10 (fun o6 => mX10_carAt o6 a1 a3 F1 (fun x5 F4 => ∀ v7 : Int, v7 = (iOr a2 (iShl 1 x5)) → mX10_carsOn_L4 Q k o a1 v7 (a3 + 1) F4))) ∧ (¬ w32 a3 < w32 x2 → Q a2 F1)))
set_option maxHeartbeats 4000000 in
theorem tX10_carsOn_L4 {d : Nat} {Q : Int → hp → Prop} : ∀ (k : Nat) (o : Nat) (a1 : Int) (a2 : Int) (a3 : Int) (F : hp), mX10_carsOn_L4 Q k o a1 a2 a3 F → aw nX10_carsOn (d + 1) 0 0 4 [some (vr (some o)), some (vi a1), some (vi a2), some (vi a3)] [] F (qI Q) := by
  intro k
  induction k with
  | zero => intro o a1 a2 a3 F h; exact h.elim
  | succ k ih =>
    intro o a1 a2 a3 F h
    simp only [mX10_carsOn_L4] at h
    refine aw_iload_n dX10_carsOn_4 rfl rfl (aw_pc (pc' := 5) rfl ?_)
    refine aw_aload_n dX10_carsOn_5 rfl rfl (aw_pc (pc' := 6) rfl ?_)
    refine aw_iload_n dX10_carsOn_6 rfl rfl (aw_pc (pc' := 7) rfl ?_)
    have h0 := rcv_inv h
    clear h
    obtain ⟨o3, fs_o3, hr_o3, he_o3, h⟩ := h0
    obtain rfl : o = o3 := Option.some.inj hr_o3
    refine ar_VI (kc' := 0) (ks' := 0) (kc := 0) (ks := 0) (a := o) (ci := 10) (as := [vi a1]) (st := [vi a3]) (tX10_countOn h) mt_X10_countOn rfl qM_RX10_25 qI_X10_countOn qV_X10_countOn he_o3 rfl (Nat.le_of_ble_eq_true rfl) dX10_carsOn_7 ?_
    clear h
    intro x2 F1 h
    refine aw_pc (pc' := 10) rfl ?_
    refine ac_ge rfl rfl dX10_carsOn_10 rfl (fun c => ?_) (fun c => ?_)
    · replace h := h.1 c
      refine aw_iload_n dX10_carsOn_13 rfl rfl (aw_pc (pc' := 14) rfl ?_)
      refine aw_iconst dX10_carsOn_14 (aw_pc (pc' := 15) rfl ?_)
      refine aw_aload_n dX10_carsOn_15 rfl rfl (aw_pc (pc' := 16) rfl ?_)
      refine aw_iload_n dX10_carsOn_16 rfl rfl (aw_pc (pc' := 17) rfl ?_)
      refine aw_iload_n dX10_carsOn_17 rfl rfl (aw_pc (pc' := 18) rfl ?_)
      have h0 := rcv_inv h
      clear h
      obtain ⟨o6, fs_o6, hr_o6, he_o6, h⟩ := h0
      obtain rfl : o = o6 := Option.some.inj hr_o6
      refine ar_VI (kc' := 0) (ks' := 0) (kc := 0) (ks := 0) (a := o) (ci := 10) (as := [vi a1, vi a3]) (st := [vi 1, vi a2]) (tX10_carAt h) mt_X10_carAt rfl qM_RX10_28 qI_X10_carAt qV_X10_carAt he_o6 rfl (Nat.le_of_ble_eq_true rfl) dX10_carsOn_18 ?_
      clear h
      intro x5 F4 h
      refine aw_pc (pc' := 21) rfl ?_
      refine aw_ishl dX10_carsOn_21 (aw_pc (pc' := 22) rfl ?_)
      refine aw_ior dX10_carsOn_22 (aw_pc (pc' := 23) rfl ?_)
      generalize hv_v7 : (iOr a2 (iShl 1 x5)) = v7
      replace h := h v7 hv_v7.symm
      refine aw_istore_n dX10_carsOn_23 rfl (by decide) (aw_pc (pc' := 24) rfl ?_)
      refine aw_iinc dX10_carsOn_24 rfl (by decide) (aw_pc (pc' := 27) rfl ?_)
      refine aw_goto (tgt := 4) dX10_carsOn_27 rfl ?_
      exact aw_mask [true, true, true, true] (ih _ _ _ _ _ h)
    · replace h := h.2 c
      refine aw_iload_n dX10_carsOn_30 rfl rfl (aw_pc (pc' := 31) rfl ?_)
      exact aw_iret rfl dX10_carsOn_31 ⟨_, rfl, h⟩
def mX10_carsOn (o : Nat) (a1 : Int) (F : hp) (Q : Int → hp → Prop) : Prop := (∃ k1, mX10_carsOn_L4 Q k1 o a1 0 0 F)
set_option maxHeartbeats 4000000 in
theorem tX10_carsOn {d : Nat} {o : Nat} {a1 : Int} {F : hp} {Q : Int → hp → Prop} (h : mX10_carsOn o a1 F Q) : am nX10_carsOn (d + 1) 0 0 [vr (some o), vi a1] F (qI Q) := by
  refine am_of (by decide +kernel) (Nat.le_of_ble_eq_true rfl) ?_
  show aw nX10_carsOn (d + 1) 0 0 0 [some (vr (some o)), some (vi a1), none, none] [] F (qI Q)
  unfold mX10_carsOn at h
  refine aw_iconst dX10_carsOn_0 (aw_pc (pc' := 1) rfl ?_)
  refine aw_istore_n dX10_carsOn_1 rfl (by decide) (aw_pc (pc' := 2) rfl ?_)
  refine aw_iconst dX10_carsOn_2 (aw_pc (pc' := 3) rfl ?_)
  refine aw_istore_n dX10_carsOn_3 rfl (by decide) (aw_pc (pc' := 4) rfl ?_)
  obtain ⟨k1, h⟩ := h
  exact aw_mask [true, true, true, true] (tX10_carsOn_L4 k1 _ _ _ _ _ h)
def mX10_placeOn_L2 (Q : Int → hp → Prop) : Nat → Nat → Int → Int → Int → hp → Prop
  | 0, _, _, _, _, _ => False
  | k + 1, o, a1, a2, a3, F => rcv F (some o) 10 (fun o3 => mX10_countOn o3 a1 F (fun x2 F1 => (w32 a3 < w32 x2 → rcv F1 (some o) 10 (fun o6 => mX10_carAt o6 a1 a3 F1 (fun x5 F4 => (w32 x5 = w32 a2 → Q a3 F4) ∧ (¬ w32 x5 = w32 a2 → mX10_placeOn_L2 Q k o a1 a2 (a3 + 1) F4)))) ∧ (¬ w32 a3 < w32 x2 → Q (-1) F1)))
set_option maxHeartbeats 4000000 in
theorem tX10_placeOn_L2 {d : Nat} {Q : Int → hp → Prop} : ∀ (k : Nat) (o : Nat) (a1 : Int) (a2 : Int) (a3 : Int) (F : hp), mX10_placeOn_L2 Q k o a1 a2 a3 F → aw nX10_placeOn (d + 1) 0 0 2 [some (vr (some o)), some (vi a1), some (vi a2), some (vi a3)] [] F (qI Q) := by
  intro k
  induction k with
  | zero => intro o a1 a2 a3 F h; exact h.elim
  | succ k ih =>
    intro o a1 a2 a3 F h
    simp only [mX10_placeOn_L2] at h
    refine aw_iload_n dX10_placeOn_2 rfl rfl (aw_pc (pc' := 3) rfl ?_)
    refine aw_aload_n dX10_placeOn_3 rfl rfl (aw_pc (pc' := 4) rfl ?_)
    refine aw_iload_n dX10_placeOn_4 rfl rfl (aw_pc (pc' := 5) rfl ?_)
    have h0 := rcv_inv h
    clear h
    obtain ⟨o3, fs_o3, hr_o3, he_o3, h⟩ := h0
    obtain rfl : o = o3 := Option.some.inj hr_o3
    refine ar_VI (kc' := 0) (ks' := 0) (kc := 0) (ks := 0) (a := o) (ci := 10) (as := [vi a1]) (st := [vi a3]) (tX10_countOn h) mt_X10_countOn rfl qM_RX10_25 qI_X10_countOn qV_X10_countOn he_o3 rfl (Nat.le_of_ble_eq_true rfl) dX10_placeOn_5 ?_
    clear h
    intro x2 F1 h
    refine aw_pc (pc' := 8) rfl ?_
    refine ac_ge rfl rfl dX10_placeOn_8 rfl (fun c => ?_) (fun c => ?_)
    · replace h := h.1 c
      refine aw_aload_n dX10_placeOn_11 rfl rfl (aw_pc (pc' := 12) rfl ?_)
      refine aw_iload_n dX10_placeOn_12 rfl rfl (aw_pc (pc' := 13) rfl ?_)
      refine aw_iload_n dX10_placeOn_13 rfl rfl (aw_pc (pc' := 14) rfl ?_)
      have h0 := rcv_inv h
      clear h
      obtain ⟨o6, fs_o6, hr_o6, he_o6, h⟩ := h0
      obtain rfl : o = o6 := Option.some.inj hr_o6
      refine ar_VI (kc' := 0) (ks' := 0) (kc := 0) (ks := 0) (a := o) (ci := 10) (as := [vi a1, vi a3]) (st := []) (tX10_carAt h) mt_X10_carAt rfl qM_RX10_28 qI_X10_carAt qV_X10_carAt he_o6 rfl (Nat.le_of_ble_eq_true rfl) dX10_placeOn_14 ?_
      clear h
      intro x5 F4 h
      refine aw_pc (pc' := 17) rfl ?_
      refine aw_iload_n dX10_placeOn_17 rfl rfl (aw_pc (pc' := 18) rfl ?_)
      refine ac_ne rfl rfl dX10_placeOn_18 rfl (fun c => ?_) (fun c => ?_)
      · replace h := h.1 c
        refine aw_iload_n dX10_placeOn_21 rfl rfl (aw_pc (pc' := 22) rfl ?_)
        exact aw_iret rfl dX10_placeOn_22 ⟨_, rfl, h⟩
      · replace h := h.2 c
        refine aw_iinc dX10_placeOn_23 rfl (by decide) (aw_pc (pc' := 26) rfl ?_)
        refine aw_goto (tgt := 2) dX10_placeOn_26 rfl ?_
        exact aw_mask [true, true, true, true] (ih _ _ _ _ _ h)
    · replace h := h.2 c
      refine aw_iconst dX10_placeOn_29 (aw_pc (pc' := 30) rfl ?_)
      exact aw_iret rfl dX10_placeOn_30 ⟨_, rfl, h⟩
def mX10_placeOn (o : Nat) (a1 : Int) (a2 : Int) (F : hp) (Q : Int → hp → Prop) : Prop := (∃ k1, mX10_placeOn_L2 Q k1 o a1 a2 0 F)
set_option maxHeartbeats 4000000 in
theorem tX10_placeOn {d : Nat} {o : Nat} {a1 : Int} {a2 : Int} {F : hp} {Q : Int → hp → Prop} (h : mX10_placeOn o a1 a2 F Q) : am nX10_placeOn (d + 1) 0 0 [vr (some o), vi a1, vi a2] F (qI Q) := by
  refine am_of (by decide +kernel) (Nat.le_of_ble_eq_true rfl) ?_
  show aw nX10_placeOn (d + 1) 0 0 0 [some (vr (some o)), some (vi a1), some (vi a2), none] [] F (qI Q)
  unfold mX10_placeOn at h
  refine aw_iconst dX10_placeOn_0 (aw_pc (pc' := 1) rfl ?_)
  refine aw_istore_n dX10_placeOn_1 rfl (by decide) (aw_pc (pc' := 2) rfl ?_)
  obtain ⟨k1, h⟩ := h
  exact aw_mask [true, true, true, true] (tX10_placeOn_L2 k1 _ _ _ _ _ h)
def mX10_trackOf_L2 (Q : Int → hp → Prop) : Nat → Nat → Int → Int → hp → Prop
  | 0, _, _, _, _ => False
  | k + 1, o, a1, a2, F => (w32 a2 < 3 → rcv F (some o) 10 (fun o3 => mX10_placeOn o3 a2 a1 F (fun x2 F1 => (w32 x2 = (-1) → mX10_trackOf_L2 Q k o a1 (a2 + 1) F1) ∧ (¬ w32 x2 = (-1) → Q a2 F1)))) ∧ (¬ w32 a2 < 3 → Q (-1) F)
set_option maxHeartbeats 4000000 in
theorem tX10_trackOf_L2 {d : Nat} {Q : Int → hp → Prop} : ∀ (k : Nat) (o : Nat) (a1 : Int) (a2 : Int) (F : hp), mX10_trackOf_L2 Q k o a1 a2 F → aw nX10_trackOf (d + 2) 0 0 2 [some (vr (some o)), some (vi a1), some (vi a2)] [] F (qI Q) := by
  intro k
  induction k with
  | zero => intro o a1 a2 F h; exact h.elim
  | succ k ih =>
    intro o a1 a2 F h
    simp only [mX10_trackOf_L2] at h
    refine aw_iload_n dX10_trackOf_2 rfl rfl (aw_pc (pc' := 3) rfl ?_)
    refine aw_iconst dX10_trackOf_3 (aw_pc (pc' := 4) rfl ?_)
    refine ac_ge rfl wl_3 dX10_trackOf_4 rfl (fun c => ?_) (fun c => ?_)
    · replace h := h.1 c
      refine aw_aload_n dX10_trackOf_7 rfl rfl (aw_pc (pc' := 8) rfl ?_)
      refine aw_iload_n dX10_trackOf_8 rfl rfl (aw_pc (pc' := 9) rfl ?_)
      refine aw_iload_n dX10_trackOf_9 rfl rfl (aw_pc (pc' := 10) rfl ?_)
      have h0 := rcv_inv h
      clear h
      obtain ⟨o3, fs_o3, hr_o3, he_o3, h⟩ := h0
      obtain rfl : o = o3 := Option.some.inj hr_o3
      refine ar_VI (kc' := 0) (ks' := 0) (kc := 0) (ks := 0) (a := o) (ci := 10) (as := [vi a2, vi a1]) (st := []) (tX10_placeOn h) mt_X10_placeOn rfl qM_RX10_32 qI_X10_placeOn qV_X10_placeOn he_o3 rfl (Nat.le_of_ble_eq_true rfl) dX10_trackOf_10 ?_
      clear h
      intro x2 F1 h
      refine aw_pc (pc' := 13) rfl ?_
      refine aw_iconst dX10_trackOf_13 (aw_pc (pc' := 14) rfl ?_)
      refine ac_eq rfl wl_m1 dX10_trackOf_14 rfl (fun c => ?_) (fun c => ?_)
      · replace h := h.1 c
        refine aw_iinc dX10_trackOf_19 rfl (by decide) (aw_pc (pc' := 22) rfl ?_)
        refine aw_goto (tgt := 2) dX10_trackOf_22 rfl ?_
        exact aw_mask [true, true, true] (ih _ _ _ _ h)
      · replace h := h.2 c
        refine aw_iload_n dX10_trackOf_17 rfl rfl (aw_pc (pc' := 18) rfl ?_)
        exact aw_iret rfl dX10_trackOf_18 ⟨_, rfl, h⟩
    · replace h := h.2 c
      refine aw_iconst dX10_trackOf_25 (aw_pc (pc' := 26) rfl ?_)
      exact aw_iret rfl dX10_trackOf_26 ⟨_, rfl, h⟩
def mX10_trackOf (o : Nat) (a1 : Int) (F : hp) (Q : Int → hp → Prop) : Prop := (∃ k1, mX10_trackOf_L2 Q k1 o a1 0 F)
set_option maxHeartbeats 4000000 in
theorem tX10_trackOf {d : Nat} {o : Nat} {a1 : Int} {F : hp} {Q : Int → hp → Prop} (h : mX10_trackOf o a1 F Q) : am nX10_trackOf (d + 2) 0 0 [vr (some o), vi a1] F (qI Q) := by
  refine am_of (by decide +kernel) (Nat.le_of_ble_eq_true rfl) ?_
  show aw nX10_trackOf (d + 2) 0 0 0 [some (vr (some o)), some (vi a1), none] [] F (qI Q)
  unfold mX10_trackOf at h
  refine aw_iconst dX10_trackOf_0 (aw_pc (pc' := 1) rfl ?_)
  refine aw_istore_n dX10_trackOf_1 rfl (by decide) (aw_pc (pc' := 2) rfl ?_)
  obtain ⟨k1, h⟩ := h
  exact aw_mask [true, true, true] (tX10_trackOf_L2 k1 _ _ _ _ h)
def mX10_placeOf (o : Nat) (a1 : Int) (F : hp) (Q : Int → hp → Prop) : Prop := rcv F (some o) 10 (fun o3 => mX10_trackOf o3 a1 F (fun x2 F1 => (w32 x2 = (-1) → Q (-1) F1) ∧ (¬ w32 x2 = (-1) → rcv F1 (some o) 10 (fun o6 => mX10_placeOn o6 x2 a1 F1 (fun x5 F4 => Q x5 F4)))))
set_option maxHeartbeats 4000000 in
theorem tX10_placeOf {d : Nat} {o : Nat} {a1 : Int} {F : hp} {Q : Int → hp → Prop} (h : mX10_placeOf o a1 F Q) : am nX10_placeOf (d + 3) 0 0 [vr (some o), vi a1] F (qI Q) := by
  refine am_of (by decide +kernel) (Nat.le_of_ble_eq_true rfl) ?_
  show aw nX10_placeOf (d + 3) 0 0 0 [some (vr (some o)), some (vi a1), none] [] F (qI Q)
  unfold mX10_placeOf at h
  refine aw_aload_n dX10_placeOf_0 rfl rfl (aw_pc (pc' := 1) rfl ?_)
  refine aw_iload_n dX10_placeOf_1 rfl rfl (aw_pc (pc' := 2) rfl ?_)
  have h0 := rcv_inv h
  clear h
  obtain ⟨o3, fs_o3, hr_o3, he_o3, h⟩ := h0
  obtain rfl : o = o3 := Option.some.inj hr_o3
  refine ar_VI (kc' := 0) (ks' := 0) (kc := 0) (ks := 0) (a := o) (ci := 10) (as := [vi a1]) (st := []) (tX10_trackOf h) mt_X10_trackOf rfl qM_RX10_35 qI_X10_trackOf qV_X10_trackOf he_o3 rfl (Nat.le_of_ble_eq_true rfl) dX10_placeOf_2 ?_
  clear h
  intro x2 F1 h
  refine aw_pc (pc' := 5) rfl ?_
  refine aw_istore_n dX10_placeOf_5 rfl (by decide) (aw_pc (pc' := 6) rfl ?_)
  refine aw_iload_n dX10_placeOf_6 rfl rfl (aw_pc (pc' := 7) rfl ?_)
  refine aw_iconst dX10_placeOf_7 (aw_pc (pc' := 8) rfl ?_)
  refine ac_ne rfl wl_m1 dX10_placeOf_8 rfl (fun c => ?_) (fun c => ?_)
  · replace h := h.1 c
    refine aw_iconst dX10_placeOf_11 (aw_pc (pc' := 12) rfl ?_)
    refine aw_goto (tgt := 21) dX10_placeOf_12 rfl ?_
    exact aw_iret rfl dX10_placeOf_21 ⟨_, rfl, h⟩
  · replace h := h.2 c
    refine aw_aload_n dX10_placeOf_15 rfl rfl (aw_pc (pc' := 16) rfl ?_)
    refine aw_iload_n dX10_placeOf_16 rfl rfl (aw_pc (pc' := 17) rfl ?_)
    refine aw_iload_n dX10_placeOf_17 rfl rfl (aw_pc (pc' := 18) rfl ?_)
    have h0 := rcv_inv h
    clear h
    obtain ⟨o6, fs_o6, hr_o6, he_o6, h⟩ := h0
    obtain rfl : o = o6 := Option.some.inj hr_o6
    refine ar_VI (kc' := 0) (ks' := 0) (kc := 0) (ks := 0) (a := o) (ci := 10) (as := [vi x2, vi a1]) (st := []) (tX10_placeOn h) mt_X10_placeOn rfl qM_RX10_32 qI_X10_placeOn qV_X10_placeOn he_o6 rfl (Nat.le_of_ble_eq_true rfl) dX10_placeOf_18 ?_
    clear h
    intro x5 F4 h
    refine aw_pc (pc' := 21) rfl ?_
    exact aw_iret rfl dX10_placeOf_21 ⟨_, rfl, h⟩
def mX10_countLines (o : Nat) (F : hp) (Q : Int → hp → Prop) : Prop := gR F (some o) 10 0 (fun x1 => aI F x1 0 29 (fun x2 => Q x2 F))
set_option maxHeartbeats 4000000 in
theorem tX10_countLines {d : Nat} {o : Nat} {F : hp} {Q : Int → hp → Prop} (h : mX10_countLines o F Q) : am nX10_countLines d 0 0 [vr (some o)] F (qI Q) := by
  refine am_of (by decide +kernel) (Nat.le_of_ble_eq_true rfl) ?_
  show aw nX10_countLines d 0 0 0 [some (vr (some o))] [] F (qI Q)
  unfold mX10_countLines at h
  refine aw_aload_n dX10_countLines_0 rfl rfl (aw_pc (pc' := 1) rfl ?_)
  refine ar_gR fl_RX10_11 dX10_countLines_1 h ?_
  clear h
  intro x1 h
  refine aw_pc (pc' := 4) rfl ?_
  refine aw_bipush dX10_countLines_4 (by decide) (aw_pc (pc' := 6) rfl ?_)
  refine ar_aI dX10_countLines_6 h ?_
  clear h
  intro x2 h
  refine aw_pc (pc' := 7) rfl ?_
  exact aw_iret rfl dX10_countLines_7 ⟨_, rfl, h⟩
def mX10_lineTells (o : Nat) (a1 : Int) (a2 : Int) (F : hp) (Q : Int → hp → Prop) : Prop := gR F (some o) 10 0 (fun x1 => aI F x1 0 (30 + a1) (fun x2 => (w32 a2 = 0 → Q (iShr x2 8) F) ∧ (w32 a2 = 1 → Q ((iAnd (iShr x2 4) 15) - 1) F) ∧ (w32 a2 = 2 → Q (iAnd (iShr x2 2) 3) F) ∧ (w32 a2 < 0 ∨ 2 < w32 a2 → Q (iAnd x2 3) F)))
set_option maxHeartbeats 4000000 in
theorem tX10_lineTells {d : Nat} {o : Nat} {a1 : Int} {a2 : Int} {F : hp} {Q : Int → hp → Prop} (h : mX10_lineTells o a1 a2 F Q) : am nX10_lineTells d 0 0 [vr (some o), vi a1, vi a2] F (qI Q) := by
  refine am_of (by decide +kernel) (Nat.le_of_ble_eq_true rfl) ?_
  show aw nX10_lineTells d 0 0 0 [some (vr (some o)), some (vi a1), some (vi a2), none] [] F (qI Q)
  unfold mX10_lineTells at h
  refine aw_aload_n dX10_lineTells_0 rfl rfl (aw_pc (pc' := 1) rfl ?_)
  refine ar_gR fl_RX10_11 dX10_lineTells_1 h ?_
  clear h
  intro x1 h
  refine aw_pc (pc' := 4) rfl ?_
  refine aw_bipush dX10_lineTells_4 (by decide) (aw_pc (pc' := 6) rfl ?_)
  refine aw_iload_n dX10_lineTells_6 rfl rfl (aw_pc (pc' := 7) rfl ?_)
  refine aw_iadd dX10_lineTells_7 (aw_pc (pc' := 8) rfl ?_)
  refine ar_aI dX10_lineTells_8 h ?_
  clear h
  intro x2 h
  refine aw_pc (pc' := 9) rfl ?_
  refine aw_istore_n dX10_lineTells_9 rfl (by decide) (aw_pc (pc' := 10) rfl ?_)
  refine aw_iload_n dX10_lineTells_10 rfl rfl (aw_pc (pc' := 11) rfl ?_)
  refine aw_table dX10_lineTells_11 (td := 56) rfl (fun j => [36, 41, 50].getD j 0) rfl (by decide) (fun j hj hx => ?_) (fun hx => ?_)
  · have hj : j = 0 ∨ j = 1 ∨ j = 2 := by (simp at hj; omega)
    rcases hj with rfl | rfl | rfl
    · replace h := h.1 (by omega)
      refine aw_pc (pc' := 36) rfl ?_
      refine aw_iload_n dX10_lineTells_36 rfl rfl (aw_pc (pc' := 37) rfl ?_)
      refine aw_bipush dX10_lineTells_37 (by decide) (aw_pc (pc' := 39) rfl ?_)
      refine aw_ishr dX10_lineTells_39 (aw_pc (pc' := 40) rfl ?_)
      exact aw_iret rfl dX10_lineTells_40 ⟨_, rfl, h⟩
    · replace h := h.2.1 (by omega)
      refine aw_pc (pc' := 41) rfl ?_
      refine aw_iload_n dX10_lineTells_41 rfl rfl (aw_pc (pc' := 42) rfl ?_)
      refine aw_iconst dX10_lineTells_42 (aw_pc (pc' := 43) rfl ?_)
      refine aw_ishr dX10_lineTells_43 (aw_pc (pc' := 44) rfl ?_)
      refine aw_bipush dX10_lineTells_44 (by decide) (aw_pc (pc' := 46) rfl ?_)
      refine aw_iand dX10_lineTells_46 (aw_pc (pc' := 47) rfl ?_)
      refine aw_iconst dX10_lineTells_47 (aw_pc (pc' := 48) rfl ?_)
      refine aw_isub dX10_lineTells_48 (aw_pc (pc' := 49) rfl ?_)
      exact aw_iret rfl dX10_lineTells_49 ⟨_, rfl, h⟩
    · replace h := h.2.2.1 (by omega)
      refine aw_pc (pc' := 50) rfl ?_
      refine aw_iload_n dX10_lineTells_50 rfl rfl (aw_pc (pc' := 51) rfl ?_)
      refine aw_iconst dX10_lineTells_51 (aw_pc (pc' := 52) rfl ?_)
      refine aw_ishr dX10_lineTells_52 (aw_pc (pc' := 53) rfl ?_)
      refine aw_iconst dX10_lineTells_53 (aw_pc (pc' := 54) rfl ?_)
      refine aw_iand dX10_lineTells_54 (aw_pc (pc' := 55) rfl ?_)
      exact aw_iret rfl dX10_lineTells_55 ⟨_, rfl, h⟩
  · replace h := h.2.2.2 hx
    refine aw_iload_n dX10_lineTells_56 rfl rfl (aw_pc (pc' := 57) rfl ?_)
    refine aw_iconst dX10_lineTells_57 (aw_pc (pc' := 58) rfl ?_)
    refine aw_iand dX10_lineTells_58 (aw_pc (pc' := 59) rfl ?_)
    exact aw_iret rfl dX10_lineTells_59 ⟨_, rfl, h⟩
