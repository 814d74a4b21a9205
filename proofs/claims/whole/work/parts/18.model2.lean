def mX12_lawClause (o : Nat) (a1 : Int) (F : hp) (Q : Int → hp → Prop) : Prop := gR F (some o) 12 2 (fun x1 => gI F (some o) 12 13 (fun x2 => sI F x1 0 (a1 + 1) x2 (fun F3 => rcv F3 (some o) 12 (fun o6 => mX12_summed o6 F3 (fun x5 F4 => gR F4 (some o) 12 2 (fun x7 => gI F4 (some o) 12 13 (fun x8 => sI F4 x7 0 (a1 + 2) x8 (fun F9 => Q x5 F9))))))))
set_option maxHeartbeats 4000000 in
theorem tX12_lawClause {d : Nat} {o : Nat} {a1 : Int} {F : hp} {Q : Int → hp → Prop} (h : mX12_lawClause o a1 F Q) : am nX12_lawClause (d + 8) 0 0 [vr (some o), vi a1] F (qI Q) := by
  refine am_of (by decide +kernel) (Nat.le_of_ble_eq_true rfl) ?_
  show aw nX12_lawClause (d + 8) 0 0 0 [some (vr (some o)), some (vi a1), none] [] F (qI Q)
  unfold mX12_lawClause at h
  refine aw_aload_n dX12_lawClause_0 rfl rfl (aw_pc (pc' := 1) rfl ?_)
  refine ar_gR fl_RX12_16 dX12_lawClause_1 h ?_
  clear h
  intro x1 h
  refine aw_pc (pc' := 4) rfl ?_
  refine aw_iload_n dX12_lawClause_4 rfl rfl (aw_pc (pc' := 5) rfl ?_)
  refine aw_iconst dX12_lawClause_5 (aw_pc (pc' := 6) rfl ?_)
  refine aw_iadd dX12_lawClause_6 (aw_pc (pc' := 7) rfl ?_)
  refine aw_aload_n dX12_lawClause_7 rfl rfl (aw_pc (pc' := 8) rfl ?_)
  refine ar_gI fl_RX12_163 dX12_lawClause_8 h ?_
  clear h
  intro x2 h
  refine aw_pc (pc' := 11) rfl ?_
  refine ar_sI dX12_lawClause_11 h ?_
  clear h
  intro F3 h
  refine aw_pc (pc' := 12) rfl ?_
  refine aw_aload_n dX12_lawClause_12 rfl rfl (aw_pc (pc' := 13) rfl ?_)
  have h0 := rcv_inv h
  clear h
  obtain ⟨o6, fs_o6, hr_o6, he_o6, h⟩ := h0
  obtain rfl : o = o6 := Option.some.inj hr_o6
  refine ar_VI (kc' := 0) (ks' := 0) (kc := 0) (ks := 0) (a := o) (ci := 12) (as := []) (st := []) (tX12_summed h) mt_X12_summed rfl qM_RX12_236 qI_X12_summed qV_X12_summed he_o6 rfl (Nat.le_of_ble_eq_true rfl) dX12_lawClause_13 ?_
  clear h
  intro x5 F4 h
  refine aw_pc (pc' := 16) rfl ?_
  refine aw_istore_n dX12_lawClause_16 rfl (by decide) (aw_pc (pc' := 17) rfl ?_)
  refine aw_aload_n dX12_lawClause_17 rfl rfl (aw_pc (pc' := 18) rfl ?_)
  refine ar_gR fl_RX12_16 dX12_lawClause_18 h ?_
  clear h
  intro x7 h
  refine aw_pc (pc' := 21) rfl ?_
  refine aw_iload_n dX12_lawClause_21 rfl rfl (aw_pc (pc' := 22) rfl ?_)
  refine aw_iconst dX12_lawClause_22 (aw_pc (pc' := 23) rfl ?_)
  refine aw_iadd dX12_lawClause_23 (aw_pc (pc' := 24) rfl ?_)
  refine aw_aload_n dX12_lawClause_24 rfl rfl (aw_pc (pc' := 25) rfl ?_)
  refine ar_gI fl_RX12_163 dX12_lawClause_25 h ?_
  clear h
  intro x8 h
  refine aw_pc (pc' := 28) rfl ?_
  refine ar_sI dX12_lawClause_28 h ?_
  clear h
  intro F9 h
  refine aw_pc (pc' := 29) rfl ?_
  refine aw_iload_n dX12_lawClause_29 rfl rfl (aw_pc (pc' := 30) rfl ?_)
  exact aw_iret rfl dX12_lawClause_30 ⟨_, rfl, h⟩
def mX12_pair (o : Nat) (a1 : Int) (a2 : Int) (a3 : Int) (a4 : Int) (a6 : Int) (a7 : Int) (F : hp) (Q : Int → hp → Prop) : Prop := rcv F (some o) 12 (fun o3 => mX12_figure o3 (a1 + 1) a2 a3 F (fun x2 F1 => (w32 x2 = 0 → rcv F1 (some o) 12 (fun o6 => mX12_isWord o6 a4 F1 (fun x5 F4 => (w32 x5 = 0 → Q 1 F4) ∧ (¬ w32 x5 = 0 → rcv F4 (some o) 12 (fun o8 => mX12_nextToken o8 F4 (fun F7 => rcv F7 (some o) 12 (fun o11 => mX12_figure o11 (a1 + 2) a6 a7 F7 (fun x10 F9 => Q x10 F9)))))))) ∧ (¬ w32 x2 = 0 → Q x2 F1)))
set_option maxHeartbeats 4000000 in
theorem tX12_pair {d : Nat} {o : Nat} {a1 : Int} {a2 : Int} {a3 : Int} {a4 : Int} {a6 : Int} {a7 : Int} {F : hp} {Q : Int → hp → Prop} (h : mX12_pair o a1 a2 a3 a4 a6 a7 F Q) : am nX12_pair (d + 3) 0 0 [vr (some o), vi a1, vi a2, vi a3, vl a4, vi a6, vi a7] F (qI Q) := by
  refine am_of (by decide +kernel) (Nat.le_of_ble_eq_true rfl) ?_
  show aw nX12_pair (d + 3) 0 0 0 [some (vr (some o)), some (vi a1), some (vi a2), some (vi a3), some (vl a4), none, some (vi a6), some (vi a7), none] [] F (qI Q)
  unfold mX12_pair at h
  refine aw_aload_n dX12_pair_0 rfl rfl (aw_pc (pc' := 1) rfl ?_)
  refine aw_iload_n dX12_pair_1 rfl rfl (aw_pc (pc' := 2) rfl ?_)
  refine aw_iconst dX12_pair_2 (aw_pc (pc' := 3) rfl ?_)
  refine aw_iadd dX12_pair_3 (aw_pc (pc' := 4) rfl ?_)
  refine aw_iload_n dX12_pair_4 rfl rfl (aw_pc (pc' := 5) rfl ?_)
  refine aw_iload_n dX12_pair_5 rfl rfl (aw_pc (pc' := 6) rfl ?_)
  have h0 := rcv_inv h
  clear h
  obtain ⟨o3, fs_o3, hr_o3, he_o3, h⟩ := h0
  obtain rfl : o = o3 := Option.some.inj hr_o3
  refine ar_VI (kc' := 0) (ks' := 0) (kc := 0) (ks := 0) (a := o) (ci := 12) (as := [vi (a1 + 1), vi a2, vi a3]) (st := []) (tX12_figure h) mt_X12_figure rfl qM_RX12_239 qI_X12_figure qV_X12_figure he_o3 rfl (Nat.le_of_ble_eq_true rfl) dX12_pair_6 ?_
  clear h
  intro x2 F1 h
  refine aw_pc (pc' := 9) rfl ?_
  refine aw_istore dX12_pair_9 (by decide) (aw_pc (pc' := 11) rfl ?_)
  refine aw_iload dX12_pair_11 rfl (aw_pc (pc' := 13) rfl ?_)
  refine aw_if_eq dX12_pair_13 rfl (fun c => ?_) (fun c => ?_)
  · replace h := h.1 c
    refine aw_aload_n dX12_pair_19 rfl rfl (aw_pc (pc' := 20) rfl ?_)
    refine aw_lload dX12_pair_20 rfl (aw_pc (pc' := 22) rfl ?_)
    have h0 := rcv_inv h
    clear h
    obtain ⟨o6, fs_o6, hr_o6, he_o6, h⟩ := h0
    obtain rfl : o = o6 := Option.some.inj hr_o6
    refine ar_VI (kc' := 0) (ks' := 0) (kc := 0) (ks := 0) (a := o) (ci := 12) (as := [vl a4]) (st := []) (tX12_isWord h) mt_X12_isWord rfl qM_RX12_210 qI_X12_isWord qV_X12_isWord he_o6 rfl (Nat.le_of_ble_eq_true rfl) dX12_pair_22 ?_
    clear h
    intro x5 F4 h
    refine aw_pc (pc' := 25) rfl ?_
    refine aw_if_ne dX12_pair_25 rfl (fun c => ?_) (fun c => ?_)
    · replace h := h.1 c
      refine aw_iconst dX12_pair_28 (aw_pc (pc' := 29) rfl ?_)
      exact aw_iret rfl dX12_pair_29 ⟨_, rfl, h⟩
    · replace h := h.2 c
      refine aw_aload_n dX12_pair_30 rfl rfl (aw_pc (pc' := 31) rfl ?_)
      have h0 := rcv_inv h
      clear h
      obtain ⟨o8, fs_o8, hr_o8, he_o8, h⟩ := h0
      obtain rfl : o = o8 := Option.some.inj hr_o8
      refine ar_VV (kc' := 0) (ks' := 0) (kc := 0) (ks := 0) (a := o) (ci := 12) (as := []) (st := []) (tX12_nextToken h) mt_X12_nextToken rfl qM_RX12_192 qI_X12_nextToken qV_X12_nextToken he_o8 rfl (Nat.le_of_ble_eq_true rfl) dX12_pair_31 ?_
      clear h
      intro F7 h
      refine aw_pc (pc' := 34) rfl ?_
      refine aw_aload_n dX12_pair_34 rfl rfl (aw_pc (pc' := 35) rfl ?_)
      refine aw_iload_n dX12_pair_35 rfl rfl (aw_pc (pc' := 36) rfl ?_)
      refine aw_iconst dX12_pair_36 (aw_pc (pc' := 37) rfl ?_)
      refine aw_iadd dX12_pair_37 (aw_pc (pc' := 38) rfl ?_)
      refine aw_iload dX12_pair_38 rfl (aw_pc (pc' := 40) rfl ?_)
      refine aw_iload dX12_pair_40 rfl (aw_pc (pc' := 42) rfl ?_)
      have h0 := rcv_inv h
      clear h
      obtain ⟨o11, fs_o11, hr_o11, he_o11, h⟩ := h0
      obtain rfl : o = o11 := Option.some.inj hr_o11
      refine ar_VI (kc' := 0) (ks' := 0) (kc := 0) (ks := 0) (a := o) (ci := 12) (as := [vi (a1 + 2), vi a6, vi a7]) (st := []) (tX12_figure h) mt_X12_figure rfl qM_RX12_239 qI_X12_figure qV_X12_figure he_o11 rfl (Nat.le_of_ble_eq_true rfl) dX12_pair_42 ?_
      clear h
      intro x10 F9 h
      refine aw_pc (pc' := 45) rfl ?_
      exact aw_iret rfl dX12_pair_45 ⟨_, rfl, h⟩
  · replace h := h.2 c
    refine aw_iload dX12_pair_16 rfl (aw_pc (pc' := 18) rfl ?_)
    exact aw_iret rfl dX12_pair_18 ⟨_, rfl, h⟩
def mX12_body (o : Nat) (a1 : Int) (a2 : Int) (F : hp) (Q : Int → hp → Prop) : Prop := (w32 a1 = 2 → mX12_w4 108 111 97 100 F (fun x2 F1 => rcv F1 (some o) 12 (fun o5 => mX12_pair o5 a2 0 3 x2 1 9 F1 (fun x4 F3 => Q x4 F3)))) ∧ (w32 a1 = 3 → mX12_w2 98 121 F (fun x7 F6 => rcv F6 (some o) 12 (fun o10 => mX12_pair o10 a2 0 3 x7 0 3 F6 (fun x9 F8 => Q x9 F8)))) ∧ (w32 a1 = 4 → mX12_w2 116 111 F (fun x12 F11 => rcv F11 (some o) 12 (fun o15 => mX12_pair o15 a2 0 2 x12 0 2 F11 (fun x14 F13 => Q x14 F13)))) ∧ (w32 a1 = 5 → Q 0 F) ∧ (w32 a1 = 6 → mX12_w2 111 102 F (fun x17 F16 => rcv F16 (some o) 12 (fun o20 => mX12_pair o20 a2 1 9 x17 0 1 F16 (fun x19 F18 => Q x19 F18)))) ∧ (w32 a1 = 7 → rcv F (some o) 12 (fun o23 => mX12_figure o23 (a2 + 1) 1 60 F (fun x22 F21 => Q x22 F21))) ∧ (w32 a1 < 2 ∨ 7 < w32 a1 → rcv F (some o) 12 (fun o26 => mX12_lawClause o26 a2 F (fun x25 F24 => Q x25 F24)))
set_option maxHeartbeats 4000000 in
theorem tX12_body {d : Nat} {o : Nat} {a1 : Int} {a2 : Int} {F : hp} {Q : Int → hp → Prop} (h : mX12_body o a1 a2 F Q) : am nX12_body (d + 9) 0 0 [vr (some o), vi a1, vi a2] F (qI Q) := by
  refine am_of (by decide +kernel) (Nat.le_of_ble_eq_true rfl) ?_
  show aw nX12_body (d + 9) 0 0 0 [some (vr (some o)), some (vi a1), some (vi a2)] [] F (qI Q)
  unfold mX12_body at h
  refine aw_iload_n dX12_body_0 rfl rfl (aw_pc (pc' := 1) rfl ?_)
  refine aw_table dX12_body_1 (td := 127) rfl (fun j => [40, 62, 79, 96, 98, 116].getD j 0) rfl (by decide) (fun j hj hx => ?_) (fun hx => ?_)
  · have hj : j = 0 ∨ j = 1 ∨ j = 2 ∨ j = 3 ∨ j = 4 ∨ j = 5 := by (simp at hj; omega)
    rcases hj with rfl | rfl | rfl | rfl | rfl | rfl
    · replace h := h.1 (by omega)
      refine aw_pc (pc' := 40) rfl ?_
      refine aw_aload_n dX12_body_40 rfl rfl (aw_pc (pc' := 41) rfl ?_)
      refine aw_iload_n dX12_body_41 rfl rfl (aw_pc (pc' := 42) rfl ?_)
      refine aw_iconst dX12_body_42 (aw_pc (pc' := 43) rfl ?_)
      refine aw_iconst dX12_body_43 (aw_pc (pc' := 44) rfl ?_)
      refine aw_bipush dX12_body_44 (by decide) (aw_pc (pc' := 46) rfl ?_)
      refine aw_bipush dX12_body_46 (by decide) (aw_pc (pc' := 48) rfl ?_)
      refine aw_bipush dX12_body_48 (by decide) (aw_pc (pc' := 50) rfl ?_)
      refine aw_bipush dX12_body_50 (by decide) (aw_pc (pc' := 52) rfl ?_)
      refine ar_SL (kc' := 0) (ks' := 0) (kc := 0) (ks := 0) (as := [vi 108, vi 111, vi 97, vi 100]) (st := [vi 3, vi 0, vi a2, vr (some o)]) (tX12_w4 h) mt_X12_w4 qM_RX12_152 qS_X12_w4 rfl (Nat.le_of_ble_eq_true rfl) dX12_body_52 ?_
      clear h
      intro x2 F1 h
      refine aw_pc (pc' := 55) rfl ?_
      refine aw_iconst dX12_body_55 (aw_pc (pc' := 56) rfl ?_)
      refine aw_bipush dX12_body_56 (by decide) (aw_pc (pc' := 58) rfl ?_)
      have h0 := rcv_inv h
      clear h
      obtain ⟨o5, fs_o5, hr_o5, he_o5, h⟩ := h0
      obtain rfl : o = o5 := Option.some.inj hr_o5
      refine ar_VI (kc' := 0) (ks' := 0) (kc := 0) (ks := 0) (a := o) (ci := 12) (as := [vi a2, vi 0, vi 3, vl x2, vi 1, vi 9]) (st := []) (tX12_pair h) mt_X12_pair rfl qM_RX12_243 qI_X12_pair qV_X12_pair he_o5 rfl (Nat.le_of_ble_eq_true rfl) dX12_body_58 ?_
      clear h
      intro x4 F3 h
      refine aw_pc (pc' := 61) rfl ?_
      exact aw_iret rfl dX12_body_61 ⟨_, rfl, h⟩
    · replace h := h.2.1 (by omega)
      refine aw_pc (pc' := 62) rfl ?_
      refine aw_aload_n dX12_body_62 rfl rfl (aw_pc (pc' := 63) rfl ?_)
      refine aw_iload_n dX12_body_63 rfl rfl (aw_pc (pc' := 64) rfl ?_)
      refine aw_iconst dX12_body_64 (aw_pc (pc' := 65) rfl ?_)
      refine aw_iconst dX12_body_65 (aw_pc (pc' := 66) rfl ?_)
      refine aw_bipush dX12_body_66 (by decide) (aw_pc (pc' := 68) rfl ?_)
      refine aw_bipush dX12_body_68 (by decide) (aw_pc (pc' := 70) rfl ?_)
      refine ar_SL (kc' := 0) (ks' := 0) (kc := 0) (ks := 0) (as := [vi 98, vi 121]) (st := [vi 3, vi 0, vi a2, vr (some o)]) (tX12_w2 h) mt_X12_w2 qM_RX12_144 qS_X12_w2 rfl (Nat.le_of_ble_eq_true rfl) dX12_body_70 ?_
      clear h
      intro x7 F6 h
      refine aw_pc (pc' := 73) rfl ?_
      refine aw_iconst dX12_body_73 (aw_pc (pc' := 74) rfl ?_)
      refine aw_iconst dX12_body_74 (aw_pc (pc' := 75) rfl ?_)
      have h0 := rcv_inv h
      clear h
      obtain ⟨o10, fs_o10, hr_o10, he_o10, h⟩ := h0
      obtain rfl : o = o10 := Option.some.inj hr_o10
      refine ar_VI (kc' := 0) (ks' := 0) (kc := 0) (ks := 0) (a := o) (ci := 12) (as := [vi a2, vi 0, vi 3, vl x7, vi 0, vi 3]) (st := []) (tX12_pair h) mt_X12_pair rfl qM_RX12_243 qI_X12_pair qV_X12_pair he_o10 rfl (Nat.le_of_ble_eq_true rfl) dX12_body_75 ?_
      clear h
      intro x9 F8 h
      refine aw_pc (pc' := 78) rfl ?_
      exact aw_iret rfl dX12_body_78 ⟨_, rfl, h⟩
    · replace h := h.2.2.1 (by omega)
      refine aw_pc (pc' := 79) rfl ?_
      refine aw_aload_n dX12_body_79 rfl rfl (aw_pc (pc' := 80) rfl ?_)
      refine aw_iload_n dX12_body_80 rfl rfl (aw_pc (pc' := 81) rfl ?_)
      refine aw_iconst dX12_body_81 (aw_pc (pc' := 82) rfl ?_)
      refine aw_iconst dX12_body_82 (aw_pc (pc' := 83) rfl ?_)
      refine aw_bipush dX12_body_83 (by decide) (aw_pc (pc' := 85) rfl ?_)
      refine aw_bipush dX12_body_85 (by decide) (aw_pc (pc' := 87) rfl ?_)
      refine ar_SL (kc' := 0) (ks' := 0) (kc := 0) (ks := 0) (as := [vi 116, vi 111]) (st := [vi 2, vi 0, vi a2, vr (some o)]) (tX12_w2 h) mt_X12_w2 qM_RX12_144 qS_X12_w2 rfl (Nat.le_of_ble_eq_true rfl) dX12_body_87 ?_
      clear h
      intro x12 F11 h
      refine aw_pc (pc' := 90) rfl ?_
      refine aw_iconst dX12_body_90 (aw_pc (pc' := 91) rfl ?_)
      refine aw_iconst dX12_body_91 (aw_pc (pc' := 92) rfl ?_)
      have h0 := rcv_inv h
      clear h
      obtain ⟨o15, fs_o15, hr_o15, he_o15, h⟩ := h0
      obtain rfl : o = o15 := Option.some.inj hr_o15
      refine ar_VI (kc' := 0) (ks' := 0) (kc := 0) (ks := 0) (a := o) (ci := 12) (as := [vi a2, vi 0, vi 2, vl x12, vi 0, vi 2]) (st := []) (tX12_pair h) mt_X12_pair rfl qM_RX12_243 qI_X12_pair qV_X12_pair he_o15 rfl (Nat.le_of_ble_eq_true rfl) dX12_body_92 ?_
      clear h
      intro x14 F13 h
      refine aw_pc (pc' := 95) rfl ?_
      exact aw_iret rfl dX12_body_95 ⟨_, rfl, h⟩
    · replace h := h.2.2.2.1 (by omega)
      refine aw_pc (pc' := 96) rfl ?_
      refine aw_iconst dX12_body_96 (aw_pc (pc' := 97) rfl ?_)
      exact aw_iret rfl dX12_body_97 ⟨_, rfl, h⟩
    · replace h := h.2.2.2.2.1 (by omega)
      refine aw_pc (pc' := 98) rfl ?_
      refine aw_aload_n dX12_body_98 rfl rfl (aw_pc (pc' := 99) rfl ?_)
      refine aw_iload_n dX12_body_99 rfl rfl (aw_pc (pc' := 100) rfl ?_)
      refine aw_iconst dX12_body_100 (aw_pc (pc' := 101) rfl ?_)
      refine aw_bipush dX12_body_101 (by decide) (aw_pc (pc' := 103) rfl ?_)
      refine aw_bipush dX12_body_103 (by decide) (aw_pc (pc' := 105) rfl ?_)
      refine aw_bipush dX12_body_105 (by decide) (aw_pc (pc' := 107) rfl ?_)
      refine ar_SL (kc' := 0) (ks' := 0) (kc := 0) (ks := 0) (as := [vi 111, vi 102]) (st := [vi 9, vi 1, vi a2, vr (some o)]) (tX12_w2 h) mt_X12_w2 qM_RX12_144 qS_X12_w2 rfl (Nat.le_of_ble_eq_true rfl) dX12_body_107 ?_
      clear h
      intro x17 F16 h
      refine aw_pc (pc' := 110) rfl ?_
      refine aw_iconst dX12_body_110 (aw_pc (pc' := 111) rfl ?_)
      refine aw_iconst dX12_body_111 (aw_pc (pc' := 112) rfl ?_)
      have h0 := rcv_inv h
      clear h
      obtain ⟨o20, fs_o20, hr_o20, he_o20, h⟩ := h0
      obtain rfl : o = o20 := Option.some.inj hr_o20
      refine ar_VI (kc' := 0) (ks' := 0) (kc := 0) (ks := 0) (a := o) (ci := 12) (as := [vi a2, vi 1, vi 9, vl x17, vi 0, vi 1]) (st := []) (tX12_pair h) mt_X12_pair rfl qM_RX12_243 qI_X12_pair qV_X12_pair he_o20 rfl (Nat.le_of_ble_eq_true rfl) dX12_body_112 ?_
      clear h
      intro x19 F18 h
      refine aw_pc (pc' := 115) rfl ?_
      exact aw_iret rfl dX12_body_115 ⟨_, rfl, h⟩
    · replace h := h.2.2.2.2.2.1 (by omega)
      refine aw_pc (pc' := 116) rfl ?_
      refine aw_aload_n dX12_body_116 rfl rfl (aw_pc (pc' := 117) rfl ?_)
      refine aw_iload_n dX12_body_117 rfl rfl (aw_pc (pc' := 118) rfl ?_)
      refine aw_iconst dX12_body_118 (aw_pc (pc' := 119) rfl ?_)
      refine aw_iadd dX12_body_119 (aw_pc (pc' := 120) rfl ?_)
      refine aw_iconst dX12_body_120 (aw_pc (pc' := 121) rfl ?_)
      refine aw_bipush dX12_body_121 (by decide) (aw_pc (pc' := 123) rfl ?_)
      have h0 := rcv_inv h
      clear h
      obtain ⟨o23, fs_o23, hr_o23, he_o23, h⟩ := h0
      obtain rfl : o = o23 := Option.some.inj hr_o23
      refine ar_VI (kc' := 0) (ks' := 0) (kc := 0) (ks := 0) (a := o) (ci := 12) (as := [vi (a2 + 1), vi 1, vi 60]) (st := []) (tX12_figure h) mt_X12_figure rfl qM_RX12_239 qI_X12_figure qV_X12_figure he_o23 rfl (Nat.le_of_ble_eq_true rfl) dX12_body_123 ?_
      clear h
      intro x22 F21 h
      refine aw_pc (pc' := 126) rfl ?_
      exact aw_iret rfl dX12_body_126 ⟨_, rfl, h⟩
  · replace h := h.2.2.2.2.2.2 hx
    refine aw_aload_n dX12_body_127 rfl rfl (aw_pc (pc' := 128) rfl ?_)
    refine aw_iload_n dX12_body_128 rfl rfl (aw_pc (pc' := 129) rfl ?_)
    have h0 := rcv_inv h
    clear h
    obtain ⟨o26, fs_o26, hr_o26, he_o26, h⟩ := h0
    obtain rfl : o = o26 := Option.some.inj hr_o26
    refine ar_VI (kc' := 0) (ks' := 0) (kc := 0) (ks := 0) (a := o) (ci := 12) (as := [vi a2]) (st := []) (tX12_lawClause h) mt_X12_lawClause rfl qM_RX12_247 qI_X12_lawClause qV_X12_lawClause he_o26 rfl (Nat.le_of_ble_eq_true rfl) dX12_body_129 ?_
    clear h
    intro x25 F24 h
    refine aw_pc (pc' := 132) rfl ?_
    exact aw_iret rfl dX12_body_132 ⟨_, rfl, h⟩
def mX12_sortOf (o : Nat) (F : hp) (Q : Int → hp → Prop) : Prop := mX12_w5 109 111 118 101 115 F (fun x2 F1 => rcv F1 (some o) 12 (fun o5 => mX12_isWord o5 x2 F1 (fun x4 F3 => (w32 x4 = 0 → rcv F3 (some o) 12 (fun o8 => mX12_isChanges o8 F3 (fun x7 F6 => (w32 x7 = 0 → mX12_w3 99 97 114 F6 (fun x10 F9 => rcv F9 (some o) 12 (fun o13 => mX12_isWord o13 x10 F9 (fun x12 F11 => (w32 x12 = 0 → mX12_w6 102 111 114 98 105 100 F11 (fun x15 F14 => rcv F14 (some o) 12 (fun o18 => mX12_isWord o18 x15 F14 (fun x17 F16 => (w32 x17 = 0 → mX12_w4 109 111 118 101 F16 (fun x20 F19 => rcv F19 (some o) 12 (fun o23 => mX12_isWord o23 x20 F19 (fun x22 F21 => (w32 x22 = 0 → mX12_w6 99 104 97 110 103 101 F21 (fun x25 F24 => rcv F24 (some o) 12 (fun o28 => mX12_isWord o28 x25 F24 (fun x27 F26 => (w32 x27 = 0 → mX12_w4 108 101 110 100 F26 (fun x30 F29 => rcv F29 (some o) 12 (fun o33 => mX12_isWord o33 x30 F29 (fun x32 F31 => (w32 x32 = 0 → mX12_w4 104 111 117 114 F31 (fun x35 F34 => rcv F34 (some o) 12 (fun o38 => mX12_isWord o38 x35 F34 (fun x37 F36 => (w32 x37 = 0 → Q (-1) F36) ∧ (¬ w32 x37 = 0 → Q 7 F36))))) ∧ (¬ w32 x32 = 0 → Q 6 F31))))) ∧ (¬ w32 x27 = 0 → Q 5 F26))))) ∧ (¬ w32 x22 = 0 → Q 4 F21))))) ∧ (¬ w32 x17 = 0 → Q 3 F16))))) ∧ (¬ w32 x12 = 0 → Q 2 F11))))) ∧ (¬ w32 x7 = 0 → Q 1 F6)))) ∧ (¬ w32 x4 = 0 → Q 0 F3))))
set_option maxHeartbeats 4000000 in
theorem tX12_sortOf {d : Nat} {o : Nat} {F : hp} {Q : Int → hp → Prop} (h : mX12_sortOf o F Q) : am nX12_sortOf (d + 5) 0 0 [vr (some o)] F (qI Q) := by
  refine am_of (by decide +kernel) (Nat.le_of_ble_eq_true rfl) ?_
  show aw nX12_sortOf (d + 5) 0 0 0 [some (vr (some o))] [] F (qI Q)
  unfold mX12_sortOf at h
  refine aw_aload_n dX12_sortOf_0 rfl rfl (aw_pc (pc' := 1) rfl ?_)
  refine aw_bipush dX12_sortOf_1 (by decide) (aw_pc (pc' := 3) rfl ?_)
  refine aw_bipush dX12_sortOf_3 (by decide) (aw_pc (pc' := 5) rfl ?_)
  refine aw_bipush dX12_sortOf_5 (by decide) (aw_pc (pc' := 7) rfl ?_)
  refine aw_bipush dX12_sortOf_7 (by decide) (aw_pc (pc' := 9) rfl ?_)
  refine aw_bipush dX12_sortOf_9 (by decide) (aw_pc (pc' := 11) rfl ?_)
  refine ar_SL (kc' := 0) (ks' := 0) (kc := 0) (ks := 0) (as := [vi 109, vi 111, vi 118, vi 101, vi 115]) (st := [vr (some o)]) (tX12_w5 h) mt_X12_w5 qM_RX12_156 qS_X12_w5 rfl (Nat.le_of_ble_eq_true rfl) dX12_sortOf_11 ?_
  clear h
  intro x2 F1 h
  refine aw_pc (pc' := 14) rfl ?_
  have h0 := rcv_inv h
  clear h
  obtain ⟨o5, fs_o5, hr_o5, he_o5, h⟩ := h0
  obtain rfl : o = o5 := Option.some.inj hr_o5
  refine ar_VI (kc' := 0) (ks' := 0) (kc := 0) (ks := 0) (a := o) (ci := 12) (as := [vl x2]) (st := []) (tX12_isWord h) mt_X12_isWord rfl qM_RX12_210 qI_X12_isWord qV_X12_isWord he_o5 rfl (Nat.le_of_ble_eq_true rfl) dX12_sortOf_14 ?_
  clear h
  intro x4 F3 h
  refine aw_pc (pc' := 17) rfl ?_
  refine aw_if_eq dX12_sortOf_17 rfl (fun c => ?_) (fun c => ?_)
  · replace h := h.1 c
    refine aw_aload_n dX12_sortOf_22 rfl rfl (aw_pc (pc' := 23) rfl ?_)
    have h0 := rcv_inv h
    clear h
    obtain ⟨o8, fs_o8, hr_o8, he_o8, h⟩ := h0
    obtain rfl : o = o8 := Option.some.inj hr_o8
    refine ar_VI (kc' := 0) (ks' := 0) (kc := 0) (ks := 0) (a := o) (ci := 12) (as := []) (st := []) (tX12_isChanges h) mt_X12_isChanges rfl qM_RX12_250 qI_X12_isChanges qV_X12_isChanges he_o8 rfl (Nat.le_of_ble_eq_true rfl) dX12_sortOf_23 ?_
    clear h
    intro x7 F6 h
    refine aw_pc (pc' := 26) rfl ?_
    refine aw_if_eq dX12_sortOf_26 rfl (fun c => ?_) (fun c => ?_)
    · replace h := h.1 c
      refine aw_aload_n dX12_sortOf_31 rfl rfl (aw_pc (pc' := 32) rfl ?_)
      refine aw_bipush dX12_sortOf_32 (by decide) (aw_pc (pc' := 34) rfl ?_)
      refine aw_bipush dX12_sortOf_34 (by decide) (aw_pc (pc' := 36) rfl ?_)
      refine aw_bipush dX12_sortOf_36 (by decide) (aw_pc (pc' := 38) rfl ?_)
      refine ar_SL (kc' := 0) (ks' := 0) (kc := 0) (ks := 0) (as := [vi 99, vi 97, vi 114]) (st := [vr (some o)]) (tX12_w3 h) mt_X12_w3 qM_RX12_148 qS_X12_w3 rfl (Nat.le_of_ble_eq_true rfl) dX12_sortOf_38 ?_
      clear h
      intro x10 F9 h
      refine aw_pc (pc' := 41) rfl ?_
      have h0 := rcv_inv h
      clear h
      obtain ⟨o13, fs_o13, hr_o13, he_o13, h⟩ := h0
      obtain rfl : o = o13 := Option.some.inj hr_o13
      refine ar_VI (kc' := 0) (ks' := 0) (kc := 0) (ks := 0) (a := o) (ci := 12) (as := [vl x10]) (st := []) (tX12_isWord h) mt_X12_isWord rfl qM_RX12_210 qI_X12_isWord qV_X12_isWord he_o13 rfl (Nat.le_of_ble_eq_true rfl) dX12_sortOf_41 ?_
      clear h
      intro x12 F11 h
      refine aw_pc (pc' := 44) rfl ?_
      refine aw_if_eq dX12_sortOf_44 rfl (fun c => ?_) (fun c => ?_)
      · replace h := h.1 c
        refine aw_aload_n dX12_sortOf_49 rfl rfl (aw_pc (pc' := 50) rfl ?_)
        refine aw_bipush dX12_sortOf_50 (by decide) (aw_pc (pc' := 52) rfl ?_)
        refine aw_bipush dX12_sortOf_52 (by decide) (aw_pc (pc' := 54) rfl ?_)
        refine aw_bipush dX12_sortOf_54 (by decide) (aw_pc (pc' := 56) rfl ?_)
        refine aw_bipush dX12_sortOf_56 (by decide) (aw_pc (pc' := 58) rfl ?_)
        refine aw_bipush dX12_sortOf_58 (by decide) (aw_pc (pc' := 60) rfl ?_)
        refine aw_bipush dX12_sortOf_60 (by decide) (aw_pc (pc' := 62) rfl ?_)
        refine ar_SL (kc' := 0) (ks' := 0) (kc := 0) (ks := 0) (as := [vi 102, vi 111, vi 114, vi 98, vi 105, vi 100]) (st := [vr (some o)]) (tX12_w6 h) mt_X12_w6 qM_RX12_166 qS_X12_w6 rfl (Nat.le_of_ble_eq_true rfl) dX12_sortOf_62 ?_
        clear h
        intro x15 F14 h
        refine aw_pc (pc' := 65) rfl ?_
        have h0 := rcv_inv h
        clear h
        obtain ⟨o18, fs_o18, hr_o18, he_o18, h⟩ := h0
        obtain rfl : o = o18 := Option.some.inj hr_o18
        refine ar_VI (kc' := 0) (ks' := 0) (kc := 0) (ks := 0) (a := o) (ci := 12) (as := [vl x15]) (st := []) (tX12_isWord h) mt_X12_isWord rfl qM_RX12_210 qI_X12_isWord qV_X12_isWord he_o18 rfl (Nat.le_of_ble_eq_true rfl) dX12_sortOf_65 ?_
        clear h
        intro x17 F16 h
        refine aw_pc (pc' := 68) rfl ?_
        refine aw_if_eq dX12_sortOf_68 rfl (fun c => ?_) (fun c => ?_)
        · replace h := h.1 c
          refine aw_aload_n dX12_sortOf_73 rfl rfl (aw_pc (pc' := 74) rfl ?_)
          refine aw_bipush dX12_sortOf_74 (by decide) (aw_pc (pc' := 76) rfl ?_)
          refine aw_bipush dX12_sortOf_76 (by decide) (aw_pc (pc' := 78) rfl ?_)
          refine aw_bipush dX12_sortOf_78 (by decide) (aw_pc (pc' := 80) rfl ?_)
          refine aw_bipush dX12_sortOf_80 (by decide) (aw_pc (pc' := 82) rfl ?_)
          refine ar_SL (kc' := 0) (ks' := 0) (kc := 0) (ks := 0) (as := [vi 109, vi 111, vi 118, vi 101]) (st := [vr (some o)]) (tX12_w4 h) mt_X12_w4 qM_RX12_152 qS_X12_w4 rfl (Nat.le_of_ble_eq_true rfl) dX12_sortOf_82 ?_
          clear h
          intro x20 F19 h
          refine aw_pc (pc' := 85) rfl ?_
          have h0 := rcv_inv h
          clear h
          obtain ⟨o23, fs_o23, hr_o23, he_o23, h⟩ := h0
          obtain rfl : o = o23 := Option.some.inj hr_o23
          refine ar_VI (kc' := 0) (ks' := 0) (kc := 0) (ks := 0) (a := o) (ci := 12) (as := [vl x20]) (st := []) (tX12_isWord h) mt_X12_isWord rfl qM_RX12_210 qI_X12_isWord qV_X12_isWord he_o23 rfl (Nat.le_of_ble_eq_true rfl) dX12_sortOf_85 ?_
          clear h
          intro x22 F21 h
          refine aw_pc (pc' := 88) rfl ?_
          refine aw_if_eq dX12_sortOf_88 rfl (fun c => ?_) (fun c => ?_)
          · replace h := h.1 c
            refine aw_aload_n dX12_sortOf_93 rfl rfl (aw_pc (pc' := 94) rfl ?_)
            refine aw_bipush dX12_sortOf_94 (by decide) (aw_pc (pc' := 96) rfl ?_)
            refine aw_bipush dX12_sortOf_96 (by decide) (aw_pc (pc' := 98) rfl ?_)
            refine aw_bipush dX12_sortOf_98 (by decide) (aw_pc (pc' := 100) rfl ?_)
            refine aw_bipush dX12_sortOf_100 (by decide) (aw_pc (pc' := 102) rfl ?_)
            refine aw_bipush dX12_sortOf_102 (by decide) (aw_pc (pc' := 104) rfl ?_)
            refine aw_bipush dX12_sortOf_104 (by decide) (aw_pc (pc' := 106) rfl ?_)
            refine ar_SL (kc' := 0) (ks' := 0) (kc := 0) (ks := 0) (as := [vi 99, vi 104, vi 97, vi 110, vi 103, vi 101]) (st := [vr (some o)]) (tX12_w6 h) mt_X12_w6 qM_RX12_166 qS_X12_w6 rfl (Nat.le_of_ble_eq_true rfl) dX12_sortOf_106 ?_
            clear h
            intro x25 F24 h
            refine aw_pc (pc' := 109) rfl ?_
            have h0 := rcv_inv h
            clear h
            obtain ⟨o28, fs_o28, hr_o28, he_o28, h⟩ := h0
            obtain rfl : o = o28 := Option.some.inj hr_o28
            refine ar_VI (kc' := 0) (ks' := 0) (kc := 0) (ks := 0) (a := o) (ci := 12) (as := [vl x25]) (st := []) (tX12_isWord h) mt_X12_isWord rfl qM_RX12_210 qI_X12_isWord qV_X12_isWord he_o28 rfl (Nat.le_of_ble_eq_true rfl) dX12_sortOf_109 ?_
            clear h
            intro x27 F26 h
            refine aw_pc (pc' := 112) rfl ?_
            refine aw_if_eq dX12_sortOf_112 rfl (fun c => ?_) (fun c => ?_)
            · replace h := h.1 c
              refine aw_aload_n dX12_sortOf_117 rfl rfl (aw_pc (pc' := 118) rfl ?_)
              refine aw_bipush dX12_sortOf_118 (by decide) (aw_pc (pc' := 120) rfl ?_)
              refine aw_bipush dX12_sortOf_120 (by decide) (aw_pc (pc' := 122) rfl ?_)
              refine aw_bipush dX12_sortOf_122 (by decide) (aw_pc (pc' := 124) rfl ?_)
              refine aw_bipush dX12_sortOf_124 (by decide) (aw_pc (pc' := 126) rfl ?_)
              refine ar_SL (kc' := 0) (ks' := 0) (kc := 0) (ks := 0) (as := [vi 108, vi 101, vi 110, vi 100]) (st := [vr (some o)]) (tX12_w4 h) mt_X12_w4 qM_RX12_152 qS_X12_w4 rfl (Nat.le_of_ble_eq_true rfl) dX12_sortOf_126 ?_
              clear h
              intro x30 F29 h
              refine aw_pc (pc' := 129) rfl ?_
              have h0 := rcv_inv h
              clear h
              obtain ⟨o33, fs_o33, hr_o33, he_o33, h⟩ := h0
              obtain rfl : o = o33 := Option.some.inj hr_o33
              refine ar_VI (kc' := 0) (ks' := 0) (kc := 0) (ks := 0) (a := o) (ci := 12) (as := [vl x30]) (st := []) (tX12_isWord h) mt_X12_isWord rfl qM_RX12_210 qI_X12_isWord qV_X12_isWord he_o33 rfl (Nat.le_of_ble_eq_true rfl) dX12_sortOf_129 ?_
              clear h
              intro x32 F31 h
              refine aw_pc (pc' := 132) rfl ?_
              refine aw_if_eq dX12_sortOf_132 rfl (fun c => ?_) (fun c => ?_)
              · replace h := h.1 c
                refine aw_aload_n dX12_sortOf_140 rfl rfl (aw_pc (pc' := 141) rfl ?_)
                refine aw_bipush dX12_sortOf_141 (by decide) (aw_pc (pc' := 143) rfl ?_)
                refine aw_bipush dX12_sortOf_143 (by decide) (aw_pc (pc' := 145) rfl ?_)
                refine aw_bipush dX12_sortOf_145 (by decide) (aw_pc (pc' := 147) rfl ?_)
                refine aw_bipush dX12_sortOf_147 (by decide) (aw_pc (pc' := 149) rfl ?_)
                refine ar_SL (kc' := 0) (ks' := 0) (kc := 0) (ks := 0) (as := [vi 104, vi 111, vi 117, vi 114]) (st := [vr (some o)]) (tX12_w4 h) mt_X12_w4 qM_RX12_152 qS_X12_w4 rfl (Nat.le_of_ble_eq_true rfl) dX12_sortOf_149 ?_
                clear h
                intro x35 F34 h
                refine aw_pc (pc' := 152) rfl ?_
                have h0 := rcv_inv h
                clear h
                obtain ⟨o38, fs_o38, hr_o38, he_o38, h⟩ := h0
                obtain rfl : o = o38 := Option.some.inj hr_o38
                refine ar_VI (kc' := 0) (ks' := 0) (kc := 0) (ks := 0) (a := o) (ci := 12) (as := [vl x35]) (st := []) (tX12_isWord h) mt_X12_isWord rfl qM_RX12_210 qI_X12_isWord qV_X12_isWord he_o38 rfl (Nat.le_of_ble_eq_true rfl) dX12_sortOf_152 ?_
                clear h
                intro x37 F36 h
                refine aw_pc (pc' := 155) rfl ?_
                refine aw_if_eq dX12_sortOf_155 rfl (fun c => ?_) (fun c => ?_)
                · replace h := h.1 c
                  refine aw_iconst dX12_sortOf_163 (aw_pc (pc' := 164) rfl ?_)
                  exact aw_iret rfl dX12_sortOf_164 ⟨_, rfl, h⟩
                · replace h := h.2 c
                  refine aw_bipush dX12_sortOf_158 (by decide) (aw_pc (pc' := 160) rfl ?_)
                  refine aw_goto (tgt := 164) dX12_sortOf_160 rfl ?_
                  exact aw_iret rfl dX12_sortOf_164 ⟨_, rfl, h⟩
              · replace h := h.2 c
                refine aw_bipush dX12_sortOf_135 (by decide) (aw_pc (pc' := 137) rfl ?_)
                refine aw_goto (tgt := 164) dX12_sortOf_137 rfl ?_
                exact aw_iret rfl dX12_sortOf_164 ⟨_, rfl, h⟩
            · replace h := h.2 c
              refine aw_iconst dX12_sortOf_115 (aw_pc (pc' := 116) rfl ?_)
              exact aw_iret rfl dX12_sortOf_116 ⟨_, rfl, h⟩
          · replace h := h.2 c
            refine aw_iconst dX12_sortOf_91 (aw_pc (pc' := 92) rfl ?_)
            exact aw_iret rfl dX12_sortOf_92 ⟨_, rfl, h⟩
        · replace h := h.2 c
          refine aw_iconst dX12_sortOf_71 (aw_pc (pc' := 72) rfl ?_)
          exact aw_iret rfl dX12_sortOf_72 ⟨_, rfl, h⟩
      · replace h := h.2 c
        refine aw_iconst dX12_sortOf_47 (aw_pc (pc' := 48) rfl ?_)
        exact aw_iret rfl dX12_sortOf_48 ⟨_, rfl, h⟩
    · replace h := h.2 c
      refine aw_iconst dX12_sortOf_29 (aw_pc (pc' := 30) rfl ?_)
      exact aw_iret rfl dX12_sortOf_30 ⟨_, rfl, h⟩
  · replace h := h.2 c
    refine aw_iconst dX12_sortOf_20 (aw_pc (pc' := 21) rfl ?_)
    exact aw_iret rfl dX12_sortOf_21 ⟨_, rfl, h⟩
def mX12_clause_J65 (Q : Int → hp → Prop) (o : Nat) (a1 : Int) (a2 : Int) (F : hp) : Prop := pF F (some o) 12 14 (vi a1) (fun F1 => rcv F1 (some o) 12 (fun o3 => mX12_nextToken o3 F1 (fun F2 => gI F2 (some o) 12 12 (fun x4 => ∀ v5 : Int, v5 = ((x4 + 1) + (3 * a2)) → gR F2 (some o) 12 2 (fun x6 => sI F2 x6 0 v5 a1 (fun F7 => rcv F7 (some o) 12 (fun o10 => mX12_body o10 a1 v5 F7 (fun x9 F8 => (w32 x9 = 0 → gR F8 (some o) 12 2 (fun x11 => gI F8 (some o) 12 12 (fun x12 => aI F8 x11 0 x12 (fun x13 => sI F8 x11 0 x12 (x13 + 1) (fun F14 => gI F14 (some o) 12 9 (fun x15 => (w32 x15 = 59 → rcv F14 (some o) 12 (fun o17 => mX12_nextToken o17 F14 (fun F16 => Q 0 F16))) ∧ (¬ w32 x15 = 59 → Q 1 F14))))))) ∧ (¬ w32 x9 = 0 → Q x9 F8)))))))))
set_option maxHeartbeats 4000000 in
theorem tX12_clause_J65 {d : Nat} {Q : Int → hp → Prop} {o : Nat} {a1 : Int} {a2 : Int} {F : hp} (h : mX12_clause_J65 Q o a1 a2 F) : aw nX12_clause (d + 10) 0 0 65 [some (vr (some o)), some (vi a1), some (vi a2), none, none] [] F (qI Q) := by
  unfold mX12_clause_J65 at h
  refine aw_aload_n dX12_clause_65 rfl rfl (aw_pc (pc' := 66) rfl ?_)
  refine aw_iload_n dX12_clause_66 rfl rfl (aw_pc (pc' := 67) rfl ?_)
  refine ar_pF fl_RX12_170 ft_X12_14 (okI _) dX12_clause_67 h ?_
  clear h
  intro F1 h
  refine aw_pc (pc' := 70) rfl ?_
  refine aw_aload_n dX12_clause_70 rfl rfl (aw_pc (pc' := 71) rfl ?_)
  have h0 := rcv_inv h
  clear h
  obtain ⟨o3, fs_o3, hr_o3, he_o3, h⟩ := h0
  obtain rfl : o = o3 := Option.some.inj hr_o3
  refine ar_VV (kc' := 0) (ks' := 0) (kc := 0) (ks := 0) (a := o) (ci := 12) (as := []) (st := []) (tX12_nextToken h) mt_X12_nextToken rfl qM_RX12_192 qI_X12_nextToken qV_X12_nextToken he_o3 rfl (Nat.le_of_ble_eq_true rfl) dX12_clause_71 ?_
  clear h
  intro F2 h
  refine aw_pc (pc' := 74) rfl ?_
  refine aw_aload_n dX12_clause_74 rfl rfl (aw_pc (pc' := 75) rfl ?_)
  refine ar_gI fl_RX12_160 dX12_clause_75 h ?_
  clear h
  intro x4 h
  refine aw_pc (pc' := 78) rfl ?_
  refine aw_iconst dX12_clause_78 (aw_pc (pc' := 79) rfl ?_)
  refine aw_iadd dX12_clause_79 (aw_pc (pc' := 80) rfl ?_)
  refine aw_iconst dX12_clause_80 (aw_pc (pc' := 81) rfl ?_)
  refine aw_iload_n dX12_clause_81 rfl rfl (aw_pc (pc' := 82) rfl ?_)
  refine aw_imul dX12_clause_82 (aw_pc (pc' := 83) rfl ?_)
  refine aw_iadd dX12_clause_83 (aw_pc (pc' := 84) rfl ?_)
  generalize hv_v5 : ((x4 + 1) + (3 * a2)) = v5
  replace h := h v5 hv_v5.symm
  refine aw_istore_n dX12_clause_84 rfl (by decide) (aw_pc (pc' := 85) rfl ?_)
  refine aw_aload_n dX12_clause_85 rfl rfl (aw_pc (pc' := 86) rfl ?_)
  refine ar_gR fl_RX12_16 dX12_clause_86 h ?_
  clear h
  intro x6 h
  refine aw_pc (pc' := 89) rfl ?_
  refine aw_iload_n dX12_clause_89 rfl rfl (aw_pc (pc' := 90) rfl ?_)
  refine aw_iload_n dX12_clause_90 rfl rfl (aw_pc (pc' := 91) rfl ?_)
  refine ar_sI dX12_clause_91 h ?_
  clear h
  intro F7 h
  refine aw_pc (pc' := 92) rfl ?_
  refine aw_aload_n dX12_clause_92 rfl rfl (aw_pc (pc' := 93) rfl ?_)
  refine aw_iload_n dX12_clause_93 rfl rfl (aw_pc (pc' := 94) rfl ?_)
  refine aw_iload_n dX12_clause_94 rfl rfl (aw_pc (pc' := 95) rfl ?_)
  have h0 := rcv_inv h
  clear h
  obtain ⟨o10, fs_o10, hr_o10, he_o10, h⟩ := h0
  obtain rfl : o = o10 := Option.some.inj hr_o10
  refine ar_VI (kc' := 0) (ks' := 0) (kc := 0) (ks := 0) (a := o) (ci := 12) (as := [vi a1, vi v5]) (st := []) (tX12_body h) mt_X12_body rfl qM_RX12_259 qI_X12_body qV_X12_body he_o10 rfl (Nat.le_of_ble_eq_true rfl) dX12_clause_95 ?_
  clear h
  intro x9 F8 h
  refine aw_pc (pc' := 98) rfl ?_
  refine aw_istore dX12_clause_98 (by decide) (aw_pc (pc' := 100) rfl ?_)
  refine aw_iload dX12_clause_100 rfl (aw_pc (pc' := 102) rfl ?_)
  refine aw_if_eq dX12_clause_102 rfl (fun c => ?_) (fun c => ?_)
  · replace h := h.1 c
    refine aw_aload_n dX12_clause_108 rfl rfl (aw_pc (pc' := 109) rfl ?_)
    refine ar_gR fl_RX12_16 dX12_clause_109 h ?_
    clear h
    intro x11 h
    refine aw_pc (pc' := 112) rfl ?_
    refine aw_aload_n dX12_clause_112 rfl rfl (aw_pc (pc' := 113) rfl ?_)
    refine ar_gI fl_RX12_160 dX12_clause_113 h ?_
    clear h
    intro x12 h
    refine aw_pc (pc' := 116) rfl ?_
    refine aw_dup2 dX12_clause_116 trivial trivial (aw_pc (pc' := 117) rfl ?_)
    refine ar_aI dX12_clause_117 h ?_
    clear h
    intro x13 h
    refine aw_pc (pc' := 118) rfl ?_
    refine aw_iconst dX12_clause_118 (aw_pc (pc' := 119) rfl ?_)
    refine aw_iadd dX12_clause_119 (aw_pc (pc' := 120) rfl ?_)
    refine ar_sI dX12_clause_120 h ?_
    clear h
    intro F14 h
    refine aw_pc (pc' := 121) rfl ?_
    refine aw_aload_n dX12_clause_121 rfl rfl (aw_pc (pc' := 122) rfl ?_)
    refine ar_gI fl_RX12_122 dX12_clause_122 h ?_
    clear h
    intro x15 h
    refine aw_pc (pc' := 125) rfl ?_
    refine aw_bipush dX12_clause_125 (by decide) (aw_pc (pc' := 127) rfl ?_)
    refine ac_eq rfl wl_59 dX12_clause_127 rfl (fun c => ?_) (fun c => ?_)
    · replace h := h.1 c
      refine aw_aload_n dX12_clause_132 rfl rfl (aw_pc (pc' := 133) rfl ?_)
      have h0 := rcv_inv h
      clear h
      obtain ⟨o17, fs_o17, hr_o17, he_o17, h⟩ := h0
      obtain rfl : o = o17 := Option.some.inj hr_o17
      refine ar_VV (kc' := 0) (ks' := 0) (kc := 0) (ks := 0) (a := o) (ci := 12) (as := []) (st := []) (tX12_nextToken h) mt_X12_nextToken rfl qM_RX12_192 qI_X12_nextToken qV_X12_nextToken he_o17 rfl (Nat.le_of_ble_eq_true rfl) dX12_clause_133 ?_
      clear h
      intro F16 h
      refine aw_pc (pc' := 136) rfl ?_
      refine aw_iconst dX12_clause_136 (aw_pc (pc' := 137) rfl ?_)
      exact aw_iret rfl dX12_clause_137 ⟨_, rfl, h⟩
    · replace h := h.2 c
      refine aw_iconst dX12_clause_130 (aw_pc (pc' := 131) rfl ?_)
      exact aw_iret rfl dX12_clause_131 ⟨_, rfl, h⟩
  · replace h := h.2 c
    refine aw_iload dX12_clause_105 rfl (aw_pc (pc' := 107) rfl ?_)
    exact aw_iret rfl dX12_clause_107 ⟨_, rfl, h⟩
def mX12_clause_J29 (Q : Int → hp → Prop) (o : Nat) (a1 : Int) (F : hp) : Prop := gR F (some o) 12 2 (fun x1 => gI F (some o) 12 12 (fun x2 => aI F x1 0 x2 (fun x3 => (w32 x3 = 24 → Q 6 F) ∧ (¬ w32 x3 = 24 → (1 < w32 a1 → mX12_clause_J65 Q o a1 x3 F) ∧ (¬ 1 < w32 a1 → gI F (some o) 12 19 (fun x4 => pF F (some o) 12 19 (vi (iOr x4 (iShl 1 a1))) (fun F5 => mX12_clause_J65 Q o a1 x3 F5)))))))
set_option maxHeartbeats 4000000 in
theorem tX12_clause_J29 {d : Nat} {Q : Int → hp → Prop} {o : Nat} {a1 : Int} {F : hp} (h : mX12_clause_J29 Q o a1 F) : aw nX12_clause (d + 10) 0 0 29 [some (vr (some o)), some (vi a1), none, none, none] [] F (qI Q) := by
  unfold mX12_clause_J29 at h
  refine aw_aload_n dX12_clause_29 rfl rfl (aw_pc (pc' := 30) rfl ?_)
  refine ar_gR fl_RX12_16 dX12_clause_30 h ?_
  clear h
  intro x1 h
  refine aw_pc (pc' := 33) rfl ?_
  refine aw_aload_n dX12_clause_33 rfl rfl (aw_pc (pc' := 34) rfl ?_)
  refine ar_gI fl_RX12_160 dX12_clause_34 h ?_
  clear h
  intro x2 h
  refine aw_pc (pc' := 37) rfl ?_
  refine ar_aI dX12_clause_37 h ?_
  clear h
  intro x3 h
  refine aw_pc (pc' := 38) rfl ?_
  refine aw_istore_n dX12_clause_38 rfl (by decide) (aw_pc (pc' := 39) rfl ?_)
  refine aw_iload_n dX12_clause_39 rfl rfl (aw_pc (pc' := 40) rfl ?_)
  refine aw_bipush dX12_clause_40 (by decide) (aw_pc (pc' := 42) rfl ?_)
  refine ac_ne rfl wl_24 dX12_clause_42 rfl (fun c => ?_) (fun c => ?_)
  · replace h := h.1 c
    refine aw_bipush dX12_clause_45 (by decide) (aw_pc (pc' := 47) rfl ?_)
    exact aw_iret rfl dX12_clause_47 ⟨_, rfl, h⟩
  · replace h := h.2 c
    refine aw_iload_n dX12_clause_48 rfl rfl (aw_pc (pc' := 49) rfl ?_)
    refine aw_iconst dX12_clause_49 (aw_pc (pc' := 50) rfl ?_)
    refine ac_gt rfl wl_1 dX12_clause_50 rfl (fun c => ?_) (fun c => ?_)
    · replace h := h.1 c
      exact aw_mask [true, true, true, false, false] (tX12_clause_J65 h)
    · replace h := h.2 c
      refine aw_aload_n dX12_clause_53 rfl rfl (aw_pc (pc' := 54) rfl ?_)
      refine aw_dup dX12_clause_54 trivial (aw_pc (pc' := 55) rfl ?_)
      refine ar_gI fl_RX12_256 dX12_clause_55 h ?_
      clear h
      intro x4 h
      refine aw_pc (pc' := 58) rfl ?_
      refine aw_iconst dX12_clause_58 (aw_pc (pc' := 59) rfl ?_)
      refine aw_iload_n dX12_clause_59 rfl rfl (aw_pc (pc' := 60) rfl ?_)
      refine aw_ishl dX12_clause_60 (aw_pc (pc' := 61) rfl ?_)
      refine aw_ior dX12_clause_61 (aw_pc (pc' := 62) rfl ?_)
      refine ar_pF fl_RX12_256 ft_X12_19 (okI _) dX12_clause_62 h ?_
      clear h
      intro F5 h
      refine aw_pc (pc' := 65) rfl ?_
      exact aw_mask [true, true, true, false, false] (tX12_clause_J65 h)
def mX12_clause (o : Nat) (F : hp) (Q : Int → hp → Prop) : Prop := rcv F (some o) 12 (fun o3 => mX12_sortOf o3 F (fun x2 F1 => (w32 x2 < 0 → Q 1 F1) ∧ (¬ w32 x2 < 0 → (1 < w32 x2 → mX12_clause_J29 Q o x2 F1) ∧ (¬ 1 < w32 x2 → gI F1 (some o) 12 19 (fun x4 => mX12_has x4 x2 F1 (fun x6 F5 => (w32 x6 = 0 → mX12_clause_J29 Q o x2 F5) ∧ (¬ w32 x6 = 0 → Q 4 F5)))))))
set_option maxHeartbeats 4000000 in
theorem tX12_clause {d : Nat} {o : Nat} {F : hp} {Q : Int → hp → Prop} (h : mX12_clause o F Q) : am nX12_clause (d + 10) 0 0 [vr (some o)] F (qI Q) := by
  refine am_of (by decide +kernel) (Nat.le_of_ble_eq_true rfl) ?_
  show aw nX12_clause (d + 10) 0 0 0 [some (vr (some o)), none, none, none, none] [] F (qI Q)
  unfold mX12_clause at h
  refine aw_aload_n dX12_clause_0 rfl rfl (aw_pc (pc' := 1) rfl ?_)
  have h0 := rcv_inv h
  clear h
  obtain ⟨o3, fs_o3, hr_o3, he_o3, h⟩ := h0
  obtain rfl : o = o3 := Option.some.inj hr_o3
  refine ar_VI (kc' := 0) (ks' := 0) (kc := 0) (ks := 0) (a := o) (ci := 12) (as := []) (st := []) (tX12_sortOf h) mt_X12_sortOf rfl qM_RX12_253 qI_X12_sortOf qV_X12_sortOf he_o3 rfl (Nat.le_of_ble_eq_true rfl) dX12_clause_1 ?_
  clear h
  intro x2 F1 h
  refine aw_pc (pc' := 4) rfl ?_
  refine aw_istore_n dX12_clause_4 rfl (by decide) (aw_pc (pc' := 5) rfl ?_)
  refine aw_iload_n dX12_clause_5 rfl rfl (aw_pc (pc' := 6) rfl ?_)
  refine aw_if_ge dX12_clause_6 rfl (fun c => ?_) (fun c => ?_)
  · replace h := h.1 c
    refine aw_iconst dX12_clause_9 (aw_pc (pc' := 10) rfl ?_)
    exact aw_iret rfl dX12_clause_10 ⟨_, rfl, h⟩
  · replace h := h.2 c
    refine aw_iload_n dX12_clause_11 rfl rfl (aw_pc (pc' := 12) rfl ?_)
    refine aw_iconst dX12_clause_12 (aw_pc (pc' := 13) rfl ?_)
    refine ac_gt rfl wl_1 dX12_clause_13 rfl (fun c => ?_) (fun c => ?_)
    · replace h := h.1 c
      exact aw_mask [true, true, false, false, false] (tX12_clause_J29 h)
    · replace h := h.2 c
      refine aw_aload_n dX12_clause_16 rfl rfl (aw_pc (pc' := 17) rfl ?_)
      refine ar_gI fl_RX12_256 dX12_clause_17 h ?_
      clear h
      intro x4 h
      refine aw_pc (pc' := 20) rfl ?_
      refine aw_iload_n dX12_clause_20 rfl rfl (aw_pc (pc' := 21) rfl ?_)
      refine ar_SI (kc' := 0) (ks' := 0) (kc := 0) (ks := 0) (as := [vi x4, vi x2]) (st := []) (tX12_has h) mt_X12_has qM_RX12_90 qS_X12_has rfl (Nat.le_of_ble_eq_true rfl) dX12_clause_21 ?_
      clear h
      intro x6 F5 h
      refine aw_pc (pc' := 24) rfl ?_
      refine aw_if_eq dX12_clause_24 rfl (fun c => ?_) (fun c => ?_)
      · replace h := h.1 c
        exact aw_mask [true, true, false, false, false] (tX12_clause_J29 h)
      · replace h := h.2 c
        refine aw_iconst dX12_clause_27 (aw_pc (pc' := 28) rfl ?_)
        exact aw_iret rfl dX12_clause_28 ⟨_, rfl, h⟩
def mX12_readText_L43 (Q : Int → hp → Prop) : Nat → Nat → hp → Prop
  | 0, _, _ => False
  | k + 1, o, F => gI F (some o) 12 9 (fun x1 => (w32 x1 = 0 → Q 0 F) ∧ (¬ w32 x1 = 0 → rcv F (some o) 12 (fun o4 => mX12_clause o4 F (fun x3 F2 => (w32 x3 = 0 → mX12_readText_L43 Q k o F2) ∧ (¬ w32 x3 = 0 → Q x3 F2)))))
set_option maxHeartbeats 4000000 in
theorem tX12_readText_L43 {d : Nat} {Q : Int → hp → Prop} : ∀ (k : Nat) (o : Nat) (F : hp), mX12_readText_L43 Q k o F → aw nX12_readText (d + 11) 0 0 43 [some (vr (some o)), none] [] F (qI Q) := by
  intro k
  induction k with
  | zero => intro o F h; exact h.elim
  | succ k ih =>
    intro o F h
    simp only [mX12_readText_L43] at h
    refine aw_aload_n dX12_readText_43 rfl rfl (aw_pc (pc' := 44) rfl ?_)
    refine ar_gI fl_RX12_122 dX12_readText_44 h ?_
    clear h
    intro x1 h
    refine aw_pc (pc' := 47) rfl ?_
    refine aw_if_eq dX12_readText_47 rfl (fun c => ?_) (fun c => ?_)
    · replace h := h.1 c
      refine aw_iconst dX12_readText_64 (aw_pc (pc' := 65) rfl ?_)
      exact aw_iret rfl dX12_readText_65 ⟨_, rfl, h⟩
    · replace h := h.2 c
      refine aw_aload_n dX12_readText_50 rfl rfl (aw_pc (pc' := 51) rfl ?_)
      have h0 := rcv_inv h
      clear h
      obtain ⟨o4, fs_o4, hr_o4, he_o4, h⟩ := h0
      obtain rfl : o = o4 := Option.some.inj hr_o4
      refine ar_VI (kc' := 0) (ks' := 0) (kc := 0) (ks := 0) (a := o) (ci := 12) (as := []) (st := []) (tX12_clause h) mt_X12_clause rfl qM_RX12_262 qI_X12_clause qV_X12_clause he_o4 rfl (Nat.le_of_ble_eq_true rfl) dX12_readText_51 ?_
      clear h
      intro x3 F2 h
      refine aw_pc (pc' := 54) rfl ?_
      refine aw_istore_n dX12_readText_54 rfl (by decide) (aw_pc (pc' := 55) rfl ?_)
      refine aw_iload_n dX12_readText_55 rfl rfl (aw_pc (pc' := 56) rfl ?_)
      refine aw_if_eq dX12_readText_56 rfl (fun c => ?_) (fun c => ?_)
      · replace h := h.1 c
        refine aw_goto (tgt := 43) dX12_readText_61 rfl ?_
        exact aw_mask [true, false] (ih _ _ h)
      · replace h := h.2 c
        refine aw_iload_n dX12_readText_59 rfl rfl (aw_pc (pc' := 60) rfl ?_)
        exact aw_iret rfl dX12_readText_60 ⟨_, rfl, h⟩
def mX12_readText (o : Nat) (F : hp) (Q : Int → hp → Prop) : Prop := gR F (some o) 12 0 (fun x1 => aI F x1 0 1 (fun x2 => pF F (some o) 12 12 (vi (681 * x2)) (fun F3 => gR F3 (some o) 12 2 (fun x4 => gI F3 (some o) 12 12 (fun x5 => sI F3 x4 0 x5 0 (fun F6 => pF F6 (some o) 12 13 (vi 0) (fun F7 => pF F7 (some o) 12 19 (vi 0) (fun F8 => pF F8 (some o) 12 7 (vi 0) (fun F9 => rcv F9 (some o) 12 (fun o11 => mX12_nextToken o11 F9 (fun F10 => (∃ k12, mX12_readText_L43 Q k12 o F10))))))))))))
set_option maxHeartbeats 4000000 in
theorem tX12_readText {d : Nat} {o : Nat} {F : hp} {Q : Int → hp → Prop} (h : mX12_readText o F Q) : am nX12_readText (d + 11) 0 0 [vr (some o)] F (qI Q) := by
  refine am_of (by decide +kernel) (Nat.le_of_ble_eq_true rfl) ?_
  show aw nX12_readText (d + 11) 0 0 0 [some (vr (some o)), none] [] F (qI Q)
  unfold mX12_readText at h
  refine aw_aload_n dX12_readText_0 rfl rfl (aw_pc (pc' := 1) rfl ?_)
  refine aw_sipush dX12_readText_1 (by decide) (aw_pc (pc' := 4) rfl ?_)
  refine aw_aload_n dX12_readText_4 rfl rfl (aw_pc (pc' := 5) rfl ?_)
  refine ar_gR fl_RX12_7 dX12_readText_5 h ?_
  clear h
  intro x1 h
  refine aw_pc (pc' := 8) rfl ?_
  refine aw_iconst dX12_readText_8 (aw_pc (pc' := 9) rfl ?_)
  refine ar_aI dX12_readText_9 h ?_
  clear h
  intro x2 h
  refine aw_pc (pc' := 10) rfl ?_
  refine aw_imul dX12_readText_10 (aw_pc (pc' := 11) rfl ?_)
  refine ar_pF fl_RX12_160 ft_X12_12 (okI _) dX12_readText_11 h ?_
  clear h
  intro F3 h
  refine aw_pc (pc' := 14) rfl ?_
  refine aw_aload_n dX12_readText_14 rfl rfl (aw_pc (pc' := 15) rfl ?_)
  refine ar_gR fl_RX12_16 dX12_readText_15 h ?_
  clear h
  intro x4 h
  refine aw_pc (pc' := 18) rfl ?_
  refine aw_aload_n dX12_readText_18 rfl rfl (aw_pc (pc' := 19) rfl ?_)
  refine ar_gI fl_RX12_160 dX12_readText_19 h ?_
  clear h
  intro x5 h
  refine aw_pc (pc' := 22) rfl ?_
  refine aw_iconst dX12_readText_22 (aw_pc (pc' := 23) rfl ?_)
  refine ar_sI dX12_readText_23 h ?_
  clear h
  intro F6 h
  refine aw_pc (pc' := 24) rfl ?_
  refine aw_aload_n dX12_readText_24 rfl rfl (aw_pc (pc' := 25) rfl ?_)
  refine aw_iconst dX12_readText_25 (aw_pc (pc' := 26) rfl ?_)
  refine ar_pF fl_RX12_163 ft_X12_13 (okI _) dX12_readText_26 h ?_
  clear h
  intro F7 h
  refine aw_pc (pc' := 29) rfl ?_
  refine aw_aload_n dX12_readText_29 rfl rfl (aw_pc (pc' := 30) rfl ?_)
  refine aw_iconst dX12_readText_30 (aw_pc (pc' := 31) rfl ?_)
  refine ar_pF fl_RX12_256 ft_X12_19 (okI _) dX12_readText_31 h ?_
  clear h
  intro F8 h
  refine aw_pc (pc' := 34) rfl ?_
  refine aw_aload_n dX12_readText_34 rfl rfl (aw_pc (pc' := 35) rfl ?_)
  refine aw_iconst dX12_readText_35 (aw_pc (pc' := 36) rfl ?_)
  refine ar_pF fl_RX12_113 ft_X12_7 (okI _) dX12_readText_36 h ?_
  clear h
  intro F9 h
  refine aw_pc (pc' := 39) rfl ?_
  refine aw_aload_n dX12_readText_39 rfl rfl (aw_pc (pc' := 40) rfl ?_)
  have h0 := rcv_inv h
  clear h
  obtain ⟨o11, fs_o11, hr_o11, he_o11, h⟩ := h0
  obtain rfl : o = o11 := Option.some.inj hr_o11
  refine ar_VV (kc' := 0) (ks' := 0) (kc := 0) (ks := 0) (a := o) (ci := 12) (as := []) (st := []) (tX12_nextToken h) mt_X12_nextToken rfl qM_RX12_192 qI_X12_nextToken qV_X12_nextToken he_o11 rfl (Nat.le_of_ble_eq_true rfl) dX12_readText_40 ?_
  clear h
  intro F10 h
  refine aw_pc (pc' := 43) rfl ?_
  obtain ⟨k12, h⟩ := h
  exact aw_mask [true, false] (tX12_readText_L43 k12 _ _ h)
def mX12_text_J36 (Q : Int → hp → Prop) (o : Nat) (s0 : Option Nat) (s1 : Int) (F : hp) : Prop := pF F s0 12 6 (vi s1) (fun F1 => pF F1 (some o) 12 4 (vi 0) (fun F2 => gI F2 (some o) 12 5 (fun x3 => (w32 x3 = 0 → gR F2 (some o) 12 0 (fun x4 => aI F2 x4 0 1 (fun x5 => sI F2 x4 0 1 (x5 + 1) (fun F6 => gR F6 (some o) 12 0 (fun x7 => aI F6 x7 0 1 (fun x8 => Q (x8 - 1) F6)))))) ∧ (¬ w32 x3 = 0 → Q (-1) F2))))
set_option maxHeartbeats 4000000 in
theorem tX12_text_J36 {d : Nat} {Q : Int → hp → Prop} {o : Nat} {s0 : Option Nat} {s1 : Int} {F : hp} (h : mX12_text_J36 Q o s0 s1 F) : aw nX12_text (d + 12) 0 0 36 [some (vr (some o))] [vi s1, vr s0] F (qI Q) := by
  unfold mX12_text_J36 at h
  refine ar_pF fl_RX12_26 ft_X12_6 (okI _) dX12_text_36 h ?_
  clear h
  intro F1 h
  refine aw_pc (pc' := 39) rfl ?_
  refine aw_aload_n dX12_text_39 rfl rfl (aw_pc (pc' := 40) rfl ?_)
  refine aw_iconst dX12_text_40 (aw_pc (pc' := 41) rfl ?_)
  refine ar_pF fl_RX12_106 ft_X12_4 (okI _) dX12_text_41 h ?_
  clear h
  intro F2 h
  refine aw_pc (pc' := 44) rfl ?_
  refine aw_aload_n dX12_text_44 rfl rfl (aw_pc (pc' := 45) rfl ?_)
  refine ar_gI fl_RX12_22 dX12_text_45 h ?_
  clear h
  intro x3 h
  refine aw_pc (pc' := 48) rfl ?_
  refine aw_if_eq dX12_text_48 rfl (fun c => ?_) (fun c => ?_)
  · replace h := h.1 c
    refine aw_aload_n dX12_text_53 rfl rfl (aw_pc (pc' := 54) rfl ?_)
    refine ar_gR fl_RX12_7 dX12_text_54 h ?_
    clear h
    intro x4 h
    refine aw_pc (pc' := 57) rfl ?_
    refine aw_iconst dX12_text_57 (aw_pc (pc' := 58) rfl ?_)
    refine aw_dup2 dX12_text_58 trivial trivial (aw_pc (pc' := 59) rfl ?_)
    refine ar_aI dX12_text_59 h ?_
    clear h
    intro x5 h
    refine aw_pc (pc' := 60) rfl ?_
    refine aw_iconst dX12_text_60 (aw_pc (pc' := 61) rfl ?_)
    refine aw_iadd dX12_text_61 (aw_pc (pc' := 62) rfl ?_)
    refine ar_sI dX12_text_62 h ?_
    clear h
    intro F6 h
    refine aw_pc (pc' := 63) rfl ?_
    refine aw_aload_n dX12_text_63 rfl rfl (aw_pc (pc' := 64) rfl ?_)
    refine ar_gR fl_RX12_7 dX12_text_64 h ?_
    clear h
    intro x7 h
    refine aw_pc (pc' := 67) rfl ?_
    refine aw_iconst dX12_text_67 (aw_pc (pc' := 68) rfl ?_)
    refine ar_aI dX12_text_68 h ?_
    clear h
    intro x8 h
    refine aw_pc (pc' := 69) rfl ?_
    refine aw_iconst dX12_text_69 (aw_pc (pc' := 70) rfl ?_)
    refine aw_isub dX12_text_70 (aw_pc (pc' := 71) rfl ?_)
    exact aw_iret rfl dX12_text_71 ⟨_, rfl, h⟩
  · replace h := h.2 c
    refine aw_iconst dX12_text_51 (aw_pc (pc' := 52) rfl ?_)
    exact aw_iret rfl dX12_text_52 ⟨_, rfl, h⟩
def mX12_text (o : Nat) (F : hp) (Q : Int → hp → Prop) : Prop := gR F (some o) 12 0 (fun x1 => aI F x1 0 1 (fun x2 => (w32 x2 = 4 → Q (-1) F) ∧ (¬ w32 x2 = 4 → rcv F (some o) 12 (fun o5 => mX12_readText o5 F (fun x4 F3 => pF F3 (some o) 12 5 (vi x4) (fun F6 => gI F6 (some o) 12 5 (fun x7 => (w32 x7 = 0 → mX12_text_J36 Q o (some o) (-1) F6) ∧ (¬ w32 x7 = 0 → gI F6 (some o) 12 8 (fun x8 => mX12_text_J36 Q o (some o) x8 F6)))))))))
set_option maxHeartbeats 4000000 in
theorem tX12_text {d : Nat} {o : Nat} {F : hp} {Q : Int → hp → Prop} (h : mX12_text o F Q) : am nX12_text (d + 12) 0 0 [vr (some o)] F (qI Q) := by
  refine am_of (by decide +kernel) (Nat.le_of_ble_eq_true rfl) ?_
  show aw nX12_text (d + 12) 0 0 0 [some (vr (some o))] [] F (qI Q)
  unfold mX12_text at h
  refine aw_aload_n dX12_text_0 rfl rfl (aw_pc (pc' := 1) rfl ?_)
  refine ar_gR fl_RX12_7 dX12_text_1 h ?_
  clear h
  intro x1 h
  refine aw_pc (pc' := 4) rfl ?_
  refine aw_iconst dX12_text_4 (aw_pc (pc' := 5) rfl ?_)
  refine ar_aI dX12_text_5 h ?_
  clear h
  intro x2 h
  refine aw_pc (pc' := 6) rfl ?_
  refine aw_iconst dX12_text_6 (aw_pc (pc' := 7) rfl ?_)
  refine ac_ne rfl wl_4 dX12_text_7 rfl (fun c => ?_) (fun c => ?_)
  · replace h := h.1 c
    refine aw_iconst dX12_text_10 (aw_pc (pc' := 11) rfl ?_)
    exact aw_iret rfl dX12_text_11 ⟨_, rfl, h⟩
  · replace h := h.2 c
    refine aw_aload_n dX12_text_12 rfl rfl (aw_pc (pc' := 13) rfl ?_)
    refine aw_aload_n dX12_text_13 rfl rfl (aw_pc (pc' := 14) rfl ?_)
    have h0 := rcv_inv h
    clear h
    obtain ⟨o5, fs_o5, hr_o5, he_o5, h⟩ := h0
    obtain rfl : o = o5 := Option.some.inj hr_o5
    refine ar_VI (kc' := 0) (ks' := 0) (kc := 0) (ks := 0) (a := o) (ci := 12) (as := []) (st := [vr (some o)]) (tX12_readText h) mt_X12_readText rfl qM_RX12_265 qI_X12_readText qV_X12_readText he_o5 rfl (Nat.le_of_ble_eq_true rfl) dX12_text_14 ?_
    clear h
    intro x4 F3 h
    refine aw_pc (pc' := 17) rfl ?_
    refine ar_pF fl_RX12_22 ft_X12_5 (okI _) dX12_text_17 h ?_
    clear h
    intro F6 h
    refine aw_pc (pc' := 20) rfl ?_
    refine aw_aload_n dX12_text_20 rfl rfl (aw_pc (pc' := 21) rfl ?_)
    refine aw_aload_n dX12_text_21 rfl rfl (aw_pc (pc' := 22) rfl ?_)
    refine ar_gI fl_RX12_22 dX12_text_22 h ?_
    clear h
    intro x7 h
    refine aw_pc (pc' := 25) rfl ?_
    refine aw_if_ne dX12_text_25 rfl (fun c => ?_) (fun c => ?_)
    · replace h := h.1 c
      refine aw_iconst dX12_text_28 (aw_pc (pc' := 29) rfl ?_)
      refine aw_goto (tgt := 36) dX12_text_29 rfl ?_
      exact aw_mask [true] (tX12_text_J36 h)
    · replace h := h.2 c
      refine aw_aload_n dX12_text_32 rfl rfl (aw_pc (pc' := 33) rfl ?_)
      refine ar_gI fl_RX12_119 dX12_text_33 h ?_
      clear h
      intro x8 h
      refine aw_pc (pc' := 36) rfl ?_
      exact aw_mask [true] (tX12_text_J36 h)
def mX12_fault (o : Nat) (a1 : Int) (F : hp) (Q : Int → hp → Prop) : Prop := (w32 a1 = 0 → gI F (some o) 12 5 (fun x1 => Q x1 F)) ∧ (¬ w32 a1 = 0 → (w32 a1 = 1 → gI F (some o) 12 6 (fun x2 => Q x2 F)) ∧ (¬ w32 a1 = 1 → Q (-1) F))
set_option maxHeartbeats 4000000 in
theorem tX12_fault {d : Nat} {o : Nat} {a1 : Int} {F : hp} {Q : Int → hp → Prop} (h : mX12_fault o a1 F Q) : am nX12_fault d 0 0 [vr (some o), vi a1] F (qI Q) := by
  refine am_of (by decide +kernel) (Nat.le_of_ble_eq_true rfl) ?_
  show aw nX12_fault d 0 0 0 [some (vr (some o)), some (vi a1)] [] F (qI Q)
  unfold mX12_fault at h
  refine aw_iload_n dX12_fault_0 rfl rfl (aw_pc (pc' := 1) rfl ?_)
  refine aw_if_ne dX12_fault_1 rfl (fun c => ?_) (fun c => ?_)
  · replace h := h.1 c
    refine aw_aload_n dX12_fault_4 rfl rfl (aw_pc (pc' := 5) rfl ?_)
    refine ar_gI fl_RX12_22 dX12_fault_5 h ?_
    clear h
    intro x1 h
    refine aw_pc (pc' := 8) rfl ?_
    refine aw_goto (tgt := 24) dX12_fault_8 rfl ?_
    exact aw_iret rfl dX12_fault_24 ⟨_, rfl, h⟩
  · replace h := h.2 c
    refine aw_iload_n dX12_fault_11 rfl rfl (aw_pc (pc' := 12) rfl ?_)
    refine aw_iconst dX12_fault_12 (aw_pc (pc' := 13) rfl ?_)
    refine ac_ne rfl wl_1 dX12_fault_13 rfl (fun c => ?_) (fun c => ?_)
    · replace h := h.1 c
      refine aw_aload_n dX12_fault_16 rfl rfl (aw_pc (pc' := 17) rfl ?_)
      refine ar_gI fl_RX12_26 dX12_fault_17 h ?_
      clear h
      intro x2 h
      refine aw_pc (pc' := 20) rfl ?_
      refine aw_goto (tgt := 24) dX12_fault_20 rfl ?_
      exact aw_iret rfl dX12_fault_24 ⟨_, rfl, h⟩
    · replace h := h.2 c
      refine aw_iconst dX12_fault_23 (aw_pc (pc' := 24) rfl ?_)
      exact aw_iret rfl dX12_fault_24 ⟨_, rfl, h⟩
def mX12_by (o : Nat) (a1 : Int) (F : hp) (Q : Int → hp → Prop) : Prop := gR F (some o) 12 0 (fun x1 => aI F x1 0 1 (fun x2 => mX12_isIn a1 (-1) (x2 - 1) F (fun x4 F3 => (w32 x4 = 0 → Q 0 F3) ∧ (¬ w32 x4 = 0 → gR F3 (some o) 12 0 (fun x5 => sI F3 x5 0 2 a1 (fun F6 => Q 1 F6))))))
set_option maxHeartbeats 4000000 in
theorem tX12_by {d : Nat} {o : Nat} {a1 : Int} {F : hp} {Q : Int → hp → Prop} (h : mX12_by o a1 F Q) : am nX12_by (d + 1) 0 0 [vr (some o), vi a1] F (qI Q) := by
  refine am_of (by decide +kernel) (Nat.le_of_ble_eq_true rfl) ?_
  show aw nX12_by (d + 1) 0 0 0 [some (vr (some o)), some (vi a1)] [] F (qI Q)
  unfold mX12_by at h
  refine aw_iload_n dX12_by_0 rfl rfl (aw_pc (pc' := 1) rfl ?_)
  refine aw_iconst dX12_by_1 (aw_pc (pc' := 2) rfl ?_)
  refine aw_aload_n dX12_by_2 rfl rfl (aw_pc (pc' := 3) rfl ?_)
  refine ar_gR fl_RX12_7 dX12_by_3 h ?_
  clear h
  intro x1 h
  refine aw_pc (pc' := 6) rfl ?_
  refine aw_iconst dX12_by_6 (aw_pc (pc' := 7) rfl ?_)
  refine ar_aI dX12_by_7 h ?_
  clear h
  intro x2 h
  refine aw_pc (pc' := 8) rfl ?_
  refine aw_iconst dX12_by_8 (aw_pc (pc' := 9) rfl ?_)
  refine aw_isub dX12_by_9 (aw_pc (pc' := 10) rfl ?_)
  refine ar_SI (kc' := 0) (ks' := 0) (kc := 0) (ks := 0) (as := [vi a1, vi (-1), vi (x2 - 1)]) (st := []) (tX12_isIn h) mt_X12_isIn qM_RX12_78 qS_X12_isIn rfl (Nat.le_of_ble_eq_true rfl) dX12_by_10 ?_
  clear h
  intro x4 F3 h
  refine aw_pc (pc' := 13) rfl ?_
  refine aw_if_ne dX12_by_13 rfl (fun c => ?_) (fun c => ?_)
  · replace h := h.1 c
    refine aw_iconst dX12_by_16 (aw_pc (pc' := 17) rfl ?_)
    exact aw_zret rfl (by decide) dX12_by_17 ⟨_, rfl, h⟩
  · replace h := h.2 c
    refine aw_aload_n dX12_by_18 rfl rfl (aw_pc (pc' := 19) rfl ?_)
    refine ar_gR fl_RX12_7 dX12_by_19 h ?_
    clear h
    intro x5 h
    refine aw_pc (pc' := 22) rfl ?_
    refine aw_iconst dX12_by_22 (aw_pc (pc' := 23) rfl ?_)
    refine aw_iload_n dX12_by_23 rfl rfl (aw_pc (pc' := 24) rfl ?_)
    refine ar_sI dX12_by_24 h ?_
    clear h
    intro F6 h
    refine aw_pc (pc' := 25) rfl ?_
    refine aw_iconst dX12_by_25 (aw_pc (pc' := 26) rfl ?_)
    exact aw_zret rfl (by decide) dX12_by_26 ⟨_, rfl, h⟩
def mX12_clip (a0 : Int) (F : hp) (Q : Int → hp → Prop) : Prop := (0 < w32 (iCmp a0 1000000) → Q 1000000 F) ∧ (¬ 0 < w32 (iCmp a0 1000000) → (w32 (iCmp a0 (-1000000)) < 0 → Q (-1000000) F) ∧ (¬ w32 (iCmp a0 (-1000000)) < 0 → Q a0 F))
set_option maxHeartbeats 4000000 in
theorem tX12_clip {d : Nat} {a0 : Int} {F : hp} {Q : Int → hp → Prop} (h : mX12_clip a0 F Q) : am nX12_clip d 0 0 [vl a0] F (qL Q) := by
  refine am_of (by decide +kernel) (Nat.le_of_ble_eq_true rfl) ?_
  show aw nX12_clip d 0 0 0 [some (vl a0), none] [] F (qL Q)
  unfold mX12_clip at h
  refine aw_lload_n dX12_clip_0 rfl rfl (aw_pc (pc' := 1) rfl ?_)
  refine aw_ldc2 (n := 1000000) dX12_clip_1 qK_RX12_268 (aw_pc (pc' := 4) rfl ?_)
  refine aw_lcmp dX12_clip_4 (aw_pc (pc' := 5) rfl ?_)
  refine aw_if_le dX12_clip_5 rfl (fun c => ?_) (fun c => ?_)
  · replace h := h.1 c
    refine aw_ldc2 (n := 1000000) dX12_clip_8 qK_RX12_268 (aw_pc (pc' := 11) rfl ?_)
    refine aw_goto (tgt := 29) dX12_clip_11 rfl ?_
    exact aw_lret rfl dX12_clip_29 ⟨_, rfl, h⟩
  · replace h := h.2 c
    refine aw_lload_n dX12_clip_14 rfl rfl (aw_pc (pc' := 15) rfl ?_)
    refine aw_ldc2 (n := (-1000000)) dX12_clip_15 qK_RX12_270 (aw_pc (pc' := 18) rfl ?_)
    refine aw_lcmp dX12_clip_18 (aw_pc (pc' := 19) rfl ?_)
    refine aw_if_ge dX12_clip_19 rfl (fun c => ?_) (fun c => ?_)
    · replace h := h.1 c
      refine aw_ldc2 (n := (-1000000)) dX12_clip_22 qK_RX12_270 (aw_pc (pc' := 25) rfl ?_)
      refine aw_goto (tgt := 29) dX12_clip_25 rfl ?_
      exact aw_lret rfl dX12_clip_29 ⟨_, rfl, h⟩
    · replace h := h.2 c
      refine aw_lload_n dX12_clip_28 rfl rfl (aw_pc (pc' := 29) rfl ?_)
      exact aw_lret rfl dX12_clip_29 ⟨_, rfl, h⟩
def mX12_two (a0 : Int) (a1 : Int) (a3 : Int) (F : hp) (Q : Int → hp → Prop) : Prop := (w32 a0 = 6 → mX12_clip (a1 + a3) F (fun x2 F1 => Q x2 F1)) ∧ (w32 a0 = 7 → mX12_clip (a1 - a3) F (fun x4 F3 => Q x4 F3)) ∧ (w32 a0 = 8 → mX12_clip (a1 * a3) F (fun x6 F5 => Q x6 F5)) ∧ (w32 a0 < 6 ∨ 8 < w32 a0 → (w32 (iCmp a3 0) = 0 → Q 0 F) ∧ (¬ w32 (iCmp a3 0) = 0 → w64 a3 ≠ 0 ∧ mX12_clip ((w64 a1).tdiv (w64 a3)) F (fun x8 F7 => Q x8 F7)))
set_option maxHeartbeats 4000000 in
theorem tX12_two {d : Nat} {a0 : Int} {a1 : Int} {a3 : Int} {F : hp} {Q : Int → hp → Prop} (h : mX12_two a0 a1 a3 F Q) : am nX12_two (d + 1) 0 0 [vi a0, vl a1, vl a3] F (qL Q) := by
  refine am_of (by decide +kernel) (Nat.le_of_ble_eq_true rfl) ?_
  show aw nX12_two (d + 1) 0 0 0 [some (vi a0), some (vl a1), none, some (vl a3), none] [] F (qL Q)
  unfold mX12_two at h
  refine aw_iload_n dX12_two_0 rfl rfl (aw_pc (pc' := 1) rfl ?_)
  refine aw_table dX12_two_1 (td := 49) rfl (fun j => [28, 35, 42].getD j 0) rfl (by decide) (fun j hj hx => ?_) (fun hx => ?_)
  · have hj : j = 0 ∨ j = 1 ∨ j = 2 := by (simp at hj; omega)
    rcases hj with rfl | rfl | rfl
    · replace h := h.1 (by omega)
      refine aw_pc (pc' := 28) rfl ?_
      refine aw_lload_n dX12_two_28 rfl rfl (aw_pc (pc' := 29) rfl ?_)
      refine aw_lload_n dX12_two_29 rfl rfl (aw_pc (pc' := 30) rfl ?_)
      refine aw_ladd dX12_two_30 (aw_pc (pc' := 31) rfl ?_)
      refine ar_SL (kc' := 0) (ks' := 0) (kc := 0) (ks := 0) (as := [vl (a1 + a3)]) (st := []) (tX12_clip h) mt_X12_clip qM_RX12_272 qS_X12_clip rfl (Nat.le_of_ble_eq_true rfl) dX12_two_31 ?_
      clear h
      intro x2 F1 h
      refine aw_pc (pc' := 34) rfl ?_
      exact aw_lret rfl dX12_two_34 ⟨_, rfl, h⟩
    · replace h := h.2.1 (by omega)
      refine aw_pc (pc' := 35) rfl ?_
      refine aw_lload_n dX12_two_35 rfl rfl (aw_pc (pc' := 36) rfl ?_)
      refine aw_lload_n dX12_two_36 rfl rfl (aw_pc (pc' := 37) rfl ?_)
      refine aw_lsub dX12_two_37 (aw_pc (pc' := 38) rfl ?_)
      refine ar_SL (kc' := 0) (ks' := 0) (kc := 0) (ks := 0) (as := [vl (a1 - a3)]) (st := []) (tX12_clip h) mt_X12_clip qM_RX12_272 qS_X12_clip rfl (Nat.le_of_ble_eq_true rfl) dX12_two_38 ?_
      clear h
      intro x4 F3 h
      refine aw_pc (pc' := 41) rfl ?_
      exact aw_lret rfl dX12_two_41 ⟨_, rfl, h⟩
    · replace h := h.2.2.1 (by omega)
      refine aw_pc (pc' := 42) rfl ?_
      refine aw_lload_n dX12_two_42 rfl rfl (aw_pc (pc' := 43) rfl ?_)
      refine aw_lload_n dX12_two_43 rfl rfl (aw_pc (pc' := 44) rfl ?_)
      refine aw_lmul dX12_two_44 (aw_pc (pc' := 45) rfl ?_)
      refine ar_SL (kc' := 0) (ks' := 0) (kc := 0) (ks := 0) (as := [vl (a1 * a3)]) (st := []) (tX12_clip h) mt_X12_clip qM_RX12_272 qS_X12_clip rfl (Nat.le_of_ble_eq_true rfl) dX12_two_45 ?_
      clear h
      intro x6 F5 h
      refine aw_pc (pc' := 48) rfl ?_
      exact aw_lret rfl dX12_two_48 ⟨_, rfl, h⟩
  · replace h := h.2.2.2 hx
    refine aw_lload_n dX12_two_49 rfl rfl (aw_pc (pc' := 50) rfl ?_)
    refine aw_lconst (v := 0) dX12_two_50 (by decide) (aw_pc (pc' := 51) rfl ?_)
    refine aw_lcmp dX12_two_51 (aw_pc (pc' := 52) rfl ?_)
    refine aw_if_ne dX12_two_52 rfl (fun c => ?_) (fun c => ?_)
    · replace h := h.1 c
      refine aw_lconst (v := 0) dX12_two_55 (by decide) (aw_pc (pc' := 56) rfl ?_)
      refine aw_goto (tgt := 65) dX12_two_56 rfl ?_
      exact aw_lret rfl dX12_two_65 ⟨_, rfl, h⟩
    · replace h := h.2 c
      refine aw_lload_n dX12_two_59 rfl rfl (aw_pc (pc' := 60) rfl ?_)
      refine aw_lload_n dX12_two_60 rfl rfl (aw_pc (pc' := 61) rfl ?_)
      refine ac_ldiv rfl h.1 dX12_two_61 (aw_pc (pc' := 62) rfl ?_)
      replace h := h.2
      refine ar_SL (kc' := 0) (ks' := 0) (kc := 0) (ks := 0) (as := [vl ((w64 a1).tdiv (w64 a3))]) (st := []) (tX12_clip h) mt_X12_clip qM_RX12_272 qS_X12_clip rfl (Nat.le_of_ble_eq_true rfl) dX12_two_62 ?_
      clear h
      intro x8 F7 h
      refine aw_pc (pc' := 65) rfl ?_
      exact aw_lret rfl dX12_two_65 ⟨_, rfl, h⟩
def mX12_isAsked (a0 : Int) (a1 : Int) (a3 : Int) (F : hp) (Q : Int → hp → Prop) : Prop := (w32 a0 = 10 → (w32 (iCmp a1 a3) < 0 → Q 1 F) ∧ (¬ w32 (iCmp a1 a3) < 0 → Q 0 F)) ∧ (¬ w32 a0 = 10 → (w32 a0 = 11 → (0 < w32 (iCmp a1 a3) → Q 0 F) ∧ (¬ 0 < w32 (iCmp a1 a3) → Q 1 F)) ∧ (¬ w32 a0 = 11 → (w32 a0 = 12 → (0 < w32 (iCmp a1 a3) → Q 1 F) ∧ (¬ 0 < w32 (iCmp a1 a3) → Q 0 F)) ∧ (¬ w32 a0 = 12 → (w32 a0 = 13 → (w32 (iCmp a1 a3) < 0 → Q 0 F) ∧ (¬ w32 (iCmp a1 a3) < 0 → Q 1 F)) ∧ (¬ w32 a0 = 13 → (w32 a0 = 14 → (w32 (iCmp a1 a3) = 0 → Q 1 F) ∧ (¬ w32 (iCmp a1 a3) = 0 → Q 0 F)) ∧ (¬ w32 a0 = 14 → (w32 (iCmp a1 a3) = 0 → Q 0 F) ∧ (¬ w32 (iCmp a1 a3) = 0 → Q 1 F))))))
set_option maxHeartbeats 4000000 in
theorem tX12_isAsked {d : Nat} {a0 : Int} {a1 : Int} {a3 : Int} {F : hp} {Q : Int → hp → Prop} (h : mX12_isAsked a0 a1 a3 F Q) : am nX12_isAsked d 0 0 [vi a0, vl a1, vl a3] F (qI Q) := by
  refine am_of (by decide +kernel) (Nat.le_of_ble_eq_true rfl) ?_
  show aw nX12_isAsked d 0 0 0 [some (vi a0), some (vl a1), none, some (vl a3), none] [] F (qI Q)
  unfold mX12_isAsked at h
  refine aw_iload_n dX12_isAsked_0 rfl rfl (aw_pc (pc' := 1) rfl ?_)
  refine aw_bipush dX12_isAsked_1 (by decide) (aw_pc (pc' := 3) rfl ?_)
  refine ac_ne rfl wl_10 dX12_isAsked_3 rfl (fun c => ?_) (fun c => ?_)
  · replace h := h.1 c
    refine aw_lload_n dX12_isAsked_6 rfl rfl (aw_pc (pc' := 7) rfl ?_)
    refine aw_lload_n dX12_isAsked_7 rfl rfl (aw_pc (pc' := 8) rfl ?_)
    refine aw_lcmp dX12_isAsked_8 (aw_pc (pc' := 9) rfl ?_)
    refine aw_if_ge dX12_isAsked_9 rfl (fun c => ?_) (fun c => ?_)
    · replace h := h.1 c
      refine aw_iconst dX12_isAsked_12 (aw_pc (pc' := 13) rfl ?_)
      refine aw_goto (tgt := 111) dX12_isAsked_13 rfl ?_
      exact aw_zret rfl (by decide) dX12_isAsked_111 ⟨_, rfl, h⟩
    · replace h := h.2 c
      refine aw_iconst dX12_isAsked_16 (aw_pc (pc' := 17) rfl ?_)
      refine aw_goto (tgt := 111) dX12_isAsked_17 rfl ?_
      exact aw_zret rfl (by decide) dX12_isAsked_111 ⟨_, rfl, h⟩
  · replace h := h.2 c
    refine aw_iload_n dX12_isAsked_20 rfl rfl (aw_pc (pc' := 21) rfl ?_)
    refine aw_bipush dX12_isAsked_21 (by decide) (aw_pc (pc' := 23) rfl ?_)
    refine ac_ne rfl wl_11 dX12_isAsked_23 rfl (fun c => ?_) (fun c => ?_)
    · replace h := h.1 c
      refine aw_lload_n dX12_isAsked_26 rfl rfl (aw_pc (pc' := 27) rfl ?_)
      refine aw_lload_n dX12_isAsked_27 rfl rfl (aw_pc (pc' := 28) rfl ?_)
      refine aw_lcmp dX12_isAsked_28 (aw_pc (pc' := 29) rfl ?_)
      refine aw_if_gt dX12_isAsked_29 rfl (fun c => ?_) (fun c => ?_)
      · replace h := h.1 c
        refine aw_iconst dX12_isAsked_36 (aw_pc (pc' := 37) rfl ?_)
        refine aw_goto (tgt := 111) dX12_isAsked_37 rfl ?_
        exact aw_zret rfl (by decide) dX12_isAsked_111 ⟨_, rfl, h⟩
      · replace h := h.2 c
        refine aw_iconst dX12_isAsked_32 (aw_pc (pc' := 33) rfl ?_)
        refine aw_goto (tgt := 111) dX12_isAsked_33 rfl ?_
        exact aw_zret rfl (by decide) dX12_isAsked_111 ⟨_, rfl, h⟩
    · replace h := h.2 c
      refine aw_iload_n dX12_isAsked_40 rfl rfl (aw_pc (pc' := 41) rfl ?_)
      refine aw_bipush dX12_isAsked_41 (by decide) (aw_pc (pc' := 43) rfl ?_)
      refine ac_ne rfl wl_12 dX12_isAsked_43 rfl (fun c => ?_) (fun c => ?_)
      · replace h := h.1 c
        refine aw_lload_n dX12_isAsked_46 rfl rfl (aw_pc (pc' := 47) rfl ?_)
        refine aw_lload_n dX12_isAsked_47 rfl rfl (aw_pc (pc' := 48) rfl ?_)
        refine aw_lcmp dX12_isAsked_48 (aw_pc (pc' := 49) rfl ?_)
        refine aw_if_le dX12_isAsked_49 rfl (fun c => ?_) (fun c => ?_)
        · replace h := h.1 c
          refine aw_iconst dX12_isAsked_52 (aw_pc (pc' := 53) rfl ?_)
          refine aw_goto (tgt := 111) dX12_isAsked_53 rfl ?_
          exact aw_zret rfl (by decide) dX12_isAsked_111 ⟨_, rfl, h⟩
        · replace h := h.2 c
          refine aw_iconst dX12_isAsked_56 (aw_pc (pc' := 57) rfl ?_)
          refine aw_goto (tgt := 111) dX12_isAsked_57 rfl ?_
          exact aw_zret rfl (by decide) dX12_isAsked_111 ⟨_, rfl, h⟩
      · replace h := h.2 c
        refine aw_iload_n dX12_isAsked_60 rfl rfl (aw_pc (pc' := 61) rfl ?_)
        refine aw_bipush dX12_isAsked_61 (by decide) (aw_pc (pc' := 63) rfl ?_)
        refine ac_ne rfl wl_13 dX12_isAsked_63 rfl (fun c => ?_) (fun c => ?_)
        · replace h := h.1 c
          refine aw_lload_n dX12_isAsked_66 rfl rfl (aw_pc (pc' := 67) rfl ?_)
          refine aw_lload_n dX12_isAsked_67 rfl rfl (aw_pc (pc' := 68) rfl ?_)
          refine aw_lcmp dX12_isAsked_68 (aw_pc (pc' := 69) rfl ?_)
          refine aw_if_lt dX12_isAsked_69 rfl (fun c => ?_) (fun c => ?_)
          · replace h := h.1 c
            refine aw_iconst dX12_isAsked_76 (aw_pc (pc' := 77) rfl ?_)
            refine aw_goto (tgt := 111) dX12_isAsked_77 rfl ?_
            exact aw_zret rfl (by decide) dX12_isAsked_111 ⟨_, rfl, h⟩
          · replace h := h.2 c
            refine aw_iconst dX12_isAsked_72 (aw_pc (pc' := 73) rfl ?_)
            refine aw_goto (tgt := 111) dX12_isAsked_73 rfl ?_
            exact aw_zret rfl (by decide) dX12_isAsked_111 ⟨_, rfl, h⟩
        · replace h := h.2 c
          refine aw_iload_n dX12_isAsked_80 rfl rfl (aw_pc (pc' := 81) rfl ?_)
          refine aw_bipush dX12_isAsked_81 (by decide) (aw_pc (pc' := 83) rfl ?_)
          refine ac_ne rfl wl_14 dX12_isAsked_83 rfl (fun c => ?_) (fun c => ?_)
          · replace h := h.1 c
            refine aw_lload_n dX12_isAsked_86 rfl rfl (aw_pc (pc' := 87) rfl ?_)
            refine aw_lload_n dX12_isAsked_87 rfl rfl (aw_pc (pc' := 88) rfl ?_)
            refine aw_lcmp dX12_isAsked_88 (aw_pc (pc' := 89) rfl ?_)
            refine aw_if_ne dX12_isAsked_89 rfl (fun c => ?_) (fun c => ?_)
            · replace h := h.1 c
              refine aw_iconst dX12_isAsked_92 (aw_pc (pc' := 93) rfl ?_)
              refine aw_goto (tgt := 111) dX12_isAsked_93 rfl ?_
              exact aw_zret rfl (by decide) dX12_isAsked_111 ⟨_, rfl, h⟩
            · replace h := h.2 c
              refine aw_iconst dX12_isAsked_96 (aw_pc (pc' := 97) rfl ?_)
              refine aw_goto (tgt := 111) dX12_isAsked_97 rfl ?_
              exact aw_zret rfl (by decide) dX12_isAsked_111 ⟨_, rfl, h⟩
          · replace h := h.2 c
            refine aw_lload_n dX12_isAsked_100 rfl rfl (aw_pc (pc' := 101) rfl ?_)
            refine aw_lload_n dX12_isAsked_101 rfl rfl (aw_pc (pc' := 102) rfl ?_)
            refine aw_lcmp dX12_isAsked_102 (aw_pc (pc' := 103) rfl ?_)
            refine aw_if_eq dX12_isAsked_103 rfl (fun c => ?_) (fun c => ?_)
            · replace h := h.1 c
              refine aw_iconst dX12_isAsked_110 (aw_pc (pc' := 111) rfl ?_)
              exact aw_zret rfl (by decide) dX12_isAsked_111 ⟨_, rfl, h⟩
            · replace h := h.2 c
              refine aw_iconst dX12_isAsked_106 (aw_pc (pc' := 107) rfl ?_)
              refine aw_goto (tgt := 111) dX12_isAsked_107 rfl ?_
              exact aw_zret rfl (by decide) dX12_isAsked_111 ⟨_, rfl, h⟩
def mX12_topLoad (o : Nat) (a1 : Int) (F : hp) (Q : Int → hp → Prop) : Prop := (w32 (iCmp a1 0) < 0 → Q 0 F) ∧ (¬ w32 (iCmp a1 0) < 0 → (w32 (iCmp a1 3) < 0 → gR F (some o) 12 0 (fun x1 => aI F x1 0 (12 + a1) (fun x2 => (0 < w32 x2 → gR F (some o) 12 0 (fun x3 => rcv F (some o) 12 (fun o6 => mX12_uppermost o6 a1 F (fun x5 F4 => aI F4 x3 0 (41 + x5) (fun x7 => Q (w32 x7) F4))))) ∧ (¬ 0 < w32 x2 → Q 0 F)))) ∧ (¬ w32 (iCmp a1 3) < 0 → Q 0 F))
set_option maxHeartbeats 4000000 in
theorem tX12_topLoad {d : Nat} {o : Nat} {a1 : Int} {F : hp} {Q : Int → hp → Prop} (h : mX12_topLoad o a1 F Q) : am nX12_topLoad (d + 2) 0 0 [vr (some o), vl a1] F (qL Q) := by
  refine am_of (by decide +kernel) (Nat.le_of_ble_eq_true rfl) ?_
  show aw nX12_topLoad (d + 2) 0 0 0 [some (vr (some o)), some (vl a1), none] [] F (qL Q)
  unfold mX12_topLoad at h
  refine aw_lload_n dX12_topLoad_0 rfl rfl (aw_pc (pc' := 1) rfl ?_)
  refine aw_lconst (v := 0) dX12_topLoad_1 (by decide) (aw_pc (pc' := 2) rfl ?_)
  refine aw_lcmp dX12_topLoad_2 (aw_pc (pc' := 3) rfl ?_)
  refine aw_if_lt dX12_topLoad_3 rfl (fun c => ?_) (fun c => ?_)
  · replace h := h.1 c
    refine aw_lconst (v := 0) dX12_topLoad_45 (by decide) (aw_pc (pc' := 46) rfl ?_)
    exact aw_lret rfl dX12_topLoad_46 ⟨_, rfl, h⟩
  · replace h := h.2 c
    refine aw_lload_n dX12_topLoad_6 rfl rfl (aw_pc (pc' := 7) rfl ?_)
    refine aw_ldc2 (n := 3) dX12_topLoad_7 qK_RX12_276 (aw_pc (pc' := 10) rfl ?_)
    refine aw_lcmp dX12_topLoad_10 (aw_pc (pc' := 11) rfl ?_)
    refine aw_if_ge dX12_topLoad_11 rfl (fun c => ?_) (fun c => ?_)
    · replace h := h.1 c
      refine aw_aload_n dX12_topLoad_14 rfl rfl (aw_pc (pc' := 15) rfl ?_)
      refine ar_gR fl_RX12_7 dX12_topLoad_15 h ?_
      clear h
      intro x1 h
      refine aw_pc (pc' := 18) rfl ?_
      refine aw_bipush dX12_topLoad_18 (by decide) (aw_pc (pc' := 20) rfl ?_)
      refine aw_lload_n dX12_topLoad_20 rfl rfl (aw_pc (pc' := 21) rfl ?_)
      refine aw_l2i dX12_topLoad_21 (aw_pc (pc' := 22) rfl ?_)
      refine aw_iadd dX12_topLoad_22 (aw_pc (pc' := 23) rfl ?_)
      refine ar_aI dX12_topLoad_23 h ?_
      clear h
      intro x2 h
      refine aw_pc (pc' := 24) rfl ?_
      refine aw_if_le dX12_topLoad_24 rfl (fun c => ?_) (fun c => ?_)
      · replace h := h.1 c
        refine aw_aload_n dX12_topLoad_27 rfl rfl (aw_pc (pc' := 28) rfl ?_)
        refine ar_gR fl_RX12_7 dX12_topLoad_28 h ?_
        clear h
        intro x3 h
        refine aw_pc (pc' := 31) rfl ?_
        refine aw_bipush dX12_topLoad_31 (by decide) (aw_pc (pc' := 33) rfl ?_)
        refine aw_aload_n dX12_topLoad_33 rfl rfl (aw_pc (pc' := 34) rfl ?_)
        refine aw_lload_n dX12_topLoad_34 rfl rfl (aw_pc (pc' := 35) rfl ?_)
        refine aw_l2i dX12_topLoad_35 (aw_pc (pc' := 36) rfl ?_)
        have h0 := rcv_inv h
        clear h
        obtain ⟨o6, fs_o6, hr_o6, he_o6, h⟩ := h0
        obtain rfl : o = o6 := Option.some.inj hr_o6
        refine ar_VI (kc' := 0) (ks' := 0) (kc := 0) (ks := 0) (a := o) (ci := 12) (as := [vi a1]) (st := [vi 41, vr x3]) (tX12_uppermost h) mt_X12_uppermost rfl qM_RX12_278 qI_X12_uppermost qV_X12_uppermost he_o6 rfl (Nat.le_of_ble_eq_true rfl) dX12_topLoad_36 ?_
        clear h
        intro x5 F4 h
        refine aw_pc (pc' := 39) rfl ?_
        refine aw_iadd dX12_topLoad_39 (aw_pc (pc' := 40) rfl ?_)
        refine ar_aI dX12_topLoad_40 h ?_
        clear h
        intro x7 h
        refine aw_pc (pc' := 41) rfl ?_
        refine aw_i2l dX12_topLoad_41 (aw_pc (pc' := 42) rfl ?_)
        refine aw_goto (tgt := 46) dX12_topLoad_42 rfl ?_
        exact aw_lret rfl dX12_topLoad_46 ⟨_, rfl, h⟩
      · replace h := h.2 c
        refine aw_lconst (v := 0) dX12_topLoad_45 (by decide) (aw_pc (pc' := 46) rfl ?_)
        exact aw_lret rfl dX12_topLoad_46 ⟨_, rfl, h⟩
    · replace h := h.2 c
      refine aw_lconst (v := 0) dX12_topLoad_45 (by decide) (aw_pc (pc' := 46) rfl ?_)
      exact aw_lret rfl dX12_topLoad_46 ⟨_, rfl, h⟩
def mX12_ofOne (o : Nat) (a1 : Int) (a2 : Int) (F : hp) (Q : Int → hp → Prop) : Prop := (w32 a1 = 5 → Q (-a2) F) ∧ (¬ w32 a1 = 5 → (w32 a1 = 4 → (w32 (iCmp ((w64 a2).tmod 2) 0) = 0 → Q 0 F) ∧ (¬ w32 (iCmp ((w64 a2).tmod 2) 0) = 0 → Q 1 F)) ∧ (¬ w32 a1 = 4 → rcv F (some o) 12 (fun o3 => mX12_topLoad o3 a2 F (fun x2 F1 => Q x2 F1))))
set_option maxHeartbeats 4000000 in
theorem tX12_ofOne {d : Nat} {o : Nat} {a1 : Int} {a2 : Int} {F : hp} {Q : Int → hp → Prop} (h : mX12_ofOne o a1 a2 F Q) : am nX12_ofOne (d + 3) 0 0 [vr (some o), vi a1, vl a2] F (qL Q) := by
  refine am_of (by decide +kernel) (Nat.le_of_ble_eq_true rfl) ?_
  show aw nX12_ofOne (d + 3) 0 0 0 [some (vr (some o)), some (vi a1), some (vl a2), none] [] F (qL Q)
  unfold mX12_ofOne at h
  refine aw_iload_n dX12_ofOne_0 rfl rfl (aw_pc (pc' := 1) rfl ?_)
  refine aw_iconst dX12_ofOne_1 (aw_pc (pc' := 2) rfl ?_)
  refine ac_ne rfl wl_5 dX12_ofOne_2 rfl (fun c => ?_) (fun c => ?_)
  · replace h := h.1 c
    refine aw_lload_n dX12_ofOne_5 rfl rfl (aw_pc (pc' := 6) rfl ?_)
    refine aw_lneg dX12_ofOne_6 (aw_pc (pc' := 7) rfl ?_)
    refine aw_goto (tgt := 38) dX12_ofOne_7 rfl ?_
    exact aw_lret rfl dX12_ofOne_38 ⟨_, rfl, h⟩
  · replace h := h.2 c
    refine aw_iload_n dX12_ofOne_10 rfl rfl (aw_pc (pc' := 11) rfl ?_)
    refine aw_iconst dX12_ofOne_11 (aw_pc (pc' := 12) rfl ?_)
    refine ac_ne rfl wl_4 dX12_ofOne_12 rfl (fun c => ?_) (fun c => ?_)
    · replace h := h.1 c
      refine aw_lload_n dX12_ofOne_15 rfl rfl (aw_pc (pc' := 16) rfl ?_)
      refine aw_ldc2 (n := 2) dX12_ofOne_16 qK_RX12_281 (aw_pc (pc' := 19) rfl ?_)
      refine ac_lrem wk_2 (by decide) dX12_ofOne_19 (aw_pc (pc' := 20) rfl ?_)
      refine aw_lconst (v := 0) dX12_ofOne_20 (by decide) (aw_pc (pc' := 21) rfl ?_)
      refine aw_lcmp dX12_ofOne_21 (aw_pc (pc' := 22) rfl ?_)
      refine aw_if_ne dX12_ofOne_22 rfl (fun c => ?_) (fun c => ?_)
      · replace h := h.1 c
        refine aw_lconst (v := 0) dX12_ofOne_25 (by decide) (aw_pc (pc' := 26) rfl ?_)
        refine aw_goto (tgt := 38) dX12_ofOne_26 rfl ?_
        exact aw_lret rfl dX12_ofOne_38 ⟨_, rfl, h⟩
      · replace h := h.2 c
        refine aw_lconst (v := 1) dX12_ofOne_29 (by decide) (aw_pc (pc' := 30) rfl ?_)
        refine aw_goto (tgt := 38) dX12_ofOne_30 rfl ?_
        exact aw_lret rfl dX12_ofOne_38 ⟨_, rfl, h⟩
    · replace h := h.2 c
      refine aw_aload_n dX12_ofOne_33 rfl rfl (aw_pc (pc' := 34) rfl ?_)
      refine aw_lload_n dX12_ofOne_34 rfl rfl (aw_pc (pc' := 35) rfl ?_)
      have h0 := rcv_inv h
      clear h
      obtain ⟨o3, fs_o3, hr_o3, he_o3, h⟩ := h0
      obtain rfl : o = o3 := Option.some.inj hr_o3
      refine ar_VL (kc' := 0) (ks' := 0) (kc := 0) (ks := 0) (a := o) (ci := 12) (as := [vl a2]) (st := []) (tX12_topLoad h) mt_X12_topLoad rfl qM_RX12_283 qI_X12_topLoad qV_X12_topLoad he_o3 rfl (Nat.le_of_ble_eq_true rfl) dX12_ofOne_35 ?_
      clear h
      intro x2 F1 h
      refine aw_pc (pc' := 38) rfl ?_
      exact aw_lret rfl dX12_ofOne_38 ⟨_, rfl, h⟩
def mX12_joined_J30 (Q : Int → hp → Prop) (F : hp) : Prop := Q 1 F
set_option maxHeartbeats 4000000 in
theorem tX12_joined_J30 {d : Nat} {Q : Int → hp → Prop} {F : hp} (h : mX12_joined_J30 Q F) : aw nX12_joined d 0 0 30 [none, none, none] [] F (qI Q) := by
  unfold mX12_joined_J30 at h
  refine aw_iconst dX12_joined_30 (aw_pc (pc' := 31) rfl ?_)
  refine aw_goto (tgt := 35) dX12_joined_31 rfl ?_
  exact aw_zret rfl (by decide) dX12_joined_35 ⟨_, rfl, h⟩
def mX12_joined_J18 (Q : Int → hp → Prop) (F : hp) : Prop := Q 0 F
set_option maxHeartbeats 4000000 in
theorem tX12_joined_J18 {d : Nat} {Q : Int → hp → Prop} {F : hp} (h : mX12_joined_J18 Q F) : aw nX12_joined d 0 0 18 [none, none, none] [] F (qI Q) := by
  unfold mX12_joined_J18 at h
  refine aw_iconst dX12_joined_18 (aw_pc (pc' := 19) rfl ?_)
  refine aw_goto (tgt := 35) dX12_joined_19 rfl ?_
  exact aw_zret rfl (by decide) dX12_joined_35 ⟨_, rfl, h⟩
def mX12_joined (a0 : Int) (a1 : Int) (a2 : Int) (F : hp) (Q : Int → hp → Prop) : Prop := (w32 a0 = 21 → (w32 a1 = 0 → mX12_joined_J18 Q F) ∧ (¬ w32 a1 = 0 → (w32 a2 = 0 → mX12_joined_J18 Q F) ∧ (¬ w32 a2 = 0 → Q 1 F))) ∧ (¬ w32 a0 = 21 → (w32 a1 = 0 → (w32 a2 = 0 → Q 0 F) ∧ (¬ w32 a2 = 0 → mX12_joined_J30 Q F)) ∧ (¬ w32 a1 = 0 → mX12_joined_J30 Q F))
set_option maxHeartbeats 4000000 in
theorem tX12_joined {d : Nat} {a0 : Int} {a1 : Int} {a2 : Int} {F : hp} {Q : Int → hp → Prop} (h : mX12_joined a0 a1 a2 F Q) : am nX12_joined d 0 0 [vi a0, vi a1, vi a2] F (qI Q) := by
  refine am_of (by decide +kernel) (Nat.le_of_ble_eq_true rfl) ?_
  show aw nX12_joined d 0 0 0 [some (vi a0), some (vi a1), some (vi a2)] [] F (qI Q)
  unfold mX12_joined at h
  refine aw_iload_n dX12_joined_0 rfl rfl (aw_pc (pc' := 1) rfl ?_)
  refine aw_bipush dX12_joined_1 (by decide) (aw_pc (pc' := 3) rfl ?_)
  refine ac_ne rfl wl_21 dX12_joined_3 rfl (fun c => ?_) (fun c => ?_)
  · replace h := h.1 c
    refine aw_iload_n dX12_joined_6 rfl rfl (aw_pc (pc' := 7) rfl ?_)
    refine aw_if_eq dX12_joined_7 rfl (fun c => ?_) (fun c => ?_)
    · replace h := h.1 c
      exact aw_mask [false, false, false] (tX12_joined_J18 h)
    · replace h := h.2 c
      refine aw_iload_n dX12_joined_10 rfl rfl (aw_pc (pc' := 11) rfl ?_)
      refine aw_if_eq dX12_joined_11 rfl (fun c => ?_) (fun c => ?_)
      · replace h := h.1 c
        exact aw_mask [false, false, false] (tX12_joined_J18 h)
      · replace h := h.2 c
        refine aw_iconst dX12_joined_14 (aw_pc (pc' := 15) rfl ?_)
        refine aw_goto (tgt := 35) dX12_joined_15 rfl ?_
        exact aw_zret rfl (by decide) dX12_joined_35 ⟨_, rfl, h⟩
  · replace h := h.2 c
    refine aw_iload_n dX12_joined_22 rfl rfl (aw_pc (pc' := 23) rfl ?_)
    refine aw_if_ne dX12_joined_23 rfl (fun c => ?_) (fun c => ?_)
    · replace h := h.1 c
      refine aw_iload_n dX12_joined_26 rfl rfl (aw_pc (pc' := 27) rfl ?_)
      refine aw_if_eq dX12_joined_27 rfl (fun c => ?_) (fun c => ?_)
      · replace h := h.1 c
        refine aw_iconst dX12_joined_34 (aw_pc (pc' := 35) rfl ?_)
        exact aw_zret rfl (by decide) dX12_joined_35 ⟨_, rfl, h⟩
      · replace h := h.2 c
        exact aw_mask [false, false, false] (tX12_joined_J30 h)
    · replace h := h.2 c
      exact aw_mask [false, false, false] (tX12_joined_J30 h)
def mX12_summedUp_J349 (X38 : Nat → Int → Int → Int → Int → Int → hp → Prop) (Q : Int → hp → Prop) (o : Nat) (a3 : Int) (a4 : Int) (a5 : Int) (a6 : Int) (a7 : Int) (F : hp) : Prop := X38 o a3 a4 a5 a6 (a7 + 1) F
set_option maxHeartbeats 4000000 in
theorem tX12_summedUp_J349 {d : Nat} {X38 : Nat → Int → Int → Int → Int → Int → hp → Prop} {Q : Int → hp → Prop} (hX38 : ∀ (o : Nat) (a3 : Int) (a4 : Int) (a5 : Int) (a6 : Int) (a7 : Int) (F : hp), X38 o a3 a4 a5 a6 a7 F → aw nX12_summedUp (d + 4) 0 0 38 [some (vr (some o)), none, none, some (vi a3), some (vi a4), some (vi a5), some (vi a6), some (vi a7), none, none] [] F (qL Q)) {o : Nat} {a3 : Int} {a4 : Int} {a5 : Int} {a6 : Int} {a7 : Int} {F : hp} (h : mX12_summedUp_J349 X38 Q o a3 a4 a5 a6 a7 F) : aw nX12_summedUp (d + 4) 0 0 349 [some (vr (some o)), none, none, some (vi a3), some (vi a4), some (vi a5), some (vi a6), some (vi a7), none, none] [] F (qL Q) := by
  unfold mX12_summedUp_J349 at h
  refine aw_iinc dX12_summedUp_349 rfl (by decide) (aw_pc (pc' := 352) rfl ?_)
  refine aw_goto (tgt := 38) dX12_summedUp_352 rfl ?_
  exact aw_mask [true, false, false, true, true, true, true, true, false, false] (hX38 _ _ _ _ _ _ _ h)
def mX12_summedUp_J312 (X38 : Nat → Int → Int → Int → Int → Int → hp → Prop) (Q : Int → hp → Prop) (o : Nat) (a3 : Int) (a4 : Int) (a5 : Int) (a6 : Int) (a7 : Int) (s0 : Option Nat) (s1 : Int) (s2 : Int) (F : hp) : Prop := ((s2 : Int) = 0 ∨ (s2 : Int) = 1) ∧ sI F s0 2 s1 s2 (fun F1 => mX12_summedUp_J349 X38 Q o a3 a4 a5 a6 a7 F1)
set_option maxHeartbeats 4000000 in
theorem tX12_summedUp_J312 {d : Nat} {X38 : Nat → Int → Int → Int → Int → Int → hp → Prop} {Q : Int → hp → Prop} (hX38 : ∀ (o : Nat) (a3 : Int) (a4 : Int) (a5 : Int) (a6 : Int) (a7 : Int) (F : hp), X38 o a3 a4 a5 a6 a7 F → aw nX12_summedUp (d + 4) 0 0 38 [some (vr (some o)), none, none, some (vi a3), some (vi a4), some (vi a5), some (vi a6), some (vi a7), none, none] [] F (qL Q)) {o : Nat} {a3 : Int} {a4 : Int} {a5 : Int} {a6 : Int} {a7 : Int} {s0 : Option Nat} {s1 : Int} {s2 : Int} {F : hp} (h : mX12_summedUp_J312 X38 Q o a3 a4 a5 a6 a7 s0 s1 s2 F) : aw nX12_summedUp (d + 4) 0 0 312 [some (vr (some o)), none, none, some (vi a3), some (vi a4), some (vi a5), some (vi a6), some (vi a7), none, none] [vi s2, vi s1, vr s0] F (qL Q) := by
  unfold mX12_summedUp_J312 at h
  refine ar_sZ dX12_summedUp_312 h ?_
  clear h
  intro F1 h
  refine aw_pc (pc' := 313) rfl ?_
  refine aw_goto (tgt := 349) dX12_summedUp_313 rfl ?_
  exact aw_mask [true, false, false, true, true, true, true, true, false, false] (tX12_summedUp_J349 hX38 h)
def mX12_summedUp_J112 (X38 : Nat → Int → Int → Int → Int → Int → hp → Prop) (Q : Int → hp → Prop) (o : Nat) (a3 : Int) (a4 : Int) (a5 : Int) (a6 : Int) (a7 : Int) (s0 : Option Nat) (s1 : Int) (s2 : Int) (F : hp) : Prop := sI F s0 3 s1 s2 (fun F1 => mX12_summedUp_J349 X38 Q o a3 a4 (a5 + 1) a6 a7 F1)
set_option maxHeartbeats 4000000 in
theorem tX12_summedUp_J112 {d : Nat} {X38 : Nat → Int → Int → Int → Int → Int → hp → Prop} {Q : Int → hp → Prop} (hX38 : ∀ (o : Nat) (a3 : Int) (a4 : Int) (a5 : Int) (a6 : Int) (a7 : Int) (F : hp), X38 o a3 a4 a5 a6 a7 F → aw nX12_summedUp (d + 4) 0 0 38 [some (vr (some o)), none, none, some (vi a3), some (vi a4), some (vi a5), some (vi a6), some (vi a7), none, none] [] F (qL Q)) {o : Nat} {a3 : Int} {a4 : Int} {a5 : Int} {a6 : Int} {a7 : Int} {s0 : Option Nat} {s1 : Int} {s2 : Int} {F : hp} (h : mX12_summedUp_J112 X38 Q o a3 a4 a5 a6 a7 s0 s1 s2 F) : aw nX12_summedUp (d + 4) 0 0 112 [some (vr (some o)), none, none, some (vi a3), some (vi a4), some (vi a5), some (vi a6), some (vi a7), none, none] [vl s2, vi s1, vr s0] F (qL Q) := by
  unfold mX12_summedUp_J112 at h
  refine ar_sL dX12_summedUp_112 h ?_
  clear h
  intro F1 h
  refine aw_pc (pc' := 113) rfl ?_
  refine aw_iinc dX12_summedUp_113 rfl (by decide) (aw_pc (pc' := 116) rfl ?_)
  refine aw_goto (tgt := 349) dX12_summedUp_116 rfl ?_
  exact aw_mask [true, false, false, true, true, true, true, true, false, false] (tX12_summedUp_J349 hX38 h)
def mX12_summedUp_L38 (Q : Int → hp → Prop) : Nat → Nat → Int → Int → Int → Int → Int → hp → Prop
  | 0, _, _, _, _, _, _, _ => False
  | k + 1, o, a3, a4, a5, a6, a7, F => gR F (some o) 12 2 (fun x1 => aI F x1 0 (a3 + 2) (fun x2 => (w32 a7 < w32 x2 → gR F (some o) 12 2 (fun x3 => aI F x3 0 (a4 + (2 * a7)) (fun x4 => gR F (some o) 12 2 (fun x5 => aI F x5 0 ((a4 + (2 * a7)) + 1) (fun x6 => (1 < w32 x4 → (w32 x4 = 3 → gR F (some o) 12 22 (fun x7 => aI F x7 2 (a6 + (-1)) (fun x8 => (w32 x8 = 0 → gR F (some o) 12 21 (fun x9 => gR F (some o) 12 21 (fun x10 => aI F x10 3 (a5 + (-1)) (fun x11 => sI F x9 3 ((a5 + (-1)) - 1) x11 (fun F12 => mX12_summedUp_J349 (fun o' a3' a4' a5' a6' a7' F' => mX12_summedUp_L38 Q k o' a3' a4' a5' a6' a7' F') Q o a3 a4 (a5 + (-1)) (a6 + (-1)) a7 F12))))) ∧ (¬ w32 x8 = 0 → mX12_summedUp_J349 (fun o' a3' a4' a5' a6' a7' F' => mX12_summedUp_L38 Q k o' a3' a4' a5' a6' a7' F') Q o a3 a4 (a5 + (-1)) (a6 + (-1)) a7 F)))) ∧ (¬ w32 x4 = 3 → (5 < w32 x4 → (w32 x4 < 10 → gR F (some o) 12 21 (fun x13 => gR F (some o) 12 21 (fun x14 => aI F x14 3 ((a5 + (-1)) - 1) (fun x15 => gR F (some o) 12 21 (fun x16 => aI F x16 3 (a5 + (-1)) (fun x17 => mX12_two x4 x15 x17 F (fun x19 F18 => sI F18 x13 3 ((a5 + (-1)) - 1) x19 (fun F20 => mX12_summedUp_J349 (fun o' a3' a4' a5' a6' a7' F' => mX12_summedUp_L38 Q k o' a3' a4' a5' a6' a7' F') Q o a3 a4 (a5 + (-1)) a6 a7 F20)))))))) ∧ (¬ w32 x4 < 10 → (w32 x4 < 20 → gR F (some o) 12 22 (fun x21 => gR F (some o) 12 21 (fun x22 => aI F x22 3 (a5 + (-2)) (fun x23 => gR F (some o) 12 21 (fun x24 => aI F x24 3 ((a5 + (-2)) + 1) (fun x25 => mX12_isAsked x4 x23 x25 F (fun x27 F26 => ((x27 : Int) = 0 ∨ (x27 : Int) = 1) ∧ sI F26 x21 2 a6 x27 (fun F28 => mX12_summedUp_J349 (fun o' a3' a4' a5' a6' a7' F' => mX12_summedUp_L38 Q k o' a3' a4' a5' a6' a7' F') Q o a3 a4 (a5 + (-2)) (a6 + 1) a7 F28)))))))) ∧ (¬ w32 x4 < 20 → (w32 x4 = 20 → gR F (some o) 12 22 (fun x29 => gR F (some o) 12 22 (fun x30 => aI F x30 2 (a6 - 1) (fun x31 => (w32 x31 = 0 → mX12_summedUp_J312 (fun o' a3' a4' a5' a6' a7' F' => mX12_summedUp_L38 Q k o' a3' a4' a5' a6' a7' F') Q o a3 a4 a5 a6 a7 x29 (a6 - 1) 1 F) ∧ (¬ w32 x31 = 0 → mX12_summedUp_J312 (fun o' a3' a4' a5' a6' a7' F' => mX12_summedUp_L38 Q k o' a3' a4' a5' a6' a7' F') Q o a3 a4 a5 a6 a7 x29 (a6 - 1) 0 F))))) ∧ (¬ w32 x4 = 20 → gR F (some o) 12 22 (fun x32 => gR F (some o) 12 22 (fun x33 => aI F x33 2 ((a6 + (-1)) - 1) (fun x34 => gR F (some o) 12 22 (fun x35 => aI F x35 2 (a6 + (-1)) (fun x36 => mX12_joined x4 x34 x36 F (fun x38 F37 => ((x38 : Int) = 0 ∨ (x38 : Int) = 1) ∧ sI F37 x32 2 ((a6 + (-1)) - 1) x38 (fun F39 => mX12_summedUp_J349 (fun o' a3' a4' a5' a6' a7' F' => mX12_summedUp_L38 Q k o' a3' a4' a5' a6' a7' F') Q o a3 a4 a5 (a6 + (-1)) a7 F39))))))))))) ∧ (¬ 5 < w32 x4 → gR F (some o) 12 21 (fun x40 => gR F (some o) 12 21 (fun x41 => aI F x41 3 (a5 - 1) (fun x42 => rcv F (some o) 12 (fun o45 => mX12_ofOne o45 x4 x42 F (fun x44 F43 => sI F43 x40 3 (a5 - 1) x44 (fun F46 => mX12_summedUp_J349 (fun o' a3' a4' a5' a6' a7' F' => mX12_summedUp_L38 Q k o' a3' a4' a5' a6' a7' F') Q o a3 a4 a5 a6 a7 F46))))))))) ∧ (¬ 1 < w32 x4 → gR F (some o) 12 21 (fun x47 => (w32 x4 = 0 → mX12_summedUp_J112 (fun o' a3' a4' a5' a6' a7' F' => mX12_summedUp_L38 Q k o' a3' a4' a5' a6' a7' F') Q o a3 a4 a5 a6 a7 x47 a5 (w32 x6) F) ∧ (¬ w32 x4 = 0 → gR F (some o) 12 20 (fun x48 => aI F x48 0 x6 (fun x49 => mX12_summedUp_J112 (fun o' a3' a4' a5' a6' a7' F' => mX12_summedUp_L38 Q k o' a3' a4' a5' a6' a7' F') Q o a3 a4 a5 a6 a7 x47 a5 (w32 x49) F)))))))))) ∧ (¬ w32 a7 < w32 x2 → gR F (some o) 12 21 (fun x50 => aI F x50 3 0 (fun x51 => Q x51 F)))))
set_option maxHeartbeats 4000000 in
theorem tX12_summedUp_L38 {d : Nat} {Q : Int → hp → Prop} : ∀ (k : Nat) (o : Nat) (a3 : Int) (a4 : Int) (a5 : Int) (a6 : Int) (a7 : Int) (F : hp), mX12_summedUp_L38 Q k o a3 a4 a5 a6 a7 F → aw nX12_summedUp (d + 4) 0 0 38 [some (vr (some o)), none, none, some (vi a3), some (vi a4), some (vi a5), some (vi a6), some (vi a7), none, none] [] F (qL Q) := by
  intro k
  induction k with
  | zero => intro o a3 a4 a5 a6 a7 F h; exact h.elim
  | succ k ih =>
    intro o a3 a4 a5 a6 a7 F h
    simp only [mX12_summedUp_L38] at h
    refine aw_iload dX12_summedUp_38 rfl (aw_pc (pc' := 40) rfl ?_)
    refine aw_aload_n dX12_summedUp_40 rfl rfl (aw_pc (pc' := 41) rfl ?_)
    refine ar_gR fl_RX12_16 dX12_summedUp_41 h ?_
    clear h
    intro x1 h
    refine aw_pc (pc' := 44) rfl ?_
    refine aw_iload_n dX12_summedUp_44 rfl rfl (aw_pc (pc' := 45) rfl ?_)
    refine aw_iconst dX12_summedUp_45 (aw_pc (pc' := 46) rfl ?_)
    refine aw_iadd dX12_summedUp_46 (aw_pc (pc' := 47) rfl ?_)
    refine ar_aI dX12_summedUp_47 h ?_
    clear h
    intro x2 h
    refine aw_pc (pc' := 48) rfl ?_
    refine ac_ge rfl rfl dX12_summedUp_48 rfl (fun c => ?_) (fun c => ?_)
    · replace h := h.1 c
      refine aw_aload_n dX12_summedUp_51 rfl rfl (aw_pc (pc' := 52) rfl ?_)
      refine ar_gR fl_RX12_16 dX12_summedUp_52 h ?_
      clear h
      intro x3 h
      refine aw_pc (pc' := 55) rfl ?_
      refine aw_iload dX12_summedUp_55 rfl (aw_pc (pc' := 57) rfl ?_)
      refine aw_iconst dX12_summedUp_57 (aw_pc (pc' := 58) rfl ?_)
      refine aw_iload dX12_summedUp_58 rfl (aw_pc (pc' := 60) rfl ?_)
      refine aw_imul dX12_summedUp_60 (aw_pc (pc' := 61) rfl ?_)
      refine aw_iadd dX12_summedUp_61 (aw_pc (pc' := 62) rfl ?_)
      refine ar_aI dX12_summedUp_62 h ?_
      clear h
      intro x4 h
      refine aw_pc (pc' := 63) rfl ?_
      refine aw_istore dX12_summedUp_63 (by decide) (aw_pc (pc' := 65) rfl ?_)
      refine aw_aload_n dX12_summedUp_65 rfl rfl (aw_pc (pc' := 66) rfl ?_)
      refine ar_gR fl_RX12_16 dX12_summedUp_66 h ?_
      clear h
      intro x5 h
      refine aw_pc (pc' := 69) rfl ?_
      refine aw_iload dX12_summedUp_69 rfl (aw_pc (pc' := 71) rfl ?_)
      refine aw_iconst dX12_summedUp_71 (aw_pc (pc' := 72) rfl ?_)
      refine aw_iload dX12_summedUp_72 rfl (aw_pc (pc' := 74) rfl ?_)
      refine aw_imul dX12_summedUp_74 (aw_pc (pc' := 75) rfl ?_)
      refine aw_iadd dX12_summedUp_75 (aw_pc (pc' := 76) rfl ?_)
      refine aw_iconst dX12_summedUp_76 (aw_pc (pc' := 77) rfl ?_)
      refine aw_iadd dX12_summedUp_77 (aw_pc (pc' := 78) rfl ?_)
      refine ar_aI dX12_summedUp_78 h ?_
      clear h
      intro x6 h
      refine aw_pc (pc' := 79) rfl ?_
      refine aw_istore dX12_summedUp_79 (by decide) (aw_pc (pc' := 81) rfl ?_)
      refine aw_iload dX12_summedUp_81 rfl (aw_pc (pc' := 83) rfl ?_)
      refine aw_iconst dX12_summedUp_83 (aw_pc (pc' := 84) rfl ?_)
      refine ac_gt rfl wl_1 dX12_summedUp_84 rfl (fun c => ?_) (fun c => ?_)
      · replace h := h.1 c
        refine aw_iload dX12_summedUp_119 rfl (aw_pc (pc' := 121) rfl ?_)
        refine aw_iconst dX12_summedUp_121 (aw_pc (pc' := 122) rfl ?_)
        refine ac_ne rfl wl_3 dX12_summedUp_122 rfl (fun c => ?_) (fun c => ?_)
        · replace h := h.1 c
          refine aw_iinc dX12_summedUp_125 rfl (by decide) (aw_pc (pc' := 128) rfl ?_)
          refine aw_iinc dX12_summedUp_128 rfl (by decide) (aw_pc (pc' := 131) rfl ?_)
          refine aw_aload_n dX12_summedUp_131 rfl rfl (aw_pc (pc' := 132) rfl ?_)
          refine ar_gR fl_RX12_39 dX12_summedUp_132 h ?_
          clear h
          intro x7 h
          refine aw_pc (pc' := 135) rfl ?_
          refine aw_iload dX12_summedUp_135 rfl (aw_pc (pc' := 137) rfl ?_)
          refine ar_aZ dX12_summedUp_137 h ?_
          clear h
          intro x8 h
          refine aw_pc (pc' := 138) rfl ?_
          refine aw_if_ne dX12_summedUp_138 rfl (fun c => ?_) (fun c => ?_)
          · replace h := h.1 c
            refine aw_aload_n dX12_summedUp_141 rfl rfl (aw_pc (pc' := 142) rfl ?_)
            refine ar_gR fl_RX12_35 dX12_summedUp_142 h ?_
            clear h
            intro x9 h
            refine aw_pc (pc' := 145) rfl ?_
            refine aw_iload dX12_summedUp_145 rfl (aw_pc (pc' := 147) rfl ?_)
            refine aw_iconst dX12_summedUp_147 (aw_pc (pc' := 148) rfl ?_)
            refine aw_isub dX12_summedUp_148 (aw_pc (pc' := 149) rfl ?_)
            refine aw_aload_n dX12_summedUp_149 rfl rfl (aw_pc (pc' := 150) rfl ?_)
            refine ar_gR fl_RX12_35 dX12_summedUp_150 h ?_
            clear h
            intro x10 h
            refine aw_pc (pc' := 153) rfl ?_
            refine aw_iload dX12_summedUp_153 rfl (aw_pc (pc' := 155) rfl ?_)
            refine ar_aL dX12_summedUp_155 h ?_
            clear h
            intro x11 h
            refine aw_pc (pc' := 156) rfl ?_
            refine ar_sL dX12_summedUp_156 h ?_
            clear h
            intro F12 h
            refine aw_pc (pc' := 157) rfl ?_
            refine aw_goto (tgt := 349) dX12_summedUp_157 rfl ?_
            exact aw_mask [true, false, false, true, true, true, true, true, false, false] (tX12_summedUp_J349 (fun o' a3' a4' a5' a6' a7' F' h' => ih o' a3' a4' a5' a6' a7' F' h') h)
          · replace h := h.2 c
            exact aw_mask [true, false, false, true, true, true, true, true, false, false] (tX12_summedUp_J349 (fun o' a3' a4' a5' a6' a7' F' h' => ih o' a3' a4' a5' a6' a7' F' h') h)
        · replace h := h.2 c
          refine aw_iload dX12_summedUp_160 rfl (aw_pc (pc' := 162) rfl ?_)
          refine aw_iconst dX12_summedUp_162 (aw_pc (pc' := 163) rfl ?_)
          refine ac_gt rfl wl_5 dX12_summedUp_163 rfl (fun c => ?_) (fun c => ?_)
          · replace h := h.1 c
            refine aw_iload dX12_summedUp_193 rfl (aw_pc (pc' := 195) rfl ?_)
            refine aw_bipush dX12_summedUp_195 (by decide) (aw_pc (pc' := 197) rfl ?_)
            refine ac_ge rfl wl_10 dX12_summedUp_197 rfl (fun c => ?_) (fun c => ?_)
            · replace h := h.1 c
              refine aw_iinc dX12_summedUp_200 rfl (by decide) (aw_pc (pc' := 203) rfl ?_)
              refine aw_aload_n dX12_summedUp_203 rfl rfl (aw_pc (pc' := 204) rfl ?_)
              refine ar_gR fl_RX12_35 dX12_summedUp_204 h ?_
              clear h
              intro x13 h
              refine aw_pc (pc' := 207) rfl ?_
              refine aw_iload dX12_summedUp_207 rfl (aw_pc (pc' := 209) rfl ?_)
              refine aw_iconst dX12_summedUp_209 (aw_pc (pc' := 210) rfl ?_)
              refine aw_isub dX12_summedUp_210 (aw_pc (pc' := 211) rfl ?_)
              refine aw_iload dX12_summedUp_211 rfl (aw_pc (pc' := 213) rfl ?_)
              refine aw_aload_n dX12_summedUp_213 rfl rfl (aw_pc (pc' := 214) rfl ?_)
              refine ar_gR fl_RX12_35 dX12_summedUp_214 h ?_
              clear h
              intro x14 h
              refine aw_pc (pc' := 217) rfl ?_
              refine aw_iload dX12_summedUp_217 rfl (aw_pc (pc' := 219) rfl ?_)
              refine aw_iconst dX12_summedUp_219 (aw_pc (pc' := 220) rfl ?_)
              refine aw_isub dX12_summedUp_220 (aw_pc (pc' := 221) rfl ?_)
              refine ar_aL dX12_summedUp_221 h ?_
              clear h
              intro x15 h
              refine aw_pc (pc' := 222) rfl ?_
              refine aw_aload_n dX12_summedUp_222 rfl rfl (aw_pc (pc' := 223) rfl ?_)
              refine ar_gR fl_RX12_35 dX12_summedUp_223 h ?_
              clear h
              intro x16 h
              refine aw_pc (pc' := 226) rfl ?_
              refine aw_iload dX12_summedUp_226 rfl (aw_pc (pc' := 228) rfl ?_)
              refine ar_aL dX12_summedUp_228 h ?_
              clear h
              intro x17 h
              refine aw_pc (pc' := 229) rfl ?_
              refine ar_SL (kc' := 0) (ks' := 0) (kc := 0) (ks := 0) (as := [vi x4, vl x15, vl x17]) (st := [vi ((a5 + (-1)) - 1), vr x13]) (tX12_two h) mt_X12_two qM_RX12_290 qS_X12_two rfl (Nat.le_of_ble_eq_true rfl) dX12_summedUp_229 ?_
              clear h
              intro x19 F18 h
              refine aw_pc (pc' := 232) rfl ?_
              refine ar_sL dX12_summedUp_232 h ?_
              clear h
              intro F20 h
              refine aw_pc (pc' := 233) rfl ?_
              refine aw_goto (tgt := 349) dX12_summedUp_233 rfl ?_
              exact aw_mask [true, false, false, true, true, true, true, true, false, false] (tX12_summedUp_J349 (fun o' a3' a4' a5' a6' a7' F' h' => ih o' a3' a4' a5' a6' a7' F' h') h)
            · replace h := h.2 c
              refine aw_iload dX12_summedUp_236 rfl (aw_pc (pc' := 238) rfl ?_)
              refine aw_bipush dX12_summedUp_238 (by decide) (aw_pc (pc' := 240) rfl ?_)
              refine ac_ge rfl wl_20 dX12_summedUp_240 rfl (fun c => ?_) (fun c => ?_)
              · replace h := h.1 c
                refine aw_iinc dX12_summedUp_243 rfl (by decide) (aw_pc (pc' := 246) rfl ?_)
                refine aw_aload_n dX12_summedUp_246 rfl rfl (aw_pc (pc' := 247) rfl ?_)
                refine ar_gR fl_RX12_39 dX12_summedUp_247 h ?_
                clear h
                intro x21 h
                refine aw_pc (pc' := 250) rfl ?_
                refine aw_iload dX12_summedUp_250 rfl (aw_pc (pc' := 252) rfl ?_)
                refine aw_iload dX12_summedUp_252 rfl (aw_pc (pc' := 254) rfl ?_)
                refine aw_aload_n dX12_summedUp_254 rfl rfl (aw_pc (pc' := 255) rfl ?_)
                refine ar_gR fl_RX12_35 dX12_summedUp_255 h ?_
                clear h
                intro x22 h
                refine aw_pc (pc' := 258) rfl ?_
                refine aw_iload dX12_summedUp_258 rfl (aw_pc (pc' := 260) rfl ?_)
                refine ar_aL dX12_summedUp_260 h ?_
                clear h
                intro x23 h
                refine aw_pc (pc' := 261) rfl ?_
                refine aw_aload_n dX12_summedUp_261 rfl rfl (aw_pc (pc' := 262) rfl ?_)
                refine ar_gR fl_RX12_35 dX12_summedUp_262 h ?_
                clear h
                intro x24 h
                refine aw_pc (pc' := 265) rfl ?_
                refine aw_iload dX12_summedUp_265 rfl (aw_pc (pc' := 267) rfl ?_)
                refine aw_iconst dX12_summedUp_267 (aw_pc (pc' := 268) rfl ?_)
                refine aw_iadd dX12_summedUp_268 (aw_pc (pc' := 269) rfl ?_)
                refine ar_aL dX12_summedUp_269 h ?_
                clear h
                intro x25 h
                refine aw_pc (pc' := 270) rfl ?_
                refine ar_SI (kc' := 0) (ks' := 0) (kc := 0) (ks := 0) (as := [vi x4, vl x23, vl x25]) (st := [vi a6, vr x21]) (tX12_isAsked h) mt_X12_isAsked qM_RX12_294 qS_X12_isAsked rfl (Nat.le_of_ble_eq_true rfl) dX12_summedUp_270 ?_
                clear h
                intro x27 F26 h
                refine aw_pc (pc' := 273) rfl ?_
                refine ar_sZ dX12_summedUp_273 h ?_
                clear h
                intro F28 h
                refine aw_pc (pc' := 274) rfl ?_
                refine aw_iinc dX12_summedUp_274 rfl (by decide) (aw_pc (pc' := 277) rfl ?_)
                refine aw_goto (tgt := 349) dX12_summedUp_277 rfl ?_
                exact aw_mask [true, false, false, true, true, true, true, true, false, false] (tX12_summedUp_J349 (fun o' a3' a4' a5' a6' a7' F' h' => ih o' a3' a4' a5' a6' a7' F' h') h)
              · replace h := h.2 c
                refine aw_iload dX12_summedUp_280 rfl (aw_pc (pc' := 282) rfl ?_)
                refine aw_bipush dX12_summedUp_282 (by decide) (aw_pc (pc' := 284) rfl ?_)
                refine ac_ne rfl wl_20 dX12_summedUp_284 rfl (fun c => ?_) (fun c => ?_)
                · replace h := h.1 c
                  refine aw_aload_n dX12_summedUp_287 rfl rfl (aw_pc (pc' := 288) rfl ?_)
                  refine ar_gR fl_RX12_39 dX12_summedUp_288 h ?_
                  clear h
                  intro x29 h
                  refine aw_pc (pc' := 291) rfl ?_
                  refine aw_iload dX12_summedUp_291 rfl (aw_pc (pc' := 293) rfl ?_)
                  refine aw_iconst dX12_summedUp_293 (aw_pc (pc' := 294) rfl ?_)
                  refine aw_isub dX12_summedUp_294 (aw_pc (pc' := 295) rfl ?_)
                  refine aw_aload_n dX12_summedUp_295 rfl rfl (aw_pc (pc' := 296) rfl ?_)
                  refine ar_gR fl_RX12_39 dX12_summedUp_296 h ?_
                  clear h
                  intro x30 h
                  refine aw_pc (pc' := 299) rfl ?_
                  refine aw_iload dX12_summedUp_299 rfl (aw_pc (pc' := 301) rfl ?_)
                  refine aw_iconst dX12_summedUp_301 (aw_pc (pc' := 302) rfl ?_)
                  refine aw_isub dX12_summedUp_302 (aw_pc (pc' := 303) rfl ?_)
                  refine ar_aZ dX12_summedUp_303 h ?_
                  clear h
                  intro x31 h
                  refine aw_pc (pc' := 304) rfl ?_
                  refine aw_if_ne dX12_summedUp_304 rfl (fun c => ?_) (fun c => ?_)
                  · replace h := h.1 c
                    refine aw_iconst dX12_summedUp_307 (aw_pc (pc' := 308) rfl ?_)
                    refine aw_goto (tgt := 312) dX12_summedUp_308 rfl ?_
                    exact aw_mask [true, false, false, true, true, true, true, true, false, false] (tX12_summedUp_J312 (fun o' a3' a4' a5' a6' a7' F' h' => ih o' a3' a4' a5' a6' a7' F' h') h)
                  · replace h := h.2 c
                    refine aw_iconst dX12_summedUp_311 (aw_pc (pc' := 312) rfl ?_)
                    exact aw_mask [true, false, false, true, true, true, true, true, false, false] (tX12_summedUp_J312 (fun o' a3' a4' a5' a6' a7' F' h' => ih o' a3' a4' a5' a6' a7' F' h') h)
                · replace h := h.2 c
                  refine aw_iinc dX12_summedUp_316 rfl (by decide) (aw_pc (pc' := 319) rfl ?_)
                  refine aw_aload_n dX12_summedUp_319 rfl rfl (aw_pc (pc' := 320) rfl ?_)
                  refine ar_gR fl_RX12_39 dX12_summedUp_320 h ?_
                  clear h
                  intro x32 h
                  refine aw_pc (pc' := 323) rfl ?_
                  refine aw_iload dX12_summedUp_323 rfl (aw_pc (pc' := 325) rfl ?_)
                  refine aw_iconst dX12_summedUp_325 (aw_pc (pc' := 326) rfl ?_)
                  refine aw_isub dX12_summedUp_326 (aw_pc (pc' := 327) rfl ?_)
                  refine aw_iload dX12_summedUp_327 rfl (aw_pc (pc' := 329) rfl ?_)
                  refine aw_aload_n dX12_summedUp_329 rfl rfl (aw_pc (pc' := 330) rfl ?_)
                  refine ar_gR fl_RX12_39 dX12_summedUp_330 h ?_
                  clear h
                  intro x33 h
                  refine aw_pc (pc' := 333) rfl ?_
                  refine aw_iload dX12_summedUp_333 rfl (aw_pc (pc' := 335) rfl ?_)
                  refine aw_iconst dX12_summedUp_335 (aw_pc (pc' := 336) rfl ?_)
                  refine aw_isub dX12_summedUp_336 (aw_pc (pc' := 337) rfl ?_)
                  refine ar_aZ dX12_summedUp_337 h ?_
                  clear h
                  intro x34 h
                  refine aw_pc (pc' := 338) rfl ?_
                  refine aw_aload_n dX12_summedUp_338 rfl rfl (aw_pc (pc' := 339) rfl ?_)
                  refine ar_gR fl_RX12_39 dX12_summedUp_339 h ?_
                  clear h
                  intro x35 h
                  refine aw_pc (pc' := 342) rfl ?_
                  refine aw_iload dX12_summedUp_342 rfl (aw_pc (pc' := 344) rfl ?_)
                  refine ar_aZ dX12_summedUp_344 h ?_
                  clear h
                  intro x36 h
                  refine aw_pc (pc' := 345) rfl ?_
                  refine ar_SI (kc' := 0) (ks' := 0) (kc := 0) (ks := 0) (as := [vi x4, vi x34, vi x36]) (st := [vi ((a6 + (-1)) - 1), vr x32]) (tX12_joined h) mt_X12_joined qM_RX12_298 qS_X12_joined rfl (Nat.le_of_ble_eq_true rfl) dX12_summedUp_345 ?_
                  clear h
                  intro x38 F37 h
                  refine aw_pc (pc' := 348) rfl ?_
                  refine ar_sZ dX12_summedUp_348 h ?_
                  clear h
                  intro F39 h
                  refine aw_pc (pc' := 349) rfl ?_
                  exact aw_mask [true, false, false, true, true, true, true, true, false, false] (tX12_summedUp_J349 (fun o' a3' a4' a5' a6' a7' F' h' => ih o' a3' a4' a5' a6' a7' F' h') h)
          · replace h := h.2 c
            refine aw_aload_n dX12_summedUp_166 rfl rfl (aw_pc (pc' := 167) rfl ?_)
            refine ar_gR fl_RX12_35 dX12_summedUp_167 h ?_
            clear h
            intro x40 h
            refine aw_pc (pc' := 170) rfl ?_
            refine aw_iload dX12_summedUp_170 rfl (aw_pc (pc' := 172) rfl ?_)
            refine aw_iconst dX12_summedUp_172 (aw_pc (pc' := 173) rfl ?_)
            refine aw_isub dX12_summedUp_173 (aw_pc (pc' := 174) rfl ?_)
            refine aw_aload_n dX12_summedUp_174 rfl rfl (aw_pc (pc' := 175) rfl ?_)
            refine aw_iload dX12_summedUp_175 rfl (aw_pc (pc' := 177) rfl ?_)
            refine aw_aload_n dX12_summedUp_177 rfl rfl (aw_pc (pc' := 178) rfl ?_)
            refine ar_gR fl_RX12_35 dX12_summedUp_178 h ?_
            clear h
            intro x41 h
            refine aw_pc (pc' := 181) rfl ?_
            refine aw_iload dX12_summedUp_181 rfl (aw_pc (pc' := 183) rfl ?_)
            refine aw_iconst dX12_summedUp_183 (aw_pc (pc' := 184) rfl ?_)
            refine aw_isub dX12_summedUp_184 (aw_pc (pc' := 185) rfl ?_)
            refine ar_aL dX12_summedUp_185 h ?_
            clear h
            intro x42 h
            refine aw_pc (pc' := 186) rfl ?_
            have h0 := rcv_inv h
            clear h
            obtain ⟨o45, fs_o45, hr_o45, he_o45, h⟩ := h0
            obtain rfl : o = o45 := Option.some.inj hr_o45
            refine ar_VL (kc' := 0) (ks' := 0) (kc := 0) (ks := 0) (a := o) (ci := 12) (as := [vi x4, vl x42]) (st := [vi (a5 - 1), vr x40]) (tX12_ofOne h) mt_X12_ofOne rfl qM_RX12_286 qI_X12_ofOne qV_X12_ofOne he_o45 rfl (Nat.le_of_ble_eq_true rfl) dX12_summedUp_186 ?_
            clear h
            intro x44 F43 h
            refine aw_pc (pc' := 189) rfl ?_
            refine ar_sL dX12_summedUp_189 h ?_
            clear h
            intro F46 h
            refine aw_pc (pc' := 190) rfl ?_
            refine aw_goto (tgt := 349) dX12_summedUp_190 rfl ?_
            exact aw_mask [true, false, false, true, true, true, true, true, false, false] (tX12_summedUp_J349 (fun o' a3' a4' a5' a6' a7' F' h' => ih o' a3' a4' a5' a6' a7' F' h') h)
      · replace h := h.2 c
        refine aw_aload_n dX12_summedUp_87 rfl rfl (aw_pc (pc' := 88) rfl ?_)
        refine ar_gR fl_RX12_35 dX12_summedUp_88 h ?_
        clear h
        intro x47 h
        refine aw_pc (pc' := 91) rfl ?_
        refine aw_iload dX12_summedUp_91 rfl (aw_pc (pc' := 93) rfl ?_)
        refine aw_iload dX12_summedUp_93 rfl (aw_pc (pc' := 95) rfl ?_)
        refine aw_if_ne dX12_summedUp_95 rfl (fun c => ?_) (fun c => ?_)
        · replace h := h.1 c
          refine aw_iload dX12_summedUp_98 rfl (aw_pc (pc' := 100) rfl ?_)
          refine aw_i2l dX12_summedUp_100 (aw_pc (pc' := 101) rfl ?_)
          refine aw_goto (tgt := 112) dX12_summedUp_101 rfl ?_
          exact aw_mask [true, false, false, true, true, true, true, true, false, false] (tX12_summedUp_J112 (fun o' a3' a4' a5' a6' a7' F' h' => ih o' a3' a4' a5' a6' a7' F' h') h)
        · replace h := h.2 c
          refine aw_aload_n dX12_summedUp_104 rfl rfl (aw_pc (pc' := 105) rfl ?_)
          refine ar_gR fl_RX12_32 dX12_summedUp_105 h ?_
          clear h
          intro x48 h
          refine aw_pc (pc' := 108) rfl ?_
          refine aw_iload dX12_summedUp_108 rfl (aw_pc (pc' := 110) rfl ?_)
          refine ar_aI dX12_summedUp_110 h ?_
          clear h
          intro x49 h
          refine aw_pc (pc' := 111) rfl ?_
          refine aw_i2l dX12_summedUp_111 (aw_pc (pc' := 112) rfl ?_)
          exact aw_mask [true, false, false, true, true, true, true, true, false, false] (tX12_summedUp_J112 (fun o' a3' a4' a5' a6' a7' F' h' => ih o' a3' a4' a5' a6' a7' F' h') h)
    · replace h := h.2 c
      refine aw_aload_n dX12_summedUp_355 rfl rfl (aw_pc (pc' := 356) rfl ?_)
      refine ar_gR fl_RX12_35 dX12_summedUp_356 h ?_
      clear h
      intro x50 h
      refine aw_pc (pc' := 359) rfl ?_
      refine aw_iconst dX12_summedUp_359 (aw_pc (pc' := 360) rfl ?_)
      refine ar_aL dX12_summedUp_360 h ?_
      clear h
      intro x51 h
      refine aw_pc (pc' := 361) rfl ?_
      exact aw_lret rfl dX12_summedUp_361 ⟨_, rfl, h⟩
def mX12_summedUp (o : Nat) (a1 : Int) (a2 : Int) (F : hp) (Q : Int → hp → Prop) : Prop := ∀ v1 : Int, v1 = (((681 * a1) + 1) + (3 * a2)) → ∀ v2 : Int, v2 = ((681 * a1) + 73) → gR F (some o) 12 2 (fun x3 => aI F x3 0 (v1 + 1) (fun x4 => (∃ k5, mX12_summedUp_L38 Q k5 o v1 v2 0 0 x4 F)))
set_option maxHeartbeats 4000000 in
theorem tX12_summedUp {d : Nat} {o : Nat} {a1 : Int} {a2 : Int} {F : hp} {Q : Int → hp → Prop} (h : mX12_summedUp o a1 a2 F Q) : am nX12_summedUp (d + 4) 0 0 [vr (some o), vi a1, vi a2] F (qL Q) := by
  refine am_of (by decide +kernel) (Nat.le_of_ble_eq_true rfl) ?_
  show aw nX12_summedUp (d + 4) 0 0 0 [some (vr (some o)), some (vi a1), some (vi a2), none, none, none, none, none, none, none] [] F (qL Q)
  unfold mX12_summedUp at h
  refine aw_sipush dX12_summedUp_0 (by decide) (aw_pc (pc' := 3) rfl ?_)
  refine aw_iload_n dX12_summedUp_3 rfl rfl (aw_pc (pc' := 4) rfl ?_)
  refine aw_imul dX12_summedUp_4 (aw_pc (pc' := 5) rfl ?_)
  refine aw_iconst dX12_summedUp_5 (aw_pc (pc' := 6) rfl ?_)
  refine aw_iadd dX12_summedUp_6 (aw_pc (pc' := 7) rfl ?_)
  refine aw_iconst dX12_summedUp_7 (aw_pc (pc' := 8) rfl ?_)
  refine aw_iload_n dX12_summedUp_8 rfl rfl (aw_pc (pc' := 9) rfl ?_)
  refine aw_imul dX12_summedUp_9 (aw_pc (pc' := 10) rfl ?_)
  refine aw_iadd dX12_summedUp_10 (aw_pc (pc' := 11) rfl ?_)
  generalize hv_v1 : (((681 * a1) + 1) + (3 * a2)) = v1
  replace h := h v1 hv_v1.symm
  refine aw_istore_n dX12_summedUp_11 rfl (by decide) (aw_pc (pc' := 12) rfl ?_)
  refine aw_sipush dX12_summedUp_12 (by decide) (aw_pc (pc' := 15) rfl ?_)
  refine aw_iload_n dX12_summedUp_15 rfl rfl (aw_pc (pc' := 16) rfl ?_)
  refine aw_imul dX12_summedUp_16 (aw_pc (pc' := 17) rfl ?_)
  refine aw_bipush dX12_summedUp_17 (by decide) (aw_pc (pc' := 19) rfl ?_)
  refine aw_iadd dX12_summedUp_19 (aw_pc (pc' := 20) rfl ?_)
  generalize hv_v2 : ((681 * a1) + 73) = v2
  replace h := h v2 hv_v2.symm
  refine aw_istore dX12_summedUp_20 (by decide) (aw_pc (pc' := 22) rfl ?_)
  refine aw_iconst dX12_summedUp_22 (aw_pc (pc' := 23) rfl ?_)
  refine aw_istore dX12_summedUp_23 (by decide) (aw_pc (pc' := 25) rfl ?_)
  refine aw_iconst dX12_summedUp_25 (aw_pc (pc' := 26) rfl ?_)
  refine aw_istore dX12_summedUp_26 (by decide) (aw_pc (pc' := 28) rfl ?_)
  refine aw_aload_n dX12_summedUp_28 rfl rfl (aw_pc (pc' := 29) rfl ?_)
  refine ar_gR fl_RX12_16 dX12_summedUp_29 h ?_
  clear h
  intro x3 h
  refine aw_pc (pc' := 32) rfl ?_
  refine aw_iload_n dX12_summedUp_32 rfl rfl (aw_pc (pc' := 33) rfl ?_)
  refine aw_iconst dX12_summedUp_33 (aw_pc (pc' := 34) rfl ?_)
  refine aw_iadd dX12_summedUp_34 (aw_pc (pc' := 35) rfl ?_)
  refine ar_aI dX12_summedUp_35 h ?_
  clear h
  intro x4 h
  refine aw_pc (pc' := 36) rfl ?_
  refine aw_istore dX12_summedUp_36 (by decide) (aw_pc (pc' := 38) rfl ?_)
  obtain ⟨k5, h⟩ := h
  exact aw_mask [true, false, false, true, true, true, true, true, false, false] (tX12_summedUp_L38 k5 _ _ _ _ _ _ _ h)
def mX12_says_L2 (Q : Int → hp → Prop) : Nat → Nat → Int → Int → Int → hp → Prop
  | 0, _, _, _, _, _ => False
  | k + 1, o, a1, a2, a3, F => (w32 a1 < 0 → Q 1 F) ∧ (¬ w32 a1 < 0 → gR F (some o) 12 2 (fun x1 => aI F x1 0 (681 * a1) (fun x2 => (w32 a3 < w32 x2 → gR F (some o) 12 2 (fun x3 => aI F x3 0 (((681 * a1) + 1) + (3 * a3)) (fun x4 => (w32 x4 = w32 a2 → rcv F (some o) 12 (fun o7 => mX12_summedUp o7 a1 a3 F (fun x6 F5 => mX12_cut x6 (-99) 99 F5 (fun x9 F8 => Q x9 F8)))) ∧ (¬ w32 x4 = w32 a2 → mX12_says_L2 Q k o a1 a2 (a3 + 1) F)))) ∧ (¬ w32 a3 < w32 x2 → Q 1 F))))
set_option maxHeartbeats 4000000 in
theorem tX12_says_L2 {d : Nat} {Q : Int → hp → Prop} : ∀ (k : Nat) (o : Nat) (a1 : Int) (a2 : Int) (a3 : Int) (F : hp), mX12_says_L2 Q k o a1 a2 a3 F → aw nX12_says (d + 5) 0 0 2 [some (vr (some o)), some (vi a1), some (vi a2), some (vi a3)] [] F (qI Q) := by
  intro k
  induction k with
  | zero => intro o a1 a2 a3 F h; exact h.elim
  | succ k ih =>
    intro o a1 a2 a3 F h
    simp only [mX12_says_L2] at h
    refine aw_iload_n dX12_says_2 rfl rfl (aw_pc (pc' := 3) rfl ?_)
    refine aw_if_lt dX12_says_3 rfl (fun c => ?_) (fun c => ?_)
    · replace h := h.1 c
      refine aw_iconst dX12_says_60 (aw_pc (pc' := 61) rfl ?_)
      exact aw_iret rfl dX12_says_61 ⟨_, rfl, h⟩
    · replace h := h.2 c
      refine aw_iload_n dX12_says_6 rfl rfl (aw_pc (pc' := 7) rfl ?_)
      refine aw_aload_n dX12_says_7 rfl rfl (aw_pc (pc' := 8) rfl ?_)
      refine ar_gR fl_RX12_16 dX12_says_8 h ?_
      clear h
      intro x1 h
      refine aw_pc (pc' := 11) rfl ?_
      refine aw_sipush dX12_says_11 (by decide) (aw_pc (pc' := 14) rfl ?_)
      refine aw_iload_n dX12_says_14 rfl rfl (aw_pc (pc' := 15) rfl ?_)
      refine aw_imul dX12_says_15 (aw_pc (pc' := 16) rfl ?_)
      refine ar_aI dX12_says_16 h ?_
      clear h
      intro x2 h
      refine aw_pc (pc' := 17) rfl ?_
      refine ac_ge rfl rfl dX12_says_17 rfl (fun c => ?_) (fun c => ?_)
      · replace h := h.1 c
        refine aw_aload_n dX12_says_20 rfl rfl (aw_pc (pc' := 21) rfl ?_)
        refine ar_gR fl_RX12_16 dX12_says_21 h ?_
        clear h
        intro x3 h
        refine aw_pc (pc' := 24) rfl ?_
        refine aw_sipush dX12_says_24 (by decide) (aw_pc (pc' := 27) rfl ?_)
        refine aw_iload_n dX12_says_27 rfl rfl (aw_pc (pc' := 28) rfl ?_)
        refine aw_imul dX12_says_28 (aw_pc (pc' := 29) rfl ?_)
        refine aw_iconst dX12_says_29 (aw_pc (pc' := 30) rfl ?_)
        refine aw_iadd dX12_says_30 (aw_pc (pc' := 31) rfl ?_)
        refine aw_iconst dX12_says_31 (aw_pc (pc' := 32) rfl ?_)
        refine aw_iload_n dX12_says_32 rfl rfl (aw_pc (pc' := 33) rfl ?_)
        refine aw_imul dX12_says_33 (aw_pc (pc' := 34) rfl ?_)
        refine aw_iadd dX12_says_34 (aw_pc (pc' := 35) rfl ?_)
        refine ar_aI dX12_says_35 h ?_
        clear h
        intro x4 h
        refine aw_pc (pc' := 36) rfl ?_
        refine aw_iload_n dX12_says_36 rfl rfl (aw_pc (pc' := 37) rfl ?_)
        refine ac_ne rfl rfl dX12_says_37 rfl (fun c => ?_) (fun c => ?_)
        · replace h := h.1 c
          refine aw_aload_n dX12_says_40 rfl rfl (aw_pc (pc' := 41) rfl ?_)
          refine aw_iload_n dX12_says_41 rfl rfl (aw_pc (pc' := 42) rfl ?_)
          refine aw_iload_n dX12_says_42 rfl rfl (aw_pc (pc' := 43) rfl ?_)
          have h0 := rcv_inv h
          clear h
          obtain ⟨o7, fs_o7, hr_o7, he_o7, h⟩ := h0
          obtain rfl : o = o7 := Option.some.inj hr_o7
          refine ar_VL (kc' := 0) (ks' := 0) (kc := 0) (ks := 0) (a := o) (ci := 12) (as := [vi a1, vi a3]) (st := []) (tX12_summedUp h) mt_X12_summedUp rfl qM_RX12_302 qI_X12_summedUp qV_X12_summedUp he_o7 rfl (Nat.le_of_ble_eq_true rfl) dX12_says_43 ?_
          clear h
          intro x6 F5 h
          refine aw_pc (pc' := 46) rfl ?_
          refine aw_bipush dX12_says_46 (by decide) (aw_pc (pc' := 48) rfl ?_)
          refine aw_bipush dX12_says_48 (by decide) (aw_pc (pc' := 50) rfl ?_)
          refine ar_SI (kc' := 0) (ks' := 0) (kc := 0) (ks := 0) (as := [vl x6, vi (-99), vi 99]) (st := []) (tX12_cut h) mt_X12_cut qM_RX12_305 qS_X12_cut rfl (Nat.le_of_ble_eq_true rfl) dX12_says_50 ?_
          clear h
          intro x9 F8 h
          refine aw_pc (pc' := 53) rfl ?_
          exact aw_iret rfl dX12_says_53 ⟨_, rfl, h⟩
        · replace h := h.2 c
          refine aw_iinc dX12_says_54 rfl (by decide) (aw_pc (pc' := 57) rfl ?_)
          refine aw_goto (tgt := 2) dX12_says_57 rfl ?_
          exact aw_mask [true, true, true, true] (ih _ _ _ _ _ h)
      · replace h := h.2 c
        refine aw_iconst dX12_says_60 (aw_pc (pc' := 61) rfl ?_)
        exact aw_iret rfl dX12_says_61 ⟨_, rfl, h⟩
def mX12_says (o : Nat) (a1 : Int) (a2 : Int) (F : hp) (Q : Int → hp → Prop) : Prop := (∃ k1, mX12_says_L2 Q k1 o a1 a2 0 F)
set_option maxHeartbeats 4000000 in
theorem tX12_says {d : Nat} {o : Nat} {a1 : Int} {a2 : Int} {F : hp} {Q : Int → hp → Prop} (h : mX12_says o a1 a2 F Q) : am nX12_says (d + 5) 0 0 [vr (some o), vi a1, vi a2] F (qI Q) := by
  refine am_of (by decide +kernel) (Nat.le_of_ble_eq_true rfl) ?_
  show aw nX12_says (d + 5) 0 0 0 [some (vr (some o)), some (vi a1), some (vi a2), none] [] F (qI Q)
  unfold mX12_says at h
  refine aw_iconst dX12_says_0 (aw_pc (pc' := 1) rfl ?_)
  refine aw_istore_n dX12_says_1 rfl (by decide) (aw_pc (pc' := 2) rfl ?_)
  obtain ⟨k1, h⟩ := h
  exact aw_mask [true, true, true, true] (tX12_says_L2 k1 _ _ _ _ _ h)
def mX12_name (o : Nat) (a1 : Int) (F : hp) (Q : hp → Prop) : Prop := gR F (some o) 12 20 (fun x1 => gR F (some o) 12 0 (fun x2 => aI F x2 0 7 (fun x3 => sI F x1 0 0 x3 (fun F4 => gR F4 (some o) 12 20 (fun x5 => sI F4 x5 0 1 a1 (fun F6 => gR F6 (some o) 12 20 (fun x7 => gR F6 (some o) 12 0 (fun x8 => aI F6 x8 0 (41 + a1) (fun x9 => sI F6 x7 0 2 x9 (fun F10 => gR F10 (some o) 12 20 (fun x11 => gR F10 (some o) 12 0 (fun x12 => aI F10 x12 0 (36 + a1) (fun x13 => sI F10 x11 0 3 x13 (fun F14 => gR F14 (some o) 12 20 (fun x15 => rcv F14 (some o) 12 (fun o18 => mX12_isWide o18 a1 F14 (fun x17 F16 => sI F16 x15 0 4 x17 (fun F19 => gR F19 (some o) 12 20 (fun x20 => gR F19 (some o) 12 0 (fun x21 => aI F19 x21 0 (31 + a1) (fun x22 => sI F19 x20 0 5 x22 (fun F23 => Q F23))))))))))))))))))))))
set_option maxHeartbeats 4000000 in
theorem tX12_name {d : Nat} {o : Nat} {a1 : Int} {F : hp} {Q : hp → Prop} (h : mX12_name o a1 F Q) : am nX12_name (d + 1) 0 0 [vr (some o), vi a1] F (qV Q) := by
  refine am_of (by decide +kernel) (Nat.le_of_ble_eq_true rfl) ?_
  show aw nX12_name (d + 1) 0 0 0 [some (vr (some o)), some (vi a1)] [] F (qV Q)
  unfold mX12_name at h
  refine aw_aload_n dX12_name_0 rfl rfl (aw_pc (pc' := 1) rfl ?_)
  refine ar_gR fl_RX12_32 dX12_name_1 h ?_
  clear h
  intro x1 h
  refine aw_pc (pc' := 4) rfl ?_
  refine aw_iconst dX12_name_4 (aw_pc (pc' := 5) rfl ?_)
  refine aw_aload_n dX12_name_5 rfl rfl (aw_pc (pc' := 6) rfl ?_)
  refine ar_gR fl_RX12_7 dX12_name_6 h ?_
  clear h
  intro x2 h
  refine aw_pc (pc' := 9) rfl ?_
  refine aw_bipush dX12_name_9 (by decide) (aw_pc (pc' := 11) rfl ?_)
  refine ar_aI dX12_name_11 h ?_
  clear h
  intro x3 h
  refine aw_pc (pc' := 12) rfl ?_
  refine ar_sI dX12_name_12 h ?_
  clear h
  intro F4 h
  refine aw_pc (pc' := 13) rfl ?_
  refine aw_aload_n dX12_name_13 rfl rfl (aw_pc (pc' := 14) rfl ?_)
  refine ar_gR fl_RX12_32 dX12_name_14 h ?_
  clear h
  intro x5 h
  refine aw_pc (pc' := 17) rfl ?_
  refine aw_iconst dX12_name_17 (aw_pc (pc' := 18) rfl ?_)
  refine aw_iload_n dX12_name_18 rfl rfl (aw_pc (pc' := 19) rfl ?_)
  refine ar_sI dX12_name_19 h ?_
  clear h
  intro F6 h
  refine aw_pc (pc' := 20) rfl ?_
  refine aw_aload_n dX12_name_20 rfl rfl (aw_pc (pc' := 21) rfl ?_)
  refine ar_gR fl_RX12_32 dX12_name_21 h ?_
  clear h
  intro x7 h
  refine aw_pc (pc' := 24) rfl ?_
  refine aw_iconst dX12_name_24 (aw_pc (pc' := 25) rfl ?_)
  refine aw_aload_n dX12_name_25 rfl rfl (aw_pc (pc' := 26) rfl ?_)
  refine ar_gR fl_RX12_7 dX12_name_26 h ?_
  clear h
  intro x8 h
  refine aw_pc (pc' := 29) rfl ?_
  refine aw_bipush dX12_name_29 (by decide) (aw_pc (pc' := 31) rfl ?_)
  refine aw_iload_n dX12_name_31 rfl rfl (aw_pc (pc' := 32) rfl ?_)
  refine aw_iadd dX12_name_32 (aw_pc (pc' := 33) rfl ?_)
  refine ar_aI dX12_name_33 h ?_
  clear h
  intro x9 h
  refine aw_pc (pc' := 34) rfl ?_
  refine ar_sI dX12_name_34 h ?_
  clear h
  intro F10 h
  refine aw_pc (pc' := 35) rfl ?_
  refine aw_aload_n dX12_name_35 rfl rfl (aw_pc (pc' := 36) rfl ?_)
  refine ar_gR fl_RX12_32 dX12_name_36 h ?_
  clear h
  intro x11 h
  refine aw_pc (pc' := 39) rfl ?_
  refine aw_iconst dX12_name_39 (aw_pc (pc' := 40) rfl ?_)
  refine aw_aload_n dX12_name_40 rfl rfl (aw_pc (pc' := 41) rfl ?_)
  refine ar_gR fl_RX12_7 dX12_name_41 h ?_
  clear h
  intro x12 h
  refine aw_pc (pc' := 44) rfl ?_
  refine aw_bipush dX12_name_44 (by decide) (aw_pc (pc' := 46) rfl ?_)
  refine aw_iload_n dX12_name_46 rfl rfl (aw_pc (pc' := 47) rfl ?_)
  refine aw_iadd dX12_name_47 (aw_pc (pc' := 48) rfl ?_)
  refine ar_aI dX12_name_48 h ?_
  clear h
  intro x13 h
  refine aw_pc (pc' := 49) rfl ?_
  refine ar_sI dX12_name_49 h ?_
  clear h
  intro F14 h
  refine aw_pc (pc' := 50) rfl ?_
  refine aw_aload_n dX12_name_50 rfl rfl (aw_pc (pc' := 51) rfl ?_)
  refine ar_gR fl_RX12_32 dX12_name_51 h ?_
  clear h
  intro x15 h
  refine aw_pc (pc' := 54) rfl ?_
  refine aw_iconst dX12_name_54 (aw_pc (pc' := 55) rfl ?_)
  refine aw_aload_n dX12_name_55 rfl rfl (aw_pc (pc' := 56) rfl ?_)
  refine aw_iload_n dX12_name_56 rfl rfl (aw_pc (pc' := 57) rfl ?_)
  have h0 := rcv_inv h
  clear h
  obtain ⟨o18, fs_o18, hr_o18, he_o18, h⟩ := h0
  obtain rfl : o = o18 := Option.some.inj hr_o18
  refine ar_VI (kc' := 0) (ks' := 0) (kc := 0) (ks := 0) (a := o) (ci := 12) (as := [vi a1]) (st := [vi 4, vr x15]) (tX12_isWide h) mt_X12_isWide rfl qM_RX12_309 qI_X12_isWide qV_X12_isWide he_o18 rfl (Nat.le_of_ble_eq_true rfl) dX12_name_57 ?_
  clear h
  intro x17 F16 h
  refine aw_pc (pc' := 60) rfl ?_
  refine ar_sI dX12_name_60 h ?_
  clear h
  intro F19 h
  refine aw_pc (pc' := 61) rfl ?_
  refine aw_aload_n dX12_name_61 rfl rfl (aw_pc (pc' := 62) rfl ?_)
  refine ar_gR fl_RX12_32 dX12_name_62 h ?_
  clear h
  intro x20 h
  refine aw_pc (pc' := 65) rfl ?_
  refine aw_iconst dX12_name_65 (aw_pc (pc' := 66) rfl ?_)
  refine aw_aload_n dX12_name_66 rfl rfl (aw_pc (pc' := 67) rfl ?_)
  refine ar_gR fl_RX12_7 dX12_name_67 h ?_
  clear h
  intro x21 h
  refine aw_pc (pc' := 70) rfl ?_
  refine aw_bipush dX12_name_70 (by decide) (aw_pc (pc' := 72) rfl ?_)
  refine aw_iload_n dX12_name_72 rfl rfl (aw_pc (pc' := 73) rfl ?_)
  refine aw_iadd dX12_name_73 (aw_pc (pc' := 74) rfl ?_)
  refine ar_aI dX12_name_74 h ?_
  clear h
  intro x22 h
  refine aw_pc (pc' := 75) rfl ?_
  refine ar_sI dX12_name_75 h ?_
  clear h
  intro F23 h
  refine aw_pc (pc' := 76) rfl ?_
  exact aw_vret rfl dX12_name_76 ⟨rfl, h⟩
def mX12_movesOf (o : Nat) (a1 : Int) (a2 : Int) (a3 : Int) (F : hp) (Q : Int → hp → Prop) : Prop := rcv F (some o) 12 (fun o2 => mX12_name o2 a1 F (fun F1 => gR F1 (some o) 12 20 (fun x3 => sI F1 x3 0 6 a2 (fun F4 => gR F4 (some o) 12 20 (fun x5 => sI F4 x5 0 7 a3 (fun F6 => gR F6 (some o) 12 20 (fun x7 => gR F6 (some o) 12 0 (fun x8 => aI F6 x8 0 (12 + a3) (fun x9 => sI F6 x7 0 8 x9 (fun F10 => gR F10 (some o) 12 0 (fun x11 => aI F10 x11 0 2 (fun x12 => rcv F10 (some o) 12 (fun o15 => mX12_says o15 x12 0 F10 (fun x14 F13 => Q x14 F13))))))))))))))
set_option maxHeartbeats 4000000 in
theorem tX12_movesOf {d : Nat} {o : Nat} {a1 : Int} {a2 : Int} {a3 : Int} {F : hp} {Q : Int → hp → Prop} (h : mX12_movesOf o a1 a2 a3 F Q) : am nX12_movesOf (d + 6) 0 0 [vr (some o), vi a1, vi a2, vi a3] F (qI Q) := by
  refine am_of (by decide +kernel) (Nat.le_of_ble_eq_true rfl) ?_
  show aw nX12_movesOf (d + 6) 0 0 0 [some (vr (some o)), some (vi a1), some (vi a2), some (vi a3)] [] F (qI Q)
  unfold mX12_movesOf at h
  refine aw_aload_n dX12_movesOf_0 rfl rfl (aw_pc (pc' := 1) rfl ?_)
  refine aw_iload_n dX12_movesOf_1 rfl rfl (aw_pc (pc' := 2) rfl ?_)
  have h0 := rcv_inv h
  clear h
  obtain ⟨o2, fs_o2, hr_o2, he_o2, h⟩ := h0
  obtain rfl : o = o2 := Option.some.inj hr_o2
  refine ar_VV (kc' := 0) (ks' := 0) (kc := 0) (ks := 0) (a := o) (ci := 12) (as := [vi a1]) (st := []) (tX12_name h) mt_X12_name rfl qM_RX12_312 qI_X12_name qV_X12_name he_o2 rfl (Nat.le_of_ble_eq_true rfl) dX12_movesOf_2 ?_
  clear h
  intro F1 h
  refine aw_pc (pc' := 5) rfl ?_
  refine aw_aload_n dX12_movesOf_5 rfl rfl (aw_pc (pc' := 6) rfl ?_)
  refine ar_gR fl_RX12_32 dX12_movesOf_6 h ?_
  clear h
  intro x3 h
  refine aw_pc (pc' := 9) rfl ?_
  refine aw_bipush dX12_movesOf_9 (by decide) (aw_pc (pc' := 11) rfl ?_)
  refine aw_iload_n dX12_movesOf_11 rfl rfl (aw_pc (pc' := 12) rfl ?_)
  refine ar_sI dX12_movesOf_12 h ?_
  clear h
  intro F4 h
  refine aw_pc (pc' := 13) rfl ?_
  refine aw_aload_n dX12_movesOf_13 rfl rfl (aw_pc (pc' := 14) rfl ?_)
  refine ar_gR fl_RX12_32 dX12_movesOf_14 h ?_
  clear h
  intro x5 h
  refine aw_pc (pc' := 17) rfl ?_
  refine aw_bipush dX12_movesOf_17 (by decide) (aw_pc (pc' := 19) rfl ?_)
  refine aw_iload_n dX12_movesOf_19 rfl rfl (aw_pc (pc' := 20) rfl ?_)
  refine ar_sI dX12_movesOf_20 h ?_
  clear h
  intro F6 h
  refine aw_pc (pc' := 21) rfl ?_
  refine aw_aload_n dX12_movesOf_21 rfl rfl (aw_pc (pc' := 22) rfl ?_)
  refine ar_gR fl_RX12_32 dX12_movesOf_22 h ?_
  clear h
  intro x7 h
  refine aw_pc (pc' := 25) rfl ?_
  refine aw_bipush dX12_movesOf_25 (by decide) (aw_pc (pc' := 27) rfl ?_)
  refine aw_aload_n dX12_movesOf_27 rfl rfl (aw_pc (pc' := 28) rfl ?_)
  refine ar_gR fl_RX12_7 dX12_movesOf_28 h ?_
  clear h
  intro x8 h
  refine aw_pc (pc' := 31) rfl ?_
  refine aw_bipush dX12_movesOf_31 (by decide) (aw_pc (pc' := 33) rfl ?_)
  refine aw_iload_n dX12_movesOf_33 rfl rfl (aw_pc (pc' := 34) rfl ?_)
  refine aw_iadd dX12_movesOf_34 (aw_pc (pc' := 35) rfl ?_)
  refine ar_aI dX12_movesOf_35 h ?_
  clear h
  intro x9 h
  refine aw_pc (pc' := 36) rfl ?_
  refine ar_sI dX12_movesOf_36 h ?_
  clear h
  intro F10 h
  refine aw_pc (pc' := 37) rfl ?_
  refine aw_aload_n dX12_movesOf_37 rfl rfl (aw_pc (pc' := 38) rfl ?_)
  refine aw_aload_n dX12_movesOf_38 rfl rfl (aw_pc (pc' := 39) rfl ?_)
  refine ar_gR fl_RX12_7 dX12_movesOf_39 h ?_
  clear h
  intro x11 h
  refine aw_pc (pc' := 42) rfl ?_
  refine aw_iconst dX12_movesOf_42 (aw_pc (pc' := 43) rfl ?_)
  refine ar_aI dX12_movesOf_43 h ?_
  clear h
  intro x12 h
  refine aw_pc (pc' := 44) rfl ?_
  refine aw_iconst dX12_movesOf_44 (aw_pc (pc' := 45) rfl ?_)
  have h0 := rcv_inv h
  clear h
  obtain ⟨o15, fs_o15, hr_o15, he_o15, h⟩ := h0
  obtain rfl : o = o15 := Option.some.inj hr_o15
  refine ar_VI (kc' := 0) (ks' := 0) (kc := 0) (ks := 0) (a := o) (ci := 12) (as := [vi x12, vi 0]) (st := []) (tX12_says h) mt_X12_says rfl qM_RX12_315 qI_X12_says qV_X12_says he_o15 rfl (Nat.le_of_ble_eq_true rfl) dX12_movesOf_45 ?_
  clear h
  intro x14 F13 h
  refine aw_pc (pc' := 48) rfl ?_
  exact aw_iret rfl dX12_movesOf_48 ⟨_, rfl, h⟩
def mX12_changesOf (o : Nat) (a1 : Int) (a2 : Int) (F : hp) (Q : Int → hp → Prop) : Prop := rcv F (some o) 12 (fun o2 => mX12_name o2 a2 F (fun F1 => gR F1 (some o) 12 20 (fun x3 => gR F1 (some o) 12 0 (fun x4 => aI F1 x4 0 9 (fun x5 => sI F1 x3 0 9 x5 (fun F6 => gR F6 (some o) 12 20 (fun x7 => gR F6 (some o) 12 0 (fun x8 => aI F6 x8 0 10 (fun x9 => sI F6 x7 0 10 x9 (fun F10 => rcv F10 (some o) 12 (fun o13 => mX12_says o13 a1 1 F10 (fun x12 F11 => Q x12 F11))))))))))))
set_option maxHeartbeats 4000000 in
theorem tX12_changesOf {d : Nat} {o : Nat} {a1 : Int} {a2 : Int} {F : hp} {Q : Int → hp → Prop} (h : mX12_changesOf o a1 a2 F Q) : am nX12_changesOf (d + 6) 0 0 [vr (some o), vi a1, vi a2] F (qI Q) := by
  refine am_of (by decide +kernel) (Nat.le_of_ble_eq_true rfl) ?_
  show aw nX12_changesOf (d + 6) 0 0 0 [some (vr (some o)), some (vi a1), some (vi a2)] [] F (qI Q)
  unfold mX12_changesOf at h
  refine aw_aload_n dX12_changesOf_0 rfl rfl (aw_pc (pc' := 1) rfl ?_)
  refine aw_iload_n dX12_changesOf_1 rfl rfl (aw_pc (pc' := 2) rfl ?_)
  have h0 := rcv_inv h
  clear h
  obtain ⟨o2, fs_o2, hr_o2, he_o2, h⟩ := h0
  obtain rfl : o = o2 := Option.some.inj hr_o2
  refine ar_VV (kc' := 0) (ks' := 0) (kc := 0) (ks := 0) (a := o) (ci := 12) (as := [vi a2]) (st := []) (tX12_name h) mt_X12_name rfl qM_RX12_312 qI_X12_name qV_X12_name he_o2 rfl (Nat.le_of_ble_eq_true rfl) dX12_changesOf_2 ?_
  clear h
  intro F1 h
  refine aw_pc (pc' := 5) rfl ?_
  refine aw_aload_n dX12_changesOf_5 rfl rfl (aw_pc (pc' := 6) rfl ?_)
  refine ar_gR fl_RX12_32 dX12_changesOf_6 h ?_
  clear h
  intro x3 h
  refine aw_pc (pc' := 9) rfl ?_
  refine aw_bipush dX12_changesOf_9 (by decide) (aw_pc (pc' := 11) rfl ?_)
  refine aw_aload_n dX12_changesOf_11 rfl rfl (aw_pc (pc' := 12) rfl ?_)
  refine ar_gR fl_RX12_7 dX12_changesOf_12 h ?_
  clear h
  intro x4 h
  refine aw_pc (pc' := 15) rfl ?_
  refine aw_bipush dX12_changesOf_15 (by decide) (aw_pc (pc' := 17) rfl ?_)
  refine ar_aI dX12_changesOf_17 h ?_
  clear h
  intro x5 h
  refine aw_pc (pc' := 18) rfl ?_
  refine ar_sI dX12_changesOf_18 h ?_
  clear h
  intro F6 h
  refine aw_pc (pc' := 19) rfl ?_
  refine aw_aload_n dX12_changesOf_19 rfl rfl (aw_pc (pc' := 20) rfl ?_)
  refine ar_gR fl_RX12_32 dX12_changesOf_20 h ?_
  clear h
  intro x7 h
  refine aw_pc (pc' := 23) rfl ?_
  refine aw_bipush dX12_changesOf_23 (by decide) (aw_pc (pc' := 25) rfl ?_)
  refine aw_aload_n dX12_changesOf_25 rfl rfl (aw_pc (pc' := 26) rfl ?_)
  refine ar_gR fl_RX12_7 dX12_changesOf_26 h ?_
  clear h
  intro x8 h
  refine aw_pc (pc' := 29) rfl ?_
  refine aw_bipush dX12_changesOf_29 (by decide) (aw_pc (pc' := 31) rfl ?_)
  refine ar_aI dX12_changesOf_31 h ?_
  clear h
  intro x9 h
  refine aw_pc (pc' := 32) rfl ?_
  refine ar_sI dX12_changesOf_32 h ?_
  clear h
  intro F10 h
  refine aw_pc (pc' := 33) rfl ?_
  refine aw_aload_n dX12_changesOf_33 rfl rfl (aw_pc (pc' := 34) rfl ?_)
  refine aw_iload_n dX12_changesOf_34 rfl rfl (aw_pc (pc' := 35) rfl ?_)
  refine aw_iconst dX12_changesOf_35 (aw_pc (pc' := 36) rfl ?_)
  have h0 := rcv_inv h
  clear h
  obtain ⟨o13, fs_o13, hr_o13, he_o13, h⟩ := h0
  obtain rfl : o = o13 := Option.some.inj hr_o13
  refine ar_VI (kc' := 0) (ks' := 0) (kc := 0) (ks := 0) (a := o) (ci := 12) (as := [vi a1, vi 1]) (st := []) (tX12_says h) mt_X12_says rfl qM_RX12_315 qI_X12_says qV_X12_says he_o13 rfl (Nat.le_of_ble_eq_true rfl) dX12_changesOf_36 ?_
  clear h
  intro x12 F11 h
  refine aw_pc (pc' := 39) rfl ?_
  exact aw_iret rfl dX12_changesOf_39 ⟨_, rfl, h⟩
def mX12_write_J71 (Q : hp → Prop) (o : Nat) (a1 : Int) (a2 : Int) (a3 : Int) (F : hp) : Prop := gR F (some o) 12 0 (fun x1 => gR F (some o) 12 0 (fun x2 => aI F x2 0 11 (fun x3 => gR F (some o) 12 0 (fun x4 => aI F x4 0 7 (fun x5 => sI F x1 0 (1924 + x3) (((((((x5 * 6) + a1) + 1) * 3) + a2) * 3) + a3) (fun F6 => gR F6 (some o) 12 0 (fun x7 => aI F6 x7 0 11 (fun x8 => sI F6 x7 0 11 (x8 + 1) (fun F9 => Q F9)))))))))
set_option maxHeartbeats 4000000 in
theorem tX12_write_J71 {d : Nat} {Q : hp → Prop} {o : Nat} {a1 : Int} {a2 : Int} {a3 : Int} {F : hp} (h : mX12_write_J71 Q o a1 a2 a3 F) : aw nX12_write d 0 0 71 [some (vr (some o)), some (vi a1), some (vi a2), some (vi a3), none] [] F (qV Q) := by
  unfold mX12_write_J71 at h
  refine aw_aload_n dX12_write_71 rfl rfl (aw_pc (pc' := 72) rfl ?_)
  refine ar_gR fl_RX12_7 dX12_write_72 h ?_
  clear h
  intro x1 h
  refine aw_pc (pc' := 75) rfl ?_
  refine aw_sipush dX12_write_75 (by decide) (aw_pc (pc' := 78) rfl ?_)
  refine aw_aload_n dX12_write_78 rfl rfl (aw_pc (pc' := 79) rfl ?_)
  refine ar_gR fl_RX12_7 dX12_write_79 h ?_
  clear h
  intro x2 h
  refine aw_pc (pc' := 82) rfl ?_
  refine aw_bipush dX12_write_82 (by decide) (aw_pc (pc' := 84) rfl ?_)
  refine ar_aI dX12_write_84 h ?_
  clear h
  intro x3 h
  refine aw_pc (pc' := 85) rfl ?_
  refine aw_iadd dX12_write_85 (aw_pc (pc' := 86) rfl ?_)
  refine aw_aload_n dX12_write_86 rfl rfl (aw_pc (pc' := 87) rfl ?_)
  refine ar_gR fl_RX12_7 dX12_write_87 h ?_
  clear h
  intro x4 h
  refine aw_pc (pc' := 90) rfl ?_
  refine aw_bipush dX12_write_90 (by decide) (aw_pc (pc' := 92) rfl ?_)
  refine ar_aI dX12_write_92 h ?_
  clear h
  intro x5 h
  refine aw_pc (pc' := 93) rfl ?_
  refine aw_bipush dX12_write_93 (by decide) (aw_pc (pc' := 95) rfl ?_)
  refine aw_imul dX12_write_95 (aw_pc (pc' := 96) rfl ?_)
  refine aw_iload_n dX12_write_96 rfl rfl (aw_pc (pc' := 97) rfl ?_)
  refine aw_iadd dX12_write_97 (aw_pc (pc' := 98) rfl ?_)
  refine aw_iconst dX12_write_98 (aw_pc (pc' := 99) rfl ?_)
  refine aw_iadd dX12_write_99 (aw_pc (pc' := 100) rfl ?_)
  refine aw_iconst dX12_write_100 (aw_pc (pc' := 101) rfl ?_)
  refine aw_imul dX12_write_101 (aw_pc (pc' := 102) rfl ?_)
  refine aw_iload_n dX12_write_102 rfl rfl (aw_pc (pc' := 103) rfl ?_)
  refine aw_iadd dX12_write_103 (aw_pc (pc' := 104) rfl ?_)
  refine aw_iconst dX12_write_104 (aw_pc (pc' := 105) rfl ?_)
  refine aw_imul dX12_write_105 (aw_pc (pc' := 106) rfl ?_)
  refine aw_iload_n dX12_write_106 rfl rfl (aw_pc (pc' := 107) rfl ?_)
  refine aw_iadd dX12_write_107 (aw_pc (pc' := 108) rfl ?_)
  refine ar_sI dX12_write_108 h ?_
  clear h
  intro F6 h
  refine aw_pc (pc' := 109) rfl ?_
  refine aw_aload_n dX12_write_109 rfl rfl (aw_pc (pc' := 110) rfl ?_)
  refine ar_gR fl_RX12_7 dX12_write_110 h ?_
  clear h
  intro x7 h
  refine aw_pc (pc' := 113) rfl ?_
  refine aw_bipush dX12_write_113 (by decide) (aw_pc (pc' := 115) rfl ?_)
  refine aw_dup2 dX12_write_115 trivial trivial (aw_pc (pc' := 116) rfl ?_)
  refine ar_aI dX12_write_116 h ?_
  clear h
  intro x8 h
  refine aw_pc (pc' := 117) rfl ?_
  refine aw_iconst dX12_write_117 (aw_pc (pc' := 118) rfl ?_)
  refine aw_iadd dX12_write_118 (aw_pc (pc' := 119) rfl ?_)
  refine ar_sI dX12_write_119 h ?_
  clear h
  intro F9 h
  refine aw_pc (pc' := 120) rfl ?_
  exact aw_vret rfl dX12_write_120 ⟨rfl, h⟩
def mX12_write_L23 (Q : hp → Prop) : Nat → Nat → Int → Int → Int → Int → hp → Prop
  | 0, _, _, _, _, _, _ => False
  | k + 1, o, a1, a2, a3, a4, F => (w32 a4 < 30 → gR F (some o) 12 0 (fun x1 => gR F (some o) 12 0 (fun x2 => aI F x2 0 (1924 + a4) (fun x3 => sI F x1 0 ((1924 + a4) - 1) x3 (fun F4 => mX12_write_L23 Q k o a1 a2 a3 (a4 + 1) F4))))) ∧ (¬ w32 a4 < 30 → gR F (some o) 12 0 (fun x5 => aI F x5 0 11 (fun x6 => sI F x5 0 11 (x6 - 1) (fun F7 => mX12_write_J71 Q o a1 a2 a3 F7))))
set_option maxHeartbeats 4000000 in
theorem tX12_write_L23 {d : Nat} {Q : hp → Prop} : ∀ (k : Nat) (o : Nat) (a1 : Int) (a2 : Int) (a3 : Int) (a4 : Int) (F : hp), mX12_write_L23 Q k o a1 a2 a3 a4 F → aw nX12_write d 0 0 23 [some (vr (some o)), some (vi a1), some (vi a2), some (vi a3), some (vi a4)] [] F (qV Q) := by
  intro k
  induction k with
  | zero => intro o a1 a2 a3 a4 F h; exact h.elim
  | succ k ih =>
    intro o a1 a2 a3 a4 F h
    simp only [mX12_write_L23] at h
    refine aw_iload dX12_write_23 rfl (aw_pc (pc' := 25) rfl ?_)
    refine aw_bipush dX12_write_25 (by decide) (aw_pc (pc' := 27) rfl ?_)
    refine ac_ge rfl wl_30 dX12_write_27 rfl (fun c => ?_) (fun c => ?_)
    · replace h := h.1 c
      refine aw_aload_n dX12_write_30 rfl rfl (aw_pc (pc' := 31) rfl ?_)
      refine ar_gR fl_RX12_7 dX12_write_31 h ?_
      clear h
      intro x1 h
      refine aw_pc (pc' := 34) rfl ?_
      refine aw_sipush dX12_write_34 (by decide) (aw_pc (pc' := 37) rfl ?_)
      refine aw_iload dX12_write_37 rfl (aw_pc (pc' := 39) rfl ?_)
      refine aw_iadd dX12_write_39 (aw_pc (pc' := 40) rfl ?_)
      refine aw_iconst dX12_write_40 (aw_pc (pc' := 41) rfl ?_)
      refine aw_isub dX12_write_41 (aw_pc (pc' := 42) rfl ?_)
      refine aw_aload_n dX12_write_42 rfl rfl (aw_pc (pc' := 43) rfl ?_)
      refine ar_gR fl_RX12_7 dX12_write_43 h ?_
      clear h
      intro x2 h
      refine aw_pc (pc' := 46) rfl ?_
      refine aw_sipush dX12_write_46 (by decide) (aw_pc (pc' := 49) rfl ?_)
      refine aw_iload dX12_write_49 rfl (aw_pc (pc' := 51) rfl ?_)
      refine aw_iadd dX12_write_51 (aw_pc (pc' := 52) rfl ?_)
      refine ar_aI dX12_write_52 h ?_
      clear h
      intro x3 h
      refine aw_pc (pc' := 53) rfl ?_
      refine ar_sI dX12_write_53 h ?_
      clear h
      intro F4 h
      refine aw_pc (pc' := 54) rfl ?_
      refine aw_iinc dX12_write_54 rfl (by decide) (aw_pc (pc' := 57) rfl ?_)
      refine aw_goto (tgt := 23) dX12_write_57 rfl ?_
      exact aw_mask [true, true, true, true, true] (ih _ _ _ _ _ _ h)
    · replace h := h.2 c
      refine aw_aload_n dX12_write_60 rfl rfl (aw_pc (pc' := 61) rfl ?_)
      refine ar_gR fl_RX12_7 dX12_write_61 h ?_
      clear h
      intro x5 h
      refine aw_pc (pc' := 64) rfl ?_
      refine aw_bipush dX12_write_64 (by decide) (aw_pc (pc' := 66) rfl ?_)
      refine aw_dup2 dX12_write_66 trivial trivial (aw_pc (pc' := 67) rfl ?_)
      refine ar_aI dX12_write_67 h ?_
      clear h
      intro x6 h
      refine aw_pc (pc' := 68) rfl ?_
      refine aw_iconst dX12_write_68 (aw_pc (pc' := 69) rfl ?_)
      refine aw_isub dX12_write_69 (aw_pc (pc' := 70) rfl ?_)
      refine ar_sI dX12_write_70 h ?_
      clear h
      intro F7 h
      refine aw_pc (pc' := 71) rfl ?_
      exact aw_mask [true, true, true, true, false] (tX12_write_J71 h)
def mX12_write (o : Nat) (a1 : Int) (a2 : Int) (a3 : Int) (F : hp) (Q : hp → Prop) : Prop := gI F (some o) 12 23 (fun x1 => (w32 x1 = 0 → Q F) ∧ (¬ w32 x1 = 0 → gR F (some o) 12 0 (fun x2 => aI F x2 0 11 (fun x3 => (w32 x3 = 30 → (∃ k4, mX12_write_L23 Q k4 o a1 a2 a3 1 F)) ∧ (¬ w32 x3 = 30 → mX12_write_J71 Q o a1 a2 a3 F)))))
set_option maxHeartbeats 4000000 in
theorem tX12_write {d : Nat} {o : Nat} {a1 : Int} {a2 : Int} {a3 : Int} {F : hp} {Q : hp → Prop} (h : mX12_write o a1 a2 a3 F Q) : am nX12_write d 0 0 [vr (some o), vi a1, vi a2, vi a3] F (qV Q) := by
  refine am_of (by decide +kernel) (Nat.le_of_ble_eq_true rfl) ?_
  show aw nX12_write d 0 0 0 [some (vr (some o)), some (vi a1), some (vi a2), some (vi a3), none] [] F (qV Q)
  unfold mX12_write at h
  refine aw_aload_n dX12_write_0 rfl rfl (aw_pc (pc' := 1) rfl ?_)
  refine ar_gI fl_RX12_43 dX12_write_1 h ?_
  clear h
  intro x1 h
  refine aw_pc (pc' := 4) rfl ?_
  refine aw_if_ne dX12_write_4 rfl (fun c => ?_) (fun c => ?_)
  · replace h := h.1 c
    exact aw_vret rfl dX12_write_7 ⟨rfl, h⟩
  · replace h := h.2 c
    refine aw_aload_n dX12_write_8 rfl rfl (aw_pc (pc' := 9) rfl ?_)
    refine ar_gR fl_RX12_7 dX12_write_9 h ?_
    clear h
    intro x2 h
    refine aw_pc (pc' := 12) rfl ?_
    refine aw_bipush dX12_write_12 (by decide) (aw_pc (pc' := 14) rfl ?_)
    refine ar_aI dX12_write_14 h ?_
    clear h
    intro x3 h
    refine aw_pc (pc' := 15) rfl ?_
    refine aw_bipush dX12_write_15 (by decide) (aw_pc (pc' := 17) rfl ?_)
    refine ac_ne rfl wl_30 dX12_write_17 rfl (fun c => ?_) (fun c => ?_)
    · replace h := h.1 c
      refine aw_iconst dX12_write_20 (aw_pc (pc' := 21) rfl ?_)
      refine aw_istore dX12_write_21 (by decide) (aw_pc (pc' := 23) rfl ?_)
      obtain ⟨k4, h⟩ := h
      exact aw_mask [true, true, true, true, true] (tX12_write_L23 k4 _ _ _ _ _ _ h)
    · replace h := h.2 c
      exact aw_mask [true, true, true, true, false] (tX12_write_J71 h)
def mX12_anew (o : Nat) (F : hp) (Q : hp → Prop) : Prop := gR F (some o) 12 0 (fun x1 => gR F (some o) 12 0 (fun x2 => aI F x2 0 8 (fun x3 => sI F x1 0 8 ((w64 (((w32 x3) * 607) + 479)).tmod 30851) (fun F4 => Q F4))))
set_option maxHeartbeats 4000000 in
theorem tX12_anew {d : Nat} {o : Nat} {F : hp} {Q : hp → Prop} (h : mX12_anew o F Q) : am nX12_anew d 0 0 [vr (some o)] F (qV Q) := by
  refine am_of (by decide +kernel) (Nat.le_of_ble_eq_true rfl) ?_
  show aw nX12_anew d 0 0 0 [some (vr (some o))] [] F (qV Q)
  unfold mX12_anew at h
  refine aw_aload_n dX12_anew_0 rfl rfl (aw_pc (pc' := 1) rfl ?_)
  refine ar_gR fl_RX12_7 dX12_anew_1 h ?_
  clear h
  intro x1 h
  refine aw_pc (pc' := 4) rfl ?_
  refine aw_bipush dX12_anew_4 (by decide) (aw_pc (pc' := 6) rfl ?_)
  refine aw_aload_n dX12_anew_6 rfl rfl (aw_pc (pc' := 7) rfl ?_)
  refine ar_gR fl_RX12_7 dX12_anew_7 h ?_
  clear h
  intro x2 h
  refine aw_pc (pc' := 10) rfl ?_
  refine aw_bipush dX12_anew_10 (by decide) (aw_pc (pc' := 12) rfl ?_)
  refine ar_aI dX12_anew_12 h ?_
  clear h
  intro x3 h
  refine aw_pc (pc' := 13) rfl ?_
  refine aw_i2l dX12_anew_13 (aw_pc (pc' := 14) rfl ?_)
  refine aw_ldc2 (n := 607) dX12_anew_14 qK_RX12_321 (aw_pc (pc' := 17) rfl ?_)
  refine aw_lmul dX12_anew_17 (aw_pc (pc' := 18) rfl ?_)
  refine aw_ldc2 (n := 479) dX12_anew_18 qK_RX12_323 (aw_pc (pc' := 21) rfl ?_)
  refine aw_ladd dX12_anew_21 (aw_pc (pc' := 22) rfl ?_)
  refine aw_ldc2 (n := 30851) dX12_anew_22 qK_RX12_325 (aw_pc (pc' := 25) rfl ?_)
  refine ac_lrem wk_30851 (by decide) dX12_anew_25 (aw_pc (pc' := 26) rfl ?_)
  refine aw_l2i dX12_anew_26 (aw_pc (pc' := 27) rfl ?_)
  refine ar_sI dX12_anew_27 h ?_
  clear h
  intro F4 h
  refine aw_pc (pc' := 28) rfl ?_
  exact aw_vret rfl dX12_anew_28 ⟨rfl, h⟩
def mX12_drawnBy (o : Nat) (a1 : Int) (F : hp) (Q : Int → hp → Prop) : Prop := gR F (some o) 12 0 (fun x1 => aI F x1 0 8 (fun x2 => w32 a1 ≠ 0 ∧ ∀ v3 : Int, v3 = ((w32 x2).tmod (w32 a1)) → rcv F (some o) 12 (fun o5 => mX12_anew o5 F (fun F4 => Q v3 F4))))
set_option maxHeartbeats 4000000 in
theorem tX12_drawnBy {d : Nat} {o : Nat} {a1 : Int} {F : hp} {Q : Int → hp → Prop} (h : mX12_drawnBy o a1 F Q) : am nX12_drawnBy (d + 1) 0 0 [vr (some o), vi a1] F (qI Q) := by
  refine am_of (by decide +kernel) (Nat.le_of_ble_eq_true rfl) ?_
  show aw nX12_drawnBy (d + 1) 0 0 0 [some (vr (some o)), some (vi a1), none] [] F (qI Q)
  unfold mX12_drawnBy at h
  refine aw_aload_n dX12_drawnBy_0 rfl rfl (aw_pc (pc' := 1) rfl ?_)
  refine ar_gR fl_RX12_7 dX12_drawnBy_1 h ?_
  clear h
  intro x1 h
  refine aw_pc (pc' := 4) rfl ?_
  refine aw_bipush dX12_drawnBy_4 (by decide) (aw_pc (pc' := 6) rfl ?_)
  refine ar_aI dX12_drawnBy_6 h ?_
  clear h
  intro x2 h
  refine aw_pc (pc' := 7) rfl ?_
  refine aw_iload_n dX12_drawnBy_7 rfl rfl (aw_pc (pc' := 8) rfl ?_)
  refine ac_rem rfl h.1 dX12_drawnBy_8 (aw_pc (pc' := 9) rfl ?_)
  replace h := h.2
  generalize hv_v3 : ((w32 x2).tmod (w32 a1)) = v3
  replace h := h v3 hv_v3.symm
  refine aw_istore_n dX12_drawnBy_9 rfl (by decide) (aw_pc (pc' := 10) rfl ?_)
  refine aw_aload_n dX12_drawnBy_10 rfl rfl (aw_pc (pc' := 11) rfl ?_)
  have h0 := rcv_inv h
  clear h
  obtain ⟨o5, fs_o5, hr_o5, he_o5, h⟩ := h0
  obtain rfl : o = o5 := Option.some.inj hr_o5
  refine ar_VV (kc' := 0) (ks' := 0) (kc := 0) (ks := 0) (a := o) (ci := 12) (as := []) (st := []) (tX12_anew h) mt_X12_anew rfl qM_RX12_318 qI_X12_anew qV_X12_anew he_o5 rfl (Nat.le_of_ble_eq_true rfl) dX12_drawnBy_11 ?_
  clear h
  intro F4 h
  refine aw_pc (pc' := 14) rfl ?_
  refine aw_iload_n dX12_drawnBy_14 rfl rfl (aw_pc (pc' := 15) rfl ?_)
  exact aw_iret rfl dX12_drawnBy_15 ⟨_, rfl, h⟩
def mX12_canMove_J82 (Q : Int → hp → Prop) (o : Nat) (a1 : Int) (a2 : Int) (a3 : Int) (F : hp) : Prop := rcv F (some o) 12 (fun o3 => mX12_movesOf o3 a3 a1 a2 F (fun x2 F1 => (0 < w32 x2 → Q 1 F1) ∧ (¬ 0 < w32 x2 → Q 0 F1)))
set_option maxHeartbeats 4000000 in
theorem tX12_canMove_J82 {d : Nat} {Q : Int → hp → Prop} {o : Nat} {a1 : Int} {a2 : Int} {a3 : Int} {F : hp} (h : mX12_canMove_J82 Q o a1 a2 a3 F) : aw nX12_canMove (d + 7) 0 0 82 [some (vr (some o)), some (vi a1), some (vi a2), some (vi a3)] [] F (qI Q) := by
  unfold mX12_canMove_J82 at h
  refine aw_aload_n dX12_canMove_82 rfl rfl (aw_pc (pc' := 83) rfl ?_)
  refine aw_iload_n dX12_canMove_83 rfl rfl (aw_pc (pc' := 84) rfl ?_)
  refine aw_iload_n dX12_canMove_84 rfl rfl (aw_pc (pc' := 85) rfl ?_)
  refine aw_iload_n dX12_canMove_85 rfl rfl (aw_pc (pc' := 86) rfl ?_)
  have h0 := rcv_inv h
  clear h
  obtain ⟨o3, fs_o3, hr_o3, he_o3, h⟩ := h0
  obtain rfl : o = o3 := Option.some.inj hr_o3
  refine ar_VI (kc' := 0) (ks' := 0) (kc := 0) (ks := 0) (a := o) (ci := 12) (as := [vi a3, vi a1, vi a2]) (st := []) (tX12_movesOf h) mt_X12_movesOf rfl qM_RX12_333 qI_X12_movesOf qV_X12_movesOf he_o3 rfl (Nat.le_of_ble_eq_true rfl) dX12_canMove_86 ?_
  clear h
  intro x2 F1 h
  refine aw_pc (pc' := 89) rfl ?_
  refine aw_if_le dX12_canMove_89 rfl (fun c => ?_) (fun c => ?_)
  · replace h := h.1 c
    refine aw_iconst dX12_canMove_92 (aw_pc (pc' := 93) rfl ?_)
    refine aw_goto (tgt := 97) dX12_canMove_93 rfl ?_
    exact aw_zret rfl (by decide) dX12_canMove_97 ⟨_, rfl, h⟩
  · replace h := h.2 c
    refine aw_iconst dX12_canMove_96 (aw_pc (pc' := 97) rfl ?_)
    exact aw_zret rfl (by decide) dX12_canMove_97 ⟨_, rfl, h⟩
def mX12_canMove_J66 (Q : Int → hp → Prop) (o : Nat) (a1 : Int) (a2 : Int) (a3 : Int) (F : hp) : Prop := (w32 a2 = 1 → mX12_canMove_J82 Q o a1 a2 a3 F) ∧ (¬ w32 a2 = 1 → rcv F (some o) 12 (fun o3 => mX12_isWide o3 a3 F (fun x2 F1 => (w32 x2 = w32 ((w32 a2).tdiv 2) → mX12_canMove_J82 Q o a1 a2 a3 F1) ∧ (¬ w32 x2 = w32 ((w32 a2).tdiv 2) → Q 0 F1))))
set_option maxHeartbeats 4000000 in
theorem tX12_canMove_J66 {d : Nat} {Q : Int → hp → Prop} {o : Nat} {a1 : Int} {a2 : Int} {a3 : Int} {F : hp} (h : mX12_canMove_J66 Q o a1 a2 a3 F) : aw nX12_canMove (d + 7) 0 0 66 [some (vr (some o)), some (vi a1), some (vi a2), some (vi a3)] [] F (qI Q) := by
  unfold mX12_canMove_J66 at h
  refine aw_iload_n dX12_canMove_66 rfl rfl (aw_pc (pc' := 67) rfl ?_)
  refine aw_iconst dX12_canMove_67 (aw_pc (pc' := 68) rfl ?_)
  refine ac_eq rfl wl_1 dX12_canMove_68 rfl (fun c => ?_) (fun c => ?_)
  · replace h := h.1 c
    exact aw_mask [true, true, true, true] (tX12_canMove_J82 h)
  · replace h := h.2 c
    refine aw_aload_n dX12_canMove_71 rfl rfl (aw_pc (pc' := 72) rfl ?_)
    refine aw_iload_n dX12_canMove_72 rfl rfl (aw_pc (pc' := 73) rfl ?_)
    have h0 := rcv_inv h
    clear h
    obtain ⟨o3, fs_o3, hr_o3, he_o3, h⟩ := h0
    obtain rfl : o = o3 := Option.some.inj hr_o3
    refine ar_VI (kc' := 0) (ks' := 0) (kc := 0) (ks := 0) (a := o) (ci := 12) (as := [vi a3]) (st := []) (tX12_isWide h) mt_X12_isWide rfl qM_RX12_309 qI_X12_isWide qV_X12_isWide he_o3 rfl (Nat.le_of_ble_eq_true rfl) dX12_canMove_73 ?_
    clear h
    intro x2 F1 h
    refine aw_pc (pc' := 76) rfl ?_
    refine aw_iload_n dX12_canMove_76 rfl rfl (aw_pc (pc' := 77) rfl ?_)
    refine aw_iconst dX12_canMove_77 (aw_pc (pc' := 78) rfl ?_)
    refine ac_div wl_2 (by decide) dX12_canMove_78 (aw_pc (pc' := 79) rfl ?_)
    refine ac_ne rfl rfl dX12_canMove_79 rfl (fun c => ?_) (fun c => ?_)
    · replace h := h.1 c
      exact aw_mask [true, true, true, true] (tX12_canMove_J82 h)
    · replace h := h.2 c
      refine aw_iconst dX12_canMove_96 (aw_pc (pc' := 97) rfl ?_)
      exact aw_zret rfl (by decide) dX12_canMove_97 ⟨_, rfl, h⟩
def mX12_canMove (o : Nat) (a1 : Int) (a2 : Int) (F : hp) (Q : Int → hp → Prop) : Prop := mX12_isTrack a1 F (fun x2 F1 => (w32 x2 = 0 → Q 0 F1) ∧ (¬ w32 x2 = 0 → mX12_isTrack a2 F1 (fun x4 F3 => (w32 x4 = 0 → Q 0 F3) ∧ (¬ w32 x4 = 0 → (w32 a1 = w32 a2 → Q 0 F3) ∧ (¬ w32 a1 = w32 a2 → gR F3 (some o) 12 0 (fun x5 => aI F3 x5 0 (12 + a1) (fun x6 => (w32 x6 = 0 → Q 0 F3) ∧ (¬ w32 x6 = 0 → rcv F3 (some o) 12 (fun o9 => mX12_uppermost o9 a1 F3 (fun x8 F7 => gR F7 (some o) 12 0 (fun x10 => aI F7 x10 0 (12 + a2) (fun x11 => (0 < w32 x11 → rcv F7 (some o) 12 (fun o14 => mX12_uppermost o14 a2 F7 (fun x13 F12 => rcv F12 (some o) 12 (fun o17 => mX12_isForbidden o17 x8 x13 F12 (fun x16 F15 => (w32 x16 = 0 → mX12_canMove_J66 Q o a1 a2 x8 F15) ∧ (¬ w32 x16 = 0 → Q 0 F15)))))) ∧ (¬ 0 < w32 x11 → mX12_canMove_J66 Q o a1 a2 x8 F7)))))))))))))
set_option maxHeartbeats 4000000 in
theorem tX12_canMove {d : Nat} {o : Nat} {a1 : Int} {a2 : Int} {F : hp} {Q : Int → hp → Prop} (h : mX12_canMove o a1 a2 F Q) : am nX12_canMove (d + 7) 0 0 [vr (some o), vi a1, vi a2] F (qI Q) := by
  refine am_of (by decide +kernel) (Nat.le_of_ble_eq_true rfl) ?_
  show aw nX12_canMove (d + 7) 0 0 0 [some (vr (some o)), some (vi a1), some (vi a2), none] [] F (qI Q)
  unfold mX12_canMove at h
  refine aw_iload_n dX12_canMove_0 rfl rfl (aw_pc (pc' := 1) rfl ?_)
  refine ar_SI (kc' := 0) (ks' := 0) (kc := 0) (ks := 0) (as := [vi a1]) (st := []) (tX12_isTrack h) mt_X12_isTrack qM_RX12_327 qS_X12_isTrack rfl (Nat.le_of_ble_eq_true rfl) dX12_canMove_1 ?_
  clear h
  intro x2 F1 h
  refine aw_pc (pc' := 4) rfl ?_
  refine aw_if_eq dX12_canMove_4 rfl (fun c => ?_) (fun c => ?_)
  · replace h := h.1 c
    refine aw_iconst dX12_canMove_31 (aw_pc (pc' := 32) rfl ?_)
    exact aw_zret rfl (by decide) dX12_canMove_32 ⟨_, rfl, h⟩
  · replace h := h.2 c
    refine aw_iload_n dX12_canMove_7 rfl rfl (aw_pc (pc' := 8) rfl ?_)
    refine ar_SI (kc' := 0) (ks' := 0) (kc := 0) (ks := 0) (as := [vi a2]) (st := []) (tX12_isTrack h) mt_X12_isTrack qM_RX12_327 qS_X12_isTrack rfl (Nat.le_of_ble_eq_true rfl) dX12_canMove_8 ?_
    clear h
    intro x4 F3 h
    refine aw_pc (pc' := 11) rfl ?_
    refine aw_if_eq dX12_canMove_11 rfl (fun c => ?_) (fun c => ?_)
    · replace h := h.1 c
      refine aw_iconst dX12_canMove_31 (aw_pc (pc' := 32) rfl ?_)
      exact aw_zret rfl (by decide) dX12_canMove_32 ⟨_, rfl, h⟩
    · replace h := h.2 c
      refine aw_iload_n dX12_canMove_14 rfl rfl (aw_pc (pc' := 15) rfl ?_)
      refine aw_iload_n dX12_canMove_15 rfl rfl (aw_pc (pc' := 16) rfl ?_)
      refine ac_eq rfl rfl dX12_canMove_16 rfl (fun c => ?_) (fun c => ?_)
      · replace h := h.1 c
        refine aw_iconst dX12_canMove_31 (aw_pc (pc' := 32) rfl ?_)
        exact aw_zret rfl (by decide) dX12_canMove_32 ⟨_, rfl, h⟩
      · replace h := h.2 c
        refine aw_aload_n dX12_canMove_19 rfl rfl (aw_pc (pc' := 20) rfl ?_)
        refine ar_gR fl_RX12_7 dX12_canMove_20 h ?_
        clear h
        intro x5 h
        refine aw_pc (pc' := 23) rfl ?_
        refine aw_bipush dX12_canMove_23 (by decide) (aw_pc (pc' := 25) rfl ?_)
        refine aw_iload_n dX12_canMove_25 rfl rfl (aw_pc (pc' := 26) rfl ?_)
        refine aw_iadd dX12_canMove_26 (aw_pc (pc' := 27) rfl ?_)
        refine ar_aI dX12_canMove_27 h ?_
        clear h
        intro x6 h
        refine aw_pc (pc' := 28) rfl ?_
        refine aw_if_ne dX12_canMove_28 rfl (fun c => ?_) (fun c => ?_)
        · replace h := h.1 c
          refine aw_iconst dX12_canMove_31 (aw_pc (pc' := 32) rfl ?_)
          exact aw_zret rfl (by decide) dX12_canMove_32 ⟨_, rfl, h⟩
        · replace h := h.2 c
          refine aw_aload_n dX12_canMove_33 rfl rfl (aw_pc (pc' := 34) rfl ?_)
          refine aw_iload_n dX12_canMove_34 rfl rfl (aw_pc (pc' := 35) rfl ?_)
          have h0 := rcv_inv h
          clear h
          obtain ⟨o9, fs_o9, hr_o9, he_o9, h⟩ := h0
          obtain rfl : o = o9 := Option.some.inj hr_o9
          refine ar_VI (kc' := 0) (ks' := 0) (kc := 0) (ks := 0) (a := o) (ci := 12) (as := [vi a1]) (st := []) (tX12_uppermost h) mt_X12_uppermost rfl qM_RX12_278 qI_X12_uppermost qV_X12_uppermost he_o9 rfl (Nat.le_of_ble_eq_true rfl) dX12_canMove_35 ?_
          clear h
          intro x8 F7 h
          refine aw_pc (pc' := 38) rfl ?_
          refine aw_istore_n dX12_canMove_38 rfl (by decide) (aw_pc (pc' := 39) rfl ?_)
          refine aw_aload_n dX12_canMove_39 rfl rfl (aw_pc (pc' := 40) rfl ?_)
          refine ar_gR fl_RX12_7 dX12_canMove_40 h ?_
          clear h
          intro x10 h
          refine aw_pc (pc' := 43) rfl ?_
          refine aw_bipush dX12_canMove_43 (by decide) (aw_pc (pc' := 45) rfl ?_)
          refine aw_iload_n dX12_canMove_45 rfl rfl (aw_pc (pc' := 46) rfl ?_)
          refine aw_iadd dX12_canMove_46 (aw_pc (pc' := 47) rfl ?_)
          refine ar_aI dX12_canMove_47 h ?_
          clear h
          intro x11 h
          refine aw_pc (pc' := 48) rfl ?_
          refine aw_if_le dX12_canMove_48 rfl (fun c => ?_) (fun c => ?_)
          · replace h := h.1 c
            refine aw_aload_n dX12_canMove_51 rfl rfl (aw_pc (pc' := 52) rfl ?_)
            refine aw_iload_n dX12_canMove_52 rfl rfl (aw_pc (pc' := 53) rfl ?_)
            refine aw_aload_n dX12_canMove_53 rfl rfl (aw_pc (pc' := 54) rfl ?_)
            refine aw_iload_n dX12_canMove_54 rfl rfl (aw_pc (pc' := 55) rfl ?_)
            have h0 := rcv_inv h
            clear h
            obtain ⟨o14, fs_o14, hr_o14, he_o14, h⟩ := h0
            obtain rfl : o = o14 := Option.some.inj hr_o14
            refine ar_VI (kc' := 0) (ks' := 0) (kc := 0) (ks := 0) (a := o) (ci := 12) (as := [vi a2]) (st := [vi x8, vr (some o)]) (tX12_uppermost h) mt_X12_uppermost rfl qM_RX12_278 qI_X12_uppermost qV_X12_uppermost he_o14 rfl (Nat.le_of_ble_eq_true rfl) dX12_canMove_55 ?_
            clear h
            intro x13 F12 h
            refine aw_pc (pc' := 58) rfl ?_
            have h0 := rcv_inv h
            clear h
            obtain ⟨o17, fs_o17, hr_o17, he_o17, h⟩ := h0
            obtain rfl : o = o17 := Option.some.inj hr_o17
            refine ar_VI (kc' := 0) (ks' := 0) (kc := 0) (ks := 0) (a := o) (ci := 12) (as := [vi x8, vi x13]) (st := []) (tX12_isForbidden h) mt_X12_isForbidden rfl qM_RX12_330 qI_X12_isForbidden qV_X12_isForbidden he_o17 rfl (Nat.le_of_ble_eq_true rfl) dX12_canMove_58 ?_
            clear h
            intro x16 F15 h
            refine aw_pc (pc' := 61) rfl ?_
            refine aw_if_eq dX12_canMove_61 rfl (fun c => ?_) (fun c => ?_)
            · replace h := h.1 c
              exact aw_mask [true, true, true, true] (tX12_canMove_J66 h)
            · replace h := h.2 c
              refine aw_iconst dX12_canMove_64 (aw_pc (pc' := 65) rfl ?_)
              exact aw_zret rfl (by decide) dX12_canMove_65 ⟨_, rfl, h⟩
          · replace h := h.2 c
            exact aw_mask [true, true, true, true] (tX12_canMove_J66 h)
def mX12_moveNow (o : Nat) (a1 : Int) (a2 : Int) (F : hp) (Q : Int → hp → Prop) : Prop := rcv F (some o) 12 (fun o3 => mX12_uppermost o3 a1 F (fun x2 F1 => gR F1 (some o) 12 0 (fun x4 => aI F1 x4 0 (12 + a1) (fun x5 => sI F1 x4 0 (12 + a1) (x5 - 1) (fun F6 => rcv F6 (some o) 12 (fun o8 => mX12_come o8 a2 x2 F6 (fun F7 => rcv F7 (some o) 12 (fun o10 => mX12_write o10 x2 0 a2 F7 (fun F9 => Q x2 F9)))))))))
set_option maxHeartbeats 4000000 in
theorem tX12_moveNow {d : Nat} {o : Nat} {a1 : Int} {a2 : Int} {F : hp} {Q : Int → hp → Prop} (h : mX12_moveNow o a1 a2 F Q) : am nX12_moveNow (d + 2) 0 0 [vr (some o), vi a1, vi a2] F (qI Q) := by
  refine am_of (by decide +kernel) (Nat.le_of_ble_eq_true rfl) ?_
  show aw nX12_moveNow (d + 2) 0 0 0 [some (vr (some o)), some (vi a1), some (vi a2), none] [] F (qI Q)
  unfold mX12_moveNow at h
  refine aw_aload_n dX12_moveNow_0 rfl rfl (aw_pc (pc' := 1) rfl ?_)
  refine aw_iload_n dX12_moveNow_1 rfl rfl (aw_pc (pc' := 2) rfl ?_)
  have h0 := rcv_inv h
  clear h
  obtain ⟨o3, fs_o3, hr_o3, he_o3, h⟩ := h0
  obtain rfl : o = o3 := Option.some.inj hr_o3
  refine ar_VI (kc' := 0) (ks' := 0) (kc := 0) (ks := 0) (a := o) (ci := 12) (as := [vi a1]) (st := []) (tX12_uppermost h) mt_X12_uppermost rfl qM_RX12_278 qI_X12_uppermost qV_X12_uppermost he_o3 rfl (Nat.le_of_ble_eq_true rfl) dX12_moveNow_2 ?_
  clear h
  intro x2 F1 h
  refine aw_pc (pc' := 5) rfl ?_
  refine aw_istore_n dX12_moveNow_5 rfl (by decide) (aw_pc (pc' := 6) rfl ?_)
  refine aw_aload_n dX12_moveNow_6 rfl rfl (aw_pc (pc' := 7) rfl ?_)
  refine ar_gR fl_RX12_7 dX12_moveNow_7 h ?_
  clear h
  intro x4 h
  refine aw_pc (pc' := 10) rfl ?_
  refine aw_bipush dX12_moveNow_10 (by decide) (aw_pc (pc' := 12) rfl ?_)
  refine aw_iload_n dX12_moveNow_12 rfl rfl (aw_pc (pc' := 13) rfl ?_)
  refine aw_iadd dX12_moveNow_13 (aw_pc (pc' := 14) rfl ?_)
  refine aw_dup2 dX12_moveNow_14 trivial trivial (aw_pc (pc' := 15) rfl ?_)
  refine ar_aI dX12_moveNow_15 h ?_
  clear h
  intro x5 h
  refine aw_pc (pc' := 16) rfl ?_
  refine aw_iconst dX12_moveNow_16 (aw_pc (pc' := 17) rfl ?_)
  refine aw_isub dX12_moveNow_17 (aw_pc (pc' := 18) rfl ?_)
  refine ar_sI dX12_moveNow_18 h ?_
  clear h
  intro F6 h
  refine aw_pc (pc' := 19) rfl ?_
  refine aw_aload_n dX12_moveNow_19 rfl rfl (aw_pc (pc' := 20) rfl ?_)
  refine aw_iload_n dX12_moveNow_20 rfl rfl (aw_pc (pc' := 21) rfl ?_)
  refine aw_iload_n dX12_moveNow_21 rfl rfl (aw_pc (pc' := 22) rfl ?_)
  have h0 := rcv_inv h
  clear h
  obtain ⟨o8, fs_o8, hr_o8, he_o8, h⟩ := h0
  obtain rfl : o = o8 := Option.some.inj hr_o8
  refine ar_VV (kc' := 0) (ks' := 0) (kc := 0) (ks := 0) (a := o) (ci := 12) (as := [vi a2, vi x2]) (st := []) (tX12_come h) mt_X12_come rfl qM_RX12_94 qI_X12_come qV_X12_come he_o8 rfl (Nat.le_of_ble_eq_true rfl) dX12_moveNow_22 ?_
  clear h
  intro F7 h
  refine aw_pc (pc' := 25) rfl ?_
  refine aw_aload_n dX12_moveNow_25 rfl rfl (aw_pc (pc' := 26) rfl ?_)
  refine aw_iload_n dX12_moveNow_26 rfl rfl (aw_pc (pc' := 27) rfl ?_)
  refine aw_iconst dX12_moveNow_27 (aw_pc (pc' := 28) rfl ?_)
  refine aw_iload_n dX12_moveNow_28 rfl rfl (aw_pc (pc' := 29) rfl ?_)
  have h0 := rcv_inv h
  clear h
  obtain ⟨o10, fs_o10, hr_o10, he_o10, h⟩ := h0
  obtain rfl : o = o10 := Option.some.inj hr_o10
  refine ar_VV (kc' := 0) (ks' := 0) (kc := 0) (ks := 0) (a := o) (ci := 12) (as := [vi x2, vi 0, vi a2]) (st := []) (tX12_write h) mt_X12_write rfl qM_RX12_336 qI_X12_write qV_X12_write he_o10 rfl (Nat.le_of_ble_eq_true rfl) dX12_moveNow_29 ?_
  clear h
  intro F9 h
  refine aw_pc (pc' := 32) rfl ?_
  refine aw_iload_n dX12_moveNow_32 rfl rfl (aw_pc (pc' := 33) rfl ?_)
  exact aw_iret rfl dX12_moveNow_33 ⟨_, rfl, h⟩
def mX12_canChange (o : Nat) (F : hp) (Q : Int → hp → Prop) : Prop := rcv F (some o) 12 (fun o3 => mX12_uppermost o3 1 F (fun x2 F1 => (w32 x2 = (-1) → Q 0 F1) ∧ (¬ w32 x2 = (-1) → gR F1 (some o) 12 0 (fun x4 => rcv F1 (some o) 12 (fun o7 => mX12_isWide o7 x2 F1 (fun x6 F5 => aI F5 x4 0 (10 - x6) (fun x8 => (0 < w32 x8 → gR F5 (some o) 12 0 (fun x9 => aI F5 x9 0 2 (fun x10 => rcv F5 (some o) 12 (fun o13 => mX12_changesOf o13 x10 x2 F5 (fun x12 F11 => (0 < w32 x12 → Q 1 F11) ∧ (¬ 0 < w32 x12 → Q 0 F11)))))) ∧ (¬ 0 < w32 x8 → Q 0 F5))))))))
set_option maxHeartbeats 4000000 in
theorem tX12_canChange {d : Nat} {o : Nat} {F : hp} {Q : Int → hp → Prop} (h : mX12_canChange o F Q) : am nX12_canChange (d + 7) 0 0 [vr (some o)] F (qI Q) := by
  refine am_of (by decide +kernel) (Nat.le_of_ble_eq_true rfl) ?_
  show aw nX12_canChange (d + 7) 0 0 0 [some (vr (some o)), none] [] F (qI Q)
  unfold mX12_canChange at h
  refine aw_aload_n dX12_canChange_0 rfl rfl (aw_pc (pc' := 1) rfl ?_)
  refine aw_iconst dX12_canChange_1 (aw_pc (pc' := 2) rfl ?_)
  have h0 := rcv_inv h
  clear h
  obtain ⟨o3, fs_o3, hr_o3, he_o3, h⟩ := h0
  obtain rfl : o = o3 := Option.some.inj hr_o3
  refine ar_VI (kc' := 0) (ks' := 0) (kc := 0) (ks := 0) (a := o) (ci := 12) (as := [vi 1]) (st := []) (tX12_uppermost h) mt_X12_uppermost rfl qM_RX12_278 qI_X12_uppermost qV_X12_uppermost he_o3 rfl (Nat.le_of_ble_eq_true rfl) dX12_canChange_2 ?_
  clear h
  intro x2 F1 h
  refine aw_pc (pc' := 5) rfl ?_
  refine aw_istore_n dX12_canChange_5 rfl (by decide) (aw_pc (pc' := 6) rfl ?_)
  refine aw_iload_n dX12_canChange_6 rfl rfl (aw_pc (pc' := 7) rfl ?_)
  refine aw_iconst dX12_canChange_7 (aw_pc (pc' := 8) rfl ?_)
  refine ac_eq rfl wl_m1 dX12_canChange_8 rfl (fun c => ?_) (fun c => ?_)
  · replace h := h.1 c
    refine aw_iconst dX12_canChange_45 (aw_pc (pc' := 46) rfl ?_)
    exact aw_zret rfl (by decide) dX12_canChange_46 ⟨_, rfl, h⟩
  · replace h := h.2 c
    refine aw_aload_n dX12_canChange_11 rfl rfl (aw_pc (pc' := 12) rfl ?_)
    refine ar_gR fl_RX12_7 dX12_canChange_12 h ?_
    clear h
    intro x4 h
    refine aw_pc (pc' := 15) rfl ?_
    refine aw_bipush dX12_canChange_15 (by decide) (aw_pc (pc' := 17) rfl ?_)
    refine aw_aload_n dX12_canChange_17 rfl rfl (aw_pc (pc' := 18) rfl ?_)
    refine aw_iload_n dX12_canChange_18 rfl rfl (aw_pc (pc' := 19) rfl ?_)
    have h0 := rcv_inv h
    clear h
    obtain ⟨o7, fs_o7, hr_o7, he_o7, h⟩ := h0
    obtain rfl : o = o7 := Option.some.inj hr_o7
    refine ar_VI (kc' := 0) (ks' := 0) (kc := 0) (ks := 0) (a := o) (ci := 12) (as := [vi x2]) (st := [vi 10, vr x4]) (tX12_isWide h) mt_X12_isWide rfl qM_RX12_309 qI_X12_isWide qV_X12_isWide he_o7 rfl (Nat.le_of_ble_eq_true rfl) dX12_canChange_19 ?_
    clear h
    intro x6 F5 h
    refine aw_pc (pc' := 22) rfl ?_
    refine aw_isub dX12_canChange_22 (aw_pc (pc' := 23) rfl ?_)
    refine ar_aI dX12_canChange_23 h ?_
    clear h
    intro x8 h
    refine aw_pc (pc' := 24) rfl ?_
    refine aw_if_le dX12_canChange_24 rfl (fun c => ?_) (fun c => ?_)
    · replace h := h.1 c
      refine aw_aload_n dX12_canChange_27 rfl rfl (aw_pc (pc' := 28) rfl ?_)
      refine aw_aload_n dX12_canChange_28 rfl rfl (aw_pc (pc' := 29) rfl ?_)
      refine ar_gR fl_RX12_7 dX12_canChange_29 h ?_
      clear h
      intro x9 h
      refine aw_pc (pc' := 32) rfl ?_
      refine aw_iconst dX12_canChange_32 (aw_pc (pc' := 33) rfl ?_)
      refine ar_aI dX12_canChange_33 h ?_
      clear h
      intro x10 h
      refine aw_pc (pc' := 34) rfl ?_
      refine aw_iload_n dX12_canChange_34 rfl rfl (aw_pc (pc' := 35) rfl ?_)
      have h0 := rcv_inv h
      clear h
      obtain ⟨o13, fs_o13, hr_o13, he_o13, h⟩ := h0
      obtain rfl : o = o13 := Option.some.inj hr_o13
      refine ar_VI (kc' := 0) (ks' := 0) (kc := 0) (ks := 0) (a := o) (ci := 12) (as := [vi x10, vi x2]) (st := []) (tX12_changesOf h) mt_X12_changesOf rfl qM_RX12_340 qI_X12_changesOf qV_X12_changesOf he_o13 rfl (Nat.le_of_ble_eq_true rfl) dX12_canChange_35 ?_
      clear h
      intro x12 F11 h
      refine aw_pc (pc' := 38) rfl ?_
      refine aw_if_le dX12_canChange_38 rfl (fun c => ?_) (fun c => ?_)
      · replace h := h.1 c
        refine aw_iconst dX12_canChange_41 (aw_pc (pc' := 42) rfl ?_)
        refine aw_goto (tgt := 46) dX12_canChange_42 rfl ?_
        exact aw_zret rfl (by decide) dX12_canChange_46 ⟨_, rfl, h⟩
      · replace h := h.2 c
        refine aw_iconst dX12_canChange_45 (aw_pc (pc' := 46) rfl ?_)
        exact aw_zret rfl (by decide) dX12_canChange_46 ⟨_, rfl, h⟩
    · replace h := h.2 c
      refine aw_iconst dX12_canChange_45 (aw_pc (pc' := 46) rfl ?_)
      exact aw_zret rfl (by decide) dX12_canChange_46 ⟨_, rfl, h⟩
def mX12_changeNow (o : Nat) (F : hp) (Q : Int → hp → Prop) : Prop := rcv F (some o) 12 (fun o3 => mX12_uppermost o3 1 F (fun x2 F1 => rcv F1 (some o) 12 (fun o6 => mX12_isWide o6 x2 F1 (fun x5 F4 => gR F4 (some o) 12 0 (fun x7 => aI F4 x7 0 (10 - x5) (fun x8 => sI F4 x7 0 (10 - x5) (x8 - 1) (fun F9 => gR F9 (some o) 12 0 (fun x10 => gR F9 (some o) 12 0 (fun x11 => aI F9 x11 0 (9 + x5) (fun x12 => mX12_cut (w32 (x12 + 1)) 0 9 F9 (fun x14 F13 => sI F13 x10 0 (9 + x5) x14 (fun F15 => gR F15 (some o) 12 0 (fun x16 => aI F15 x16 0 30 (fun x17 => sI F15 x16 0 30 (iXor x17 (iShl 1 x2)) (fun F18 => gR F18 (some o) 12 0 (fun x19 => sI F18 x19 0 (31 + x2) 0 (fun F20 => rcv F20 (some o) 12 (fun o22 => mX12_write o22 x2 1 (1 - x5) F20 (fun F21 => Q x2 F21)))))))))))))))))))
set_option maxHeartbeats 4000000 in
theorem tX12_changeNow {d : Nat} {o : Nat} {F : hp} {Q : Int → hp → Prop} (h : mX12_changeNow o F Q) : am nX12_changeNow (d + 2) 0 0 [vr (some o)] F (qI Q) := by
  refine am_of (by decide +kernel) (Nat.le_of_ble_eq_true rfl) ?_
  show aw nX12_changeNow (d + 2) 0 0 0 [some (vr (some o)), none, none] [] F (qI Q)
  unfold mX12_changeNow at h
  refine aw_aload_n dX12_changeNow_0 rfl rfl (aw_pc (pc' := 1) rfl ?_)
  refine aw_iconst dX12_changeNow_1 (aw_pc (pc' := 2) rfl ?_)
  have h0 := rcv_inv h
  clear h
  obtain ⟨o3, fs_o3, hr_o3, he_o3, h⟩ := h0
  obtain rfl : o = o3 := Option.some.inj hr_o3
  refine ar_VI (kc' := 0) (ks' := 0) (kc := 0) (ks := 0) (a := o) (ci := 12) (as := [vi 1]) (st := []) (tX12_uppermost h) mt_X12_uppermost rfl qM_RX12_278 qI_X12_uppermost qV_X12_uppermost he_o3 rfl (Nat.le_of_ble_eq_true rfl) dX12_changeNow_2 ?_
  clear h
  intro x2 F1 h
  refine aw_pc (pc' := 5) rfl ?_
  refine aw_istore_n dX12_changeNow_5 rfl (by decide) (aw_pc (pc' := 6) rfl ?_)
  refine aw_aload_n dX12_changeNow_6 rfl rfl (aw_pc (pc' := 7) rfl ?_)
  refine aw_iload_n dX12_changeNow_7 rfl rfl (aw_pc (pc' := 8) rfl ?_)
  have h0 := rcv_inv h
  clear h
  obtain ⟨o6, fs_o6, hr_o6, he_o6, h⟩ := h0
  obtain rfl : o = o6 := Option.some.inj hr_o6
  refine ar_VI (kc' := 0) (ks' := 0) (kc := 0) (ks := 0) (a := o) (ci := 12) (as := [vi x2]) (st := []) (tX12_isWide h) mt_X12_isWide rfl qM_RX12_309 qI_X12_isWide qV_X12_isWide he_o6 rfl (Nat.le_of_ble_eq_true rfl) dX12_changeNow_8 ?_
  clear h
  intro x5 F4 h
  refine aw_pc (pc' := 11) rfl ?_
  refine aw_istore_n dX12_changeNow_11 rfl (by decide) (aw_pc (pc' := 12) rfl ?_)
  refine aw_aload_n dX12_changeNow_12 rfl rfl (aw_pc (pc' := 13) rfl ?_)
  refine ar_gR fl_RX12_7 dX12_changeNow_13 h ?_
  clear h
  intro x7 h
  refine aw_pc (pc' := 16) rfl ?_
  refine aw_bipush dX12_changeNow_16 (by decide) (aw_pc (pc' := 18) rfl ?_)
  refine aw_iload_n dX12_changeNow_18 rfl rfl (aw_pc (pc' := 19) rfl ?_)
  refine aw_isub dX12_changeNow_19 (aw_pc (pc' := 20) rfl ?_)
  refine aw_dup2 dX12_changeNow_20 trivial trivial (aw_pc (pc' := 21) rfl ?_)
  refine ar_aI dX12_changeNow_21 h ?_
  clear h
  intro x8 h
  refine aw_pc (pc' := 22) rfl ?_
  refine aw_iconst dX12_changeNow_22 (aw_pc (pc' := 23) rfl ?_)
  refine aw_isub dX12_changeNow_23 (aw_pc (pc' := 24) rfl ?_)
  refine ar_sI dX12_changeNow_24 h ?_
  clear h
  intro F9 h
  refine aw_pc (pc' := 25) rfl ?_
  refine aw_aload_n dX12_changeNow_25 rfl rfl (aw_pc (pc' := 26) rfl ?_)
  refine ar_gR fl_RX12_7 dX12_changeNow_26 h ?_
  clear h
  intro x10 h
  refine aw_pc (pc' := 29) rfl ?_
  refine aw_bipush dX12_changeNow_29 (by decide) (aw_pc (pc' := 31) rfl ?_)
  refine aw_iload_n dX12_changeNow_31 rfl rfl (aw_pc (pc' := 32) rfl ?_)
  refine aw_iadd dX12_changeNow_32 (aw_pc (pc' := 33) rfl ?_)
  refine aw_aload_n dX12_changeNow_33 rfl rfl (aw_pc (pc' := 34) rfl ?_)
  refine ar_gR fl_RX12_7 dX12_changeNow_34 h ?_
  clear h
  intro x11 h
  refine aw_pc (pc' := 37) rfl ?_
  refine aw_bipush dX12_changeNow_37 (by decide) (aw_pc (pc' := 39) rfl ?_)
  refine aw_iload_n dX12_changeNow_39 rfl rfl (aw_pc (pc' := 40) rfl ?_)
  refine aw_iadd dX12_changeNow_40 (aw_pc (pc' := 41) rfl ?_)
  refine ar_aI dX12_changeNow_41 h ?_
  clear h
  intro x12 h
  refine aw_pc (pc' := 42) rfl ?_
  refine aw_iconst dX12_changeNow_42 (aw_pc (pc' := 43) rfl ?_)
  refine aw_iadd dX12_changeNow_43 (aw_pc (pc' := 44) rfl ?_)
  refine aw_i2l dX12_changeNow_44 (aw_pc (pc' := 45) rfl ?_)
  refine aw_iconst dX12_changeNow_45 (aw_pc (pc' := 46) rfl ?_)
  refine aw_bipush dX12_changeNow_46 (by decide) (aw_pc (pc' := 48) rfl ?_)
  refine ar_SI (kc' := 0) (ks' := 0) (kc := 0) (ks := 0) (as := [vl (w32 (x12 + 1)), vi 0, vi 9]) (st := [vi (9 + x5), vr x10]) (tX12_cut h) mt_X12_cut qM_RX12_305 qS_X12_cut rfl (Nat.le_of_ble_eq_true rfl) dX12_changeNow_48 ?_
  clear h
  intro x14 F13 h
  refine aw_pc (pc' := 51) rfl ?_
  refine ar_sI dX12_changeNow_51 h ?_
  clear h
  intro F15 h
  refine aw_pc (pc' := 52) rfl ?_
  refine aw_aload_n dX12_changeNow_52 rfl rfl (aw_pc (pc' := 53) rfl ?_)
  refine ar_gR fl_RX12_7 dX12_changeNow_53 h ?_
  clear h
  intro x16 h
  refine aw_pc (pc' := 56) rfl ?_
  refine aw_bipush dX12_changeNow_56 (by decide) (aw_pc (pc' := 58) rfl ?_)
  refine aw_dup2 dX12_changeNow_58 trivial trivial (aw_pc (pc' := 59) rfl ?_)
  refine ar_aI dX12_changeNow_59 h ?_
  clear h
  intro x17 h
  refine aw_pc (pc' := 60) rfl ?_
  refine aw_iconst dX12_changeNow_60 (aw_pc (pc' := 61) rfl ?_)
  refine aw_iload_n dX12_changeNow_61 rfl rfl (aw_pc (pc' := 62) rfl ?_)
  refine aw_ishl dX12_changeNow_62 (aw_pc (pc' := 63) rfl ?_)
  refine aw_ixor dX12_changeNow_63 (aw_pc (pc' := 64) rfl ?_)
  refine ar_sI dX12_changeNow_64 h ?_
  clear h
  intro F18 h
  refine aw_pc (pc' := 65) rfl ?_
  refine aw_aload_n dX12_changeNow_65 rfl rfl (aw_pc (pc' := 66) rfl ?_)
  refine ar_gR fl_RX12_7 dX12_changeNow_66 h ?_
  clear h
  intro x19 h
  refine aw_pc (pc' := 69) rfl ?_
  refine aw_bipush dX12_changeNow_69 (by decide) (aw_pc (pc' := 71) rfl ?_)
  refine aw_iload_n dX12_changeNow_71 rfl rfl (aw_pc (pc' := 72) rfl ?_)
  refine aw_iadd dX12_changeNow_72 (aw_pc (pc' := 73) rfl ?_)
  refine aw_iconst dX12_changeNow_73 (aw_pc (pc' := 74) rfl ?_)
  refine ar_sI dX12_changeNow_74 h ?_
  clear h
  intro F20 h
  refine aw_pc (pc' := 75) rfl ?_
  refine aw_aload_n dX12_changeNow_75 rfl rfl (aw_pc (pc' := 76) rfl ?_)
  refine aw_iload_n dX12_changeNow_76 rfl rfl (aw_pc (pc' := 77) rfl ?_)
  refine aw_iconst dX12_changeNow_77 (aw_pc (pc' := 78) rfl ?_)
  refine aw_iconst dX12_changeNow_78 (aw_pc (pc' := 79) rfl ?_)
  refine aw_iload_n dX12_changeNow_79 rfl rfl (aw_pc (pc' := 80) rfl ?_)
  refine aw_isub dX12_changeNow_80 (aw_pc (pc' := 81) rfl ?_)
  have h0 := rcv_inv h
  clear h
  obtain ⟨o22, fs_o22, hr_o22, he_o22, h⟩ := h0
  obtain rfl : o = o22 := Option.some.inj hr_o22
  refine ar_VV (kc' := 0) (ks' := 0) (kc := 0) (ks := 0) (a := o) (ci := 12) (as := [vi x2, vi 1, vi (1 - x5)]) (st := []) (tX12_write h) mt_X12_write rfl qM_RX12_336 qI_X12_write qV_X12_write he_o22 rfl (Nat.le_of_ble_eq_true rfl) dX12_changeNow_81 ?_
  clear h
  intro F21 h
  refine aw_pc (pc' := 84) rfl ?_
  refine aw_iload_n dX12_changeNow_84 rfl rfl (aw_pc (pc' := 85) rfl ?_)
  exact aw_iret rfl dX12_changeNow_85 ⟨_, rfl, h⟩
def mX12_canLend (o : Nat) (a1 : Int) (a2 : Int) (F : hp) (Q : Int → hp → Prop) : Prop := mX12_isIn a1 0 1 F (fun x2 F1 => (w32 x2 = 0 → Q 0 F1) ∧ (¬ w32 x2 = 0 → (w32 a2 = 0 → Q 0 F1) ∧ (¬ w32 a2 = 0 → mX12_isIn a2 (-9) 9 F1 (fun x4 F3 => (w32 x4 = 0 → Q 0 F3) ∧ (¬ w32 x4 = 0 → gR F3 (some o) 12 0 (fun x5 => aI F3 x5 0 (9 + a1) (fun x6 => mX12_isIn (x6 + a2) 0 9 F3 (fun x8 F7 => (w32 x8 = 0 → Q 0 F7) ∧ (¬ w32 x8 = 0 → Q 1 F7)))))))))
set_option maxHeartbeats 4000000 in
theorem tX12_canLend {d : Nat} {o : Nat} {a1 : Int} {a2 : Int} {F : hp} {Q : Int → hp → Prop} (h : mX12_canLend o a1 a2 F Q) : am nX12_canLend (d + 1) 0 0 [vr (some o), vi a1, vi a2] F (qI Q) := by
  refine am_of (by decide +kernel) (Nat.le_of_ble_eq_true rfl) ?_
  show aw nX12_canLend (d + 1) 0 0 0 [some (vr (some o)), some (vi a1), some (vi a2)] [] F (qI Q)
  unfold mX12_canLend at h
  refine aw_iload_n dX12_canLend_0 rfl rfl (aw_pc (pc' := 1) rfl ?_)
  refine aw_iconst dX12_canLend_1 (aw_pc (pc' := 2) rfl ?_)
  refine aw_iconst dX12_canLend_2 (aw_pc (pc' := 3) rfl ?_)
  refine ar_SI (kc' := 0) (ks' := 0) (kc := 0) (ks := 0) (as := [vi a1, vi 0, vi 1]) (st := []) (tX12_isIn h) mt_X12_isIn qM_RX12_78 qS_X12_isIn rfl (Nat.le_of_ble_eq_true rfl) dX12_canLend_3 ?_
  clear h
  intro x2 F1 h
  refine aw_pc (pc' := 6) rfl ?_
  refine aw_if_eq dX12_canLend_6 rfl (fun c => ?_) (fun c => ?_)
  · replace h := h.1 c
    refine aw_iconst dX12_canLend_48 (aw_pc (pc' := 49) rfl ?_)
    exact aw_zret rfl (by decide) dX12_canLend_49 ⟨_, rfl, h⟩
  · replace h := h.2 c
    refine aw_iload_n dX12_canLend_9 rfl rfl (aw_pc (pc' := 10) rfl ?_)
    refine aw_if_eq dX12_canLend_10 rfl (fun c => ?_) (fun c => ?_)
    · replace h := h.1 c
      refine aw_iconst dX12_canLend_48 (aw_pc (pc' := 49) rfl ?_)
      exact aw_zret rfl (by decide) dX12_canLend_49 ⟨_, rfl, h⟩
    · replace h := h.2 c
      refine aw_iload_n dX12_canLend_13 rfl rfl (aw_pc (pc' := 14) rfl ?_)
      refine aw_bipush dX12_canLend_14 (by decide) (aw_pc (pc' := 16) rfl ?_)
      refine aw_bipush dX12_canLend_16 (by decide) (aw_pc (pc' := 18) rfl ?_)
      refine ar_SI (kc' := 0) (ks' := 0) (kc := 0) (ks := 0) (as := [vi a2, vi (-9), vi 9]) (st := []) (tX12_isIn h) mt_X12_isIn qM_RX12_78 qS_X12_isIn rfl (Nat.le_of_ble_eq_true rfl) dX12_canLend_18 ?_
      clear h
      intro x4 F3 h
      refine aw_pc (pc' := 21) rfl ?_
      refine aw_if_eq dX12_canLend_21 rfl (fun c => ?_) (fun c => ?_)
      · replace h := h.1 c
        refine aw_iconst dX12_canLend_48 (aw_pc (pc' := 49) rfl ?_)
        exact aw_zret rfl (by decide) dX12_canLend_49 ⟨_, rfl, h⟩
      · replace h := h.2 c
        refine aw_aload_n dX12_canLend_24 rfl rfl (aw_pc (pc' := 25) rfl ?_)
        refine ar_gR fl_RX12_7 dX12_canLend_25 h ?_
        clear h
        intro x5 h
        refine aw_pc (pc' := 28) rfl ?_
        refine aw_bipush dX12_canLend_28 (by decide) (aw_pc (pc' := 30) rfl ?_)
        refine aw_iload_n dX12_canLend_30 rfl rfl (aw_pc (pc' := 31) rfl ?_)
        refine aw_iadd dX12_canLend_31 (aw_pc (pc' := 32) rfl ?_)
        refine ar_aI dX12_canLend_32 h ?_
        clear h
        intro x6 h
        refine aw_pc (pc' := 33) rfl ?_
        refine aw_iload_n dX12_canLend_33 rfl rfl (aw_pc (pc' := 34) rfl ?_)
        refine aw_iadd dX12_canLend_34 (aw_pc (pc' := 35) rfl ?_)
        refine aw_iconst dX12_canLend_35 (aw_pc (pc' := 36) rfl ?_)
        refine aw_bipush dX12_canLend_36 (by decide) (aw_pc (pc' := 38) rfl ?_)
        refine ar_SI (kc' := 0) (ks' := 0) (kc := 0) (ks := 0) (as := [vi (x6 + a2), vi 0, vi 9]) (st := []) (tX12_isIn h) mt_X12_isIn qM_RX12_78 qS_X12_isIn rfl (Nat.le_of_ble_eq_true rfl) dX12_canLend_38 ?_
        clear h
        intro x8 F7 h
        refine aw_pc (pc' := 41) rfl ?_
        refine aw_if_eq dX12_canLend_41 rfl (fun c => ?_) (fun c => ?_)
        · replace h := h.1 c
          refine aw_iconst dX12_canLend_48 (aw_pc (pc' := 49) rfl ?_)
          exact aw_zret rfl (by decide) dX12_canLend_49 ⟨_, rfl, h⟩
        · replace h := h.2 c
          refine aw_iconst dX12_canLend_44 (aw_pc (pc' := 45) rfl ?_)
          refine aw_goto (tgt := 49) dX12_canLend_45 rfl ?_
          exact aw_zret rfl (by decide) dX12_canLend_49 ⟨_, rfl, h⟩
def mX12_pass_J141 (Q : hp → Prop) (o : Nat) (F : hp) : Prop := gR F (some o) 12 0 (fun x1 => aI F x1 0 7 (fun x2 => sI F x1 0 7 (x2 + 1) (fun F3 => Q F3)))
set_option maxHeartbeats 4000000 in
theorem tX12_pass_J141 {d : Nat} {Q : hp → Prop} {o : Nat} {F : hp} (h : mX12_pass_J141 Q o F) : aw nX12_pass (d + 2) 0 0 141 [some (vr (some o)), none, none, none] [] F (qV Q) := by
  unfold mX12_pass_J141 at h
  refine aw_aload_n dX12_pass_141 rfl rfl (aw_pc (pc' := 142) rfl ?_)
  refine ar_gR fl_RX12_7 dX12_pass_142 h ?_
  clear h
  intro x1 h
  refine aw_pc (pc' := 145) rfl ?_
  refine aw_bipush dX12_pass_145 (by decide) (aw_pc (pc' := 147) rfl ?_)
  refine aw_dup2 dX12_pass_147 trivial trivial (aw_pc (pc' := 148) rfl ?_)
  refine ar_aI dX12_pass_148 h ?_
  clear h
  intro x2 h
  refine aw_pc (pc' := 149) rfl ?_
  refine aw_iconst dX12_pass_149 (aw_pc (pc' := 150) rfl ?_)
  refine aw_iadd dX12_pass_150 (aw_pc (pc' := 151) rfl ?_)
  refine ar_sI dX12_pass_151 h ?_
  clear h
  intro F3 h
  refine aw_pc (pc' := 152) rfl ?_
  exact aw_vret rfl dX12_pass_152 ⟨rfl, h⟩
def mX12_pass_J94 (Q : hp → Prop) (o : Nat) (F : hp) : Prop := gR F (some o) 12 0 (fun x1 => aI F x1 0 0 (fun x2 => (0 < w32 x2 → gR F (some o) 12 0 (fun x3 => aI F x3 0 0 (fun x4 => rcv F (some o) 12 (fun o7 => mX12_drawnBy o7 x4 F (fun x6 F5 => gR F5 (some o) 12 0 (fun x8 => gR F5 (some o) 12 0 (fun x9 => aI F5 x9 0 (31 + x6) (fun x10 => mX12_cut (w32 (x10 + 1)) 0 9 F5 (fun x12 F11 => sI F11 x8 0 (31 + x6) x12 (fun F13 => mX12_pass_J141 Q o F13)))))))))) ∧ (¬ 0 < w32 x2 → mX12_pass_J141 Q o F)))
set_option maxHeartbeats 4000000 in
theorem tX12_pass_J94 {d : Nat} {Q : hp → Prop} {o : Nat} {F : hp} (h : mX12_pass_J94 Q o F) : aw nX12_pass (d + 2) 0 0 94 [some (vr (some o)), none, none, none] [] F (qV Q) := by
  unfold mX12_pass_J94 at h
  refine aw_aload_n dX12_pass_94 rfl rfl (aw_pc (pc' := 95) rfl ?_)
  refine ar_gR fl_RX12_7 dX12_pass_95 h ?_
  clear h
  intro x1 h
  refine aw_pc (pc' := 98) rfl ?_
  refine aw_iconst dX12_pass_98 (aw_pc (pc' := 99) rfl ?_)
  refine ar_aI dX12_pass_99 h ?_
  clear h
  intro x2 h
  refine aw_pc (pc' := 100) rfl ?_
  refine aw_if_le dX12_pass_100 rfl (fun c => ?_) (fun c => ?_)
  · replace h := h.1 c
    refine aw_aload_n dX12_pass_103 rfl rfl (aw_pc (pc' := 104) rfl ?_)
    refine aw_aload_n dX12_pass_104 rfl rfl (aw_pc (pc' := 105) rfl ?_)
    refine ar_gR fl_RX12_7 dX12_pass_105 h ?_
    clear h
    intro x3 h
    refine aw_pc (pc' := 108) rfl ?_
    refine aw_iconst dX12_pass_108 (aw_pc (pc' := 109) rfl ?_)
    refine ar_aI dX12_pass_109 h ?_
    clear h
    intro x4 h
    refine aw_pc (pc' := 110) rfl ?_
    have h0 := rcv_inv h
    clear h
    obtain ⟨o7, fs_o7, hr_o7, he_o7, h⟩ := h0
    obtain rfl : o = o7 := Option.some.inj hr_o7
    refine ar_VI (kc' := 0) (ks' := 0) (kc := 0) (ks := 0) (a := o) (ci := 12) (as := [vi x4]) (st := []) (tX12_drawnBy h) mt_X12_drawnBy rfl qM_RX12_343 qI_X12_drawnBy qV_X12_drawnBy he_o7 rfl (Nat.le_of_ble_eq_true rfl) dX12_pass_110 ?_
    clear h
    intro x6 F5 h
    refine aw_pc (pc' := 113) rfl ?_
    refine aw_istore_n dX12_pass_113 rfl (by decide) (aw_pc (pc' := 114) rfl ?_)
    refine aw_aload_n dX12_pass_114 rfl rfl (aw_pc (pc' := 115) rfl ?_)
    refine ar_gR fl_RX12_7 dX12_pass_115 h ?_
    clear h
    intro x8 h
    refine aw_pc (pc' := 118) rfl ?_
    refine aw_bipush dX12_pass_118 (by decide) (aw_pc (pc' := 120) rfl ?_)
    refine aw_iload_n dX12_pass_120 rfl rfl (aw_pc (pc' := 121) rfl ?_)
    refine aw_iadd dX12_pass_121 (aw_pc (pc' := 122) rfl ?_)
    refine aw_aload_n dX12_pass_122 rfl rfl (aw_pc (pc' := 123) rfl ?_)
    refine ar_gR fl_RX12_7 dX12_pass_123 h ?_
    clear h
    intro x9 h
    refine aw_pc (pc' := 126) rfl ?_
    refine aw_bipush dX12_pass_126 (by decide) (aw_pc (pc' := 128) rfl ?_)
    refine aw_iload_n dX12_pass_128 rfl rfl (aw_pc (pc' := 129) rfl ?_)
    refine aw_iadd dX12_pass_129 (aw_pc (pc' := 130) rfl ?_)
    refine ar_aI dX12_pass_130 h ?_
    clear h
    intro x10 h
    refine aw_pc (pc' := 131) rfl ?_
    refine aw_iconst dX12_pass_131 (aw_pc (pc' := 132) rfl ?_)
    refine aw_iadd dX12_pass_132 (aw_pc (pc' := 133) rfl ?_)
    refine aw_i2l dX12_pass_133 (aw_pc (pc' := 134) rfl ?_)
    refine aw_iconst dX12_pass_134 (aw_pc (pc' := 135) rfl ?_)
    refine aw_bipush dX12_pass_135 (by decide) (aw_pc (pc' := 137) rfl ?_)
    refine ar_SI (kc' := 0) (ks' := 0) (kc := 0) (ks := 0) (as := [vl (w32 (x10 + 1)), vi 0, vi 9]) (st := [vi (31 + x6), vr x8]) (tX12_cut h) mt_X12_cut qM_RX12_305 qS_X12_cut rfl (Nat.le_of_ble_eq_true rfl) dX12_pass_137 ?_
    clear h
    intro x12 F11 h
    refine aw_pc (pc' := 140) rfl ?_
    refine ar_sI dX12_pass_140 h ?_
    clear h
    intro F13 h
    refine aw_pc (pc' := 141) rfl ?_
    exact aw_mask [true, false, false, false] (tX12_pass_J141 h)
  · replace h := h.2 c
    exact aw_mask [true, false, false, false] (tX12_pass_J141 h)
def mX12_pass_J43 (Q : hp → Prop) (o : Nat) (a1 : Int) (a2 : Int) (F : hp) : Prop := mX12_isIn a1 2 3 F (fun x2 F1 => (w32 x2 = 0 → mX12_pass_J94 Q o F1) ∧ (¬ w32 x2 = 0 → gR F1 (some o) 12 0 (fun x3 => aI F1 x3 0 (9 + a2) (fun x4 => (0 < w32 x4 → gR F1 (some o) 12 0 (fun x5 => aI F1 x5 0 (9 + a2) (fun x6 => sI F1 x5 0 (9 + a2) (x6 - 1) (fun F7 => gI F7 (some o) 12 24 (fun x8 => pF F7 (some o) 12 24 (vi (x8 + 1)) (fun F9 => rcv F9 (some o) 12 (fun o11 => mX12_write o11 (-1) 2 a2 F9 (fun F10 => mX12_pass_J94 Q o F10)))))))) ∧ (¬ 0 < w32 x4 → mX12_pass_J94 Q o F1)))))
set_option maxHeartbeats 4000000 in
theorem tX12_pass_J43 {d : Nat} {Q : hp → Prop} {o : Nat} {a1 : Int} {a2 : Int} {F : hp} (h : mX12_pass_J43 Q o a1 a2 F) : aw nX12_pass (d + 2) 0 0 43 [some (vr (some o)), some (vi a1), some (vi a2), none] [] F (qV Q) := by
  unfold mX12_pass_J43 at h
  refine aw_iload_n dX12_pass_43 rfl rfl (aw_pc (pc' := 44) rfl ?_)
  refine aw_iconst dX12_pass_44 (aw_pc (pc' := 45) rfl ?_)
  refine aw_iconst dX12_pass_45 (aw_pc (pc' := 46) rfl ?_)
  refine ar_SI (kc' := 0) (ks' := 0) (kc := 0) (ks := 0) (as := [vi a1, vi 2, vi 3]) (st := []) (tX12_isIn h) mt_X12_isIn qM_RX12_78 qS_X12_isIn rfl (Nat.le_of_ble_eq_true rfl) dX12_pass_46 ?_
  clear h
  intro x2 F1 h
  refine aw_pc (pc' := 49) rfl ?_
  refine aw_if_eq dX12_pass_49 rfl (fun c => ?_) (fun c => ?_)
  · replace h := h.1 c
    exact aw_mask [true, false, false, false] (tX12_pass_J94 h)
  · replace h := h.2 c
    refine aw_aload_n dX12_pass_52 rfl rfl (aw_pc (pc' := 53) rfl ?_)
    refine ar_gR fl_RX12_7 dX12_pass_53 h ?_
    clear h
    intro x3 h
    refine aw_pc (pc' := 56) rfl ?_
    refine aw_bipush dX12_pass_56 (by decide) (aw_pc (pc' := 58) rfl ?_)
    refine aw_iload_n dX12_pass_58 rfl rfl (aw_pc (pc' := 59) rfl ?_)
    refine aw_iadd dX12_pass_59 (aw_pc (pc' := 60) rfl ?_)
    refine ar_aI dX12_pass_60 h ?_
    clear h
    intro x4 h
    refine aw_pc (pc' := 61) rfl ?_
    refine aw_if_le dX12_pass_61 rfl (fun c => ?_) (fun c => ?_)
    · replace h := h.1 c
      refine aw_aload_n dX12_pass_64 rfl rfl (aw_pc (pc' := 65) rfl ?_)
      refine ar_gR fl_RX12_7 dX12_pass_65 h ?_
      clear h
      intro x5 h
      refine aw_pc (pc' := 68) rfl ?_
      refine aw_bipush dX12_pass_68 (by decide) (aw_pc (pc' := 70) rfl ?_)
      refine aw_iload_n dX12_pass_70 rfl rfl (aw_pc (pc' := 71) rfl ?_)
      refine aw_iadd dX12_pass_71 (aw_pc (pc' := 72) rfl ?_)
      refine aw_dup2 dX12_pass_72 trivial trivial (aw_pc (pc' := 73) rfl ?_)
      refine ar_aI dX12_pass_73 h ?_
      clear h
      intro x6 h
      refine aw_pc (pc' := 74) rfl ?_
      refine aw_iconst dX12_pass_74 (aw_pc (pc' := 75) rfl ?_)
      refine aw_isub dX12_pass_75 (aw_pc (pc' := 76) rfl ?_)
      refine ar_sI dX12_pass_76 h ?_
      clear h
      intro F7 h
      refine aw_pc (pc' := 77) rfl ?_
      refine aw_aload_n dX12_pass_77 rfl rfl (aw_pc (pc' := 78) rfl ?_)
      refine aw_dup dX12_pass_78 trivial (aw_pc (pc' := 79) rfl ?_)
      refine ar_gI fl_RX12_346 dX12_pass_79 h ?_
      clear h
      intro x8 h
      refine aw_pc (pc' := 82) rfl ?_
      refine aw_iconst dX12_pass_82 (aw_pc (pc' := 83) rfl ?_)
      refine aw_iadd dX12_pass_83 (aw_pc (pc' := 84) rfl ?_)
      refine ar_pF fl_RX12_346 ft_X12_24 (okI _) dX12_pass_84 h ?_
      clear h
      intro F9 h
      refine aw_pc (pc' := 87) rfl ?_
      refine aw_aload_n dX12_pass_87 rfl rfl (aw_pc (pc' := 88) rfl ?_)
      refine aw_iconst dX12_pass_88 (aw_pc (pc' := 89) rfl ?_)
      refine aw_iconst dX12_pass_89 (aw_pc (pc' := 90) rfl ?_)
      refine aw_iload_n dX12_pass_90 rfl rfl (aw_pc (pc' := 91) rfl ?_)
      have h0 := rcv_inv h
      clear h
      obtain ⟨o11, fs_o11, hr_o11, he_o11, h⟩ := h0
      obtain rfl : o = o11 := Option.some.inj hr_o11
      refine ar_VV (kc' := 0) (ks' := 0) (kc := 0) (ks := 0) (a := o) (ci := 12) (as := [vi (-1), vi 2, vi a2]) (st := []) (tX12_write h) mt_X12_write rfl qM_RX12_336 qI_X12_write qV_X12_write he_o11 rfl (Nat.le_of_ble_eq_true rfl) dX12_pass_91 ?_
      clear h
      intro F10 h
      refine aw_pc (pc' := 94) rfl ?_
      exact aw_mask [true, false, false, false] (tX12_pass_J94 h)
    · replace h := h.2 c
      exact aw_mask [true, false, false, false] (tX12_pass_J94 h)
def mX12_pass (o : Nat) (F : hp) (Q : hp → Prop) : Prop := rcv F (some o) 12 (fun o3 => mX12_drawnBy o3 10 F (fun x2 F1 => ∀ v4 : Int, v4 = ((w32 x2).tmod 2) → (w32 x2 < 2 → gR F1 (some o) 12 0 (fun x5 => gR F1 (some o) 12 0 (fun x6 => aI F1 x6 0 (9 + v4) (fun x7 => mX12_cut (w32 (x7 + 1)) 0 9 F1 (fun x9 F8 => sI F8 x5 0 (9 + v4) x9 (fun F10 => mX12_pass_J43 Q o x2 v4 F10)))))) ∧ (¬ w32 x2 < 2 → mX12_pass_J43 Q o x2 v4 F1)))
set_option maxHeartbeats 4000000 in
theorem tX12_pass {d : Nat} {o : Nat} {F : hp} {Q : hp → Prop} (h : mX12_pass o F Q) : am nX12_pass (d + 2) 0 0 [vr (some o)] F (qV Q) := by
  refine am_of (by decide +kernel) (Nat.le_of_ble_eq_true rfl) ?_
  show aw nX12_pass (d + 2) 0 0 0 [some (vr (some o)), none, none, none] [] F (qV Q)
  unfold mX12_pass at h
  refine aw_aload_n dX12_pass_0 rfl rfl (aw_pc (pc' := 1) rfl ?_)
  refine aw_bipush dX12_pass_1 (by decide) (aw_pc (pc' := 3) rfl ?_)
  have h0 := rcv_inv h
  clear h
  obtain ⟨o3, fs_o3, hr_o3, he_o3, h⟩ := h0
  obtain rfl : o = o3 := Option.some.inj hr_o3
  refine ar_VI (kc' := 0) (ks' := 0) (kc := 0) (ks := 0) (a := o) (ci := 12) (as := [vi 10]) (st := []) (tX12_drawnBy h) mt_X12_drawnBy rfl qM_RX12_343 qI_X12_drawnBy qV_X12_drawnBy he_o3 rfl (Nat.le_of_ble_eq_true rfl) dX12_pass_3 ?_
  clear h
  intro x2 F1 h
  refine aw_pc (pc' := 6) rfl ?_
  refine aw_istore_n dX12_pass_6 rfl (by decide) (aw_pc (pc' := 7) rfl ?_)
  refine aw_iload_n dX12_pass_7 rfl rfl (aw_pc (pc' := 8) rfl ?_)
  refine aw_iconst dX12_pass_8 (aw_pc (pc' := 9) rfl ?_)
  refine ac_rem wl_2 (by decide) dX12_pass_9 (aw_pc (pc' := 10) rfl ?_)
  generalize hv_v4 : ((w32 x2).tmod 2) = v4
  replace h := h v4 hv_v4.symm
  refine aw_istore_n dX12_pass_10 rfl (by decide) (aw_pc (pc' := 11) rfl ?_)
  refine aw_iload_n dX12_pass_11 rfl rfl (aw_pc (pc' := 12) rfl ?_)
  refine aw_iconst dX12_pass_12 (aw_pc (pc' := 13) rfl ?_)
  refine ac_ge rfl wl_2 dX12_pass_13 rfl (fun c => ?_) (fun c => ?_)
  · replace h := h.1 c
    refine aw_aload_n dX12_pass_16 rfl rfl (aw_pc (pc' := 17) rfl ?_)
    refine ar_gR fl_RX12_7 dX12_pass_17 h ?_
    clear h
    intro x5 h
    refine aw_pc (pc' := 20) rfl ?_
    refine aw_bipush dX12_pass_20 (by decide) (aw_pc (pc' := 22) rfl ?_)
    refine aw_iload_n dX12_pass_22 rfl rfl (aw_pc (pc' := 23) rfl ?_)
    refine aw_iadd dX12_pass_23 (aw_pc (pc' := 24) rfl ?_)
    refine aw_aload_n dX12_pass_24 rfl rfl (aw_pc (pc' := 25) rfl ?_)
    refine ar_gR fl_RX12_7 dX12_pass_25 h ?_
    clear h
    intro x6 h
    refine aw_pc (pc' := 28) rfl ?_
    refine aw_bipush dX12_pass_28 (by decide) (aw_pc (pc' := 30) rfl ?_)
    refine aw_iload_n dX12_pass_30 rfl rfl (aw_pc (pc' := 31) rfl ?_)
    refine aw_iadd dX12_pass_31 (aw_pc (pc' := 32) rfl ?_)
    refine ar_aI dX12_pass_32 h ?_
    clear h
    intro x7 h
    refine aw_pc (pc' := 33) rfl ?_
    refine aw_iconst dX12_pass_33 (aw_pc (pc' := 34) rfl ?_)
    refine aw_iadd dX12_pass_34 (aw_pc (pc' := 35) rfl ?_)
    refine aw_i2l dX12_pass_35 (aw_pc (pc' := 36) rfl ?_)
    refine aw_iconst dX12_pass_36 (aw_pc (pc' := 37) rfl ?_)
    refine aw_bipush dX12_pass_37 (by decide) (aw_pc (pc' := 39) rfl ?_)
    refine ar_SI (kc' := 0) (ks' := 0) (kc := 0) (ks := 0) (as := [vl (w32 (x7 + 1)), vi 0, vi 9]) (st := [vi (9 + v4), vr x5]) (tX12_cut h) mt_X12_cut qM_RX12_305 qS_X12_cut rfl (Nat.le_of_ble_eq_true rfl) dX12_pass_39 ?_
    clear h
    intro x9 F8 h
    refine aw_pc (pc' := 42) rfl ?_
    refine ar_sI dX12_pass_42 h ?_
    clear h
    intro F10 h
    refine aw_pc (pc' := 43) rfl ?_
    exact aw_mask [true, true, true, false] (tX12_pass_J43 h)
  · replace h := h.2 c
    exact aw_mask [true, true, true, false] (tX12_pass_J43 h)
def mX12_keep_L115 (Q : hp → Prop) : Nat → Nat → Int → Int → hp → Prop
  | 0, _, _, _, _ => False
  | k + 1, o, a1, a2, F => (w32 a2 < 30 → gR F (some o) 12 0 (fun x1 => gR F (some o) 12 0 (fun x2 => aI F x2 0 (1924 + a2) (fun x3 => sI F x1 0 (((a1 + 1) + 29) + a2) x3 (fun F4 => mX12_keep_L115 Q k o a1 (a2 + 1) F4))))) ∧ (¬ w32 a2 < 30 → gR F (some o) 12 0 (fun x5 => aI F x5 0 3 (fun x6 => sI F x5 0 3 (x6 + 1) (fun F7 => Q F7))))
set_option maxHeartbeats 4000000 in
theorem tX12_keep_L115 {d : Nat} {Q : hp → Prop} : ∀ (k : Nat) (o : Nat) (a1 : Int) (a2 : Int) (F : hp), mX12_keep_L115 Q k o a1 a2 F → aw nX12_keep d 0 0 115 [some (vr (some o)), some (vi a1), some (vi a2)] [] F (qV Q) := by
  intro k
  induction k with
  | zero => intro o a1 a2 F h; exact h.elim
  | succ k ih =>
    intro o a1 a2 F h
    simp only [mX12_keep_L115] at h
    refine aw_iload_n dX12_keep_115 rfl rfl (aw_pc (pc' := 116) rfl ?_)
    refine aw_bipush dX12_keep_116 (by decide) (aw_pc (pc' := 118) rfl ?_)
    refine ac_ge rfl wl_30 dX12_keep_118 rfl (fun c => ?_) (fun c => ?_)
    · replace h := h.1 c
      refine aw_aload_n dX12_keep_121 rfl rfl (aw_pc (pc' := 122) rfl ?_)
      refine ar_gR fl_RX12_7 dX12_keep_122 h ?_
      clear h
      intro x1 h
      refine aw_pc (pc' := 125) rfl ?_
      refine aw_iload_n dX12_keep_125 rfl rfl (aw_pc (pc' := 126) rfl ?_)
      refine aw_iconst dX12_keep_126 (aw_pc (pc' := 127) rfl ?_)
      refine aw_iadd dX12_keep_127 (aw_pc (pc' := 128) rfl ?_)
      refine aw_bipush dX12_keep_128 (by decide) (aw_pc (pc' := 130) rfl ?_)
      refine aw_iadd dX12_keep_130 (aw_pc (pc' := 131) rfl ?_)
      refine aw_iload_n dX12_keep_131 rfl rfl (aw_pc (pc' := 132) rfl ?_)
      refine aw_iadd dX12_keep_132 (aw_pc (pc' := 133) rfl ?_)
      refine aw_aload_n dX12_keep_133 rfl rfl (aw_pc (pc' := 134) rfl ?_)
      refine ar_gR fl_RX12_7 dX12_keep_134 h ?_
      clear h
      intro x2 h
      refine aw_pc (pc' := 137) rfl ?_
      refine aw_sipush dX12_keep_137 (by decide) (aw_pc (pc' := 140) rfl ?_)
      refine aw_iload_n dX12_keep_140 rfl rfl (aw_pc (pc' := 141) rfl ?_)
      refine aw_iadd dX12_keep_141 (aw_pc (pc' := 142) rfl ?_)
      refine ar_aI dX12_keep_142 h ?_
      clear h
      intro x3 h
      refine aw_pc (pc' := 143) rfl ?_
      refine ar_sI dX12_keep_143 h ?_
      clear h
      intro F4 h
      refine aw_pc (pc' := 144) rfl ?_
      refine aw_iinc dX12_keep_144 rfl (by decide) (aw_pc (pc' := 147) rfl ?_)
      refine aw_goto (tgt := 115) dX12_keep_147 rfl ?_
      exact aw_mask [true, true, true] (ih _ _ _ _ h)
    · replace h := h.2 c
      refine aw_aload_n dX12_keep_150 rfl rfl (aw_pc (pc' := 151) rfl ?_)
      refine ar_gR fl_RX12_7 dX12_keep_151 h ?_
      clear h
      intro x5 h
      refine aw_pc (pc' := 154) rfl ?_
      refine aw_iconst dX12_keep_154 (aw_pc (pc' := 155) rfl ?_)
      refine aw_dup2 dX12_keep_155 trivial trivial (aw_pc (pc' := 156) rfl ?_)
      refine ar_aI dX12_keep_156 h ?_
      clear h
      intro x6 h
      refine aw_pc (pc' := 157) rfl ?_
      refine aw_iconst dX12_keep_157 (aw_pc (pc' := 158) rfl ?_)
      refine aw_iadd dX12_keep_158 (aw_pc (pc' := 159) rfl ?_)
      refine ar_sI dX12_keep_159 h ?_
      clear h
      intro F7 h
      refine aw_pc (pc' := 160) rfl ?_
      exact aw_vret rfl dX12_keep_160 ⟨rfl, h⟩
def mX12_keep_L82 (Q : hp → Prop) : Nat → Nat → Int → Int → hp → Prop
  | 0, _, _, _, _ => False
  | k + 1, o, a1, a2, F => (w32 a2 < 29 → gR F (some o) 12 0 (fun x1 => gR F (some o) 12 0 (fun x2 => aI F x2 0 (7 + a2) (fun x3 => sI F x1 0 ((a1 + 1) + a2) x3 (fun F4 => mX12_keep_L82 Q k o a1 (a2 + 1) F4))))) ∧ (¬ w32 a2 < 29 → (∃ k5, mX12_keep_L115 Q k5 o a1 0 F))
set_option maxHeartbeats 4000000 in
theorem tX12_keep_L82 {d : Nat} {Q : hp → Prop} : ∀ (k : Nat) (o : Nat) (a1 : Int) (a2 : Int) (F : hp), mX12_keep_L82 Q k o a1 a2 F → aw nX12_keep d 0 0 82 [some (vr (some o)), some (vi a1), some (vi a2)] [] F (qV Q) := by
  intro k
  induction k with
  | zero => intro o a1 a2 F h; exact h.elim
  | succ k ih =>
    intro o a1 a2 F h
    simp only [mX12_keep_L82] at h
    refine aw_iload_n dX12_keep_82 rfl rfl (aw_pc (pc' := 83) rfl ?_)
    refine aw_bipush dX12_keep_83 (by decide) (aw_pc (pc' := 85) rfl ?_)
    refine ac_ge rfl wl_29 dX12_keep_85 rfl (fun c => ?_) (fun c => ?_)
    · replace h := h.1 c
      refine aw_aload_n dX12_keep_88 rfl rfl (aw_pc (pc' := 89) rfl ?_)
      refine ar_gR fl_RX12_7 dX12_keep_89 h ?_
      clear h
      intro x1 h
      refine aw_pc (pc' := 92) rfl ?_
      refine aw_iload_n dX12_keep_92 rfl rfl (aw_pc (pc' := 93) rfl ?_)
      refine aw_iconst dX12_keep_93 (aw_pc (pc' := 94) rfl ?_)
      refine aw_iadd dX12_keep_94 (aw_pc (pc' := 95) rfl ?_)
      refine aw_iload_n dX12_keep_95 rfl rfl (aw_pc (pc' := 96) rfl ?_)
      refine aw_iadd dX12_keep_96 (aw_pc (pc' := 97) rfl ?_)
      refine aw_aload_n dX12_keep_97 rfl rfl (aw_pc (pc' := 98) rfl ?_)
      refine ar_gR fl_RX12_7 dX12_keep_98 h ?_
      clear h
      intro x2 h
      refine aw_pc (pc' := 101) rfl ?_
      refine aw_bipush dX12_keep_101 (by decide) (aw_pc (pc' := 103) rfl ?_)
      refine aw_iload_n dX12_keep_103 rfl rfl (aw_pc (pc' := 104) rfl ?_)
      refine aw_iadd dX12_keep_104 (aw_pc (pc' := 105) rfl ?_)
      refine ar_aI dX12_keep_105 h ?_
      clear h
      intro x3 h
      refine aw_pc (pc' := 106) rfl ?_
      refine ar_sI dX12_keep_106 h ?_
      clear h
      intro F4 h
      refine aw_pc (pc' := 107) rfl ?_
      refine aw_iinc dX12_keep_107 rfl (by decide) (aw_pc (pc' := 110) rfl ?_)
      refine aw_goto (tgt := 82) dX12_keep_110 rfl ?_
      exact aw_mask [true, true, true] (ih _ _ _ _ h)
    · replace h := h.2 c
      refine aw_iconst dX12_keep_113 (aw_pc (pc' := 114) rfl ?_)
      refine aw_istore_n dX12_keep_114 rfl (by decide) (aw_pc (pc' := 115) rfl ?_)
      obtain ⟨k5, h⟩ := h
      exact aw_mask [true, true, true] (tX12_keep_L115 k5 _ _ _ _ h)
def mX12_keep_J55 (Q : hp → Prop) (o : Nat) (F : hp) : Prop := gR F (some o) 12 0 (fun x1 => aI F x1 0 3 (fun x2 => ∀ v3 : Int, v3 = (124 + (60 * x2)) → gR F (some o) 12 0 (fun x4 => gR F (some o) 12 0 (fun x5 => aI F x5 0 0 (fun x6 => sI F x4 0 v3 x6 (fun F7 => (∃ k8, mX12_keep_L82 Q k8 o v3 0 F7)))))))
set_option maxHeartbeats 4000000 in
theorem tX12_keep_J55 {d : Nat} {Q : hp → Prop} {o : Nat} {F : hp} (h : mX12_keep_J55 Q o F) : aw nX12_keep d 0 0 55 [some (vr (some o)), none, none] [] F (qV Q) := by
  unfold mX12_keep_J55 at h
  refine aw_bipush dX12_keep_55 (by decide) (aw_pc (pc' := 57) rfl ?_)
  refine aw_bipush dX12_keep_57 (by decide) (aw_pc (pc' := 59) rfl ?_)
  refine aw_aload_n dX12_keep_59 rfl rfl (aw_pc (pc' := 60) rfl ?_)
  refine ar_gR fl_RX12_7 dX12_keep_60 h ?_
  clear h
  intro x1 h
  refine aw_pc (pc' := 63) rfl ?_
  refine aw_iconst dX12_keep_63 (aw_pc (pc' := 64) rfl ?_)
  refine ar_aI dX12_keep_64 h ?_
  clear h
  intro x2 h
  refine aw_pc (pc' := 65) rfl ?_
  refine aw_imul dX12_keep_65 (aw_pc (pc' := 66) rfl ?_)
  refine aw_iadd dX12_keep_66 (aw_pc (pc' := 67) rfl ?_)
  generalize hv_v3 : (124 + (60 * x2)) = v3
  replace h := h v3 hv_v3.symm
  refine aw_istore_n dX12_keep_67 rfl (by decide) (aw_pc (pc' := 68) rfl ?_)
  refine aw_aload_n dX12_keep_68 rfl rfl (aw_pc (pc' := 69) rfl ?_)
  refine ar_gR fl_RX12_7 dX12_keep_69 h ?_
  clear h
  intro x4 h
  refine aw_pc (pc' := 72) rfl ?_
  refine aw_iload_n dX12_keep_72 rfl rfl (aw_pc (pc' := 73) rfl ?_)
  refine aw_aload_n dX12_keep_73 rfl rfl (aw_pc (pc' := 74) rfl ?_)
  refine ar_gR fl_RX12_7 dX12_keep_74 h ?_
  clear h
  intro x5 h
  refine aw_pc (pc' := 77) rfl ?_
  refine aw_iconst dX12_keep_77 (aw_pc (pc' := 78) rfl ?_)
  refine ar_aI dX12_keep_78 h ?_
  clear h
  intro x6 h
  refine aw_pc (pc' := 79) rfl ?_
  refine ar_sI dX12_keep_79 h ?_
  clear h
  intro F7 h
  refine aw_pc (pc' := 80) rfl ?_
  refine aw_iconst dX12_keep_80 (aw_pc (pc' := 81) rfl ?_)
  refine aw_istore_n dX12_keep_81 rfl (by decide) (aw_pc (pc' := 82) rfl ?_)
  obtain ⟨k8, h⟩ := h
  exact aw_mask [true, true, true] (tX12_keep_L82 k8 _ _ _ _ h)
def mX12_keep_L13 (Q : hp → Prop) : Nat → Nat → Int → hp → Prop
  | 0, _, _, _ => False
  | k + 1, o, a1, F => (w32 a1 < 1740 → gR F (some o) 12 0 (fun x1 => gR F (some o) 12 0 (fun x2 => aI F x2 0 (184 + a1) (fun x3 => sI F x1 0 (124 + a1) x3 (fun F4 => mX12_keep_L13 Q k o (a1 + 1) F4))))) ∧ (¬ w32 a1 < 1740 → gR F (some o) 12 0 (fun x5 => aI F x5 0 3 (fun x6 => sI F x5 0 3 (x6 - 1) (fun F7 => mX12_keep_J55 Q o F7))))
set_option maxHeartbeats 4000000 in
theorem tX12_keep_L13 {d : Nat} {Q : hp → Prop} : ∀ (k : Nat) (o : Nat) (a1 : Int) (F : hp), mX12_keep_L13 Q k o a1 F → aw nX12_keep d 0 0 13 [some (vr (some o)), some (vi a1), none] [] F (qV Q) := by
  intro k
  induction k with
  | zero => intro o a1 F h; exact h.elim
  | succ k ih =>
    intro o a1 F h
    simp only [mX12_keep_L13] at h
    refine aw_iload_n dX12_keep_13 rfl rfl (aw_pc (pc' := 14) rfl ?_)
    refine aw_sipush dX12_keep_14 (by decide) (aw_pc (pc' := 17) rfl ?_)
    refine ac_ge rfl wl_1740 dX12_keep_17 rfl (fun c => ?_) (fun c => ?_)
    · replace h := h.1 c
      refine aw_aload_n dX12_keep_20 rfl rfl (aw_pc (pc' := 21) rfl ?_)
      refine ar_gR fl_RX12_7 dX12_keep_21 h ?_
      clear h
      intro x1 h
      refine aw_pc (pc' := 24) rfl ?_
      refine aw_bipush dX12_keep_24 (by decide) (aw_pc (pc' := 26) rfl ?_)
      refine aw_iload_n dX12_keep_26 rfl rfl (aw_pc (pc' := 27) rfl ?_)
      refine aw_iadd dX12_keep_27 (aw_pc (pc' := 28) rfl ?_)
      refine aw_aload_n dX12_keep_28 rfl rfl (aw_pc (pc' := 29) rfl ?_)
      refine ar_gR fl_RX12_7 dX12_keep_29 h ?_
      clear h
      intro x2 h
      refine aw_pc (pc' := 32) rfl ?_
      refine aw_sipush dX12_keep_32 (by decide) (aw_pc (pc' := 35) rfl ?_)
      refine aw_iload_n dX12_keep_35 rfl rfl (aw_pc (pc' := 36) rfl ?_)
      refine aw_iadd dX12_keep_36 (aw_pc (pc' := 37) rfl ?_)
      refine ar_aI dX12_keep_37 h ?_
      clear h
      intro x3 h
      refine aw_pc (pc' := 38) rfl ?_
      refine ar_sI dX12_keep_38 h ?_
      clear h
      intro F4 h
      refine aw_pc (pc' := 39) rfl ?_
      refine aw_iinc dX12_keep_39 rfl (by decide) (aw_pc (pc' := 42) rfl ?_)
      refine aw_goto (tgt := 13) dX12_keep_42 rfl ?_
      exact aw_mask [true, true, false] (ih _ _ _ h)
    · replace h := h.2 c
      refine aw_aload_n dX12_keep_45 rfl rfl (aw_pc (pc' := 46) rfl ?_)
      refine ar_gR fl_RX12_7 dX12_keep_46 h ?_
      clear h
      intro x5 h
      refine aw_pc (pc' := 49) rfl ?_
      refine aw_iconst dX12_keep_49 (aw_pc (pc' := 50) rfl ?_)
      refine aw_dup2 dX12_keep_50 trivial trivial (aw_pc (pc' := 51) rfl ?_)
      refine ar_aI dX12_keep_51 h ?_
      clear h
      intro x6 h
      refine aw_pc (pc' := 52) rfl ?_
      refine aw_iconst dX12_keep_52 (aw_pc (pc' := 53) rfl ?_)
      refine aw_isub dX12_keep_53 (aw_pc (pc' := 54) rfl ?_)
      refine ar_sI dX12_keep_54 h ?_
      clear h
      intro F7 h
      refine aw_pc (pc' := 55) rfl ?_
      exact aw_mask [true, false, false] (tX12_keep_J55 h)
def mX12_keep (o : Nat) (F : hp) (Q : hp → Prop) : Prop := gR F (some o) 12 0 (fun x1 => aI F x1 0 3 (fun x2 => (w32 x2 = 30 → (∃ k3, mX12_keep_L13 Q k3 o 0 F)) ∧ (¬ w32 x2 = 30 → mX12_keep_J55 Q o F)))
set_option maxHeartbeats 4000000 in
theorem tX12_keep {d : Nat} {o : Nat} {F : hp} {Q : hp → Prop} (h : mX12_keep o F Q) : am nX12_keep d 0 0 [vr (some o)] F (qV Q) := by
  refine am_of (by decide +kernel) (Nat.le_of_ble_eq_true rfl) ?_
  show aw nX12_keep d 0 0 0 [some (vr (some o)), none, none] [] F (qV Q)
  unfold mX12_keep at h
  refine aw_aload_n dX12_keep_0 rfl rfl (aw_pc (pc' := 1) rfl ?_)
  refine ar_gR fl_RX12_7 dX12_keep_1 h ?_
  clear h
  intro x1 h
  refine aw_pc (pc' := 4) rfl ?_
  refine aw_iconst dX12_keep_4 (aw_pc (pc' := 5) rfl ?_)
  refine ar_aI dX12_keep_5 h ?_
  clear h
  intro x2 h
  refine aw_pc (pc' := 6) rfl ?_
  refine aw_bipush dX12_keep_6 (by decide) (aw_pc (pc' := 8) rfl ?_)
  refine ac_ne rfl wl_30 dX12_keep_8 rfl (fun c => ?_) (fun c => ?_)
  · replace h := h.1 c
    refine aw_iconst dX12_keep_11 (aw_pc (pc' := 12) rfl ?_)
    refine aw_istore_n dX12_keep_12 rfl (by decide) (aw_pc (pc' := 13) rfl ?_)
    obtain ⟨k3, h⟩ := h
    exact aw_mask [true, true, false] (tX12_keep_L13 k3 _ _ _ h)
  · replace h := h.2 c
    exact aw_mask [true, false, false] (tX12_keep_J55 h)
def mX12_undo_L98 (Q : Int → hp → Prop) : Nat → Nat → Int → Int → hp → Prop
  | 0, _, _, _, _ => False
  | k + 1, o, a1, a2, F => (w32 a2 < 30 → gR F (some o) 12 0 (fun x1 => gR F (some o) 12 0 (fun x2 => aI F x2 0 (((a1 + 1) + 29) + a2) (fun x3 => sI F x1 0 (1924 + a2) x3 (fun F4 => mX12_undo_L98 Q k o a1 (a2 + 1) F4))))) ∧ (¬ w32 a2 < 30 → gR F (some o) 12 0 (fun x5 => aI F x5 0 3 (fun x6 => Q x6 F)))
set_option maxHeartbeats 4000000 in
theorem tX12_undo_L98 {d : Nat} {Q : Int → hp → Prop} : ∀ (k : Nat) (o : Nat) (a1 : Int) (a2 : Int) (F : hp), mX12_undo_L98 Q k o a1 a2 F → aw nX12_undo (d + 1) 0 0 98 [some (vr (some o)), some (vi a1), some (vi a2)] [] F (qI Q) := by
  intro k
  induction k with
  | zero => intro o a1 a2 F h; exact h.elim
  | succ k ih =>
    intro o a1 a2 F h
    simp only [mX12_undo_L98] at h
    refine aw_iload_n dX12_undo_98 rfl rfl (aw_pc (pc' := 99) rfl ?_)
    refine aw_bipush dX12_undo_99 (by decide) (aw_pc (pc' := 101) rfl ?_)
    refine ac_ge rfl wl_30 dX12_undo_101 rfl (fun c => ?_) (fun c => ?_)
    · replace h := h.1 c
      refine aw_aload_n dX12_undo_104 rfl rfl (aw_pc (pc' := 105) rfl ?_)
      refine ar_gR fl_RX12_7 dX12_undo_105 h ?_
      clear h
      intro x1 h
      refine aw_pc (pc' := 108) rfl ?_
      refine aw_sipush dX12_undo_108 (by decide) (aw_pc (pc' := 111) rfl ?_)
      refine aw_iload_n dX12_undo_111 rfl rfl (aw_pc (pc' := 112) rfl ?_)
      refine aw_iadd dX12_undo_112 (aw_pc (pc' := 113) rfl ?_)
      refine aw_aload_n dX12_undo_113 rfl rfl (aw_pc (pc' := 114) rfl ?_)
      refine ar_gR fl_RX12_7 dX12_undo_114 h ?_
      clear h
      intro x2 h
      refine aw_pc (pc' := 117) rfl ?_
      refine aw_iload_n dX12_undo_117 rfl rfl (aw_pc (pc' := 118) rfl ?_)
      refine aw_iconst dX12_undo_118 (aw_pc (pc' := 119) rfl ?_)
      refine aw_iadd dX12_undo_119 (aw_pc (pc' := 120) rfl ?_)
      refine aw_bipush dX12_undo_120 (by decide) (aw_pc (pc' := 122) rfl ?_)
      refine aw_iadd dX12_undo_122 (aw_pc (pc' := 123) rfl ?_)
      refine aw_iload_n dX12_undo_123 rfl rfl (aw_pc (pc' := 124) rfl ?_)
      refine aw_iadd dX12_undo_124 (aw_pc (pc' := 125) rfl ?_)
      refine ar_aI dX12_undo_125 h ?_
      clear h
      intro x3 h
      refine aw_pc (pc' := 126) rfl ?_
      refine ar_sI dX12_undo_126 h ?_
      clear h
      intro F4 h
      refine aw_pc (pc' := 127) rfl ?_
      refine aw_iinc dX12_undo_127 rfl (by decide) (aw_pc (pc' := 130) rfl ?_)
      refine aw_goto (tgt := 98) dX12_undo_130 rfl ?_
      exact aw_mask [true, true, true] (ih _ _ _ _ h)
    · replace h := h.2 c
      refine aw_aload_n dX12_undo_133 rfl rfl (aw_pc (pc' := 134) rfl ?_)
      refine ar_gR fl_RX12_7 dX12_undo_134 h ?_
      clear h
      intro x5 h
      refine aw_pc (pc' := 137) rfl ?_
      refine aw_iconst dX12_undo_137 (aw_pc (pc' := 138) rfl ?_)
      refine ar_aI dX12_undo_138 h ?_
      clear h
      intro x6 h
      refine aw_pc (pc' := 139) rfl ?_
      exact aw_iret rfl dX12_undo_139 ⟨_, rfl, h⟩
def mX12_undo_L74 (Q : Int → hp → Prop) : Nat → Nat → Int → Int → hp → Prop
  | 0, _, _, _, _ => False
  | k + 1, o, a1, a2, F => gR F (some o) 12 0 (fun x1 => aI F x1 0 0 (fun x2 => (w32 a2 < w32 x2 → rcv F (some o) 12 (fun o4 => mX12_come o4 0 a2 F (fun F3 => mX12_undo_L74 Q k o a1 (a2 + 1) F3))) ∧ (¬ w32 a2 < w32 x2 → (∃ k5, mX12_undo_L98 Q k5 o a1 0 F))))
set_option maxHeartbeats 4000000 in
theorem tX12_undo_L74 {d : Nat} {Q : Int → hp → Prop} : ∀ (k : Nat) (o : Nat) (a1 : Int) (a2 : Int) (F : hp), mX12_undo_L74 Q k o a1 a2 F → aw nX12_undo (d + 1) 0 0 74 [some (vr (some o)), some (vi a1), some (vi a2)] [] F (qI Q) := by
  intro k
  induction k with
  | zero => intro o a1 a2 F h; exact h.elim
  | succ k ih =>
    intro o a1 a2 F h
    simp only [mX12_undo_L74] at h
    refine aw_iload_n dX12_undo_74 rfl rfl (aw_pc (pc' := 75) rfl ?_)
    refine aw_aload_n dX12_undo_75 rfl rfl (aw_pc (pc' := 76) rfl ?_)
    refine ar_gR fl_RX12_7 dX12_undo_76 h ?_
    clear h
    intro x1 h
    refine aw_pc (pc' := 79) rfl ?_
    refine aw_iconst dX12_undo_79 (aw_pc (pc' := 80) rfl ?_)
    refine ar_aI dX12_undo_80 h ?_
    clear h
    intro x2 h
    refine aw_pc (pc' := 81) rfl ?_
    refine ac_ge rfl rfl dX12_undo_81 rfl (fun c => ?_) (fun c => ?_)
    · replace h := h.1 c
      refine aw_aload_n dX12_undo_84 rfl rfl (aw_pc (pc' := 85) rfl ?_)
      refine aw_iconst dX12_undo_85 (aw_pc (pc' := 86) rfl ?_)
      refine aw_iload_n dX12_undo_86 rfl rfl (aw_pc (pc' := 87) rfl ?_)
      have h0 := rcv_inv h
      clear h
      obtain ⟨o4, fs_o4, hr_o4, he_o4, h⟩ := h0
      obtain rfl : o = o4 := Option.some.inj hr_o4
      refine ar_VV (kc' := 0) (ks' := 0) (kc := 0) (ks := 0) (a := o) (ci := 12) (as := [vi 0, vi a2]) (st := []) (tX12_come h) mt_X12_come rfl qM_RX12_94 qI_X12_come qV_X12_come he_o4 rfl (Nat.le_of_ble_eq_true rfl) dX12_undo_87 ?_
      clear h
      intro F3 h
      refine aw_pc (pc' := 90) rfl ?_
      refine aw_iinc dX12_undo_90 rfl (by decide) (aw_pc (pc' := 93) rfl ?_)
      refine aw_goto (tgt := 74) dX12_undo_93 rfl ?_
      exact aw_mask [true, true, true] (ih _ _ _ _ h)
    · replace h := h.2 c
      refine aw_iconst dX12_undo_96 (aw_pc (pc' := 97) rfl ?_)
      refine aw_istore_n dX12_undo_97 rfl (by decide) (aw_pc (pc' := 98) rfl ?_)
      obtain ⟨k5, h⟩ := h
      exact aw_mask [true, true, true] (tX12_undo_L98 k5 _ _ _ _ h)
def mX12_undo_L36 (Q : Int → hp → Prop) : Nat → Nat → Int → Int → hp → Prop
  | 0, _, _, _, _ => False
  | k + 1, o, a1, a2, F => (w32 a2 < 29 → gR F (some o) 12 0 (fun x1 => gR F (some o) 12 0 (fun x2 => aI F x2 0 ((a1 + 1) + a2) (fun x3 => sI F x1 0 (7 + a2) x3 (fun F4 => mX12_undo_L36 Q k o a1 (a2 + 1) F4))))) ∧ (¬ w32 a2 < 29 → gR F (some o) 12 0 (fun x5 => aI F x5 0 a1 (fun x6 => (∃ k7, mX12_undo_L74 Q k7 o a1 x6 F))))
set_option maxHeartbeats 4000000 in
theorem tX12_undo_L36 {d : Nat} {Q : Int → hp → Prop} : ∀ (k : Nat) (o : Nat) (a1 : Int) (a2 : Int) (F : hp), mX12_undo_L36 Q k o a1 a2 F → aw nX12_undo (d + 1) 0 0 36 [some (vr (some o)), some (vi a1), some (vi a2)] [] F (qI Q) := by
  intro k
  induction k with
  | zero => intro o a1 a2 F h; exact h.elim
  | succ k ih =>
    intro o a1 a2 F h
    simp only [mX12_undo_L36] at h
    refine aw_iload_n dX12_undo_36 rfl rfl (aw_pc (pc' := 37) rfl ?_)
    refine aw_bipush dX12_undo_37 (by decide) (aw_pc (pc' := 39) rfl ?_)
    refine ac_ge rfl wl_29 dX12_undo_39 rfl (fun c => ?_) (fun c => ?_)
    · replace h := h.1 c
      refine aw_aload_n dX12_undo_42 rfl rfl (aw_pc (pc' := 43) rfl ?_)
      refine ar_gR fl_RX12_7 dX12_undo_43 h ?_
      clear h
      intro x1 h
      refine aw_pc (pc' := 46) rfl ?_
      refine aw_bipush dX12_undo_46 (by decide) (aw_pc (pc' := 48) rfl ?_)
      refine aw_iload_n dX12_undo_48 rfl rfl (aw_pc (pc' := 49) rfl ?_)
      refine aw_iadd dX12_undo_49 (aw_pc (pc' := 50) rfl ?_)
      refine aw_aload_n dX12_undo_50 rfl rfl (aw_pc (pc' := 51) rfl ?_)
      refine ar_gR fl_RX12_7 dX12_undo_51 h ?_
      clear h
      intro x2 h
      refine aw_pc (pc' := 54) rfl ?_
      refine aw_iload_n dX12_undo_54 rfl rfl (aw_pc (pc' := 55) rfl ?_)
      refine aw_iconst dX12_undo_55 (aw_pc (pc' := 56) rfl ?_)
      refine aw_iadd dX12_undo_56 (aw_pc (pc' := 57) rfl ?_)
      refine aw_iload_n dX12_undo_57 rfl rfl (aw_pc (pc' := 58) rfl ?_)
      refine aw_iadd dX12_undo_58 (aw_pc (pc' := 59) rfl ?_)
      refine ar_aI dX12_undo_59 h ?_
      clear h
      intro x3 h
      refine aw_pc (pc' := 60) rfl ?_
      refine ar_sI dX12_undo_60 h ?_
      clear h
      intro F4 h
      refine aw_pc (pc' := 61) rfl ?_
      refine aw_iinc dX12_undo_61 rfl (by decide) (aw_pc (pc' := 64) rfl ?_)
      refine aw_goto (tgt := 36) dX12_undo_64 rfl ?_
      exact aw_mask [true, true, true] (ih _ _ _ _ h)
    · replace h := h.2 c
      refine aw_aload_n dX12_undo_67 rfl rfl (aw_pc (pc' := 68) rfl ?_)
      refine ar_gR fl_RX12_7 dX12_undo_68 h ?_
      clear h
      intro x5 h
      refine aw_pc (pc' := 71) rfl ?_
      refine aw_iload_n dX12_undo_71 rfl rfl (aw_pc (pc' := 72) rfl ?_)
      refine ar_aI dX12_undo_72 h ?_
      clear h
      intro x6 h
      refine aw_pc (pc' := 73) rfl ?_
      refine aw_istore_n dX12_undo_73 rfl (by decide) (aw_pc (pc' := 74) rfl ?_)
      obtain ⟨k7, h⟩ := h
      exact aw_mask [true, true, true] (tX12_undo_L74 k7 _ _ _ _ h)
def mX12_undo (o : Nat) (F : hp) (Q : Int → hp → Prop) : Prop := gR F (some o) 12 0 (fun x1 => aI F x1 0 3 (fun x2 => (w32 x2 = 0 → Q (-1) F) ∧ (¬ w32 x2 = 0 → gR F (some o) 12 0 (fun x3 => aI F x3 0 3 (fun x4 => sI F x3 0 3 (x4 - 1) (fun F5 => gR F5 (some o) 12 0 (fun x6 => aI F5 x6 0 3 (fun x7 => ∀ v8 : Int, v8 = (124 + (60 * x7)) → (∃ k9, mX12_undo_L36 Q k9 o v8 0 F5)))))))))
set_option maxHeartbeats 4000000 in
theorem tX12_undo {d : Nat} {o : Nat} {F : hp} {Q : Int → hp → Prop} (h : mX12_undo o F Q) : am nX12_undo (d + 1) 0 0 [vr (some o)] F (qI Q) := by
  refine am_of (by decide +kernel) (Nat.le_of_ble_eq_true rfl) ?_
  show aw nX12_undo (d + 1) 0 0 0 [some (vr (some o)), none, none] [] F (qI Q)
  unfold mX12_undo at h
  refine aw_aload_n dX12_undo_0 rfl rfl (aw_pc (pc' := 1) rfl ?_)
  refine ar_gR fl_RX12_7 dX12_undo_1 h ?_
  clear h
  intro x1 h
  refine aw_pc (pc' := 4) rfl ?_
  refine aw_iconst dX12_undo_4 (aw_pc (pc' := 5) rfl ?_)
  refine ar_aI dX12_undo_5 h ?_
  clear h
  intro x2 h
  refine aw_pc (pc' := 6) rfl ?_
  refine aw_if_ne dX12_undo_6 rfl (fun c => ?_) (fun c => ?_)
  · replace h := h.1 c
    refine aw_iconst dX12_undo_9 (aw_pc (pc' := 10) rfl ?_)
    exact aw_iret rfl dX12_undo_10 ⟨_, rfl, h⟩
  · replace h := h.2 c
    refine aw_aload_n dX12_undo_11 rfl rfl (aw_pc (pc' := 12) rfl ?_)
    refine ar_gR fl_RX12_7 dX12_undo_12 h ?_
    clear h
    intro x3 h
    refine aw_pc (pc' := 15) rfl ?_
    refine aw_iconst dX12_undo_15 (aw_pc (pc' := 16) rfl ?_)
    refine aw_dup2 dX12_undo_16 trivial trivial (aw_pc (pc' := 17) rfl ?_)
    refine ar_aI dX12_undo_17 h ?_
    clear h
    intro x4 h
    refine aw_pc (pc' := 18) rfl ?_
    refine aw_iconst dX12_undo_18 (aw_pc (pc' := 19) rfl ?_)
    refine aw_isub dX12_undo_19 (aw_pc (pc' := 20) rfl ?_)
    refine ar_sI dX12_undo_20 h ?_
    clear h
    intro F5 h
    refine aw_pc (pc' := 21) rfl ?_
    refine aw_bipush dX12_undo_21 (by decide) (aw_pc (pc' := 23) rfl ?_)
    refine aw_bipush dX12_undo_23 (by decide) (aw_pc (pc' := 25) rfl ?_)
    refine aw_aload_n dX12_undo_25 rfl rfl (aw_pc (pc' := 26) rfl ?_)
    refine ar_gR fl_RX12_7 dX12_undo_26 h ?_
    clear h
    intro x6 h
    refine aw_pc (pc' := 29) rfl ?_
    refine aw_iconst dX12_undo_29 (aw_pc (pc' := 30) rfl ?_)
    refine ar_aI dX12_undo_30 h ?_
    clear h
    intro x7 h
    refine aw_pc (pc' := 31) rfl ?_
    refine aw_imul dX12_undo_31 (aw_pc (pc' := 32) rfl ?_)
    refine aw_iadd dX12_undo_32 (aw_pc (pc' := 33) rfl ?_)
    generalize hv_v8 : (124 + (60 * x7)) = v8
    replace h := h v8 hv_v8.symm
    refine aw_istore_n dX12_undo_33 rfl (by decide) (aw_pc (pc' := 34) rfl ?_)
    refine aw_iconst dX12_undo_34 (aw_pc (pc' := 35) rfl ?_)
    refine aw_istore_n dX12_undo_35 rfl (by decide) (aw_pc (pc' := 36) rfl ?_)
    obtain ⟨k9, h⟩ := h
    exact aw_mask [true, true, true] (tX12_undo_L36 k9 _ _ _ _ h)
def mX12_move (o : Nat) (a1 : Int) (a2 : Int) (F : hp) (Q : Int → hp → Prop) : Prop := rcv F (some o) 12 (fun o3 => mX12_canMove o3 a1 a2 F (fun x2 F1 => (w32 x2 = 0 → Q (-1) F1) ∧ (¬ w32 x2 = 0 → rcv F1 (some o) 12 (fun o5 => mX12_keep o5 F1 (fun F4 => rcv F4 (some o) 12 (fun o8 => mX12_moveNow o8 a1 a2 F4 (fun x7 F6 => Q x7 F6)))))))
set_option maxHeartbeats 4000000 in
theorem tX12_move {d : Nat} {o : Nat} {a1 : Int} {a2 : Int} {F : hp} {Q : Int → hp → Prop} (h : mX12_move o a1 a2 F Q) : am nX12_move (d + 8) 0 0 [vr (some o), vi a1, vi a2] F (qI Q) := by
  refine am_of (by decide +kernel) (Nat.le_of_ble_eq_true rfl) ?_
  show aw nX12_move (d + 8) 0 0 0 [some (vr (some o)), some (vi a1), some (vi a2)] [] F (qI Q)
  unfold mX12_move at h
  refine aw_aload_n dX12_move_0 rfl rfl (aw_pc (pc' := 1) rfl ?_)
  refine aw_iload_n dX12_move_1 rfl rfl (aw_pc (pc' := 2) rfl ?_)
  refine aw_iload_n dX12_move_2 rfl rfl (aw_pc (pc' := 3) rfl ?_)
  have h0 := rcv_inv h
  clear h
  obtain ⟨o3, fs_o3, hr_o3, he_o3, h⟩ := h0
  obtain rfl : o = o3 := Option.some.inj hr_o3
  refine ar_VI (kc' := 0) (ks' := 0) (kc := 0) (ks := 0) (a := o) (ci := 12) (as := [vi a1, vi a2]) (st := []) (tX12_canMove h) mt_X12_canMove rfl qM_RX12_349 qI_X12_canMove qV_X12_canMove he_o3 rfl (Nat.le_of_ble_eq_true rfl) dX12_move_3 ?_
  clear h
  intro x2 F1 h
  refine aw_pc (pc' := 6) rfl ?_
  refine aw_if_ne dX12_move_6 rfl (fun c => ?_) (fun c => ?_)
  · replace h := h.1 c
    refine aw_iconst dX12_move_9 (aw_pc (pc' := 10) rfl ?_)
    exact aw_iret rfl dX12_move_10 ⟨_, rfl, h⟩
  · replace h := h.2 c
    refine aw_aload_n dX12_move_11 rfl rfl (aw_pc (pc' := 12) rfl ?_)
    have h0 := rcv_inv h
    clear h
    obtain ⟨o5, fs_o5, hr_o5, he_o5, h⟩ := h0
    obtain rfl : o = o5 := Option.some.inj hr_o5
    refine ar_VV (kc' := 0) (ks' := 0) (kc := 0) (ks := 0) (a := o) (ci := 12) (as := []) (st := []) (tX12_keep h) mt_X12_keep rfl qM_RX12_352 qI_X12_keep qV_X12_keep he_o5 rfl (Nat.le_of_ble_eq_true rfl) dX12_move_12 ?_
    clear h
    intro F4 h
    refine aw_pc (pc' := 15) rfl ?_
    refine aw_aload_n dX12_move_15 rfl rfl (aw_pc (pc' := 16) rfl ?_)
    refine aw_iload_n dX12_move_16 rfl rfl (aw_pc (pc' := 17) rfl ?_)
    refine aw_iload_n dX12_move_17 rfl rfl (aw_pc (pc' := 18) rfl ?_)
    have h0 := rcv_inv h
    clear h
    obtain ⟨o8, fs_o8, hr_o8, he_o8, h⟩ := h0
    obtain rfl : o = o8 := Option.some.inj hr_o8
    refine ar_VI (kc' := 0) (ks' := 0) (kc := 0) (ks := 0) (a := o) (ci := 12) (as := [vi a1, vi a2]) (st := []) (tX12_moveNow h) mt_X12_moveNow rfl qM_RX12_355 qI_X12_moveNow qV_X12_moveNow he_o8 rfl (Nat.le_of_ble_eq_true rfl) dX12_move_18 ?_
    clear h
    intro x7 F6 h
    refine aw_pc (pc' := 21) rfl ?_
    exact aw_iret rfl dX12_move_21 ⟨_, rfl, h⟩
def mX12_change (o : Nat) (F : hp) (Q : Int → hp → Prop) : Prop := rcv F (some o) 12 (fun o3 => mX12_canChange o3 F (fun x2 F1 => (w32 x2 = 0 → Q (-1) F1) ∧ (¬ w32 x2 = 0 → rcv F1 (some o) 12 (fun o5 => mX12_keep o5 F1 (fun F4 => rcv F4 (some o) 12 (fun o8 => mX12_changeNow o8 F4 (fun x7 F6 => Q x7 F6)))))))
set_option maxHeartbeats 4000000 in
theorem tX12_change {d : Nat} {o : Nat} {F : hp} {Q : Int → hp → Prop} (h : mX12_change o F Q) : am nX12_change (d + 8) 0 0 [vr (some o)] F (qI Q) := by
  refine am_of (by decide +kernel) (Nat.le_of_ble_eq_true rfl) ?_
  show aw nX12_change (d + 8) 0 0 0 [some (vr (some o))] [] F (qI Q)
  unfold mX12_change at h
  refine aw_aload_n dX12_change_0 rfl rfl (aw_pc (pc' := 1) rfl ?_)
  have h0 := rcv_inv h
  clear h
  obtain ⟨o3, fs_o3, hr_o3, he_o3, h⟩ := h0
  obtain rfl : o = o3 := Option.some.inj hr_o3
  refine ar_VI (kc' := 0) (ks' := 0) (kc := 0) (ks := 0) (a := o) (ci := 12) (as := []) (st := []) (tX12_canChange h) mt_X12_canChange rfl qM_RX12_358 qI_X12_canChange qV_X12_canChange he_o3 rfl (Nat.le_of_ble_eq_true rfl) dX12_change_1 ?_
  clear h
  intro x2 F1 h
  refine aw_pc (pc' := 4) rfl ?_
  refine aw_if_ne dX12_change_4 rfl (fun c => ?_) (fun c => ?_)
  · replace h := h.1 c
    refine aw_iconst dX12_change_7 (aw_pc (pc' := 8) rfl ?_)
    exact aw_iret rfl dX12_change_8 ⟨_, rfl, h⟩
  · replace h := h.2 c
    refine aw_aload_n dX12_change_9 rfl rfl (aw_pc (pc' := 10) rfl ?_)
    have h0 := rcv_inv h
    clear h
    obtain ⟨o5, fs_o5, hr_o5, he_o5, h⟩ := h0
    obtain rfl : o = o5 := Option.some.inj hr_o5
    refine ar_VV (kc' := 0) (ks' := 0) (kc := 0) (ks := 0) (a := o) (ci := 12) (as := []) (st := []) (tX12_keep h) mt_X12_keep rfl qM_RX12_352 qI_X12_keep qV_X12_keep he_o5 rfl (Nat.le_of_ble_eq_true rfl) dX12_change_10 ?_
    clear h
    intro F4 h
    refine aw_pc (pc' := 13) rfl ?_
    refine aw_aload_n dX12_change_13 rfl rfl (aw_pc (pc' := 14) rfl ?_)
    have h0 := rcv_inv h
    clear h
    obtain ⟨o8, fs_o8, hr_o8, he_o8, h⟩ := h0
    obtain rfl : o = o8 := Option.some.inj hr_o8
    refine ar_VI (kc' := 0) (ks' := 0) (kc := 0) (ks := 0) (a := o) (ci := 12) (as := []) (st := []) (tX12_changeNow h) mt_X12_changeNow rfl qM_RX12_361 qI_X12_changeNow qV_X12_changeNow he_o8 rfl (Nat.le_of_ble_eq_true rfl) dX12_change_14 ?_
    clear h
    intro x7 F6 h
    refine aw_pc (pc' := 17) rfl ?_
    exact aw_iret rfl dX12_change_17 ⟨_, rfl, h⟩
def mX12_lend (o : Nat) (a1 : Int) (a2 : Int) (F : hp) (Q : Int → hp → Prop) : Prop := rcv F (some o) 12 (fun o3 => mX12_canLend o3 a1 a2 F (fun x2 F1 => (w32 x2 = 0 → Q 0 F1) ∧ (¬ w32 x2 = 0 → rcv F1 (some o) 12 (fun o5 => mX12_keep o5 F1 (fun F4 => gR F4 (some o) 12 0 (fun x6 => aI F4 x6 0 (9 + a1) (fun x7 => sI F4 x6 0 (9 + a1) (x7 + a2) (fun F8 => Q 1 F8))))))))
set_option maxHeartbeats 4000000 in
theorem tX12_lend {d : Nat} {o : Nat} {a1 : Int} {a2 : Int} {F : hp} {Q : Int → hp → Prop} (h : mX12_lend o a1 a2 F Q) : am nX12_lend (d + 2) 0 0 [vr (some o), vi a1, vi a2] F (qI Q) := by
  refine am_of (by decide +kernel) (Nat.le_of_ble_eq_true rfl) ?_
  show aw nX12_lend (d + 2) 0 0 0 [some (vr (some o)), some (vi a1), some (vi a2)] [] F (qI Q)
  unfold mX12_lend at h
  refine aw_aload_n dX12_lend_0 rfl rfl (aw_pc (pc' := 1) rfl ?_)
  refine aw_iload_n dX12_lend_1 rfl rfl (aw_pc (pc' := 2) rfl ?_)
  refine aw_iload_n dX12_lend_2 rfl rfl (aw_pc (pc' := 3) rfl ?_)
  have h0 := rcv_inv h
  clear h
  obtain ⟨o3, fs_o3, hr_o3, he_o3, h⟩ := h0
  obtain rfl : o = o3 := Option.some.inj hr_o3
  refine ar_VI (kc' := 0) (ks' := 0) (kc := 0) (ks := 0) (a := o) (ci := 12) (as := [vi a1, vi a2]) (st := []) (tX12_canLend h) mt_X12_canLend rfl qM_RX12_364 qI_X12_canLend qV_X12_canLend he_o3 rfl (Nat.le_of_ble_eq_true rfl) dX12_lend_3 ?_
  clear h
  intro x2 F1 h
  refine aw_pc (pc' := 6) rfl ?_
  refine aw_if_ne dX12_lend_6 rfl (fun c => ?_) (fun c => ?_)
  · replace h := h.1 c
    refine aw_iconst dX12_lend_9 (aw_pc (pc' := 10) rfl ?_)
    exact aw_zret rfl (by decide) dX12_lend_10 ⟨_, rfl, h⟩
  · replace h := h.2 c
    refine aw_aload_n dX12_lend_11 rfl rfl (aw_pc (pc' := 12) rfl ?_)
    have h0 := rcv_inv h
    clear h
    obtain ⟨o5, fs_o5, hr_o5, he_o5, h⟩ := h0
    obtain rfl : o = o5 := Option.some.inj hr_o5
    refine ar_VV (kc' := 0) (ks' := 0) (kc := 0) (ks := 0) (a := o) (ci := 12) (as := []) (st := []) (tX12_keep h) mt_X12_keep rfl qM_RX12_352 qI_X12_keep qV_X12_keep he_o5 rfl (Nat.le_of_ble_eq_true rfl) dX12_lend_12 ?_
    clear h
    intro F4 h
    refine aw_pc (pc' := 15) rfl ?_
    refine aw_aload_n dX12_lend_15 rfl rfl (aw_pc (pc' := 16) rfl ?_)
    refine ar_gR fl_RX12_7 dX12_lend_16 h ?_
    clear h
    intro x6 h
    refine aw_pc (pc' := 19) rfl ?_
    refine aw_bipush dX12_lend_19 (by decide) (aw_pc (pc' := 21) rfl ?_)
    refine aw_iload_n dX12_lend_21 rfl rfl (aw_pc (pc' := 22) rfl ?_)
    refine aw_iadd dX12_lend_22 (aw_pc (pc' := 23) rfl ?_)
    refine aw_dup2 dX12_lend_23 trivial trivial (aw_pc (pc' := 24) rfl ?_)
    refine ar_aI dX12_lend_24 h ?_
    clear h
    intro x7 h
    refine aw_pc (pc' := 25) rfl ?_
    refine aw_iload_n dX12_lend_25 rfl rfl (aw_pc (pc' := 26) rfl ?_)
    refine aw_iadd dX12_lend_26 (aw_pc (pc' := 27) rfl ?_)
    refine ar_sI dX12_lend_27 h ?_
    clear h
    intro F8 h
    refine aw_pc (pc' := 28) rfl ?_
    refine aw_iconst dX12_lend_28 (aw_pc (pc' := 29) rfl ?_)
    exact aw_zret rfl (by decide) dX12_lend_29 ⟨_, rfl, h⟩
def mX12_arePassed_L7 (Q : Int → hp → Prop) : Nat → Nat → Int → Int → hp → Prop
  | 0, _, _, _, _ => False
  | k + 1, o, a1, a2, F => (w32 a2 < w32 a1 → gR F (some o) 12 0 (fun x1 => aI F x1 0 7 (fun x2 => (w32 x2 = 9999 → Q 0 F) ∧ (¬ w32 x2 = 9999 → rcv F (some o) 12 (fun o4 => mX12_keep o4 F (fun F3 => rcv F3 (some o) 12 (fun o6 => mX12_pass o6 F3 (fun F5 => mX12_arePassed_L7 Q k o a1 (a2 + 1) F5)))))))) ∧ (¬ w32 a2 < w32 a1 → Q 1 F)
set_option maxHeartbeats 4000000 in
theorem tX12_arePassed_L7 {d : Nat} {Q : Int → hp → Prop} : ∀ (k : Nat) (o : Nat) (a1 : Int) (a2 : Int) (F : hp), mX12_arePassed_L7 Q k o a1 a2 F → aw nX12_arePassed (d + 3) 0 0 7 [some (vr (some o)), some (vi a1), some (vi a2)] [] F (qI Q) := by
  intro k
  induction k with
  | zero => intro o a1 a2 F h; exact h.elim
  | succ k ih =>
    intro o a1 a2 F h
    simp only [mX12_arePassed_L7] at h
    refine aw_iload_n dX12_arePassed_7 rfl rfl (aw_pc (pc' := 8) rfl ?_)
    refine aw_iload_n dX12_arePassed_8 rfl rfl (aw_pc (pc' := 9) rfl ?_)
    refine ac_ge rfl rfl dX12_arePassed_9 rfl (fun c => ?_) (fun c => ?_)
    · replace h := h.1 c
      refine aw_aload_n dX12_arePassed_12 rfl rfl (aw_pc (pc' := 13) rfl ?_)
      refine ar_gR fl_RX12_7 dX12_arePassed_13 h ?_
      clear h
      intro x1 h
      refine aw_pc (pc' := 16) rfl ?_
      refine aw_bipush dX12_arePassed_16 (by decide) (aw_pc (pc' := 18) rfl ?_)
      refine ar_aI dX12_arePassed_18 h ?_
      clear h
      intro x2 h
      refine aw_pc (pc' := 19) rfl ?_
      refine aw_sipush dX12_arePassed_19 (by decide) (aw_pc (pc' := 22) rfl ?_)
      refine ac_ne rfl wl_9999 dX12_arePassed_22 rfl (fun c => ?_) (fun c => ?_)
      · replace h := h.1 c
        refine aw_iconst dX12_arePassed_25 (aw_pc (pc' := 26) rfl ?_)
        exact aw_zret rfl (by decide) dX12_arePassed_26 ⟨_, rfl, h⟩
      · replace h := h.2 c
        refine aw_aload_n dX12_arePassed_27 rfl rfl (aw_pc (pc' := 28) rfl ?_)
        have h0 := rcv_inv h
        clear h
        obtain ⟨o4, fs_o4, hr_o4, he_o4, h⟩ := h0
        obtain rfl : o = o4 := Option.some.inj hr_o4
        refine ar_VV (kc' := 0) (ks' := 0) (kc := 0) (ks := 0) (a := o) (ci := 12) (as := []) (st := []) (tX12_keep h) mt_X12_keep rfl qM_RX12_352 qI_X12_keep qV_X12_keep he_o4 rfl (Nat.le_of_ble_eq_true rfl) dX12_arePassed_28 ?_
        clear h
        intro F3 h
        refine aw_pc (pc' := 31) rfl ?_
        refine aw_aload_n dX12_arePassed_31 rfl rfl (aw_pc (pc' := 32) rfl ?_)
        have h0 := rcv_inv h
        clear h
        obtain ⟨o6, fs_o6, hr_o6, he_o6, h⟩ := h0
        obtain rfl : o = o6 := Option.some.inj hr_o6
        refine ar_VV (kc' := 0) (ks' := 0) (kc := 0) (ks := 0) (a := o) (ci := 12) (as := []) (st := []) (tX12_pass h) mt_X12_pass rfl qM_RX12_367 qI_X12_pass qV_X12_pass he_o6 rfl (Nat.le_of_ble_eq_true rfl) dX12_arePassed_32 ?_
        clear h
        intro F5 h
        refine aw_pc (pc' := 35) rfl ?_
        refine aw_iinc dX12_arePassed_35 rfl (by decide) (aw_pc (pc' := 38) rfl ?_)
        refine aw_goto (tgt := 7) dX12_arePassed_38 rfl ?_
        exact aw_mask [true, true, true] (ih _ _ _ _ h)
    · replace h := h.2 c
      refine aw_iconst dX12_arePassed_41 (aw_pc (pc' := 42) rfl ?_)
      exact aw_zret rfl (by decide) dX12_arePassed_42 ⟨_, rfl, h⟩
def mX12_arePassed (o : Nat) (a1 : Int) (F : hp) (Q : Int → hp → Prop) : Prop := pF F (some o) 12 24 (vi 0) (fun F1 => (∃ k2, mX12_arePassed_L7 Q k2 o a1 0 F1))
set_option maxHeartbeats 4000000 in
theorem tX12_arePassed {d : Nat} {o : Nat} {a1 : Int} {F : hp} {Q : Int → hp → Prop} (h : mX12_arePassed o a1 F Q) : am nX12_arePassed (d + 3) 0 0 [vr (some o), vi a1] F (qI Q) := by
  refine am_of (by decide +kernel) (Nat.le_of_ble_eq_true rfl) ?_
  show aw nX12_arePassed (d + 3) 0 0 0 [some (vr (some o)), some (vi a1), none] [] F (qI Q)
  unfold mX12_arePassed at h
  refine aw_aload_n dX12_arePassed_0 rfl rfl (aw_pc (pc' := 1) rfl ?_)
  refine aw_iconst dX12_arePassed_1 (aw_pc (pc' := 2) rfl ?_)
  refine ar_pF fl_RX12_346 ft_X12_24 (okI _) dX12_arePassed_2 h ?_
  clear h
  intro F1 h
  refine aw_pc (pc' := 5) rfl ?_
  refine aw_iconst dX12_arePassed_5 (aw_pc (pc' := 6) rfl ?_)
  refine aw_istore_n dX12_arePassed_6 rfl (by decide) (aw_pc (pc' := 7) rfl ?_)
  obtain ⟨k2, h⟩ := h
  exact aw_mask [true, true, true] (tX12_arePassed_L7 k2 _ _ _ _ h)
def mX12_hour (o : Nat) (a1 : Int) (F : hp) (Q : Int → hp → Prop) : Prop := mX12_isIn a1 1 60 F (fun x2 F1 => (w32 x2 = 0 → Q (-1) F1) ∧ (¬ w32 x2 = 0 → gR F1 (some o) 12 0 (fun x3 => aI F1 x3 0 7 (fun x4 => (9999 < w32 (x4 + a1) → Q (-1) F1) ∧ (¬ 9999 < w32 (x4 + a1) → rcv F1 (some o) 12 (fun o7 => mX12_arePassed o7 a1 F1 (fun x6 F5 => (w32 x6 = 0 → Q (-1) F5) ∧ (¬ w32 x6 = 0 → gI F5 (some o) 12 24 (fun x8 => Q x8 F5)))))))))
set_option maxHeartbeats 4000000 in
theorem tX12_hour {d : Nat} {o : Nat} {a1 : Int} {F : hp} {Q : Int → hp → Prop} (h : mX12_hour o a1 F Q) : am nX12_hour (d + 4) 0 0 [vr (some o), vi a1] F (qI Q) := by
  refine am_of (by decide +kernel) (Nat.le_of_ble_eq_true rfl) ?_
  show aw nX12_hour (d + 4) 0 0 0 [some (vr (some o)), some (vi a1)] [] F (qI Q)
  unfold mX12_hour at h
  refine aw_iload_n dX12_hour_0 rfl rfl (aw_pc (pc' := 1) rfl ?_)
  refine aw_iconst dX12_hour_1 (aw_pc (pc' := 2) rfl ?_)
  refine aw_bipush dX12_hour_2 (by decide) (aw_pc (pc' := 4) rfl ?_)
  refine ar_SI (kc' := 0) (ks' := 0) (kc := 0) (ks := 0) (as := [vi a1, vi 1, vi 60]) (st := []) (tX12_isIn h) mt_X12_isIn qM_RX12_78 qS_X12_isIn rfl (Nat.le_of_ble_eq_true rfl) dX12_hour_4 ?_
  clear h
  intro x2 F1 h
  refine aw_pc (pc' := 7) rfl ?_
  refine aw_if_eq dX12_hour_7 rfl (fun c => ?_) (fun c => ?_)
  · replace h := h.1 c
    refine aw_iconst dX12_hour_40 (aw_pc (pc' := 41) rfl ?_)
    exact aw_iret rfl dX12_hour_41 ⟨_, rfl, h⟩
  · replace h := h.2 c
    refine aw_aload_n dX12_hour_10 rfl rfl (aw_pc (pc' := 11) rfl ?_)
    refine ar_gR fl_RX12_7 dX12_hour_11 h ?_
    clear h
    intro x3 h
    refine aw_pc (pc' := 14) rfl ?_
    refine aw_bipush dX12_hour_14 (by decide) (aw_pc (pc' := 16) rfl ?_)
    refine ar_aI dX12_hour_16 h ?_
    clear h
    intro x4 h
    refine aw_pc (pc' := 17) rfl ?_
    refine aw_iload_n dX12_hour_17 rfl rfl (aw_pc (pc' := 18) rfl ?_)
    refine aw_iadd dX12_hour_18 (aw_pc (pc' := 19) rfl ?_)
    refine aw_sipush dX12_hour_19 (by decide) (aw_pc (pc' := 22) rfl ?_)
    refine ac_gt rfl wl_9999 dX12_hour_22 rfl (fun c => ?_) (fun c => ?_)
    · replace h := h.1 c
      refine aw_iconst dX12_hour_40 (aw_pc (pc' := 41) rfl ?_)
      exact aw_iret rfl dX12_hour_41 ⟨_, rfl, h⟩
    · replace h := h.2 c
      refine aw_aload_n dX12_hour_25 rfl rfl (aw_pc (pc' := 26) rfl ?_)
      refine aw_iload_n dX12_hour_26 rfl rfl (aw_pc (pc' := 27) rfl ?_)
      have h0 := rcv_inv h
      clear h
      obtain ⟨o7, fs_o7, hr_o7, he_o7, h⟩ := h0
      obtain rfl : o = o7 := Option.some.inj hr_o7
      refine ar_VI (kc' := 0) (ks' := 0) (kc := 0) (ks := 0) (a := o) (ci := 12) (as := [vi a1]) (st := []) (tX12_arePassed h) mt_X12_arePassed rfl qM_RX12_370 qI_X12_arePassed qV_X12_arePassed he_o7 rfl (Nat.le_of_ble_eq_true rfl) dX12_hour_27 ?_
      clear h
      intro x6 F5 h
      refine aw_pc (pc' := 30) rfl ?_
      refine aw_if_eq dX12_hour_30 rfl (fun c => ?_) (fun c => ?_)
      · replace h := h.1 c
        refine aw_iconst dX12_hour_40 (aw_pc (pc' := 41) rfl ?_)
        exact aw_iret rfl dX12_hour_41 ⟨_, rfl, h⟩
      · replace h := h.2 c
        refine aw_aload_n dX12_hour_33 rfl rfl (aw_pc (pc' := 34) rfl ?_)
        refine ar_gI fl_RX12_346 dX12_hour_34 h ?_
        clear h
        intro x8 h
        refine aw_pc (pc' := 37) rfl ?_
        refine aw_goto (tgt := 41) dX12_hour_37 rfl ?_
        exact aw_iret rfl dX12_hour_41 ⟨_, rfl, h⟩
def mX12_isPlayed (o : Nat) (a1 : Int) (F : hp) (Q : Int → hp → Prop) : Prop := gR F (some o) 12 2 (fun x1 => aI F x1 0 (a1 + 1) (fun x2 => gR F (some o) 12 2 (fun x3 => aI F x3 0 (a1 + 2) (fun x4 => gR F (some o) 12 2 (fun x5 => aI F x5 0 a1 (fun x6 => (w32 x6 = 2 → rcv F (some o) 12 (fun o9 => mX12_car o9 x2 x4 F (fun x8 F7 => (w32 x8 < 0 → Q 0 F7) ∧ (¬ w32 x8 < 0 → Q 1 F7)))) ∧ (w32 x6 = 3 → rcv F (some o) 12 (fun o12 => mX12_forbid o12 x2 x4 1 F (fun x11 F10 => (((x11 : Int) = 0 ∨ (x11 : Int) = 1) ∧ Q x11 F10)))) ∧ (w32 x6 = 4 → rcv F (some o) 12 (fun o15 => mX12_move o15 x2 x4 F (fun x14 F13 => (w32 x14 < 0 → Q 0 F13) ∧ (¬ w32 x14 < 0 → Q 1 F13)))) ∧ (w32 x6 = 5 → rcv F (some o) 12 (fun o18 => mX12_change o18 F (fun x17 F16 => (w32 x17 < 0 → Q 0 F16) ∧ (¬ w32 x17 < 0 → Q 1 F16)))) ∧ (w32 x6 = 6 → rcv F (some o) 12 (fun o21 => mX12_lend o21 x4 x2 F (fun x20 F19 => (((x20 : Int) = 0 ∨ (x20 : Int) = 1) ∧ Q x20 F19)))) ∧ (w32 x6 = 7 → rcv F (some o) 12 (fun o24 => mX12_arePassed o24 x2 F (fun x23 F22 => (((x23 : Int) = 0 ∨ (x23 : Int) = 1) ∧ Q x23 F22)))) ∧ (w32 x6 < 2 ∨ 7 < w32 x6 → Q 1 F)))))))
set_option maxHeartbeats 4000000 in
theorem tX12_isPlayed {d : Nat} {o : Nat} {a1 : Int} {F : hp} {Q : Int → hp → Prop} (h : mX12_isPlayed o a1 F Q) : am nX12_isPlayed (d + 9) 0 0 [vr (some o), vi a1] F (qI Q) := by
  refine am_of (by decide +kernel) (Nat.le_of_ble_eq_true rfl) ?_
  show aw nX12_isPlayed (d + 9) 0 0 0 [some (vr (some o)), some (vi a1), none, none] [] F (qI Q)
  unfold mX12_isPlayed at h
  refine aw_aload_n dX12_isPlayed_0 rfl rfl (aw_pc (pc' := 1) rfl ?_)
  refine ar_gR fl_RX12_16 dX12_isPlayed_1 h ?_
  clear h
  intro x1 h
  refine aw_pc (pc' := 4) rfl ?_
  refine aw_iload_n dX12_isPlayed_4 rfl rfl (aw_pc (pc' := 5) rfl ?_)
  refine aw_iconst dX12_isPlayed_5 (aw_pc (pc' := 6) rfl ?_)
  refine aw_iadd dX12_isPlayed_6 (aw_pc (pc' := 7) rfl ?_)
  refine ar_aI dX12_isPlayed_7 h ?_
  clear h
  intro x2 h
  refine aw_pc (pc' := 8) rfl ?_
  refine aw_istore_n dX12_isPlayed_8 rfl (by decide) (aw_pc (pc' := 9) rfl ?_)
  refine aw_aload_n dX12_isPlayed_9 rfl rfl (aw_pc (pc' := 10) rfl ?_)
  refine ar_gR fl_RX12_16 dX12_isPlayed_10 h ?_
  clear h
  intro x3 h
  refine aw_pc (pc' := 13) rfl ?_
  refine aw_iload_n dX12_isPlayed_13 rfl rfl (aw_pc (pc' := 14) rfl ?_)
  refine aw_iconst dX12_isPlayed_14 (aw_pc (pc' := 15) rfl ?_)
  refine aw_iadd dX12_isPlayed_15 (aw_pc (pc' := 16) rfl ?_)
  refine ar_aI dX12_isPlayed_16 h ?_
  clear h
  intro x4 h
  refine aw_pc (pc' := 17) rfl ?_
  refine aw_istore_n dX12_isPlayed_17 rfl (by decide) (aw_pc (pc' := 18) rfl ?_)
  refine aw_aload_n dX12_isPlayed_18 rfl rfl (aw_pc (pc' := 19) rfl ?_)
  refine ar_gR fl_RX12_16 dX12_isPlayed_19 h ?_
  clear h
  intro x5 h
  refine aw_pc (pc' := 22) rfl ?_
  refine aw_iload_n dX12_isPlayed_22 rfl rfl (aw_pc (pc' := 23) rfl ?_)
  refine ar_aI dX12_isPlayed_23 h ?_
  clear h
  intro x6 h
  refine aw_pc (pc' := 24) rfl ?_
  refine aw_table dX12_isPlayed_24 (td := 128) rfl (fun j => [64, 79, 87, 102, 115, 122].getD j 0) rfl (by decide) (fun j hj hx => ?_) (fun hx => ?_)
  · have hj : j = 0 ∨ j = 1 ∨ j = 2 ∨ j = 3 ∨ j = 4 ∨ j = 5 := by (simp at hj; omega)
    rcases hj with rfl | rfl | rfl | rfl | rfl | rfl
    · replace h := h.1 (by omega)
      refine aw_pc (pc' := 64) rfl ?_
      refine aw_aload_n dX12_isPlayed_64 rfl rfl (aw_pc (pc' := 65) rfl ?_)
      refine aw_iload_n dX12_isPlayed_65 rfl rfl (aw_pc (pc' := 66) rfl ?_)
      refine aw_iload_n dX12_isPlayed_66 rfl rfl (aw_pc (pc' := 67) rfl ?_)
      have h0 := rcv_inv h
      clear h
      obtain ⟨o9, fs_o9, hr_o9, he_o9, h⟩ := h0
      obtain rfl : o = o9 := Option.some.inj hr_o9
      refine ar_VI (kc' := 0) (ks' := 0) (kc := 0) (ks := 0) (a := o) (ci := 12) (as := [vi x2, vi x4]) (st := []) (tX12_car h) mt_X12_car rfl qM_RX12_373 qI_X12_car qV_X12_car he_o9 rfl (Nat.le_of_ble_eq_true rfl) dX12_isPlayed_67 ?_
      clear h
      intro x8 F7 h
      refine aw_pc (pc' := 70) rfl ?_
      refine aw_if_lt dX12_isPlayed_70 rfl (fun c => ?_) (fun c => ?_)
      · replace h := h.1 c
        refine aw_iconst dX12_isPlayed_77 (aw_pc (pc' := 78) rfl ?_)
        exact aw_zret rfl (by decide) dX12_isPlayed_78 ⟨_, rfl, h⟩
      · replace h := h.2 c
        refine aw_iconst dX12_isPlayed_73 (aw_pc (pc' := 74) rfl ?_)
        refine aw_goto (tgt := 78) dX12_isPlayed_74 rfl ?_
        exact aw_zret rfl (by decide) dX12_isPlayed_78 ⟨_, rfl, h⟩
    · replace h := h.2.1 (by omega)
      refine aw_pc (pc' := 79) rfl ?_
      refine aw_aload_n dX12_isPlayed_79 rfl rfl (aw_pc (pc' := 80) rfl ?_)
      refine aw_iload_n dX12_isPlayed_80 rfl rfl (aw_pc (pc' := 81) rfl ?_)
      refine aw_iload_n dX12_isPlayed_81 rfl rfl (aw_pc (pc' := 82) rfl ?_)
      refine aw_iconst dX12_isPlayed_82 (aw_pc (pc' := 83) rfl ?_)
      have h0 := rcv_inv h
      clear h
      obtain ⟨o12, fs_o12, hr_o12, he_o12, h⟩ := h0
      obtain rfl : o = o12 := Option.some.inj hr_o12
      refine ar_VI (kc' := 0) (ks' := 0) (kc := 0) (ks := 0) (a := o) (ci := 12) (as := [vi x2, vi x4, vi 1]) (st := []) (tX12_forbid h) mt_X12_forbid rfl qM_RX12_376 qI_X12_forbid qV_X12_forbid he_o12 rfl (Nat.le_of_ble_eq_true rfl) dX12_isPlayed_83 ?_
      clear h
      intro x11 F10 h
      refine aw_pc (pc' := 86) rfl ?_
      exact aw_zret rfl (nz h.1) dX12_isPlayed_86 ⟨_, rfl, h.2⟩
    · replace h := h.2.2.1 (by omega)
      refine aw_pc (pc' := 87) rfl ?_
      refine aw_aload_n dX12_isPlayed_87 rfl rfl (aw_pc (pc' := 88) rfl ?_)
      refine aw_iload_n dX12_isPlayed_88 rfl rfl (aw_pc (pc' := 89) rfl ?_)
      refine aw_iload_n dX12_isPlayed_89 rfl rfl (aw_pc (pc' := 90) rfl ?_)
      have h0 := rcv_inv h
      clear h
      obtain ⟨o15, fs_o15, hr_o15, he_o15, h⟩ := h0
      obtain rfl : o = o15 := Option.some.inj hr_o15
      refine ar_VI (kc' := 0) (ks' := 0) (kc := 0) (ks := 0) (a := o) (ci := 12) (as := [vi x2, vi x4]) (st := []) (tX12_move h) mt_X12_move rfl qM_RX12_380 qI_X12_move qV_X12_move he_o15 rfl (Nat.le_of_ble_eq_true rfl) dX12_isPlayed_90 ?_
      clear h
      intro x14 F13 h
      refine aw_pc (pc' := 93) rfl ?_
      refine aw_if_lt dX12_isPlayed_93 rfl (fun c => ?_) (fun c => ?_)
      · replace h := h.1 c
        refine aw_iconst dX12_isPlayed_100 (aw_pc (pc' := 101) rfl ?_)
        exact aw_zret rfl (by decide) dX12_isPlayed_101 ⟨_, rfl, h⟩
      · replace h := h.2 c
        refine aw_iconst dX12_isPlayed_96 (aw_pc (pc' := 97) rfl ?_)
        refine aw_goto (tgt := 101) dX12_isPlayed_97 rfl ?_
        exact aw_zret rfl (by decide) dX12_isPlayed_101 ⟨_, rfl, h⟩
    · replace h := h.2.2.2.1 (by omega)
      refine aw_pc (pc' := 102) rfl ?_
      refine aw_aload_n dX12_isPlayed_102 rfl rfl (aw_pc (pc' := 103) rfl ?_)
      have h0 := rcv_inv h
      clear h
      obtain ⟨o18, fs_o18, hr_o18, he_o18, h⟩ := h0
      obtain rfl : o = o18 := Option.some.inj hr_o18
      refine ar_VI (kc' := 0) (ks' := 0) (kc := 0) (ks := 0) (a := o) (ci := 12) (as := []) (st := []) (tX12_change h) mt_X12_change rfl qM_RX12_383 qI_X12_change qV_X12_change he_o18 rfl (Nat.le_of_ble_eq_true rfl) dX12_isPlayed_103 ?_
      clear h
      intro x17 F16 h
      refine aw_pc (pc' := 106) rfl ?_
      refine aw_if_lt dX12_isPlayed_106 rfl (fun c => ?_) (fun c => ?_)
      · replace h := h.1 c
        refine aw_iconst dX12_isPlayed_113 (aw_pc (pc' := 114) rfl ?_)
        exact aw_zret rfl (by decide) dX12_isPlayed_114 ⟨_, rfl, h⟩
      · replace h := h.2 c
        refine aw_iconst dX12_isPlayed_109 (aw_pc (pc' := 110) rfl ?_)
        refine aw_goto (tgt := 114) dX12_isPlayed_110 rfl ?_
        exact aw_zret rfl (by decide) dX12_isPlayed_114 ⟨_, rfl, h⟩
    · replace h := h.2.2.2.2.1 (by omega)
      refine aw_pc (pc' := 115) rfl ?_
      refine aw_aload_n dX12_isPlayed_115 rfl rfl (aw_pc (pc' := 116) rfl ?_)
      refine aw_iload_n dX12_isPlayed_116 rfl rfl (aw_pc (pc' := 117) rfl ?_)
      refine aw_iload_n dX12_isPlayed_117 rfl rfl (aw_pc (pc' := 118) rfl ?_)
      have h0 := rcv_inv h
      clear h
      obtain ⟨o21, fs_o21, hr_o21, he_o21, h⟩ := h0
      obtain rfl : o = o21 := Option.some.inj hr_o21
      refine ar_VI (kc' := 0) (ks' := 0) (kc := 0) (ks := 0) (a := o) (ci := 12) (as := [vi x4, vi x2]) (st := []) (tX12_lend h) mt_X12_lend rfl qM_RX12_386 qI_X12_lend qV_X12_lend he_o21 rfl (Nat.le_of_ble_eq_true rfl) dX12_isPlayed_118 ?_
      clear h
      intro x20 F19 h
      refine aw_pc (pc' := 121) rfl ?_
      exact aw_zret rfl (nz h.1) dX12_isPlayed_121 ⟨_, rfl, h.2⟩
    · replace h := h.2.2.2.2.2.1 (by omega)
      refine aw_pc (pc' := 122) rfl ?_
      refine aw_aload_n dX12_isPlayed_122 rfl rfl (aw_pc (pc' := 123) rfl ?_)
      refine aw_iload_n dX12_isPlayed_123 rfl rfl (aw_pc (pc' := 124) rfl ?_)
      have h0 := rcv_inv h
      clear h
      obtain ⟨o24, fs_o24, hr_o24, he_o24, h⟩ := h0
      obtain rfl : o = o24 := Option.some.inj hr_o24
      refine ar_VI (kc' := 0) (ks' := 0) (kc := 0) (ks := 0) (a := o) (ci := 12) (as := [vi x2]) (st := []) (tX12_arePassed h) mt_X12_arePassed rfl qM_RX12_370 qI_X12_arePassed qV_X12_arePassed he_o24 rfl (Nat.le_of_ble_eq_true rfl) dX12_isPlayed_124 ?_
      clear h
      intro x23 F22 h
      refine aw_pc (pc' := 127) rfl ?_
      exact aw_zret rfl (nz h.1) dX12_isPlayed_127 ⟨_, rfl, h.2⟩
  · replace h := h.2.2.2.2.2.2 hx
    refine aw_iconst dX12_isPlayed_128 (aw_pc (pc' := 129) rfl ?_)
    exact aw_zret rfl (by decide) dX12_isPlayed_129 ⟨_, rfl, h⟩
def mX12_played_L21 (Q : Int → hp → Prop) : Nat → Nat → Int → Int → hp → Prop
  | 0, _, _, _, _ => False
  | k + 1, o, a1, a2, F => gR F (some o) 12 2 (fun x1 => aI F x1 0 (681 * a1) (fun x2 => (w32 a2 < w32 x2 → rcv F (some o) 12 (fun o5 => mX12_isPlayed o5 (((681 * a1) + 1) + (3 * a2)) F (fun x4 F3 => (w32 x4 = 0 → Q a2 F3) ∧ (¬ w32 x4 = 0 → mX12_played_L21 Q k o a1 (a2 + 1) F3)))) ∧ (¬ w32 a2 < w32 x2 → Q (-1) F)))
set_option maxHeartbeats 4000000 in
theorem tX12_played_L21 {d : Nat} {Q : Int → hp → Prop} : ∀ (k : Nat) (o : Nat) (a1 : Int) (a2 : Int) (F : hp), mX12_played_L21 Q k o a1 a2 F → aw nX12_played (d + 10) 0 0 21 [some (vr (some o)), some (vi a1), some (vi a2)] [] F (qI Q) := by
  intro k
  induction k with
  | zero => intro o a1 a2 F h; exact h.elim
  | succ k ih =>
    intro o a1 a2 F h
    simp only [mX12_played_L21] at h
    refine aw_iload_n dX12_played_21 rfl rfl (aw_pc (pc' := 22) rfl ?_)
    refine aw_aload_n dX12_played_22 rfl rfl (aw_pc (pc' := 23) rfl ?_)
    refine ar_gR fl_RX12_16 dX12_played_23 h ?_
    clear h
    intro x1 h
    refine aw_pc (pc' := 26) rfl ?_
    refine aw_sipush dX12_played_26 (by decide) (aw_pc (pc' := 29) rfl ?_)
    refine aw_iload_n dX12_played_29 rfl rfl (aw_pc (pc' := 30) rfl ?_)
    refine aw_imul dX12_played_30 (aw_pc (pc' := 31) rfl ?_)
    refine ar_aI dX12_played_31 h ?_
    clear h
    intro x2 h
    refine aw_pc (pc' := 32) rfl ?_
    refine ac_ge rfl rfl dX12_played_32 rfl (fun c => ?_) (fun c => ?_)
    · replace h := h.1 c
      refine aw_aload_n dX12_played_35 rfl rfl (aw_pc (pc' := 36) rfl ?_)
      refine aw_sipush dX12_played_36 (by decide) (aw_pc (pc' := 39) rfl ?_)
      refine aw_iload_n dX12_played_39 rfl rfl (aw_pc (pc' := 40) rfl ?_)
      refine aw_imul dX12_played_40 (aw_pc (pc' := 41) rfl ?_)
      refine aw_iconst dX12_played_41 (aw_pc (pc' := 42) rfl ?_)
      refine aw_iadd dX12_played_42 (aw_pc (pc' := 43) rfl ?_)
      refine aw_iconst dX12_played_43 (aw_pc (pc' := 44) rfl ?_)
      refine aw_iload_n dX12_played_44 rfl rfl (aw_pc (pc' := 45) rfl ?_)
      refine aw_imul dX12_played_45 (aw_pc (pc' := 46) rfl ?_)
      refine aw_iadd dX12_played_46 (aw_pc (pc' := 47) rfl ?_)
      have h0 := rcv_inv h
      clear h
      obtain ⟨o5, fs_o5, hr_o5, he_o5, h⟩ := h0
      obtain rfl : o = o5 := Option.some.inj hr_o5
      refine ar_VI (kc' := 0) (ks' := 0) (kc := 0) (ks := 0) (a := o) (ci := 12) (as := [vi (((681 * a1) + 1) + (3 * a2))]) (st := []) (tX12_isPlayed h) mt_X12_isPlayed rfl qM_RX12_389 qI_X12_isPlayed qV_X12_isPlayed he_o5 rfl (Nat.le_of_ble_eq_true rfl) dX12_played_47 ?_
      clear h
      intro x4 F3 h
      refine aw_pc (pc' := 50) rfl ?_
      refine aw_if_ne dX12_played_50 rfl (fun c => ?_) (fun c => ?_)
      · replace h := h.1 c
        refine aw_iload_n dX12_played_53 rfl rfl (aw_pc (pc' := 54) rfl ?_)
        exact aw_iret rfl dX12_played_54 ⟨_, rfl, h⟩
      · replace h := h.2 c
        refine aw_iinc dX12_played_55 rfl (by decide) (aw_pc (pc' := 58) rfl ?_)
        refine aw_goto (tgt := 21) dX12_played_58 rfl ?_
        exact aw_mask [true, true, true] (ih _ _ _ _ h)
    · replace h := h.2 c
      refine aw_iconst dX12_played_61 (aw_pc (pc' := 62) rfl ?_)
      exact aw_iret rfl dX12_played_62 ⟨_, rfl, h⟩
def mX12_played (o : Nat) (a1 : Int) (F : hp) (Q : Int → hp → Prop) : Prop := gR F (some o) 12 0 (fun x1 => aI F x1 0 1 (fun x2 => mX12_isIn a1 0 (x2 - 1) F (fun x4 F3 => (w32 x4 = 0 → Q (-2) F3) ∧ (¬ w32 x4 = 0 → (∃ k5, mX12_played_L21 Q k5 o a1 0 F3)))))
set_option maxHeartbeats 4000000 in
theorem tX12_played {d : Nat} {o : Nat} {a1 : Int} {F : hp} {Q : Int → hp → Prop} (h : mX12_played o a1 F Q) : am nX12_played (d + 10) 0 0 [vr (some o), vi a1] F (qI Q) := by
  refine am_of (by decide +kernel) (Nat.le_of_ble_eq_true rfl) ?_
  show aw nX12_played (d + 10) 0 0 0 [some (vr (some o)), some (vi a1), none] [] F (qI Q)
  unfold mX12_played at h
  refine aw_iload_n dX12_played_0 rfl rfl (aw_pc (pc' := 1) rfl ?_)
  refine aw_iconst dX12_played_1 (aw_pc (pc' := 2) rfl ?_)
  refine aw_aload_n dX12_played_2 rfl rfl (aw_pc (pc' := 3) rfl ?_)
  refine ar_gR fl_RX12_7 dX12_played_3 h ?_
  clear h
  intro x1 h
  refine aw_pc (pc' := 6) rfl ?_
  refine aw_iconst dX12_played_6 (aw_pc (pc' := 7) rfl ?_)
  refine ar_aI dX12_played_7 h ?_
  clear h
  intro x2 h
  refine aw_pc (pc' := 8) rfl ?_
  refine aw_iconst dX12_played_8 (aw_pc (pc' := 9) rfl ?_)
  refine aw_isub dX12_played_9 (aw_pc (pc' := 10) rfl ?_)
  refine ar_SI (kc' := 0) (ks' := 0) (kc := 0) (ks := 0) (as := [vi a1, vi 0, vi (x2 - 1)]) (st := []) (tX12_isIn h) mt_X12_isIn qM_RX12_78 qS_X12_isIn rfl (Nat.le_of_ble_eq_true rfl) dX12_played_10 ?_
  clear h
  intro x4 F3 h
  refine aw_pc (pc' := 13) rfl ?_
  refine aw_if_ne dX12_played_13 rfl (fun c => ?_) (fun c => ?_)
  · replace h := h.1 c
    refine aw_bipush dX12_played_16 (by decide) (aw_pc (pc' := 18) rfl ?_)
    exact aw_iret rfl dX12_played_18 ⟨_, rfl, h⟩
  · replace h := h.2 c
    refine aw_iconst dX12_played_19 (aw_pc (pc' := 20) rfl ?_)
    refine aw_istore_n dX12_played_20 rfl (by decide) (aw_pc (pc' := 21) rfl ?_)
    obtain ⟨k5, h⟩ := h
    exact aw_mask [true, true, true] (tX12_played_L21 k5 _ _ _ _ h)
def mX12_happens_J20 (Q : hp → Prop) (o : Nat) (a1 : Int) (a2 : Int) (s0 : Int) (s1 : Int) (F : hp) : Prop := ∀ v1 : Int, v1 = ((w32 (s0 + s1)).tmod 3) → (w32 ((w32 a1).tmod 6) = 0 → rcv F (some o) 12 (fun o4 => mX12_canMove o4 a2 v1 F (fun x3 F2 => (w32 x3 = 0 → Q F2) ∧ (¬ w32 x3 = 0 → rcv F2 (some o) 12 (fun o7 => mX12_moveNow o7 a2 v1 F2 (fun x6 F5 => (w32 x6 < 0 → Q F5) ∧ (¬ w32 x6 < 0 → Q F5))))))) ∧ (w32 ((w32 a1).tmod 6) = 1 → rcv F (some o) 12 (fun o10 => mX12_canMove o10 a2 v1 F (fun x9 F8 => (w32 x9 = 0 → Q F8) ∧ (¬ w32 x9 = 0 → rcv F8 (some o) 12 (fun o13 => mX12_moveNow o13 a2 v1 F8 (fun x12 F11 => (w32 x12 < 0 → Q F11) ∧ (¬ w32 x12 < 0 → Q F11))))))) ∧ (w32 ((w32 a1).tmod 6) = 2 → rcv F (some o) 12 (fun o16 => mX12_canChange o16 F (fun x15 F14 => (w32 x15 = 0 → Q F14) ∧ (¬ w32 x15 = 0 → rcv F14 (some o) 12 (fun o19 => mX12_changeNow o19 F14 (fun x18 F17 => (w32 x18 < 0 → Q F17) ∧ (¬ w32 x18 < 0 → Q F17))))))) ∧ (w32 ((w32 a1).tmod 6) = 3 → rcv F (some o) 12 (fun o22 => mX12_canLend o22 ((w32 ((w32 a1).tdiv 6)).tmod 2) 1 F (fun x21 F20 => (w32 x21 = 0 → Q F20) ∧ (¬ w32 x21 = 0 → gR F20 (some o) 12 0 (fun x23 => aI F20 x23 0 (9 + ((w32 ((w32 a1).tdiv 6)).tmod 2)) (fun x24 => sI F20 x23 0 (9 + ((w32 ((w32 a1).tdiv 6)).tmod 2)) (x24 + 1) (fun F25 => Q F25))))))) ∧ (w32 ((w32 a1).tmod 6) < 0 ∨ 3 < w32 ((w32 a1).tmod 6) → gR F (some o) 12 0 (fun x26 => aI F x26 0 7 (fun x27 => (w32 x27 < 9999 → rcv F (some o) 12 (fun o29 => mX12_pass o29 F (fun F28 => Q F28))) ∧ (¬ w32 x27 < 9999 → Q F))))
set_option maxHeartbeats 4000000 in
theorem tX12_happens_J20 {d : Nat} {Q : hp → Prop} {o : Nat} {a1 : Int} {a2 : Int} {s0 : Int} {s1 : Int} {F : hp} (h : mX12_happens_J20 Q o a1 a2 s0 s1 F) : aw nX12_happens (d + 8) 0 0 20 [some (vr (some o)), some (vi a1), some (vi a2), none] [vi s1, vi s0] F (qV Q) := by
  unfold mX12_happens_J20 at h
  refine aw_iadd dX12_happens_20 (aw_pc (pc' := 21) rfl ?_)
  refine aw_iconst dX12_happens_21 (aw_pc (pc' := 22) rfl ?_)
  refine ac_rem wl_3 (by decide) dX12_happens_22 (aw_pc (pc' := 23) rfl ?_)
  generalize hv_v1 : ((w32 (s0 + s1)).tmod 3) = v1
  replace h := h v1 hv_v1.symm
  refine aw_istore_n dX12_happens_23 rfl (by decide) (aw_pc (pc' := 24) rfl ?_)
  refine aw_iload_n dX12_happens_24 rfl rfl (aw_pc (pc' := 25) rfl ?_)
  refine aw_bipush dX12_happens_25 (by decide) (aw_pc (pc' := 27) rfl ?_)
  refine ac_rem wl_6 (by decide) dX12_happens_27 (aw_pc (pc' := 28) rfl ?_)
  refine aw_table dX12_happens_28 (td := 129) rfl (fun j => [60, 60, 79, 94].getD j 0) rfl (by decide) (fun j hj hx => ?_) (fun hx => ?_)
  · have hj : j = 0 ∨ j = 1 ∨ j = 2 ∨ j = 3 := by (simp at hj; omega)
    rcases hj with rfl | rfl | rfl | rfl
    · replace h := h.1 (by omega)
      refine aw_pc (pc' := 60) rfl ?_
      refine aw_aload_n dX12_happens_60 rfl rfl (aw_pc (pc' := 61) rfl ?_)
      refine aw_iload_n dX12_happens_61 rfl rfl (aw_pc (pc' := 62) rfl ?_)
      refine aw_iload_n dX12_happens_62 rfl rfl (aw_pc (pc' := 63) rfl ?_)
      have h0 := rcv_inv h
      clear h
      obtain ⟨o4, fs_o4, hr_o4, he_o4, h⟩ := h0
      obtain rfl : o = o4 := Option.some.inj hr_o4
      refine ar_VI (kc' := 0) (ks' := 0) (kc := 0) (ks := 0) (a := o) (ci := 12) (as := [vi a2, vi v1]) (st := []) (tX12_canMove h) mt_X12_canMove rfl qM_RX12_349 qI_X12_canMove qV_X12_canMove he_o4 rfl (Nat.le_of_ble_eq_true rfl) dX12_happens_63 ?_
      clear h
      intro x3 F2 h
      refine aw_pc (pc' := 66) rfl ?_
      refine aw_if_eq dX12_happens_66 rfl (fun c => ?_) (fun c => ?_)
      · replace h := h.1 c
        exact aw_vret rfl dX12_happens_146 ⟨rfl, h⟩
      · replace h := h.2 c
        refine aw_aload_n dX12_happens_69 rfl rfl (aw_pc (pc' := 70) rfl ?_)
        refine aw_iload_n dX12_happens_70 rfl rfl (aw_pc (pc' := 71) rfl ?_)
        refine aw_iload_n dX12_happens_71 rfl rfl (aw_pc (pc' := 72) rfl ?_)
        have h0 := rcv_inv h
        clear h
        obtain ⟨o7, fs_o7, hr_o7, he_o7, h⟩ := h0
        obtain rfl : o = o7 := Option.some.inj hr_o7
        refine ar_VI (kc' := 0) (ks' := 0) (kc := 0) (ks := 0) (a := o) (ci := 12) (as := [vi a2, vi v1]) (st := []) (tX12_moveNow h) mt_X12_moveNow rfl qM_RX12_355 qI_X12_moveNow qV_X12_moveNow he_o7 rfl (Nat.le_of_ble_eq_true rfl) dX12_happens_72 ?_
        clear h
        intro x6 F5 h
        refine aw_pc (pc' := 75) rfl ?_
        refine aw_if_ge dX12_happens_75 rfl (fun c => ?_) (fun c => ?_)
        · replace h := h.1 c
          exact aw_vret rfl dX12_happens_78 ⟨rfl, h⟩
        · replace h := h.2 c
          exact aw_vret rfl dX12_happens_146 ⟨rfl, h⟩
    · replace h := h.2.1 (by omega)
      refine aw_pc (pc' := 60) rfl ?_
      refine aw_aload_n dX12_happens_60 rfl rfl (aw_pc (pc' := 61) rfl ?_)
      refine aw_iload_n dX12_happens_61 rfl rfl (aw_pc (pc' := 62) rfl ?_)
      refine aw_iload_n dX12_happens_62 rfl rfl (aw_pc (pc' := 63) rfl ?_)
      have h0 := rcv_inv h
      clear h
      obtain ⟨o10, fs_o10, hr_o10, he_o10, h⟩ := h0
      obtain rfl : o = o10 := Option.some.inj hr_o10
      refine ar_VI (kc' := 0) (ks' := 0) (kc := 0) (ks := 0) (a := o) (ci := 12) (as := [vi a2, vi v1]) (st := []) (tX12_canMove h) mt_X12_canMove rfl qM_RX12_349 qI_X12_canMove qV_X12_canMove he_o10 rfl (Nat.le_of_ble_eq_true rfl) dX12_happens_63 ?_
      clear h
      intro x9 F8 h
      refine aw_pc (pc' := 66) rfl ?_
      refine aw_if_eq dX12_happens_66 rfl (fun c => ?_) (fun c => ?_)
      · replace h := h.1 c
        exact aw_vret rfl dX12_happens_146 ⟨rfl, h⟩
      · replace h := h.2 c
        refine aw_aload_n dX12_happens_69 rfl rfl (aw_pc (pc' := 70) rfl ?_)
        refine aw_iload_n dX12_happens_70 rfl rfl (aw_pc (pc' := 71) rfl ?_)
        refine aw_iload_n dX12_happens_71 rfl rfl (aw_pc (pc' := 72) rfl ?_)
        have h0 := rcv_inv h
        clear h
        obtain ⟨o13, fs_o13, hr_o13, he_o13, h⟩ := h0
        obtain rfl : o = o13 := Option.some.inj hr_o13
        refine ar_VI (kc' := 0) (ks' := 0) (kc := 0) (ks := 0) (a := o) (ci := 12) (as := [vi a2, vi v1]) (st := []) (tX12_moveNow h) mt_X12_moveNow rfl qM_RX12_355 qI_X12_moveNow qV_X12_moveNow he_o13 rfl (Nat.le_of_ble_eq_true rfl) dX12_happens_72 ?_
        clear h
        intro x12 F11 h
        refine aw_pc (pc' := 75) rfl ?_
        refine aw_if_ge dX12_happens_75 rfl (fun c => ?_) (fun c => ?_)
        · replace h := h.1 c
          exact aw_vret rfl dX12_happens_78 ⟨rfl, h⟩
        · replace h := h.2 c
          exact aw_vret rfl dX12_happens_146 ⟨rfl, h⟩
    · replace h := h.2.2.1 (by omega)
      refine aw_pc (pc' := 79) rfl ?_
      refine aw_aload_n dX12_happens_79 rfl rfl (aw_pc (pc' := 80) rfl ?_)
      have h0 := rcv_inv h
      clear h
      obtain ⟨o16, fs_o16, hr_o16, he_o16, h⟩ := h0
      obtain rfl : o = o16 := Option.some.inj hr_o16
      refine ar_VI (kc' := 0) (ks' := 0) (kc := 0) (ks := 0) (a := o) (ci := 12) (as := []) (st := []) (tX12_canChange h) mt_X12_canChange rfl qM_RX12_358 qI_X12_canChange qV_X12_canChange he_o16 rfl (Nat.le_of_ble_eq_true rfl) dX12_happens_80 ?_
      clear h
      intro x15 F14 h
      refine aw_pc (pc' := 83) rfl ?_
      refine aw_if_eq dX12_happens_83 rfl (fun c => ?_) (fun c => ?_)
      · replace h := h.1 c
        exact aw_vret rfl dX12_happens_146 ⟨rfl, h⟩
      · replace h := h.2 c
        refine aw_aload_n dX12_happens_86 rfl rfl (aw_pc (pc' := 87) rfl ?_)
        have h0 := rcv_inv h
        clear h
        obtain ⟨o19, fs_o19, hr_o19, he_o19, h⟩ := h0
        obtain rfl : o = o19 := Option.some.inj hr_o19
        refine ar_VI (kc' := 0) (ks' := 0) (kc := 0) (ks := 0) (a := o) (ci := 12) (as := []) (st := []) (tX12_changeNow h) mt_X12_changeNow rfl qM_RX12_361 qI_X12_changeNow qV_X12_changeNow he_o19 rfl (Nat.le_of_ble_eq_true rfl) dX12_happens_87 ?_
        clear h
        intro x18 F17 h
        refine aw_pc (pc' := 90) rfl ?_
        refine aw_if_ge dX12_happens_90 rfl (fun c => ?_) (fun c => ?_)
        · replace h := h.1 c
          exact aw_vret rfl dX12_happens_93 ⟨rfl, h⟩
        · replace h := h.2 c
          exact aw_vret rfl dX12_happens_146 ⟨rfl, h⟩
    · replace h := h.2.2.2.1 (by omega)
      refine aw_pc (pc' := 94) rfl ?_
      refine aw_aload_n dX12_happens_94 rfl rfl (aw_pc (pc' := 95) rfl ?_)
      refine aw_iload_n dX12_happens_95 rfl rfl (aw_pc (pc' := 96) rfl ?_)
      refine aw_bipush dX12_happens_96 (by decide) (aw_pc (pc' := 98) rfl ?_)
      refine ac_div wl_6 (by decide) dX12_happens_98 (aw_pc (pc' := 99) rfl ?_)
      refine aw_iconst dX12_happens_99 (aw_pc (pc' := 100) rfl ?_)
      refine ac_rem wl_2 (by decide) dX12_happens_100 (aw_pc (pc' := 101) rfl ?_)
      refine aw_iconst dX12_happens_101 (aw_pc (pc' := 102) rfl ?_)
      have h0 := rcv_inv h
      clear h
      obtain ⟨o22, fs_o22, hr_o22, he_o22, h⟩ := h0
      obtain rfl : o = o22 := Option.some.inj hr_o22
      refine ar_VI (kc' := 0) (ks' := 0) (kc := 0) (ks := 0) (a := o) (ci := 12) (as := [vi ((w32 ((w32 a1).tdiv 6)).tmod 2), vi 1]) (st := []) (tX12_canLend h) mt_X12_canLend rfl qM_RX12_364 qI_X12_canLend qV_X12_canLend he_o22 rfl (Nat.le_of_ble_eq_true rfl) dX12_happens_102 ?_
      clear h
      intro x21 F20 h
      refine aw_pc (pc' := 105) rfl ?_
      refine aw_if_eq dX12_happens_105 rfl (fun c => ?_) (fun c => ?_)
      · replace h := h.1 c
        exact aw_vret rfl dX12_happens_146 ⟨rfl, h⟩
      · replace h := h.2 c
        refine aw_aload_n dX12_happens_108 rfl rfl (aw_pc (pc' := 109) rfl ?_)
        refine ar_gR fl_RX12_7 dX12_happens_109 h ?_
        clear h
        intro x23 h
        refine aw_pc (pc' := 112) rfl ?_
        refine aw_bipush dX12_happens_112 (by decide) (aw_pc (pc' := 114) rfl ?_)
        refine aw_iload_n dX12_happens_114 rfl rfl (aw_pc (pc' := 115) rfl ?_)
        refine aw_bipush dX12_happens_115 (by decide) (aw_pc (pc' := 117) rfl ?_)
        refine ac_div wl_6 (by decide) dX12_happens_117 (aw_pc (pc' := 118) rfl ?_)
        refine aw_iconst dX12_happens_118 (aw_pc (pc' := 119) rfl ?_)
        refine ac_rem wl_2 (by decide) dX12_happens_119 (aw_pc (pc' := 120) rfl ?_)
        refine aw_iadd dX12_happens_120 (aw_pc (pc' := 121) rfl ?_)
        refine aw_dup2 dX12_happens_121 trivial trivial (aw_pc (pc' := 122) rfl ?_)
        refine ar_aI dX12_happens_122 h ?_
        clear h
        intro x24 h
        refine aw_pc (pc' := 123) rfl ?_
        refine aw_iconst dX12_happens_123 (aw_pc (pc' := 124) rfl ?_)
        refine aw_iadd dX12_happens_124 (aw_pc (pc' := 125) rfl ?_)
        refine ar_sI dX12_happens_125 h ?_
        clear h
        intro F25 h
        refine aw_pc (pc' := 126) rfl ?_
        refine aw_goto (tgt := 146) dX12_happens_126 rfl ?_
        exact aw_vret rfl dX12_happens_146 ⟨rfl, h⟩
  · replace h := h.2.2.2.2 hx
    refine aw_aload_n dX12_happens_129 rfl rfl (aw_pc (pc' := 130) rfl ?_)
    refine ar_gR fl_RX12_7 dX12_happens_130 h ?_
    clear h
    intro x26 h
    refine aw_pc (pc' := 133) rfl ?_
    refine aw_bipush dX12_happens_133 (by decide) (aw_pc (pc' := 135) rfl ?_)
    refine ar_aI dX12_happens_135 h ?_
    clear h
    intro x27 h
    refine aw_pc (pc' := 136) rfl ?_
    refine aw_sipush dX12_happens_136 (by decide) (aw_pc (pc' := 139) rfl ?_)
    refine ac_ge rfl wl_9999 dX12_happens_139 rfl (fun c => ?_) (fun c => ?_)
    · replace h := h.1 c
      refine aw_aload_n dX12_happens_142 rfl rfl (aw_pc (pc' := 143) rfl ?_)
      have h0 := rcv_inv h
      clear h
      obtain ⟨o29, fs_o29, hr_o29, he_o29, h⟩ := h0
      obtain rfl : o = o29 := Option.some.inj hr_o29
      refine ar_VV (kc' := 0) (ks' := 0) (kc := 0) (ks := 0) (a := o) (ci := 12) (as := []) (st := []) (tX12_pass h) mt_X12_pass rfl qM_RX12_367 qI_X12_pass qV_X12_pass he_o29 rfl (Nat.le_of_ble_eq_true rfl) dX12_happens_143 ?_
      clear h
      intro F28 h
      refine aw_pc (pc' := 146) rfl ?_
      exact aw_vret rfl dX12_happens_146 ⟨rfl, h⟩
    · replace h := h.2 c
      exact aw_vret rfl dX12_happens_146 ⟨rfl, h⟩
def mX12_happens (o : Nat) (a1 : Int) (F : hp) (Q : hp → Prop) : Prop := ∀ v1 : Int, v1 = ((w32 ((w32 a1).tdiv 6)).tmod 3) → (1 < w32 ((w32 a1).tmod 4) → mX12_happens_J20 Q o a1 v1 v1 2 F) ∧ (¬ 1 < w32 ((w32 a1).tmod 4) → mX12_happens_J20 Q o a1 v1 v1 1 F)
set_option maxHeartbeats 4000000 in
theorem tX12_happens {d : Nat} {o : Nat} {a1 : Int} {F : hp} {Q : hp → Prop} (h : mX12_happens o a1 F Q) : am nX12_happens (d + 8) 0 0 [vr (some o), vi a1] F (qV Q) := by
  refine am_of (by decide +kernel) (Nat.le_of_ble_eq_true rfl) ?_
  show aw nX12_happens (d + 8) 0 0 0 [some (vr (some o)), some (vi a1), none, none] [] F (qV Q)
  unfold mX12_happens at h
  refine aw_iload_n dX12_happens_0 rfl rfl (aw_pc (pc' := 1) rfl ?_)
  refine aw_bipush dX12_happens_1 (by decide) (aw_pc (pc' := 3) rfl ?_)
  refine ac_div wl_6 (by decide) dX12_happens_3 (aw_pc (pc' := 4) rfl ?_)
  refine aw_iconst dX12_happens_4 (aw_pc (pc' := 5) rfl ?_)
  refine ac_rem wl_3 (by decide) dX12_happens_5 (aw_pc (pc' := 6) rfl ?_)
  generalize hv_v1 : ((w32 ((w32 a1).tdiv 6)).tmod 3) = v1
  replace h := h v1 hv_v1.symm
  refine aw_istore_n dX12_happens_6 rfl (by decide) (aw_pc (pc' := 7) rfl ?_)
  refine aw_iload_n dX12_happens_7 rfl rfl (aw_pc (pc' := 8) rfl ?_)
  refine aw_iload_n dX12_happens_8 rfl rfl (aw_pc (pc' := 9) rfl ?_)
  refine aw_iconst dX12_happens_9 (aw_pc (pc' := 10) rfl ?_)
  refine ac_rem wl_4 (by decide) dX12_happens_10 (aw_pc (pc' := 11) rfl ?_)
  refine aw_iconst dX12_happens_11 (aw_pc (pc' := 12) rfl ?_)
  refine ac_le rfl wl_1 dX12_happens_12 rfl (fun c => ?_) (fun c => ?_)
  · replace h := h.1 c
    refine aw_iconst dX12_happens_15 (aw_pc (pc' := 16) rfl ?_)
    refine aw_goto (tgt := 20) dX12_happens_16 rfl ?_
    exact aw_mask [true, true, true, false] (tX12_happens_J20 h)
  · replace h := h.2 c
    refine aw_iconst dX12_happens_19 (aw_pc (pc' := 20) rfl ?_)
    exact aw_mask [true, true, true, false] (tX12_happens_J20 h)
def mX12_years_L43 (Q : Int → hp → Prop) : Nat → Nat → Int → Int → hp → Prop
  | 0, _, _, _, _ => False
  | k + 1, o, a2, a3, F => (w32 a3 < w32 a2 → gR F (some o) 12 0 (fun x1 => aI F x1 0 8 (fun x2 => rcv F (some o) 12 (fun o4 => mX12_anew o4 F (fun F3 => rcv F3 (some o) 12 (fun o6 => mX12_happens o6 x2 F3 (fun F5 => mX12_years_L43 Q k o a2 (a3 + 1) F5))))))) ∧ (¬ w32 a3 < w32 a2 → gR F (some o) 12 0 (fun x7 => aI F x7 0 7 (fun x8 => Q x8 F)))
set_option maxHeartbeats 4000000 in
theorem tX12_years_L43 {d : Nat} {Q : Int → hp → Prop} : ∀ (k : Nat) (o : Nat) (a2 : Int) (a3 : Int) (F : hp), mX12_years_L43 Q k o a2 a3 F → aw nX12_years (d + 9) 0 0 43 [some (vr (some o)), none, some (vi a2), some (vi a3), none] [] F (qI Q) := by
  intro k
  induction k with
  | zero => intro o a2 a3 F h; exact h.elim
  | succ k ih =>
    intro o a2 a3 F h
    simp only [mX12_years_L43] at h
    refine aw_iload_n dX12_years_43 rfl rfl (aw_pc (pc' := 44) rfl ?_)
    refine aw_iload_n dX12_years_44 rfl rfl (aw_pc (pc' := 45) rfl ?_)
    refine ac_ge rfl rfl dX12_years_45 rfl (fun c => ?_) (fun c => ?_)
    · replace h := h.1 c
      refine aw_aload_n dX12_years_48 rfl rfl (aw_pc (pc' := 49) rfl ?_)
      refine ar_gR fl_RX12_7 dX12_years_49 h ?_
      clear h
      intro x1 h
      refine aw_pc (pc' := 52) rfl ?_
      refine aw_bipush dX12_years_52 (by decide) (aw_pc (pc' := 54) rfl ?_)
      refine ar_aI dX12_years_54 h ?_
      clear h
      intro x2 h
      refine aw_pc (pc' := 55) rfl ?_
      refine aw_istore dX12_years_55 (by decide) (aw_pc (pc' := 57) rfl ?_)
      refine aw_aload_n dX12_years_57 rfl rfl (aw_pc (pc' := 58) rfl ?_)
      have h0 := rcv_inv h
      clear h
      obtain ⟨o4, fs_o4, hr_o4, he_o4, h⟩ := h0
      obtain rfl : o = o4 := Option.some.inj hr_o4
      refine ar_VV (kc' := 0) (ks' := 0) (kc := 0) (ks := 0) (a := o) (ci := 12) (as := []) (st := []) (tX12_anew h) mt_X12_anew rfl qM_RX12_318 qI_X12_anew qV_X12_anew he_o4 rfl (Nat.le_of_ble_eq_true rfl) dX12_years_58 ?_
      clear h
      intro F3 h
      refine aw_pc (pc' := 61) rfl ?_
      refine aw_aload_n dX12_years_61 rfl rfl (aw_pc (pc' := 62) rfl ?_)
      refine aw_iload dX12_years_62 rfl (aw_pc (pc' := 64) rfl ?_)
      have h0 := rcv_inv h
      clear h
      obtain ⟨o6, fs_o6, hr_o6, he_o6, h⟩ := h0
      obtain rfl : o = o6 := Option.some.inj hr_o6
      refine ar_VV (kc' := 0) (ks' := 0) (kc := 0) (ks := 0) (a := o) (ci := 12) (as := [vi x2]) (st := []) (tX12_happens h) mt_X12_happens rfl qM_RX12_392 qI_X12_happens qV_X12_happens he_o6 rfl (Nat.le_of_ble_eq_true rfl) dX12_years_64 ?_
      clear h
      intro F5 h
      refine aw_pc (pc' := 67) rfl ?_
      refine aw_iinc dX12_years_67 rfl (by decide) (aw_pc (pc' := 70) rfl ?_)
      refine aw_goto (tgt := 43) dX12_years_70 rfl ?_
      exact aw_mask [true, false, true, true, false] (ih _ _ _ _ h)
    · replace h := h.2 c
      refine aw_aload_n dX12_years_73 rfl rfl (aw_pc (pc' := 74) rfl ?_)
      refine ar_gR fl_RX12_7 dX12_years_74 h ?_
      clear h
      intro x7 h
      refine aw_pc (pc' := 77) rfl ?_
      refine aw_bipush dX12_years_77 (by decide) (aw_pc (pc' := 79) rfl ?_)
      refine ar_aI dX12_years_79 h ?_
      clear h
      intro x8 h
      refine aw_pc (pc' := 80) rfl ?_
      exact aw_iret rfl dX12_years_80 ⟨_, rfl, h⟩
def mX12_years (o : Nat) (a1 : Int) (a2 : Int) (F : hp) (Q : Int → hp → Prop) : Prop := mX12_isIn a1 0 9999 F (fun x2 F1 => (w32 x2 = 0 → Q (-1) F1) ∧ (¬ w32 x2 = 0 → mX12_isIn a2 1 40 F1 (fun x4 F3 => (w32 x4 = 0 → Q (-1) F3) ∧ (¬ w32 x4 = 0 → rcv F3 (some o) 12 (fun o6 => mX12_keep o6 F3 (fun F5 => gR F5 (some o) 12 0 (fun x7 => sI F5 x7 0 8 ((a1 * 2) + 353) (fun F8 => (∃ k9, mX12_years_L43 Q k9 o a2 0 F8)))))))))
set_option maxHeartbeats 4000000 in
theorem tX12_years {d : Nat} {o : Nat} {a1 : Int} {a2 : Int} {F : hp} {Q : Int → hp → Prop} (h : mX12_years o a1 a2 F Q) : am nX12_years (d + 9) 0 0 [vr (some o), vi a1, vi a2] F (qI Q) := by
  refine am_of (by decide +kernel) (Nat.le_of_ble_eq_true rfl) ?_
  show aw nX12_years (d + 9) 0 0 0 [some (vr (some o)), some (vi a1), some (vi a2), none, none] [] F (qI Q)
  unfold mX12_years at h
  refine aw_iload_n dX12_years_0 rfl rfl (aw_pc (pc' := 1) rfl ?_)
  refine aw_iconst dX12_years_1 (aw_pc (pc' := 2) rfl ?_)
  refine aw_sipush dX12_years_2 (by decide) (aw_pc (pc' := 5) rfl ?_)
  refine ar_SI (kc' := 0) (ks' := 0) (kc := 0) (ks := 0) (as := [vi a1, vi 0, vi 9999]) (st := []) (tX12_isIn h) mt_X12_isIn qM_RX12_78 qS_X12_isIn rfl (Nat.le_of_ble_eq_true rfl) dX12_years_5 ?_
  clear h
  intro x2 F1 h
  refine aw_pc (pc' := 8) rfl ?_
  refine aw_if_eq dX12_years_8 rfl (fun c => ?_) (fun c => ?_)
  · replace h := h.1 c
    refine aw_iconst dX12_years_21 (aw_pc (pc' := 22) rfl ?_)
    exact aw_iret rfl dX12_years_22 ⟨_, rfl, h⟩
  · replace h := h.2 c
    refine aw_iload_n dX12_years_11 rfl rfl (aw_pc (pc' := 12) rfl ?_)
    refine aw_iconst dX12_years_12 (aw_pc (pc' := 13) rfl ?_)
    refine aw_bipush dX12_years_13 (by decide) (aw_pc (pc' := 15) rfl ?_)
    refine ar_SI (kc' := 0) (ks' := 0) (kc := 0) (ks := 0) (as := [vi a2, vi 1, vi 40]) (st := []) (tX12_isIn h) mt_X12_isIn qM_RX12_78 qS_X12_isIn rfl (Nat.le_of_ble_eq_true rfl) dX12_years_15 ?_
    clear h
    intro x4 F3 h
    refine aw_pc (pc' := 18) rfl ?_
    refine aw_if_ne dX12_years_18 rfl (fun c => ?_) (fun c => ?_)
    · replace h := h.1 c
      refine aw_iconst dX12_years_21 (aw_pc (pc' := 22) rfl ?_)
      exact aw_iret rfl dX12_years_22 ⟨_, rfl, h⟩
    · replace h := h.2 c
      refine aw_aload_n dX12_years_23 rfl rfl (aw_pc (pc' := 24) rfl ?_)
      have h0 := rcv_inv h
      clear h
      obtain ⟨o6, fs_o6, hr_o6, he_o6, h⟩ := h0
      obtain rfl : o = o6 := Option.some.inj hr_o6
      refine ar_VV (kc' := 0) (ks' := 0) (kc := 0) (ks := 0) (a := o) (ci := 12) (as := []) (st := []) (tX12_keep h) mt_X12_keep rfl qM_RX12_352 qI_X12_keep qV_X12_keep he_o6 rfl (Nat.le_of_ble_eq_true rfl) dX12_years_24 ?_
      clear h
      intro F5 h
      refine aw_pc (pc' := 27) rfl ?_
      refine aw_aload_n dX12_years_27 rfl rfl (aw_pc (pc' := 28) rfl ?_)
      refine ar_gR fl_RX12_7 dX12_years_28 h ?_
      clear h
      intro x7 h
      refine aw_pc (pc' := 31) rfl ?_
      refine aw_bipush dX12_years_31 (by decide) (aw_pc (pc' := 33) rfl ?_)
      refine aw_iload_n dX12_years_33 rfl rfl (aw_pc (pc' := 34) rfl ?_)
      refine aw_iconst dX12_years_34 (aw_pc (pc' := 35) rfl ?_)
      refine aw_imul dX12_years_35 (aw_pc (pc' := 36) rfl ?_)
      refine aw_sipush dX12_years_36 (by decide) (aw_pc (pc' := 39) rfl ?_)
      refine aw_iadd dX12_years_39 (aw_pc (pc' := 40) rfl ?_)
      refine ar_sI dX12_years_40 h ?_
      clear h
      intro F8 h
      refine aw_pc (pc' := 41) rfl ?_
      refine aw_iconst dX12_years_41 (aw_pc (pc' := 42) rfl ?_)
      refine aw_istore_n dX12_years_42 rfl (by decide) (aw_pc (pc' := 43) rfl ?_)
      obtain ⟨k9, h⟩ := h
      exact aw_mask [true, false, true, true, false] (tX12_years_L43 k9 _ _ _ _ h)
def mX12_of (o : Nat) (a1 : Int) (a2 : Int) (F : hp) (Q : Int → hp → Prop) : Prop := rcv F (some o) 12 (fun o3 => mX12_isCar o3 a1 F (fun x2 F1 => (w32 x2 = 0 → Q (-1) F1) ∧ (¬ w32 x2 = 0 → (w32 a2 = 0 → gR F1 (some o) 12 0 (fun x4 => aI F1 x4 0 (36 + a1) (fun x5 => Q x5 F1))) ∧ (w32 a2 = 1 → gR F1 (some o) 12 0 (fun x6 => aI F1 x6 0 (41 + a1) (fun x7 => Q x7 F1))) ∧ (w32 a2 = 2 → rcv F1 (some o) 12 (fun o10 => mX12_trackOf o10 a1 F1 (fun x9 F8 => Q x9 F8))) ∧ (w32 a2 = 3 → rcv F1 (some o) 12 (fun o13 => mX12_placeOf o13 a1 F1 (fun x12 F11 => Q x12 F11))) ∧ (w32 a2 = 4 → rcv F1 (some o) 12 (fun o16 => mX12_isWide o16 a1 F1 (fun x15 F14 => Q x15 F14))) ∧ (w32 a2 = 5 → gR F1 (some o) 12 0 (fun x17 => aI F1 x17 0 (31 + a1) (fun x18 => Q x18 F1))) ∧ (w32 a2 < 0 ∨ 5 < w32 a2 → Q (-1) F1))))
set_option maxHeartbeats 4000000 in
theorem tX12_of {d : Nat} {o : Nat} {a1 : Int} {a2 : Int} {F : hp} {Q : Int → hp → Prop} (h : mX12_of o a1 a2 F Q) : am nX12_of (d + 3) 0 0 [vr (some o), vi a1, vi a2] F (qI Q) := by
  refine am_of (by decide +kernel) (Nat.le_of_ble_eq_true rfl) ?_
  show aw nX12_of (d + 3) 0 0 0 [some (vr (some o)), some (vi a1), some (vi a2)] [] F (qI Q)
  unfold mX12_of at h
  refine aw_aload_n dX12_of_0 rfl rfl (aw_pc (pc' := 1) rfl ?_)
  refine aw_iload_n dX12_of_1 rfl rfl (aw_pc (pc' := 2) rfl ?_)
  have h0 := rcv_inv h
  clear h
  obtain ⟨o3, fs_o3, hr_o3, he_o3, h⟩ := h0
  obtain rfl : o = o3 := Option.some.inj hr_o3
  refine ar_VI (kc' := 0) (ks' := 0) (kc := 0) (ks := 0) (a := o) (ci := 12) (as := [vi a1]) (st := []) (tX12_isCar h) mt_X12_isCar rfl qM_RX12_102 qI_X12_isCar qV_X12_isCar he_o3 rfl (Nat.le_of_ble_eq_true rfl) dX12_of_2 ?_
  clear h
  intro x2 F1 h
  refine aw_pc (pc' := 5) rfl ?_
  refine aw_if_ne dX12_of_5 rfl (fun c => ?_) (fun c => ?_)
  · replace h := h.1 c
    refine aw_iconst dX12_of_8 (aw_pc (pc' := 9) rfl ?_)
    exact aw_iret rfl dX12_of_9 ⟨_, rfl, h⟩
  · replace h := h.2 c
    refine aw_iload_n dX12_of_10 rfl rfl (aw_pc (pc' := 11) rfl ?_)
    refine aw_table dX12_of_11 (td := 96) rfl (fun j => [48, 58, 68, 74, 80, 86].getD j 0) rfl (by decide) (fun j hj hx => ?_) (fun hx => ?_)
    · have hj : j = 0 ∨ j = 1 ∨ j = 2 ∨ j = 3 ∨ j = 4 ∨ j = 5 := by (simp at hj; omega)
      rcases hj with rfl | rfl | rfl | rfl | rfl | rfl
      · replace h := h.1 (by omega)
        refine aw_pc (pc' := 48) rfl ?_
        refine aw_aload_n dX12_of_48 rfl rfl (aw_pc (pc' := 49) rfl ?_)
        refine ar_gR fl_RX12_7 dX12_of_49 h ?_
        clear h
        intro x4 h
        refine aw_pc (pc' := 52) rfl ?_
        refine aw_bipush dX12_of_52 (by decide) (aw_pc (pc' := 54) rfl ?_)
        refine aw_iload_n dX12_of_54 rfl rfl (aw_pc (pc' := 55) rfl ?_)
        refine aw_iadd dX12_of_55 (aw_pc (pc' := 56) rfl ?_)
        refine ar_aI dX12_of_56 h ?_
        clear h
        intro x5 h
        refine aw_pc (pc' := 57) rfl ?_
        exact aw_iret rfl dX12_of_57 ⟨_, rfl, h⟩
      · replace h := h.2.1 (by omega)
        refine aw_pc (pc' := 58) rfl ?_
        refine aw_aload_n dX12_of_58 rfl rfl (aw_pc (pc' := 59) rfl ?_)
        refine ar_gR fl_RX12_7 dX12_of_59 h ?_
        clear h
        intro x6 h
        refine aw_pc (pc' := 62) rfl ?_
        refine aw_bipush dX12_of_62 (by decide) (aw_pc (pc' := 64) rfl ?_)
        refine aw_iload_n dX12_of_64 rfl rfl (aw_pc (pc' := 65) rfl ?_)
        refine aw_iadd dX12_of_65 (aw_pc (pc' := 66) rfl ?_)
        refine ar_aI dX12_of_66 h ?_
        clear h
        intro x7 h
        refine aw_pc (pc' := 67) rfl ?_
        exact aw_iret rfl dX12_of_67 ⟨_, rfl, h⟩
      · replace h := h.2.2.1 (by omega)
        refine aw_pc (pc' := 68) rfl ?_
        refine aw_aload_n dX12_of_68 rfl rfl (aw_pc (pc' := 69) rfl ?_)
        refine aw_iload_n dX12_of_69 rfl rfl (aw_pc (pc' := 70) rfl ?_)
        have h0 := rcv_inv h
        clear h
        obtain ⟨o10, fs_o10, hr_o10, he_o10, h⟩ := h0
        obtain rfl : o = o10 := Option.some.inj hr_o10
        refine ar_VI (kc' := 0) (ks' := 0) (kc := 0) (ks := 0) (a := o) (ci := 12) (as := [vi a1]) (st := []) (tX12_trackOf h) mt_X12_trackOf rfl qM_RX12_86 qI_X12_trackOf qV_X12_trackOf he_o10 rfl (Nat.le_of_ble_eq_true rfl) dX12_of_70 ?_
        clear h
        intro x9 F8 h
        refine aw_pc (pc' := 73) rfl ?_
        exact aw_iret rfl dX12_of_73 ⟨_, rfl, h⟩
      · replace h := h.2.2.2.1 (by omega)
        refine aw_pc (pc' := 74) rfl ?_
        refine aw_aload_n dX12_of_74 rfl rfl (aw_pc (pc' := 75) rfl ?_)
        refine aw_iload_n dX12_of_75 rfl rfl (aw_pc (pc' := 76) rfl ?_)
        have h0 := rcv_inv h
        clear h
        obtain ⟨o13, fs_o13, hr_o13, he_o13, h⟩ := h0
        obtain rfl : o = o13 := Option.some.inj hr_o13
        refine ar_VI (kc' := 0) (ks' := 0) (kc := 0) (ks := 0) (a := o) (ci := 12) (as := [vi a1]) (st := []) (tX12_placeOf h) mt_X12_placeOf rfl qM_RX12_395 qI_X12_placeOf qV_X12_placeOf he_o13 rfl (Nat.le_of_ble_eq_true rfl) dX12_of_76 ?_
        clear h
        intro x12 F11 h
        refine aw_pc (pc' := 79) rfl ?_
        exact aw_iret rfl dX12_of_79 ⟨_, rfl, h⟩
      · replace h := h.2.2.2.2.1 (by omega)
        refine aw_pc (pc' := 80) rfl ?_
        refine aw_aload_n dX12_of_80 rfl rfl (aw_pc (pc' := 81) rfl ?_)
        refine aw_iload_n dX12_of_81 rfl rfl (aw_pc (pc' := 82) rfl ?_)
        have h0 := rcv_inv h
        clear h
        obtain ⟨o16, fs_o16, hr_o16, he_o16, h⟩ := h0
        obtain rfl : o = o16 := Option.some.inj hr_o16
        refine ar_VI (kc' := 0) (ks' := 0) (kc := 0) (ks := 0) (a := o) (ci := 12) (as := [vi a1]) (st := []) (tX12_isWide h) mt_X12_isWide rfl qM_RX12_309 qI_X12_isWide qV_X12_isWide he_o16 rfl (Nat.le_of_ble_eq_true rfl) dX12_of_82 ?_
        clear h
        intro x15 F14 h
        refine aw_pc (pc' := 85) rfl ?_
        exact aw_iret rfl dX12_of_85 ⟨_, rfl, h⟩
      · replace h := h.2.2.2.2.2.1 (by omega)
        refine aw_pc (pc' := 86) rfl ?_
        refine aw_aload_n dX12_of_86 rfl rfl (aw_pc (pc' := 87) rfl ?_)
        refine ar_gR fl_RX12_7 dX12_of_87 h ?_
        clear h
        intro x17 h
        refine aw_pc (pc' := 90) rfl ?_
        refine aw_bipush dX12_of_90 (by decide) (aw_pc (pc' := 92) rfl ?_)
        refine aw_iload_n dX12_of_92 rfl rfl (aw_pc (pc' := 93) rfl ?_)
        refine aw_iadd dX12_of_93 (aw_pc (pc' := 94) rfl ?_)
        refine ar_aI dX12_of_94 h ?_
        clear h
        intro x18 h
        refine aw_pc (pc' := 95) rfl ?_
        exact aw_iret rfl dX12_of_95 ⟨_, rfl, h⟩
    · replace h := h.2.2.2.2.2.2 hx
      refine aw_iconst dX12_of_96 (aw_pc (pc' := 97) rfl ?_)
      exact aw_iret rfl dX12_of_97 ⟨_, rfl, h⟩
def mX12_track (o : Nat) (a1 : Int) (a2 : Int) (F : hp) (Q : Int → hp → Prop) : Prop := mX12_isTrack a1 F (fun x2 F1 => (w32 x2 = 0 → Q (-2) F1) ∧ (¬ w32 x2 = 0 → (w32 a2 = (-1) → gR F1 (some o) 12 0 (fun x3 => aI F1 x3 0 (12 + a1) (fun x4 => Q x4 F1))) ∧ (¬ w32 a2 = (-1) → gR F1 (some o) 12 0 (fun x5 => aI F1 x5 0 (12 + a1) (fun x6 => mX12_isIn a2 0 (x6 - 1) F1 (fun x8 F7 => (w32 x8 = 0 → Q (-2) F7) ∧ (¬ w32 x8 = 0 → rcv F7 (some o) 12 (fun o11 => mX12_carOn o11 a1 a2 F7 (fun x10 F9 => Q x10 F9)))))))))
set_option maxHeartbeats 4000000 in
theorem tX12_track {d : Nat} {o : Nat} {a1 : Int} {a2 : Int} {F : hp} {Q : Int → hp → Prop} (h : mX12_track o a1 a2 F Q) : am nX12_track (d + 2) 0 0 [vr (some o), vi a1, vi a2] F (qI Q) := by
  refine am_of (by decide +kernel) (Nat.le_of_ble_eq_true rfl) ?_
  show aw nX12_track (d + 2) 0 0 0 [some (vr (some o)), some (vi a1), some (vi a2)] [] F (qI Q)
  unfold mX12_track at h
  refine aw_iload_n dX12_track_0 rfl rfl (aw_pc (pc' := 1) rfl ?_)
  refine ar_SI (kc' := 0) (ks' := 0) (kc := 0) (ks := 0) (as := [vi a1]) (st := []) (tX12_isTrack h) mt_X12_isTrack qM_RX12_327 qS_X12_isTrack rfl (Nat.le_of_ble_eq_true rfl) dX12_track_1 ?_
  clear h
  intro x2 F1 h
  refine aw_pc (pc' := 4) rfl ?_
  refine aw_if_ne dX12_track_4 rfl (fun c => ?_) (fun c => ?_)
  · replace h := h.1 c
    refine aw_bipush dX12_track_7 (by decide) (aw_pc (pc' := 9) rfl ?_)
    exact aw_iret rfl dX12_track_9 ⟨_, rfl, h⟩
  · replace h := h.2 c
    refine aw_iload_n dX12_track_10 rfl rfl (aw_pc (pc' := 11) rfl ?_)
    refine aw_iconst dX12_track_11 (aw_pc (pc' := 12) rfl ?_)
    refine ac_ne rfl wl_m1 dX12_track_12 rfl (fun c => ?_) (fun c => ?_)
    · replace h := h.1 c
      refine aw_aload_n dX12_track_15 rfl rfl (aw_pc (pc' := 16) rfl ?_)
      refine ar_gR fl_RX12_7 dX12_track_16 h ?_
      clear h
      intro x3 h
      refine aw_pc (pc' := 19) rfl ?_
      refine aw_bipush dX12_track_19 (by decide) (aw_pc (pc' := 21) rfl ?_)
      refine aw_iload_n dX12_track_21 rfl rfl (aw_pc (pc' := 22) rfl ?_)
      refine aw_iadd dX12_track_22 (aw_pc (pc' := 23) rfl ?_)
      refine ar_aI dX12_track_23 h ?_
      clear h
      intro x4 h
      refine aw_pc (pc' := 24) rfl ?_
      refine aw_goto (tgt := 57) dX12_track_24 rfl ?_
      exact aw_iret rfl dX12_track_57 ⟨_, rfl, h⟩
    · replace h := h.2 c
      refine aw_iload_n dX12_track_27 rfl rfl (aw_pc (pc' := 28) rfl ?_)
      refine aw_iconst dX12_track_28 (aw_pc (pc' := 29) rfl ?_)
      refine aw_aload_n dX12_track_29 rfl rfl (aw_pc (pc' := 30) rfl ?_)
      refine ar_gR fl_RX12_7 dX12_track_30 h ?_
      clear h
      intro x5 h
      refine aw_pc (pc' := 33) rfl ?_
      refine aw_bipush dX12_track_33 (by decide) (aw_pc (pc' := 35) rfl ?_)
      refine aw_iload_n dX12_track_35 rfl rfl (aw_pc (pc' := 36) rfl ?_)
      refine aw_iadd dX12_track_36 (aw_pc (pc' := 37) rfl ?_)
      refine ar_aI dX12_track_37 h ?_
      clear h
      intro x6 h
      refine aw_pc (pc' := 38) rfl ?_
      refine aw_iconst dX12_track_38 (aw_pc (pc' := 39) rfl ?_)
      refine aw_isub dX12_track_39 (aw_pc (pc' := 40) rfl ?_)
      refine ar_SI (kc' := 0) (ks' := 0) (kc := 0) (ks := 0) (as := [vi a2, vi 0, vi (x6 - 1)]) (st := []) (tX12_isIn h) mt_X12_isIn qM_RX12_78 qS_X12_isIn rfl (Nat.le_of_ble_eq_true rfl) dX12_track_40 ?_
      clear h
      intro x8 F7 h
      refine aw_pc (pc' := 43) rfl ?_
      refine aw_if_eq dX12_track_43 rfl (fun c => ?_) (fun c => ?_)
      · replace h := h.1 c
        refine aw_bipush dX12_track_55 (by decide) (aw_pc (pc' := 57) rfl ?_)
        exact aw_iret rfl dX12_track_57 ⟨_, rfl, h⟩
      · replace h := h.2 c
        refine aw_aload_n dX12_track_46 rfl rfl (aw_pc (pc' := 47) rfl ?_)
        refine aw_iload_n dX12_track_47 rfl rfl (aw_pc (pc' := 48) rfl ?_)
        refine aw_iload_n dX12_track_48 rfl rfl (aw_pc (pc' := 49) rfl ?_)
        have h0 := rcv_inv h
        clear h
        obtain ⟨o11, fs_o11, hr_o11, he_o11, h⟩ := h0
        obtain rfl : o = o11 := Option.some.inj hr_o11
        refine ar_VI (kc' := 0) (ks' := 0) (kc := 0) (ks := 0) (a := o) (ci := 12) (as := [vi a1, vi a2]) (st := []) (tX12_carOn h) mt_X12_carOn rfl qM_RX12_82 qI_X12_carOn qV_X12_carOn he_o11 rfl (Nat.le_of_ble_eq_true rfl) dX12_track_49 ?_
        clear h
        intro x10 F9 h
        refine aw_pc (pc' := 52) rfl ?_
        refine aw_goto (tgt := 57) dX12_track_52 rfl ?_
        exact aw_iret rfl dX12_track_57 ⟨_, rfl, h⟩
def mX12_law (o : Nat) (a1 : Int) (a2 : Int) (F : hp) (Q : Int → hp → Prop) : Prop := mX12_isTrack a1 F (fun x2 F1 => (w32 x2 = 0 → Q (-100) F1) ∧ (¬ w32 x2 = 0 → mX12_isTrack a2 F1 (fun x4 F3 => (w32 x4 = 0 → Q (-100) F3) ∧ (¬ w32 x4 = 0 → gR F3 (some o) 12 0 (fun x5 => aI F3 x5 0 (12 + a1) (fun x6 => (w32 x6 = 0 → Q (-100) F3) ∧ (¬ w32 x6 = 0 → (w32 a1 = w32 a2 → gR F3 (some o) 12 0 (fun x7 => aI F3 x7 0 2 (fun x8 => rcv F3 (some o) 12 (fun o11 => mX12_uppermost o11 a1 F3 (fun x10 F9 => rcv F9 (some o) 12 (fun o14 => mX12_changesOf o14 x8 x10 F9 (fun x13 F12 => Q x13 F12))))))) ∧ (¬ w32 a1 = w32 a2 → rcv F3 (some o) 12 (fun o17 => mX12_uppermost o17 a1 F3 (fun x16 F15 => rcv F15 (some o) 12 (fun o20 => mX12_movesOf o20 x16 a1 a2 F15 (fun x19 F18 => Q x19 F18))))))))))))
set_option maxHeartbeats 4000000 in
theorem tX12_law {d : Nat} {o : Nat} {a1 : Int} {a2 : Int} {F : hp} {Q : Int → hp → Prop} (h : mX12_law o a1 a2 F Q) : am nX12_law (d + 7) 0 0 [vr (some o), vi a1, vi a2] F (qI Q) := by
  refine am_of (by decide +kernel) (Nat.le_of_ble_eq_true rfl) ?_
  show aw nX12_law (d + 7) 0 0 0 [some (vr (some o)), some (vi a1), some (vi a2)] [] F (qI Q)
  unfold mX12_law at h
  refine aw_iload_n dX12_law_0 rfl rfl (aw_pc (pc' := 1) rfl ?_)
  refine ar_SI (kc' := 0) (ks' := 0) (kc := 0) (ks := 0) (as := [vi a1]) (st := []) (tX12_isTrack h) mt_X12_isTrack qM_RX12_327 qS_X12_isTrack rfl (Nat.le_of_ble_eq_true rfl) dX12_law_1 ?_
  clear h
  intro x2 F1 h
  refine aw_pc (pc' := 4) rfl ?_
  refine aw_if_eq dX12_law_4 rfl (fun c => ?_) (fun c => ?_)
  · replace h := h.1 c
    refine aw_bipush dX12_law_26 (by decide) (aw_pc (pc' := 28) rfl ?_)
    exact aw_iret rfl dX12_law_28 ⟨_, rfl, h⟩
  · replace h := h.2 c
    refine aw_iload_n dX12_law_7 rfl rfl (aw_pc (pc' := 8) rfl ?_)
    refine ar_SI (kc' := 0) (ks' := 0) (kc := 0) (ks := 0) (as := [vi a2]) (st := []) (tX12_isTrack h) mt_X12_isTrack qM_RX12_327 qS_X12_isTrack rfl (Nat.le_of_ble_eq_true rfl) dX12_law_8 ?_
    clear h
    intro x4 F3 h
    refine aw_pc (pc' := 11) rfl ?_
    refine aw_if_eq dX12_law_11 rfl (fun c => ?_) (fun c => ?_)
    · replace h := h.1 c
      refine aw_bipush dX12_law_26 (by decide) (aw_pc (pc' := 28) rfl ?_)
      exact aw_iret rfl dX12_law_28 ⟨_, rfl, h⟩
    · replace h := h.2 c
      refine aw_aload_n dX12_law_14 rfl rfl (aw_pc (pc' := 15) rfl ?_)
      refine ar_gR fl_RX12_7 dX12_law_15 h ?_
      clear h
      intro x5 h
      refine aw_pc (pc' := 18) rfl ?_
      refine aw_bipush dX12_law_18 (by decide) (aw_pc (pc' := 20) rfl ?_)
      refine aw_iload_n dX12_law_20 rfl rfl (aw_pc (pc' := 21) rfl ?_)
      refine aw_iadd dX12_law_21 (aw_pc (pc' := 22) rfl ?_)
      refine ar_aI dX12_law_22 h ?_
      clear h
      intro x6 h
      refine aw_pc (pc' := 23) rfl ?_
      refine aw_if_ne dX12_law_23 rfl (fun c => ?_) (fun c => ?_)
      · replace h := h.1 c
        refine aw_bipush dX12_law_26 (by decide) (aw_pc (pc' := 28) rfl ?_)
        exact aw_iret rfl dX12_law_28 ⟨_, rfl, h⟩
      · replace h := h.2 c
        refine aw_iload_n dX12_law_29 rfl rfl (aw_pc (pc' := 30) rfl ?_)
        refine aw_iload_n dX12_law_30 rfl rfl (aw_pc (pc' := 31) rfl ?_)
        refine ac_ne rfl rfl dX12_law_31 rfl (fun c => ?_) (fun c => ?_)
        · replace h := h.1 c
          refine aw_aload_n dX12_law_34 rfl rfl (aw_pc (pc' := 35) rfl ?_)
          refine aw_aload_n dX12_law_35 rfl rfl (aw_pc (pc' := 36) rfl ?_)
          refine ar_gR fl_RX12_7 dX12_law_36 h ?_
          clear h
          intro x7 h
          refine aw_pc (pc' := 39) rfl ?_
          refine aw_iconst dX12_law_39 (aw_pc (pc' := 40) rfl ?_)
          refine ar_aI dX12_law_40 h ?_
          clear h
          intro x8 h
          refine aw_pc (pc' := 41) rfl ?_
          refine aw_aload_n dX12_law_41 rfl rfl (aw_pc (pc' := 42) rfl ?_)
          refine aw_iload_n dX12_law_42 rfl rfl (aw_pc (pc' := 43) rfl ?_)
          have h0 := rcv_inv h
          clear h
          obtain ⟨o11, fs_o11, hr_o11, he_o11, h⟩ := h0
          obtain rfl : o = o11 := Option.some.inj hr_o11
          refine ar_VI (kc' := 0) (ks' := 0) (kc := 0) (ks := 0) (a := o) (ci := 12) (as := [vi a1]) (st := [vi x8, vr (some o)]) (tX12_uppermost h) mt_X12_uppermost rfl qM_RX12_278 qI_X12_uppermost qV_X12_uppermost he_o11 rfl (Nat.le_of_ble_eq_true rfl) dX12_law_43 ?_
          clear h
          intro x10 F9 h
          refine aw_pc (pc' := 46) rfl ?_
          have h0 := rcv_inv h
          clear h
          obtain ⟨o14, fs_o14, hr_o14, he_o14, h⟩ := h0
          obtain rfl : o = o14 := Option.some.inj hr_o14
          refine ar_VI (kc' := 0) (ks' := 0) (kc := 0) (ks := 0) (a := o) (ci := 12) (as := [vi x8, vi x10]) (st := []) (tX12_changesOf h) mt_X12_changesOf rfl qM_RX12_340 qI_X12_changesOf qV_X12_changesOf he_o14 rfl (Nat.le_of_ble_eq_true rfl) dX12_law_46 ?_
          clear h
          intro x13 F12 h
          refine aw_pc (pc' := 49) rfl ?_
          refine aw_goto (tgt := 63) dX12_law_49 rfl ?_
          exact aw_iret rfl dX12_law_63 ⟨_, rfl, h⟩
        · replace h := h.2 c
          refine aw_aload_n dX12_law_52 rfl rfl (aw_pc (pc' := 53) rfl ?_)
          refine aw_aload_n dX12_law_53 rfl rfl (aw_pc (pc' := 54) rfl ?_)
          refine aw_iload_n dX12_law_54 rfl rfl (aw_pc (pc' := 55) rfl ?_)
          have h0 := rcv_inv h
          clear h
          obtain ⟨o17, fs_o17, hr_o17, he_o17, h⟩ := h0
          obtain rfl : o = o17 := Option.some.inj hr_o17
          refine ar_VI (kc' := 0) (ks' := 0) (kc := 0) (ks := 0) (a := o) (ci := 12) (as := [vi a1]) (st := [vr (some o)]) (tX12_uppermost h) mt_X12_uppermost rfl qM_RX12_278 qI_X12_uppermost qV_X12_uppermost he_o17 rfl (Nat.le_of_ble_eq_true rfl) dX12_law_55 ?_
          clear h
          intro x16 F15 h
          refine aw_pc (pc' := 58) rfl ?_
          refine aw_iload_n dX12_law_58 rfl rfl (aw_pc (pc' := 59) rfl ?_)
          refine aw_iload_n dX12_law_59 rfl rfl (aw_pc (pc' := 60) rfl ?_)
          have h0 := rcv_inv h
          clear h
          obtain ⟨o20, fs_o20, hr_o20, he_o20, h⟩ := h0
          obtain rfl : o = o20 := Option.some.inj hr_o20
          refine ar_VI (kc' := 0) (ks' := 0) (kc := 0) (ks := 0) (a := o) (ci := 12) (as := [vi x16, vi a1, vi a2]) (st := []) (tX12_movesOf h) mt_X12_movesOf rfl qM_RX12_333 qI_X12_movesOf qV_X12_movesOf he_o20 rfl (Nat.le_of_ble_eq_true rfl) dX12_law_60 ?_
          clear h
          intro x19 F18 h
          refine aw_pc (pc' := 63) rfl ?_
          exact aw_iret rfl dX12_law_63 ⟨_, rfl, h⟩
def mX12_is (o : Nat) (a1 : Int) (F : hp) (Q : Int → hp → Prop) : Prop := mX12_isIn a1 0 3 F (fun x2 F1 => (w32 x2 = 0 → (w32 a1 = 4 → gR F1 (some o) 12 0 (fun x3 => aI F1 x3 0 30 (fun x4 => Q x4 F1))) ∧ (¬ w32 a1 = 4 → Q (-2) F1)) ∧ (¬ w32 x2 = 0 → gR F1 (some o) 12 0 (fun x5 => aI F1 x5 0 (7 + a1) (fun x6 => Q x6 F1))))
set_option maxHeartbeats 4000000 in
theorem tX12_is {d : Nat} {o : Nat} {a1 : Int} {F : hp} {Q : Int → hp → Prop} (h : mX12_is o a1 F Q) : am nX12_is (d + 1) 0 0 [vr (some o), vi a1] F (qI Q) := by
  refine am_of (by decide +kernel) (Nat.le_of_ble_eq_true rfl) ?_
  show aw nX12_is (d + 1) 0 0 0 [some (vr (some o)), some (vi a1)] [] F (qI Q)
  unfold mX12_is at h
  refine aw_iload_n dX12_is_0 rfl rfl (aw_pc (pc' := 1) rfl ?_)
  refine aw_iconst dX12_is_1 (aw_pc (pc' := 2) rfl ?_)
  refine aw_iconst dX12_is_2 (aw_pc (pc' := 3) rfl ?_)
  refine ar_SI (kc' := 0) (ks' := 0) (kc := 0) (ks := 0) (as := [vi a1, vi 0, vi 3]) (st := []) (tX12_isIn h) mt_X12_isIn qM_RX12_78 qS_X12_isIn rfl (Nat.le_of_ble_eq_true rfl) dX12_is_3 ?_
  clear h
  intro x2 F1 h
  refine aw_pc (pc' := 6) rfl ?_
  refine aw_if_eq dX12_is_6 rfl (fun c => ?_) (fun c => ?_)
  · replace h := h.1 c
    refine aw_iload_n dX12_is_21 rfl rfl (aw_pc (pc' := 22) rfl ?_)
    refine aw_iconst dX12_is_22 (aw_pc (pc' := 23) rfl ?_)
    refine ac_ne rfl wl_4 dX12_is_23 rfl (fun c => ?_) (fun c => ?_)
    · replace h := h.1 c
      refine aw_aload_n dX12_is_26 rfl rfl (aw_pc (pc' := 27) rfl ?_)
      refine ar_gR fl_RX12_7 dX12_is_27 h ?_
      clear h
      intro x3 h
      refine aw_pc (pc' := 30) rfl ?_
      refine aw_bipush dX12_is_30 (by decide) (aw_pc (pc' := 32) rfl ?_)
      refine ar_aI dX12_is_32 h ?_
      clear h
      intro x4 h
      refine aw_pc (pc' := 33) rfl ?_
      refine aw_goto (tgt := 38) dX12_is_33 rfl ?_
      exact aw_iret rfl dX12_is_38 ⟨_, rfl, h⟩
    · replace h := h.2 c
      refine aw_bipush dX12_is_36 (by decide) (aw_pc (pc' := 38) rfl ?_)
      exact aw_iret rfl dX12_is_38 ⟨_, rfl, h⟩
  · replace h := h.2 c
    refine aw_aload_n dX12_is_9 rfl rfl (aw_pc (pc' := 10) rfl ?_)
    refine ar_gR fl_RX12_7 dX12_is_10 h ?_
    clear h
    intro x5 h
    refine aw_pc (pc' := 13) rfl ?_
    refine aw_bipush dX12_is_13 (by decide) (aw_pc (pc' := 15) rfl ?_)
    refine aw_iload_n dX12_is_15 rfl rfl (aw_pc (pc' := 16) rfl ?_)
    refine aw_iadd dX12_is_16 (aw_pc (pc' := 17) rfl ?_)
    refine ar_aI dX12_is_17 h ?_
    clear h
    intro x6 h
    refine aw_pc (pc' := 18) rfl ?_
    refine aw_goto (tgt := 38) dX12_is_18 rfl ?_
    exact aw_iret rfl dX12_is_38 ⟨_, rfl, h⟩
def mX12_entry (o : Nat) (a1 : Int) (a2 : Int) (F : hp) (Q : Int → hp → Prop) : Prop := gR F (some o) 12 0 (fun x1 => aI F x1 0 (1924 + a1) (fun x2 => (w32 a2 = 0 → Q ((w32 x2).tdiv 54) F) ∧ (¬ w32 a2 = 0 → (w32 a2 = 1 → Q (((w32 ((w32 x2).tdiv 9)).tmod 6) - 1) F) ∧ (¬ w32 a2 = 1 → (w32 a2 = 2 → Q ((w32 ((w32 x2).tdiv 3)).tmod 3) F) ∧ (¬ w32 a2 = 2 → Q ((w32 x2).tmod 3) F)))))
set_option maxHeartbeats 4000000 in
theorem tX12_entry {d : Nat} {o : Nat} {a1 : Int} {a2 : Int} {F : hp} {Q : Int → hp → Prop} (h : mX12_entry o a1 a2 F Q) : am nX12_entry d 0 0 [vr (some o), vi a1, vi a2] F (qI Q) := by
  refine am_of (by decide +kernel) (Nat.le_of_ble_eq_true rfl) ?_
  show aw nX12_entry d 0 0 0 [some (vr (some o)), some (vi a1), some (vi a2), none] [] F (qI Q)
  unfold mX12_entry at h
  refine aw_aload_n dX12_entry_0 rfl rfl (aw_pc (pc' := 1) rfl ?_)
  refine ar_gR fl_RX12_7 dX12_entry_1 h ?_
  clear h
  intro x1 h
  refine aw_pc (pc' := 4) rfl ?_
  refine aw_sipush dX12_entry_4 (by decide) (aw_pc (pc' := 7) rfl ?_)
  refine aw_iload_n dX12_entry_7 rfl rfl (aw_pc (pc' := 8) rfl ?_)
  refine aw_iadd dX12_entry_8 (aw_pc (pc' := 9) rfl ?_)
  refine ar_aI dX12_entry_9 h ?_
  clear h
  intro x2 h
  refine aw_pc (pc' := 10) rfl ?_
  refine aw_istore_n dX12_entry_10 rfl (by decide) (aw_pc (pc' := 11) rfl ?_)
  refine aw_iload_n dX12_entry_11 rfl rfl (aw_pc (pc' := 12) rfl ?_)
  refine aw_if_ne dX12_entry_12 rfl (fun c => ?_) (fun c => ?_)
  · replace h := h.1 c
    refine aw_iload_n dX12_entry_15 rfl rfl (aw_pc (pc' := 16) rfl ?_)
    refine aw_bipush dX12_entry_16 (by decide) (aw_pc (pc' := 18) rfl ?_)
    refine ac_div wl_54 (by decide) dX12_entry_18 (aw_pc (pc' := 19) rfl ?_)
    refine aw_goto (tgt := 55) dX12_entry_19 rfl ?_
    exact aw_iret rfl dX12_entry_55 ⟨_, rfl, h⟩
  · replace h := h.2 c
    refine aw_iload_n dX12_entry_22 rfl rfl (aw_pc (pc' := 23) rfl ?_)
    refine aw_iconst dX12_entry_23 (aw_pc (pc' := 24) rfl ?_)
    refine ac_ne rfl wl_1 dX12_entry_24 rfl (fun c => ?_) (fun c => ?_)
    · replace h := h.1 c
      refine aw_iload_n dX12_entry_27 rfl rfl (aw_pc (pc' := 28) rfl ?_)
      refine aw_bipush dX12_entry_28 (by decide) (aw_pc (pc' := 30) rfl ?_)
      refine ac_div wl_9 (by decide) dX12_entry_30 (aw_pc (pc' := 31) rfl ?_)
      refine aw_bipush dX12_entry_31 (by decide) (aw_pc (pc' := 33) rfl ?_)
      refine ac_rem wl_6 (by decide) dX12_entry_33 (aw_pc (pc' := 34) rfl ?_)
      refine aw_iconst dX12_entry_34 (aw_pc (pc' := 35) rfl ?_)
      refine aw_isub dX12_entry_35 (aw_pc (pc' := 36) rfl ?_)
      refine aw_goto (tgt := 55) dX12_entry_36 rfl ?_
      exact aw_iret rfl dX12_entry_55 ⟨_, rfl, h⟩
    · replace h := h.2 c
      refine aw_iload_n dX12_entry_39 rfl rfl (aw_pc (pc' := 40) rfl ?_)
      refine aw_iconst dX12_entry_40 (aw_pc (pc' := 41) rfl ?_)
      refine ac_ne rfl wl_2 dX12_entry_41 rfl (fun c => ?_) (fun c => ?_)
      · replace h := h.1 c
        refine aw_iload_n dX12_entry_44 rfl rfl (aw_pc (pc' := 45) rfl ?_)
        refine aw_iconst dX12_entry_45 (aw_pc (pc' := 46) rfl ?_)
        refine ac_div wl_3 (by decide) dX12_entry_46 (aw_pc (pc' := 47) rfl ?_)
        refine aw_iconst dX12_entry_47 (aw_pc (pc' := 48) rfl ?_)
        refine ac_rem wl_3 (by decide) dX12_entry_48 (aw_pc (pc' := 49) rfl ?_)
        refine aw_goto (tgt := 55) dX12_entry_49 rfl ?_
        exact aw_iret rfl dX12_entry_55 ⟨_, rfl, h⟩
      · replace h := h.2 c
        refine aw_iload_n dX12_entry_52 rfl rfl (aw_pc (pc' := 53) rfl ?_)
        refine aw_iconst dX12_entry_53 (aw_pc (pc' := 54) rfl ?_)
        refine ac_rem wl_3 (by decide) dX12_entry_54 (aw_pc (pc' := 55) rfl ?_)
        exact aw_iret rfl dX12_entry_55 ⟨_, rfl, h⟩
def mX12_book (o : Nat) (a1 : Int) (a2 : Int) (F : hp) (Q : Int → hp → Prop) : Prop := (w32 a1 = (-1) → gR F (some o) 12 0 (fun x1 => aI F x1 0 11 (fun x2 => Q x2 F))) ∧ (¬ w32 a1 = (-1) → gR F (some o) 12 0 (fun x3 => aI F x3 0 11 (fun x4 => mX12_isIn a1 0 (x4 - 1) F (fun x6 F5 => (w32 x6 = 0 → Q (-2) F5) ∧ (¬ w32 x6 = 0 → mX12_isIn a2 0 3 F5 (fun x8 F7 => (w32 x8 = 0 → Q (-2) F7) ∧ (¬ w32 x8 = 0 → rcv F7 (some o) 12 (fun o11 => mX12_entry o11 a1 a2 F7 (fun x10 F9 => Q x10 F9)))))))))
set_option maxHeartbeats 4000000 in
theorem tX12_book {d : Nat} {o : Nat} {a1 : Int} {a2 : Int} {F : hp} {Q : Int → hp → Prop} (h : mX12_book o a1 a2 F Q) : am nX12_book (d + 1) 0 0 [vr (some o), vi a1, vi a2] F (qI Q) := by
  refine am_of (by decide +kernel) (Nat.le_of_ble_eq_true rfl) ?_
  show aw nX12_book (d + 1) 0 0 0 [some (vr (some o)), some (vi a1), some (vi a2)] [] F (qI Q)
  unfold mX12_book at h
  refine aw_iload_n dX12_book_0 rfl rfl (aw_pc (pc' := 1) rfl ?_)
  refine aw_iconst dX12_book_1 (aw_pc (pc' := 2) rfl ?_)
  refine ac_ne rfl wl_m1 dX12_book_2 rfl (fun c => ?_) (fun c => ?_)
  · replace h := h.1 c
    refine aw_aload_n dX12_book_5 rfl rfl (aw_pc (pc' := 6) rfl ?_)
    refine ar_gR fl_RX12_7 dX12_book_6 h ?_
    clear h
    intro x1 h
    refine aw_pc (pc' := 9) rfl ?_
    refine aw_bipush dX12_book_9 (by decide) (aw_pc (pc' := 11) rfl ?_)
    refine ar_aI dX12_book_11 h ?_
    clear h
    intro x2 h
    refine aw_pc (pc' := 12) rfl ?_
    exact aw_iret rfl dX12_book_12 ⟨_, rfl, h⟩
  · replace h := h.2 c
    refine aw_iload_n dX12_book_13 rfl rfl (aw_pc (pc' := 14) rfl ?_)
    refine aw_iconst dX12_book_14 (aw_pc (pc' := 15) rfl ?_)
    refine aw_aload_n dX12_book_15 rfl rfl (aw_pc (pc' := 16) rfl ?_)
    refine ar_gR fl_RX12_7 dX12_book_16 h ?_
    clear h
    intro x3 h
    refine aw_pc (pc' := 19) rfl ?_
    refine aw_bipush dX12_book_19 (by decide) (aw_pc (pc' := 21) rfl ?_)
    refine ar_aI dX12_book_21 h ?_
    clear h
    intro x4 h
    refine aw_pc (pc' := 22) rfl ?_
    refine aw_iconst dX12_book_22 (aw_pc (pc' := 23) rfl ?_)
    refine aw_isub dX12_book_23 (aw_pc (pc' := 24) rfl ?_)
    refine ar_SI (kc' := 0) (ks' := 0) (kc := 0) (ks := 0) (as := [vi a1, vi 0, vi (x4 - 1)]) (st := []) (tX12_isIn h) mt_X12_isIn qM_RX12_78 qS_X12_isIn rfl (Nat.le_of_ble_eq_true rfl) dX12_book_24 ?_
    clear h
    intro x6 F5 h
    refine aw_pc (pc' := 27) rfl ?_
    refine aw_if_eq dX12_book_27 rfl (fun c => ?_) (fun c => ?_)
    · replace h := h.1 c
      refine aw_bipush dX12_book_48 (by decide) (aw_pc (pc' := 50) rfl ?_)
      exact aw_iret rfl dX12_book_50 ⟨_, rfl, h⟩
    · replace h := h.2 c
      refine aw_iload_n dX12_book_30 rfl rfl (aw_pc (pc' := 31) rfl ?_)
      refine aw_iconst dX12_book_31 (aw_pc (pc' := 32) rfl ?_)
      refine aw_iconst dX12_book_32 (aw_pc (pc' := 33) rfl ?_)
      refine ar_SI (kc' := 0) (ks' := 0) (kc := 0) (ks := 0) (as := [vi a2, vi 0, vi 3]) (st := []) (tX12_isIn h) mt_X12_isIn qM_RX12_78 qS_X12_isIn rfl (Nat.le_of_ble_eq_true rfl) dX12_book_33 ?_
      clear h
      intro x8 F7 h
      refine aw_pc (pc' := 36) rfl ?_
      refine aw_if_eq dX12_book_36 rfl (fun c => ?_) (fun c => ?_)
      · replace h := h.1 c
        refine aw_bipush dX12_book_48 (by decide) (aw_pc (pc' := 50) rfl ?_)
        exact aw_iret rfl dX12_book_50 ⟨_, rfl, h⟩
      · replace h := h.2 c
        refine aw_aload_n dX12_book_39 rfl rfl (aw_pc (pc' := 40) rfl ?_)
        refine aw_iload_n dX12_book_40 rfl rfl (aw_pc (pc' := 41) rfl ?_)
        refine aw_iload_n dX12_book_41 rfl rfl (aw_pc (pc' := 42) rfl ?_)
        have h0 := rcv_inv h
        clear h
        obtain ⟨o11, fs_o11, hr_o11, he_o11, h⟩ := h0
        obtain rfl : o = o11 := Option.some.inj hr_o11
        refine ar_VI (kc' := 0) (ks' := 0) (kc := 0) (ks := 0) (a := o) (ci := 12) (as := [vi a1, vi a2]) (st := []) (tX12_entry h) mt_X12_entry rfl qM_RX12_398 qI_X12_entry qV_X12_entry he_o11 rfl (Nat.le_of_ble_eq_true rfl) dX12_book_42 ?_
        clear h
        intro x10 F9 h
        refine aw_pc (pc' := 45) rfl ?_
        refine aw_goto (tgt := 50) dX12_book_45 rfl ?_
        exact aw_iret rfl dX12_book_50 ⟨_, rfl, h⟩
def mX12_ledger_J43 (X16 : Nat → Int → Int → Int → hp → Prop) (Q : Int → hp → Prop) (o : Nat) (a1 : Int) (a3 : Int) (s0 : Int) (s1 : Int) (F : hp) : Prop := ∀ v1 : Int, v1 = (s0 + s1) → X16 o a1 v1 (a3 + 1) F
set_option maxHeartbeats 4000000 in
theorem tX12_ledger_J43 {d : Nat} {X16 : Nat → Int → Int → Int → hp → Prop} {Q : Int → hp → Prop} (hX16 : ∀ (o : Nat) (a1 : Int) (a2 : Int) (a3 : Int) (F : hp), X16 o a1 a2 a3 F → aw nX12_ledger (d + 1) 0 0 16 [some (vr (some o)), some (vi a1), some (vi a2), some (vi a3)] [] F (qI Q)) {o : Nat} {a1 : Int} {a3 : Int} {s0 : Int} {s1 : Int} {F : hp} (h : mX12_ledger_J43 X16 Q o a1 a3 s0 s1 F) : aw nX12_ledger (d + 1) 0 0 43 [some (vr (some o)), some (vi a1), none, some (vi a3)] [vi s1, vi s0] F (qI Q) := by
  unfold mX12_ledger_J43 at h
  refine aw_iadd dX12_ledger_43 (aw_pc (pc' := 44) rfl ?_)
  generalize hv_v1 : (s0 + s1) = v1
  replace h := h v1 hv_v1.symm
  refine aw_istore_n dX12_ledger_44 rfl (by decide) (aw_pc (pc' := 45) rfl ?_)
  refine aw_iinc dX12_ledger_45 rfl (by decide) (aw_pc (pc' := 48) rfl ?_)
  refine aw_goto (tgt := 16) dX12_ledger_48 rfl ?_
  exact aw_mask [true, true, true, true] (hX16 _ _ _ _ _ h)
def mX12_ledger_L16 (Q : Int → hp → Prop) : Nat → Nat → Int → Int → Int → hp → Prop
  | 0, _, _, _, _, _ => False
  | k + 1, o, a1, a2, a3, F => gR F (some o) 12 0 (fun x1 => aI F x1 0 11 (fun x2 => (w32 a3 < w32 x2 → rcv F (some o) 12 (fun o5 => mX12_entry o5 a3 2 F (fun x4 F3 => (w32 x4 = w32 a1 → mX12_ledger_J43 (fun o' a1' a2' a3' F' => mX12_ledger_L16 Q k o' a1' a2' a3' F') Q o a1 a3 a2 1 F3) ∧ (¬ w32 x4 = w32 a1 → mX12_ledger_J43 (fun o' a1' a2' a3' F' => mX12_ledger_L16 Q k o' a1' a2' a3' F') Q o a1 a3 a2 0 F3)))) ∧ (¬ w32 a3 < w32 x2 → Q a2 F)))
set_option maxHeartbeats 4000000 in
theorem tX12_ledger_L16 {d : Nat} {Q : Int → hp → Prop} : ∀ (k : Nat) (o : Nat) (a1 : Int) (a2 : Int) (a3 : Int) (F : hp), mX12_ledger_L16 Q k o a1 a2 a3 F → aw nX12_ledger (d + 1) 0 0 16 [some (vr (some o)), some (vi a1), some (vi a2), some (vi a3)] [] F (qI Q) := by
  intro k
  induction k with
  | zero => intro o a1 a2 a3 F h; exact h.elim
  | succ k ih =>
    intro o a1 a2 a3 F h
    simp only [mX12_ledger_L16] at h
    refine aw_iload_n dX12_ledger_16 rfl rfl (aw_pc (pc' := 17) rfl ?_)
    refine aw_aload_n dX12_ledger_17 rfl rfl (aw_pc (pc' := 18) rfl ?_)
    refine ar_gR fl_RX12_7 dX12_ledger_18 h ?_
    clear h
    intro x1 h
    refine aw_pc (pc' := 21) rfl ?_
    refine aw_bipush dX12_ledger_21 (by decide) (aw_pc (pc' := 23) rfl ?_)
    refine ar_aI dX12_ledger_23 h ?_
    clear h
    intro x2 h
    refine aw_pc (pc' := 24) rfl ?_
    refine ac_ge rfl rfl dX12_ledger_24 rfl (fun c => ?_) (fun c => ?_)
    · replace h := h.1 c
      refine aw_iload_n dX12_ledger_27 rfl rfl (aw_pc (pc' := 28) rfl ?_)
      refine aw_aload_n dX12_ledger_28 rfl rfl (aw_pc (pc' := 29) rfl ?_)
      refine aw_iload_n dX12_ledger_29 rfl rfl (aw_pc (pc' := 30) rfl ?_)
      refine aw_iconst dX12_ledger_30 (aw_pc (pc' := 31) rfl ?_)
      have h0 := rcv_inv h
      clear h
      obtain ⟨o5, fs_o5, hr_o5, he_o5, h⟩ := h0
      obtain rfl : o = o5 := Option.some.inj hr_o5
      refine ar_VI (kc' := 0) (ks' := 0) (kc := 0) (ks := 0) (a := o) (ci := 12) (as := [vi a3, vi 2]) (st := [vi a2]) (tX12_entry h) mt_X12_entry rfl qM_RX12_398 qI_X12_entry qV_X12_entry he_o5 rfl (Nat.le_of_ble_eq_true rfl) dX12_ledger_31 ?_
      clear h
      intro x4 F3 h
      refine aw_pc (pc' := 34) rfl ?_
      refine aw_iload_n dX12_ledger_34 rfl rfl (aw_pc (pc' := 35) rfl ?_)
      refine ac_ne rfl rfl dX12_ledger_35 rfl (fun c => ?_) (fun c => ?_)
      · replace h := h.1 c
        refine aw_iconst dX12_ledger_38 (aw_pc (pc' := 39) rfl ?_)
        refine aw_goto (tgt := 43) dX12_ledger_39 rfl ?_
        exact aw_mask [true, true, false, true] (tX12_ledger_J43 (fun o' a1' a2' a3' F' h' => ih o' a1' a2' a3' F' h') h)
      · replace h := h.2 c
        refine aw_iconst dX12_ledger_42 (aw_pc (pc' := 43) rfl ?_)
        exact aw_mask [true, true, false, true] (tX12_ledger_J43 (fun o' a1' a2' a3' F' h' => ih o' a1' a2' a3' F' h') h)
    · replace h := h.2 c
      refine aw_iload_n dX12_ledger_51 rfl rfl (aw_pc (pc' := 52) rfl ?_)
      exact aw_iret rfl dX12_ledger_52 ⟨_, rfl, h⟩
def mX12_ledger (o : Nat) (a1 : Int) (F : hp) (Q : Int → hp → Prop) : Prop := mX12_isIn a1 0 2 F (fun x2 F1 => (w32 x2 = 0 → Q (-2) F1) ∧ (¬ w32 x2 = 0 → (∃ k3, mX12_ledger_L16 Q k3 o a1 0 0 F1)))
set_option maxHeartbeats 4000000 in
theorem tX12_ledger {d : Nat} {o : Nat} {a1 : Int} {F : hp} {Q : Int → hp → Prop} (h : mX12_ledger o a1 F Q) : am nX12_ledger (d + 1) 0 0 [vr (some o), vi a1] F (qI Q) := by
  refine am_of (by decide +kernel) (Nat.le_of_ble_eq_true rfl) ?_
  show aw nX12_ledger (d + 1) 0 0 0 [some (vr (some o)), some (vi a1), none, none] [] F (qI Q)
  unfold mX12_ledger at h
  refine aw_iload_n dX12_ledger_0 rfl rfl (aw_pc (pc' := 1) rfl ?_)
  refine aw_iconst dX12_ledger_1 (aw_pc (pc' := 2) rfl ?_)
  refine aw_iconst dX12_ledger_2 (aw_pc (pc' := 3) rfl ?_)
  refine ar_SI (kc' := 0) (ks' := 0) (kc := 0) (ks := 0) (as := [vi a1, vi 0, vi 2]) (st := []) (tX12_isIn h) mt_X12_isIn qM_RX12_78 qS_X12_isIn rfl (Nat.le_of_ble_eq_true rfl) dX12_ledger_3 ?_
  clear h
  intro x2 F1 h
  refine aw_pc (pc' := 6) rfl ?_
  refine aw_if_ne dX12_ledger_6 rfl (fun c => ?_) (fun c => ?_)
  · replace h := h.1 c
    refine aw_bipush dX12_ledger_9 (by decide) (aw_pc (pc' := 11) rfl ?_)
    exact aw_iret rfl dX12_ledger_11 ⟨_, rfl, h⟩
  · replace h := h.2 c
    refine aw_iconst dX12_ledger_12 (aw_pc (pc' := 13) rfl ?_)
    refine aw_istore_n dX12_ledger_13 rfl (by decide) (aw_pc (pc' := 14) rfl ?_)
    refine aw_iconst dX12_ledger_14 (aw_pc (pc' := 15) rfl ?_)
    refine aw_istore_n dX12_ledger_15 rfl (by decide) (aw_pc (pc' := 16) rfl ?_)
    obtain ⟨k3, h⟩ := h
    exact aw_mask [true, true, true, true] (tX12_ledger_L16 k3 _ _ _ _ _ h)
def mX12_loadOf_L4 (Q : Int → hp → Prop) : Nat → Nat → Int → Int → Int → hp → Prop
  | 0, _, _, _, _, _ => False
  | k + 1, o, a1, a2, a3, F => gR F (some o) 12 0 (fun x1 => aI F x1 0 (12 + a1) (fun x2 => (w32 a3 < w32 x2 → gR F (some o) 12 0 (fun x3 => rcv F (some o) 12 (fun o6 => mX12_carOn o6 a1 a3 F (fun x5 F4 => aI F4 x3 0 (41 + x5) (fun x7 => ∀ v8 : Int, v8 = (a2 + x7) → mX12_loadOf_L4 Q k o a1 v8 (a3 + 1) F4))))) ∧ (¬ w32 a3 < w32 x2 → Q a2 F)))
set_option maxHeartbeats 4000000 in
theorem tX12_loadOf_L4 {d : Nat} {Q : Int → hp → Prop} : ∀ (k : Nat) (o : Nat) (a1 : Int) (a2 : Int) (a3 : Int) (F : hp), mX12_loadOf_L4 Q k o a1 a2 a3 F → aw nX12_loadOf (d + 1) 0 0 4 [some (vr (some o)), some (vi a1), some (vi a2), some (vi a3)] [] F (qI Q) := by
  intro k
  induction k with
  | zero => intro o a1 a2 a3 F h; exact h.elim
  | succ k ih =>
    intro o a1 a2 a3 F h
    simp only [mX12_loadOf_L4] at h
    refine aw_iload_n dX12_loadOf_4 rfl rfl (aw_pc (pc' := 5) rfl ?_)
    refine aw_aload_n dX12_loadOf_5 rfl rfl (aw_pc (pc' := 6) rfl ?_)
    refine ar_gR fl_RX12_7 dX12_loadOf_6 h ?_
    clear h
    intro x1 h
    refine aw_pc (pc' := 9) rfl ?_
    refine aw_bipush dX12_loadOf_9 (by decide) (aw_pc (pc' := 11) rfl ?_)
    refine aw_iload_n dX12_loadOf_11 rfl rfl (aw_pc (pc' := 12) rfl ?_)
    refine aw_iadd dX12_loadOf_12 (aw_pc (pc' := 13) rfl ?_)
    refine ar_aI dX12_loadOf_13 h ?_
    clear h
    intro x2 h
    refine aw_pc (pc' := 14) rfl ?_
    refine ac_ge rfl rfl dX12_loadOf_14 rfl (fun c => ?_) (fun c => ?_)
    · replace h := h.1 c
      refine aw_iload_n dX12_loadOf_17 rfl rfl (aw_pc (pc' := 18) rfl ?_)
      refine aw_aload_n dX12_loadOf_18 rfl rfl (aw_pc (pc' := 19) rfl ?_)
      refine ar_gR fl_RX12_7 dX12_loadOf_19 h ?_
      clear h
      intro x3 h
      refine aw_pc (pc' := 22) rfl ?_
      refine aw_bipush dX12_loadOf_22 (by decide) (aw_pc (pc' := 24) rfl ?_)
      refine aw_aload_n dX12_loadOf_24 rfl rfl (aw_pc (pc' := 25) rfl ?_)
      refine aw_iload_n dX12_loadOf_25 rfl rfl (aw_pc (pc' := 26) rfl ?_)
      refine aw_iload_n dX12_loadOf_26 rfl rfl (aw_pc (pc' := 27) rfl ?_)
      have h0 := rcv_inv h
      clear h
      obtain ⟨o6, fs_o6, hr_o6, he_o6, h⟩ := h0
      obtain rfl : o = o6 := Option.some.inj hr_o6
      refine ar_VI (kc' := 0) (ks' := 0) (kc := 0) (ks := 0) (a := o) (ci := 12) (as := [vi a1, vi a3]) (st := [vi 41, vr x3, vi a2]) (tX12_carOn h) mt_X12_carOn rfl qM_RX12_82 qI_X12_carOn qV_X12_carOn he_o6 rfl (Nat.le_of_ble_eq_true rfl) dX12_loadOf_27 ?_
      clear h
      intro x5 F4 h
      refine aw_pc (pc' := 30) rfl ?_
      refine aw_iadd dX12_loadOf_30 (aw_pc (pc' := 31) rfl ?_)
      refine ar_aI dX12_loadOf_31 h ?_
      clear h
      intro x7 h
      refine aw_pc (pc' := 32) rfl ?_
      refine aw_iadd dX12_loadOf_32 (aw_pc (pc' := 33) rfl ?_)
      generalize hv_v8 : (a2 + x7) = v8
      replace h := h v8 hv_v8.symm
      refine aw_istore_n dX12_loadOf_33 rfl (by decide) (aw_pc (pc' := 34) rfl ?_)
      refine aw_iinc dX12_loadOf_34 rfl (by decide) (aw_pc (pc' := 37) rfl ?_)
      refine aw_goto (tgt := 4) dX12_loadOf_37 rfl ?_
      exact aw_mask [true, true, true, true] (ih _ _ _ _ _ h)
    · replace h := h.2 c
      refine aw_iload_n dX12_loadOf_40 rfl rfl (aw_pc (pc' := 41) rfl ?_)
      exact aw_iret rfl dX12_loadOf_41 ⟨_, rfl, h⟩
def mX12_loadOf (o : Nat) (a1 : Int) (F : hp) (Q : Int → hp → Prop) : Prop := (∃ k1, mX12_loadOf_L4 Q k1 o a1 0 0 F)
set_option maxHeartbeats 4000000 in
theorem tX12_loadOf {d : Nat} {o : Nat} {a1 : Int} {F : hp} {Q : Int → hp → Prop} (h : mX12_loadOf o a1 F Q) : am nX12_loadOf (d + 1) 0 0 [vr (some o), vi a1] F (qI Q) := by
  refine am_of (by decide +kernel) (Nat.le_of_ble_eq_true rfl) ?_
  show aw nX12_loadOf (d + 1) 0 0 0 [some (vr (some o)), some (vi a1), none, none] [] F (qI Q)
  unfold mX12_loadOf at h
  refine aw_iconst dX12_loadOf_0 (aw_pc (pc' := 1) rfl ?_)
  refine aw_istore_n dX12_loadOf_1 rfl (by decide) (aw_pc (pc' := 2) rfl ?_)
  refine aw_iconst dX12_loadOf_2 (aw_pc (pc' := 3) rfl ?_)
  refine aw_istore_n dX12_loadOf_3 rfl (by decide) (aw_pc (pc' := 4) rfl ?_)
  obtain ⟨k1, h⟩ := h
  exact aw_mask [true, true, true, true] (tX12_loadOf_L4 k1 _ _ _ _ _ h)
def mX12_heaviest_J33 (X4 : Nat → Int → Int → hp → Prop) (Q : Int → hp → Prop) (o : Nat) (a1 : Int) (a2 : Int) (F : hp) : Prop := X4 o a1 (a2 + 1) F
set_option maxHeartbeats 4000000 in
theorem tX12_heaviest_J33 {d : Nat} {X4 : Nat → Int → Int → hp → Prop} {Q : Int → hp → Prop} (hX4 : ∀ (o : Nat) (a1 : Int) (a2 : Int) (F : hp), X4 o a1 a2 F → aw nX12_heaviest (d + 2) 0 0 4 [some (vr (some o)), some (vi a1), some (vi a2)] [] F (qI Q)) {o : Nat} {a1 : Int} {a2 : Int} {F : hp} (h : mX12_heaviest_J33 X4 Q o a1 a2 F) : aw nX12_heaviest (d + 2) 0 0 33 [some (vr (some o)), some (vi a1), some (vi a2)] [] F (qI Q) := by
  unfold mX12_heaviest_J33 at h
  refine aw_iinc dX12_heaviest_33 rfl (by decide) (aw_pc (pc' := 36) rfl ?_)
  refine aw_goto (tgt := 4) dX12_heaviest_36 rfl ?_
  exact aw_mask [true, true, true] (hX4 _ _ _ _ h)
def mX12_heaviest_J28 (X4 : Nat → Int → Int → hp → Prop) (Q : Int → hp → Prop) (o : Nat) (a1 : Int) (a2 : Int) (s0 : Int) (s1 : Int) (F : hp) : Prop := (w32 s1 < w32 s0 → mX12_heaviest_J33 X4 Q o a2 a2 F) ∧ (¬ w32 s1 < w32 s0 → mX12_heaviest_J33 X4 Q o a1 a2 F)
set_option maxHeartbeats 4000000 in
theorem tX12_heaviest_J28 {d : Nat} {X4 : Nat → Int → Int → hp → Prop} {Q : Int → hp → Prop} (hX4 : ∀ (o : Nat) (a1 : Int) (a2 : Int) (F : hp), X4 o a1 a2 F → aw nX12_heaviest (d + 2) 0 0 4 [some (vr (some o)), some (vi a1), some (vi a2)] [] F (qI Q)) {o : Nat} {a1 : Int} {a2 : Int} {s0 : Int} {s1 : Int} {F : hp} (h : mX12_heaviest_J28 X4 Q o a1 a2 s0 s1 F) : aw nX12_heaviest (d + 2) 0 0 28 [some (vr (some o)), some (vi a1), some (vi a2)] [vi s1, vi s0] F (qI Q) := by
  unfold mX12_heaviest_J28 at h
  refine ac_le rfl rfl dX12_heaviest_28 rfl (fun c => ?_) (fun c => ?_)
  · replace h := h.1 c
    refine aw_iload_n dX12_heaviest_31 rfl rfl (aw_pc (pc' := 32) rfl ?_)
    refine aw_istore_n dX12_heaviest_32 rfl (by decide) (aw_pc (pc' := 33) rfl ?_)
    exact aw_mask [true, true, true] (tX12_heaviest_J33 hX4 h)
  · replace h := h.2 c
    exact aw_mask [true, true, true] (tX12_heaviest_J33 hX4 h)
def mX12_heaviest_L4 (Q : Int → hp → Prop) : Nat → Nat → Int → Int → hp → Prop
  | 0, _, _, _, _ => False
  | k + 1, o, a1, a2, F => (w32 a2 < 3 → rcv F (some o) 12 (fun o3 => mX12_loadOf o3 a2 F (fun x2 F1 => (w32 a1 = (-1) → mX12_heaviest_J28 (fun o' a1' a2' F' => mX12_heaviest_L4 Q k o' a1' a2' F') Q o a1 a2 x2 0 F1) ∧ (¬ w32 a1 = (-1) → rcv F1 (some o) 12 (fun o6 => mX12_loadOf o6 a1 F1 (fun x5 F4 => mX12_heaviest_J28 (fun o' a1' a2' F' => mX12_heaviest_L4 Q k o' a1' a2' F') Q o a1 a2 x2 x5 F4)))))) ∧ (¬ w32 a2 < 3 → Q a1 F)
set_option maxHeartbeats 4000000 in
theorem tX12_heaviest_L4 {d : Nat} {Q : Int → hp → Prop} : ∀ (k : Nat) (o : Nat) (a1 : Int) (a2 : Int) (F : hp), mX12_heaviest_L4 Q k o a1 a2 F → aw nX12_heaviest (d + 2) 0 0 4 [some (vr (some o)), some (vi a1), some (vi a2)] [] F (qI Q) := by
  intro k
  induction k with
  | zero => intro o a1 a2 F h; exact h.elim
  | succ k ih =>
    intro o a1 a2 F h
    simp only [mX12_heaviest_L4] at h
    refine aw_iload_n dX12_heaviest_4 rfl rfl (aw_pc (pc' := 5) rfl ?_)
    refine aw_iconst dX12_heaviest_5 (aw_pc (pc' := 6) rfl ?_)
    refine ac_ge rfl wl_3 dX12_heaviest_6 rfl (fun c => ?_) (fun c => ?_)
    · replace h := h.1 c
      refine aw_aload_n dX12_heaviest_9 rfl rfl (aw_pc (pc' := 10) rfl ?_)
      refine aw_iload_n dX12_heaviest_10 rfl rfl (aw_pc (pc' := 11) rfl ?_)
      have h0 := rcv_inv h
      clear h
      obtain ⟨o3, fs_o3, hr_o3, he_o3, h⟩ := h0
      obtain rfl : o = o3 := Option.some.inj hr_o3
      refine ar_VI (kc' := 0) (ks' := 0) (kc := 0) (ks := 0) (a := o) (ci := 12) (as := [vi a2]) (st := []) (tX12_loadOf h) mt_X12_loadOf rfl qM_RX12_401 qI_X12_loadOf qV_X12_loadOf he_o3 rfl (Nat.le_of_ble_eq_true rfl) dX12_heaviest_11 ?_
      clear h
      intro x2 F1 h
      refine aw_pc (pc' := 14) rfl ?_
      refine aw_iload_n dX12_heaviest_14 rfl rfl (aw_pc (pc' := 15) rfl ?_)
      refine aw_iconst dX12_heaviest_15 (aw_pc (pc' := 16) rfl ?_)
      refine ac_ne rfl wl_m1 dX12_heaviest_16 rfl (fun c => ?_) (fun c => ?_)
      · replace h := h.1 c
        refine aw_iconst dX12_heaviest_19 (aw_pc (pc' := 20) rfl ?_)
        refine aw_goto (tgt := 28) dX12_heaviest_20 rfl ?_
        exact aw_mask [true, true, true] (tX12_heaviest_J28 (fun o' a1' a2' F' h' => ih o' a1' a2' F' h') h)
      · replace h := h.2 c
        refine aw_aload_n dX12_heaviest_23 rfl rfl (aw_pc (pc' := 24) rfl ?_)
        refine aw_iload_n dX12_heaviest_24 rfl rfl (aw_pc (pc' := 25) rfl ?_)
        have h0 := rcv_inv h
        clear h
        obtain ⟨o6, fs_o6, hr_o6, he_o6, h⟩ := h0
        obtain rfl : o = o6 := Option.some.inj hr_o6
        refine ar_VI (kc' := 0) (ks' := 0) (kc := 0) (ks := 0) (a := o) (ci := 12) (as := [vi a1]) (st := [vi x2]) (tX12_loadOf h) mt_X12_loadOf rfl qM_RX12_401 qI_X12_loadOf qV_X12_loadOf he_o6 rfl (Nat.le_of_ble_eq_true rfl) dX12_heaviest_25 ?_
        clear h
        intro x5 F4 h
        refine aw_pc (pc' := 28) rfl ?_
        exact aw_mask [true, true, true] (tX12_heaviest_J28 (fun o' a1' a2' F' h' => ih o' a1' a2' F' h') h)
    · replace h := h.2 c
      refine aw_iload_n dX12_heaviest_39 rfl rfl (aw_pc (pc' := 40) rfl ?_)
      exact aw_iret rfl dX12_heaviest_40 ⟨_, rfl, h⟩
def mX12_heaviest (o : Nat) (F : hp) (Q : Int → hp → Prop) : Prop := (∃ k1, mX12_heaviest_L4 Q k1 o (-1) 0 F)
set_option maxHeartbeats 4000000 in
theorem tX12_heaviest {d : Nat} {o : Nat} {F : hp} {Q : Int → hp → Prop} (h : mX12_heaviest o F Q) : am nX12_heaviest (d + 2) 0 0 [vr (some o)] F (qI Q) := by
  refine am_of (by decide +kernel) (Nat.le_of_ble_eq_true rfl) ?_
  show aw nX12_heaviest (d + 2) 0 0 0 [some (vr (some o)), none, none] [] F (qI Q)
  unfold mX12_heaviest at h
  refine aw_iconst dX12_heaviest_0 (aw_pc (pc' := 1) rfl ?_)
  refine aw_istore_n dX12_heaviest_1 rfl (by decide) (aw_pc (pc' := 2) rfl ?_)
  refine aw_iconst dX12_heaviest_2 (aw_pc (pc' := 3) rfl ?_)
  refine aw_istore_n dX12_heaviest_3 rfl (by decide) (aw_pc (pc' := 4) rfl ?_)
  obtain ⟨k1, h⟩ := h
  exact aw_mask [true, true, true] (tX12_heaviest_L4 k1 _ _ _ _ h)
def mX12_worn_J46 (X4 : Nat → Int → Int → hp → Prop) (Q : Int → hp → Prop) (o : Nat) (a1 : Int) (a2 : Int) (F : hp) : Prop := X4 o a1 (a2 + 1) F
set_option maxHeartbeats 4000000 in
theorem tX12_worn_J46 {d : Nat} {X4 : Nat → Int → Int → hp → Prop} {Q : Int → hp → Prop} (hX4 : ∀ (o : Nat) (a1 : Int) (a2 : Int) (F : hp), X4 o a1 a2 F → aw nX12_worn d 0 0 4 [some (vr (some o)), some (vi a1), some (vi a2)] [] F (qI Q)) {o : Nat} {a1 : Int} {a2 : Int} {F : hp} (h : mX12_worn_J46 X4 Q o a1 a2 F) : aw nX12_worn d 0 0 46 [some (vr (some o)), some (vi a1), some (vi a2)] [] F (qI Q) := by
  unfold mX12_worn_J46 at h
  refine aw_iinc dX12_worn_46 rfl (by decide) (aw_pc (pc' := 49) rfl ?_)
  refine aw_goto (tgt := 4) dX12_worn_49 rfl ?_
  exact aw_mask [true, true, true] (hX4 _ _ _ _ h)
def mX12_worn_J41 (X4 : Nat → Int → Int → hp → Prop) (Q : Int → hp → Prop) (o : Nat) (a1 : Int) (a2 : Int) (s0 : Int) (s1 : Int) (F : hp) : Prop := (w32 s1 < w32 s0 → mX12_worn_J46 X4 Q o a2 a2 F) ∧ (¬ w32 s1 < w32 s0 → mX12_worn_J46 X4 Q o a1 a2 F)
set_option maxHeartbeats 4000000 in
theorem tX12_worn_J41 {d : Nat} {X4 : Nat → Int → Int → hp → Prop} {Q : Int → hp → Prop} (hX4 : ∀ (o : Nat) (a1 : Int) (a2 : Int) (F : hp), X4 o a1 a2 F → aw nX12_worn d 0 0 4 [some (vr (some o)), some (vi a1), some (vi a2)] [] F (qI Q)) {o : Nat} {a1 : Int} {a2 : Int} {s0 : Int} {s1 : Int} {F : hp} (h : mX12_worn_J41 X4 Q o a1 a2 s0 s1 F) : aw nX12_worn d 0 0 41 [some (vr (some o)), some (vi a1), some (vi a2)] [vi s1, vi s0] F (qI Q) := by
  unfold mX12_worn_J41 at h
  refine ac_le rfl rfl dX12_worn_41 rfl (fun c => ?_) (fun c => ?_)
  · replace h := h.1 c
    refine aw_iload_n dX12_worn_44 rfl rfl (aw_pc (pc' := 45) rfl ?_)
    refine aw_istore_n dX12_worn_45 rfl (by decide) (aw_pc (pc' := 46) rfl ?_)
    exact aw_mask [true, true, true] (tX12_worn_J46 hX4 h)
  · replace h := h.2 c
    exact aw_mask [true, true, true] (tX12_worn_J46 hX4 h)
def mX12_worn_L4 (Q : Int → hp → Prop) : Nat → Nat → Int → Int → hp → Prop
  | 0, _, _, _, _ => False
  | k + 1, o, a1, a2, F => gR F (some o) 12 0 (fun x1 => aI F x1 0 0 (fun x2 => (w32 a2 < w32 x2 → gR F (some o) 12 0 (fun x3 => aI F x3 0 (31 + a2) (fun x4 => (w32 a1 = (-1) → mX12_worn_J41 (fun o' a1' a2' F' => mX12_worn_L4 Q k o' a1' a2' F') Q o a1 a2 x4 0 F) ∧ (¬ w32 a1 = (-1) → gR F (some o) 12 0 (fun x5 => aI F x5 0 (31 + a1) (fun x6 => mX12_worn_J41 (fun o' a1' a2' F' => mX12_worn_L4 Q k o' a1' a2' F') Q o a1 a2 x4 x6 F)))))) ∧ (¬ w32 a2 < w32 x2 → Q a1 F)))
set_option maxHeartbeats 4000000 in
theorem tX12_worn_L4 {d : Nat} {Q : Int → hp → Prop} : ∀ (k : Nat) (o : Nat) (a1 : Int) (a2 : Int) (F : hp), mX12_worn_L4 Q k o a1 a2 F → aw nX12_worn d 0 0 4 [some (vr (some o)), some (vi a1), some (vi a2)] [] F (qI Q) := by
  intro k
  induction k with
  | zero => intro o a1 a2 F h; exact h.elim
  | succ k ih =>
    intro o a1 a2 F h
    simp only [mX12_worn_L4] at h
    refine aw_iload_n dX12_worn_4 rfl rfl (aw_pc (pc' := 5) rfl ?_)
    refine aw_aload_n dX12_worn_5 rfl rfl (aw_pc (pc' := 6) rfl ?_)
    refine ar_gR fl_RX12_7 dX12_worn_6 h ?_
    clear h
    intro x1 h
    refine aw_pc (pc' := 9) rfl ?_
    refine aw_iconst dX12_worn_9 (aw_pc (pc' := 10) rfl ?_)
    refine ar_aI dX12_worn_10 h ?_
    clear h
    intro x2 h
    refine aw_pc (pc' := 11) rfl ?_
    refine ac_ge rfl rfl dX12_worn_11 rfl (fun c => ?_) (fun c => ?_)
    · replace h := h.1 c
      refine aw_aload_n dX12_worn_14 rfl rfl (aw_pc (pc' := 15) rfl ?_)
      refine ar_gR fl_RX12_7 dX12_worn_15 h ?_
      clear h
      intro x3 h
      refine aw_pc (pc' := 18) rfl ?_
      refine aw_bipush dX12_worn_18 (by decide) (aw_pc (pc' := 20) rfl ?_)
      refine aw_iload_n dX12_worn_20 rfl rfl (aw_pc (pc' := 21) rfl ?_)
      refine aw_iadd dX12_worn_21 (aw_pc (pc' := 22) rfl ?_)
      refine ar_aI dX12_worn_22 h ?_
      clear h
      intro x4 h
      refine aw_pc (pc' := 23) rfl ?_
      refine aw_iload_n dX12_worn_23 rfl rfl (aw_pc (pc' := 24) rfl ?_)
      refine aw_iconst dX12_worn_24 (aw_pc (pc' := 25) rfl ?_)
      refine ac_ne rfl wl_m1 dX12_worn_25 rfl (fun c => ?_) (fun c => ?_)
      · replace h := h.1 c
        refine aw_iconst dX12_worn_28 (aw_pc (pc' := 29) rfl ?_)
        refine aw_goto (tgt := 41) dX12_worn_29 rfl ?_
        exact aw_mask [true, true, true] (tX12_worn_J41 (fun o' a1' a2' F' h' => ih o' a1' a2' F' h') h)
      · replace h := h.2 c
        refine aw_aload_n dX12_worn_32 rfl rfl (aw_pc (pc' := 33) rfl ?_)
        refine ar_gR fl_RX12_7 dX12_worn_33 h ?_
        clear h
        intro x5 h
        refine aw_pc (pc' := 36) rfl ?_
        refine aw_bipush dX12_worn_36 (by decide) (aw_pc (pc' := 38) rfl ?_)
        refine aw_iload_n dX12_worn_38 rfl rfl (aw_pc (pc' := 39) rfl ?_)
        refine aw_iadd dX12_worn_39 (aw_pc (pc' := 40) rfl ?_)
        refine ar_aI dX12_worn_40 h ?_
        clear h
        intro x6 h
        refine aw_pc (pc' := 41) rfl ?_
        exact aw_mask [true, true, true] (tX12_worn_J41 (fun o' a1' a2' F' h' => ih o' a1' a2' F' h') h)
    · replace h := h.2 c
      refine aw_iload_n dX12_worn_52 rfl rfl (aw_pc (pc' := 53) rfl ?_)
      exact aw_iret rfl dX12_worn_53 ⟨_, rfl, h⟩
def mX12_worn (o : Nat) (F : hp) (Q : Int → hp → Prop) : Prop := (∃ k1, mX12_worn_L4 Q k1 o (-1) 0 F)
set_option maxHeartbeats 4000000 in
theorem tX12_worn {d : Nat} {o : Nat} {F : hp} {Q : Int → hp → Prop} (h : mX12_worn o F Q) : am nX12_worn d 0 0 [vr (some o)] F (qI Q) := by
  refine am_of (by decide +kernel) (Nat.le_of_ble_eq_true rfl) ?_
  show aw nX12_worn d 0 0 0 [some (vr (some o)), none, none] [] F (qI Q)
  unfold mX12_worn at h
  refine aw_iconst dX12_worn_0 (aw_pc (pc' := 1) rfl ?_)
  refine aw_istore_n dX12_worn_1 rfl (by decide) (aw_pc (pc' := 2) rfl ?_)
  refine aw_iconst dX12_worn_2 (aw_pc (pc' := 3) rfl ?_)
  refine aw_istore_n dX12_worn_3 rfl (by decide) (aw_pc (pc' := 4) rfl ?_)
  obtain ⟨k1, h⟩ := h
  exact aw_mask [true, true, true] (tX12_worn_L4 k1 _ _ _ _ h)
