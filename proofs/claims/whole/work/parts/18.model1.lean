def mX12_copy_L2 (Q : hp → Prop) : Nat → Option Nat → Option Nat → Int → hp → Prop
  | 0, _, _, _, _ => False
  | k + 1, a0, a1, a2, F => (w32 a2 < 1954 → aI F a0 0 a2 (fun x1 => sI F a1 0 a2 x1 (fun F2 => mX12_copy_L2 Q k a0 a1 (a2 + 1) F2))) ∧ (¬ w32 a2 < 1954 → Q F)
set_option maxHeartbeats 4000000 in
theorem tX12_copy_L2 {d : Nat} {Q : hp → Prop} : ∀ (k : Nat) (a0 : Option Nat) (a1 : Option Nat) (a2 : Int) (F : hp), mX12_copy_L2 Q k a0 a1 a2 F → aw nX12_copy d 0 0 2 [some (vr a0), some (vr a1), some (vi a2)] [] F (qV Q) := by
  intro k
  induction k with
  | zero => intro a0 a1 a2 F h; exact h.elim
  | succ k ih =>
    intro a0 a1 a2 F h
    simp only [mX12_copy_L2] at h
    refine aw_iload_n dX12_copy_2 rfl rfl (aw_pc (pc' := 3) rfl ?_)
    refine aw_sipush dX12_copy_3 (by decide) (aw_pc (pc' := 6) rfl ?_)
    refine ac_ge rfl wl_1954 dX12_copy_6 rfl (fun c => ?_) (fun c => ?_)
    · replace h := h.1 c
      refine aw_aload_n dX12_copy_9 rfl rfl (aw_pc (pc' := 10) rfl ?_)
      refine aw_iload_n dX12_copy_10 rfl rfl (aw_pc (pc' := 11) rfl ?_)
      refine aw_aload_n dX12_copy_11 rfl rfl (aw_pc (pc' := 12) rfl ?_)
      refine aw_iload_n dX12_copy_12 rfl rfl (aw_pc (pc' := 13) rfl ?_)
      refine ar_aI dX12_copy_13 h ?_
      clear h
      intro x1 h
      refine aw_pc (pc' := 14) rfl ?_
      refine ar_sI dX12_copy_14 h ?_
      clear h
      intro F2 h
      refine aw_pc (pc' := 15) rfl ?_
      refine aw_iinc dX12_copy_15 rfl (by decide) (aw_pc (pc' := 18) rfl ?_)
      refine aw_goto (tgt := 2) dX12_copy_18 rfl ?_
      exact aw_mask [true, true, true] (ih _ _ _ _ h)
    · replace h := h.2 c
      exact aw_vret rfl dX12_copy_21 ⟨rfl, h⟩
def mX12_copy (a0 : Option Nat) (a1 : Option Nat) (F : hp) (Q : hp → Prop) : Prop := (∃ k1, mX12_copy_L2 Q k1 a0 a1 0 F)
set_option maxHeartbeats 4000000 in
theorem tX12_copy {d : Nat} {a0 : Option Nat} {a1 : Option Nat} {F : hp} {Q : hp → Prop} (h : mX12_copy a0 a1 F Q) : am nX12_copy d 0 0 [vr a0, vr a1] F (qV Q) := by
  refine am_of (by decide +kernel) (Nat.le_of_ble_eq_true rfl) ?_
  show aw nX12_copy d 0 0 0 [some (vr a0), some (vr a1), none] [] F (qV Q)
  unfold mX12_copy at h
  refine aw_iconst dX12_copy_0 (aw_pc (pc' := 1) rfl ?_)
  refine aw_istore_n dX12_copy_1 rfl (by decide) (aw_pc (pc' := 2) rfl ?_)
  obtain ⟨k1, h⟩ := h
  exact aw_mask [true, true, true] (tX12_copy_L2 k1 _ _ _ _ h)
def mX12_init_L196 (Q : hp → Prop) : Nat → Nat → Int → hp → Prop
  | 0, _, _, _ => False
  | k + 1, o, a1, F => (w32 a1 < 5 → gR F (some o) 12 0 (fun x1 => sI F x1 0 (46 + a1) 1 (fun F2 => gR F2 (some o) 12 0 (fun x3 => sI F2 x3 0 (51 + a1) 1 (fun F4 => mX12_init_L196 Q k o (a1 + 1) F4))))) ∧ (¬ w32 a1 < 5 → gR F (some o) 12 0 (fun x5 => gR F (some o) 12 1 (fun x6 => mX12_copy x5 x6 F (fun F7 => Q F7))))
set_option maxHeartbeats 4000000 in
theorem tX12_init_L196 {d : Nat} {Q : hp → Prop} : ∀ (k : Nat) (o : Nat) (a1 : Int) (F : hp), mX12_init_L196 Q k o a1 F → aw nX12_init (d + 1) 0 0 196 [some (vr (some o)), some (vi a1)] [] F (qV Q) := by
  intro k
  induction k with
  | zero => intro o a1 F h; exact h.elim
  | succ k ih =>
    intro o a1 F h
    simp only [mX12_init_L196] at h
    refine aw_iload_n dX12_init_196 rfl rfl (aw_pc (pc' := 197) rfl ?_)
    refine aw_iconst dX12_init_197 (aw_pc (pc' := 198) rfl ?_)
    refine ac_ge rfl wl_5 dX12_init_198 rfl (fun c => ?_) (fun c => ?_)
    · replace h := h.1 c
      refine aw_aload_n dX12_init_201 rfl rfl (aw_pc (pc' := 202) rfl ?_)
      refine ar_gR fl_RX12_7 dX12_init_202 h ?_
      clear h
      intro x1 h
      refine aw_pc (pc' := 205) rfl ?_
      refine aw_bipush dX12_init_205 (by decide) (aw_pc (pc' := 207) rfl ?_)
      refine aw_iload_n dX12_init_207 rfl rfl (aw_pc (pc' := 208) rfl ?_)
      refine aw_iadd dX12_init_208 (aw_pc (pc' := 209) rfl ?_)
      refine aw_iconst dX12_init_209 (aw_pc (pc' := 210) rfl ?_)
      refine ar_sI dX12_init_210 h ?_
      clear h
      intro F2 h
      refine aw_pc (pc' := 211) rfl ?_
      refine aw_aload_n dX12_init_211 rfl rfl (aw_pc (pc' := 212) rfl ?_)
      refine ar_gR fl_RX12_7 dX12_init_212 h ?_
      clear h
      intro x3 h
      refine aw_pc (pc' := 215) rfl ?_
      refine aw_bipush dX12_init_215 (by decide) (aw_pc (pc' := 217) rfl ?_)
      refine aw_iload_n dX12_init_217 rfl rfl (aw_pc (pc' := 218) rfl ?_)
      refine aw_iadd dX12_init_218 (aw_pc (pc' := 219) rfl ?_)
      refine aw_iconst dX12_init_219 (aw_pc (pc' := 220) rfl ?_)
      refine ar_sI dX12_init_220 h ?_
      clear h
      intro F4 h
      refine aw_pc (pc' := 221) rfl ?_
      refine aw_iinc dX12_init_221 rfl (by decide) (aw_pc (pc' := 224) rfl ?_)
      refine aw_goto (tgt := 196) dX12_init_224 rfl ?_
      exact aw_mask [true, true] (ih _ _ _ h)
    · replace h := h.2 c
      refine aw_aload_n dX12_init_227 rfl rfl (aw_pc (pc' := 228) rfl ?_)
      refine ar_gR fl_RX12_7 dX12_init_228 h ?_
      clear h
      intro x5 h
      refine aw_pc (pc' := 231) rfl ?_
      refine aw_aload_n dX12_init_231 rfl rfl (aw_pc (pc' := 232) rfl ?_)
      refine ar_gR fl_RX12_13 dX12_init_232 h ?_
      clear h
      intro x6 h
      refine aw_pc (pc' := 235) rfl ?_
      refine ar_SV (kc' := 0) (ks' := 0) (kc := 0) (ks := 0) (as := [vr x5, vr x6]) (st := []) (tX12_copy h) mt_X12_copy qM_RX12_74 qS_X12_copy rfl (Nat.le_of_ble_eq_true rfl) dX12_init_235 ?_
      clear h
      intro F7 h
      refine aw_pc (pc' := 238) rfl ?_
      exact aw_vret rfl dX12_init_238 ⟨rfl, h⟩
def mX12_init (o : Nat) (F : hp) (Q : hp → Prop) : Prop := nwc F (cA 0 1954 (fun _ => 0)) (fun n1 F2 => pF F2 (some o) 12 0 (vr (some n1)) (fun F3 => nwc F3 (cA 0 1954 (fun _ => 0)) (fun n4 F5 => pF F5 (some o) 12 1 (vr (some n4)) (fun F6 => nwc F6 (cA 0 2724 (fun _ => 0)) (fun n7 F8 => pF F8 (some o) 12 2 (vr (some n7)) (fun F9 => nwc F9 (cA 0 300 (fun _ => 0)) (fun n10 F11 => pF F11 (some o) 12 3 (vr (some n10)) (fun F12 => pF F12 (some o) 12 5 (vi (-1)) (fun F13 => pF F13 (some o) 12 6 (vi (-1)) (fun F14 => nwc F14 (cA 0 160 (fun _ => 0)) (fun n15 F16 => pF F16 (some o) 12 15 (vr (some n15)) (fun F17 => nwc F17 (cA 0 11 (fun _ => 0)) (fun n18 F19 => pF F19 (some o) 12 20 (vr (some n18)) (fun F20 => nwc F20 (cA 3 330 (fun _ => 0)) (fun n21 F22 => pF F22 (some o) 12 21 (vr (some n21)) (fun F23 => nwc F23 (cA 2 330 (fun _ => 0)) (fun n24 F25 => pF F25 (some o) 12 22 (vr (some n24)) (fun F26 => pF F26 (some o) 12 23 (vi 1) (fun F27 => nwc F27 (cA 0 36 (fun _ => 0)) (fun n28 F29 => pF F29 (some o) 12 25 (vr (some n28)) (fun F30 => nwc F30 (cA 0 5 (fun _ => 0)) (fun n31 F32 => pF F32 (some o) 12 26 (vr (some n31)) (fun F33 => nwc F33 (cA 0 5 (fun _ => 0)) (fun n34 F35 => pF F35 (some o) 12 27 (vr (some n34)) (fun F36 => nwc F36 (cA 0 3 (fun _ => 0)) (fun n37 F38 => pF F38 (some o) 12 28 (vr (some n37)) (fun F39 => nwc F39 (cA 0 4320 (fun _ => 0)) (fun n40 F41 => pF F41 (some o) 12 29 (vr (some n40)) (fun F42 => nwc F42 (cA 0 4320 (fun _ => 0)) (fun n43 F44 => pF F44 (some o) 12 30 (vr (some n43)) (fun F45 => nwc F45 (cA 0 4320 (fun _ => 0)) (fun n46 F47 => pF F47 (some o) 12 31 (vr (some n46)) (fun F48 => nwc F48 (cA 0 5 (fun _ => 0)) (fun n49 F50 => pF F50 (some o) 12 33 (vr (some n49)) (fun F51 => nwc F51 (cA 0 64 (fun _ => 0)) (fun n52 F53 => pF F53 (some o) 12 34 (vr (some n52)) (fun F54 => gR F54 (some o) 12 0 (fun x55 => sI F54 x55 0 8 353 (fun F56 => gR F56 (some o) 12 0 (fun x57 => sI F56 x57 0 2 (-1) (fun F58 => gR F58 (some o) 12 0 (fun x59 => sI F58 x59 0 9 1 (fun F60 => gR F60 (some o) 12 0 (fun x61 => sI F60 x61 0 10 1 (fun F62 => (∃ k63, mX12_init_L196 Q k63 o 0 F62))))))))))))))))))))))))))))))))))))))))))))))
set_option maxHeartbeats 4000000 in
theorem tX12_init {d : Nat} {o : Nat} {F : hp} {Q : hp → Prop} (h : mX12_init o F Q) : am nX12_init (d + 1) 17 20841 [vr (some o)] F (qV Q) := by
  refine am_of (by decide +kernel) (Nat.le_of_ble_eq_true rfl) ?_
  show aw nX12_init (d + 1) 17 20841 0 [some (vr (some o)), none] [] F (qV Q)
  unfold mX12_init at h
  refine aw_aload_n dX12_init_0 rfl rfl (aw_pc (pc' := 1) rfl ?_)
  refine aw_obj qM_RX12_1 mw_obj (Nat.le_of_ble_eq_true rfl) dX12_init_1 (aw_pc (pc' := 4) rfl ?_)
  refine aw_aload_n dX12_init_4 rfl rfl (aw_pc (pc' := 5) rfl ?_)
  refine aw_sipush dX12_init_5 (by decide) (aw_pc (pc' := 8) rfl ?_)
  refine ar_newarr (k := 0) (kc := 16) (ks := 18887) (ms := 1954) (Or.inl rfl) rfl qY_int (by decide) dX12_init_8 h ?_
  clear h
  intro n1 F2 h
  refine aw_pc (pc' := 10) rfl ?_
  refine ar_pFF fl_RX12_7 ft_X12_0 rfl rfl (okA _ _) dX12_init_10 h ?_
  clear h
  intro F3 h
  refine aw_pc (pc' := 13) rfl ?_
  refine aw_aload_n dX12_init_13 rfl rfl (aw_pc (pc' := 14) rfl ?_)
  refine aw_sipush dX12_init_14 (by decide) (aw_pc (pc' := 17) rfl ?_)
  refine ar_newarr (k := 0) (kc := 15) (ks := 16933) (ms := 1954) (Or.inl rfl) rfl qY_int (by decide) dX12_init_17 h ?_
  clear h
  intro n4 F5 h
  refine aw_pc (pc' := 19) rfl ?_
  refine ar_pFF fl_RX12_13 ft_X12_1 rfl rfl (okA _ _) dX12_init_19 h ?_
  clear h
  intro F6 h
  refine aw_pc (pc' := 22) rfl ?_
  refine aw_aload_n dX12_init_22 rfl rfl (aw_pc (pc' := 23) rfl ?_)
  refine aw_sipush dX12_init_23 (by decide) (aw_pc (pc' := 26) rfl ?_)
  refine ar_newarr (k := 0) (kc := 14) (ks := 14209) (ms := 2724) (Or.inl rfl) rfl qY_int (by decide) dX12_init_26 h ?_
  clear h
  intro n7 F8 h
  refine aw_pc (pc' := 28) rfl ?_
  refine ar_pFF fl_RX12_16 ft_X12_2 rfl rfl (okA _ _) dX12_init_28 h ?_
  clear h
  intro F9 h
  refine aw_pc (pc' := 31) rfl ?_
  refine aw_aload_n dX12_init_31 rfl rfl (aw_pc (pc' := 32) rfl ?_)
  refine aw_sipush dX12_init_32 (by decide) (aw_pc (pc' := 35) rfl ?_)
  refine ar_newarr (k := 0) (kc := 13) (ks := 13909) (ms := 300) (Or.inl rfl) rfl qY_int (by decide) dX12_init_35 h ?_
  clear h
  intro n10 F11 h
  refine aw_pc (pc' := 37) rfl ?_
  refine ar_pFF fl_RX12_19 ft_X12_3 rfl rfl (okA _ _) dX12_init_37 h ?_
  clear h
  intro F12 h
  refine aw_pc (pc' := 40) rfl ?_
  refine aw_aload_n dX12_init_40 rfl rfl (aw_pc (pc' := 41) rfl ?_)
  refine aw_iconst dX12_init_41 (aw_pc (pc' := 42) rfl ?_)
  refine ar_pF fl_RX12_22 ft_X12_5 (okI _) dX12_init_42 h ?_
  clear h
  intro F13 h
  refine aw_pc (pc' := 45) rfl ?_
  refine aw_aload_n dX12_init_45 rfl rfl (aw_pc (pc' := 46) rfl ?_)
  refine aw_iconst dX12_init_46 (aw_pc (pc' := 47) rfl ?_)
  refine ar_pF fl_RX12_26 ft_X12_6 (okI _) dX12_init_47 h ?_
  clear h
  intro F14 h
  refine aw_pc (pc' := 50) rfl ?_
  refine aw_aload_n dX12_init_50 rfl rfl (aw_pc (pc' := 51) rfl ?_)
  refine aw_sipush dX12_init_51 (by decide) (aw_pc (pc' := 54) rfl ?_)
  refine ar_newarr (k := 0) (kc := 12) (ks := 13749) (ms := 160) (Or.inl rfl) rfl qY_int (by decide) dX12_init_54 h ?_
  clear h
  intro n15 F16 h
  refine aw_pc (pc' := 56) rfl ?_
  refine ar_pFF fl_RX12_29 ft_X12_15 rfl rfl (okA _ _) dX12_init_56 h ?_
  clear h
  intro F17 h
  refine aw_pc (pc' := 59) rfl ?_
  refine aw_aload_n dX12_init_59 rfl rfl (aw_pc (pc' := 60) rfl ?_)
  refine aw_bipush dX12_init_60 (by decide) (aw_pc (pc' := 62) rfl ?_)
  refine ar_newarr (k := 0) (kc := 11) (ks := 13738) (ms := 11) (Or.inl rfl) rfl qY_int (by decide) dX12_init_62 h ?_
  clear h
  intro n18 F19 h
  refine aw_pc (pc' := 64) rfl ?_
  refine ar_pFF fl_RX12_32 ft_X12_20 rfl rfl (okA _ _) dX12_init_64 h ?_
  clear h
  intro F20 h
  refine aw_pc (pc' := 67) rfl ?_
  refine aw_aload_n dX12_init_67 rfl rfl (aw_pc (pc' := 68) rfl ?_)
  refine aw_sipush dX12_init_68 (by decide) (aw_pc (pc' := 71) rfl ?_)
  refine ar_newarr (k := 3) (kc := 10) (ks := 13408) (ms := 330) (Or.inr (Or.inr (Or.inr rfl))) rfl qY_long (by decide) dX12_init_71 h ?_
  clear h
  intro n21 F22 h
  refine aw_pc (pc' := 73) rfl ?_
  refine ar_pFF fl_RX12_35 ft_X12_21 rfl rfl (okA _ _) dX12_init_73 h ?_
  clear h
  intro F23 h
  refine aw_pc (pc' := 76) rfl ?_
  refine aw_aload_n dX12_init_76 rfl rfl (aw_pc (pc' := 77) rfl ?_)
  refine aw_sipush dX12_init_77 (by decide) (aw_pc (pc' := 80) rfl ?_)
  refine ar_newarr (k := 2) (kc := 9) (ks := 13078) (ms := 330) (Or.inr (Or.inr (Or.inl rfl))) rfl qY_boolean (by decide) dX12_init_80 h ?_
  clear h
  intro n24 F25 h
  refine aw_pc (pc' := 82) rfl ?_
  refine ar_pFF fl_RX12_39 ft_X12_22 rfl rfl (okA _ _) dX12_init_82 h ?_
  clear h
  intro F26 h
  refine aw_pc (pc' := 85) rfl ?_
  refine aw_aload_n dX12_init_85 rfl rfl (aw_pc (pc' := 86) rfl ?_)
  refine aw_iconst dX12_init_86 (aw_pc (pc' := 87) rfl ?_)
  refine ar_pF fl_RX12_43 ft_X12_23 (okZ (by decide)) dX12_init_87 h ?_
  clear h
  intro F27 h
  refine aw_pc (pc' := 90) rfl ?_
  refine aw_aload_n dX12_init_90 rfl rfl (aw_pc (pc' := 91) rfl ?_)
  refine aw_bipush dX12_init_91 (by decide) (aw_pc (pc' := 93) rfl ?_)
  refine ar_newarr (k := 0) (kc := 8) (ks := 13042) (ms := 36) (Or.inl rfl) rfl qY_int (by decide) dX12_init_93 h ?_
  clear h
  intro n28 F29 h
  refine aw_pc (pc' := 95) rfl ?_
  refine ar_pFF fl_RX12_47 ft_X12_25 rfl rfl (okA _ _) dX12_init_95 h ?_
  clear h
  intro F30 h
  refine aw_pc (pc' := 98) rfl ?_
  refine aw_aload_n dX12_init_98 rfl rfl (aw_pc (pc' := 99) rfl ?_)
  refine aw_iconst dX12_init_99 (aw_pc (pc' := 100) rfl ?_)
  refine ar_newarr (k := 0) (kc := 7) (ks := 13037) (ms := 5) (Or.inl rfl) rfl qY_int (by decide) dX12_init_100 h ?_
  clear h
  intro n31 F32 h
  refine aw_pc (pc' := 102) rfl ?_
  refine ar_pFF fl_RX12_50 ft_X12_26 rfl rfl (okA _ _) dX12_init_102 h ?_
  clear h
  intro F33 h
  refine aw_pc (pc' := 105) rfl ?_
  refine aw_aload_n dX12_init_105 rfl rfl (aw_pc (pc' := 106) rfl ?_)
  refine aw_iconst dX12_init_106 (aw_pc (pc' := 107) rfl ?_)
  refine ar_newarr (k := 0) (kc := 6) (ks := 13032) (ms := 5) (Or.inl rfl) rfl qY_int (by decide) dX12_init_107 h ?_
  clear h
  intro n34 F35 h
  refine aw_pc (pc' := 109) rfl ?_
  refine ar_pFF fl_RX12_53 ft_X12_27 rfl rfl (okA _ _) dX12_init_109 h ?_
  clear h
  intro F36 h
  refine aw_pc (pc' := 112) rfl ?_
  refine aw_aload_n dX12_init_112 rfl rfl (aw_pc (pc' := 113) rfl ?_)
  refine aw_iconst dX12_init_113 (aw_pc (pc' := 114) rfl ?_)
  refine ar_newarr (k := 0) (kc := 5) (ks := 13029) (ms := 3) (Or.inl rfl) rfl qY_int (by decide) dX12_init_114 h ?_
  clear h
  intro n37 F38 h
  refine aw_pc (pc' := 116) rfl ?_
  refine ar_pFF fl_RX12_56 ft_X12_28 rfl rfl (okA _ _) dX12_init_116 h ?_
  clear h
  intro F39 h
  refine aw_pc (pc' := 119) rfl ?_
  refine aw_aload_n dX12_init_119 rfl rfl (aw_pc (pc' := 120) rfl ?_)
  refine aw_sipush dX12_init_120 (by decide) (aw_pc (pc' := 123) rfl ?_)
  refine ar_newarr (k := 0) (kc := 4) (ks := 8709) (ms := 4320) (Or.inl rfl) rfl qY_int (by decide) dX12_init_123 h ?_
  clear h
  intro n40 F41 h
  refine aw_pc (pc' := 125) rfl ?_
  refine ar_pFF fl_RX12_59 ft_X12_29 rfl rfl (okA _ _) dX12_init_125 h ?_
  clear h
  intro F42 h
  refine aw_pc (pc' := 128) rfl ?_
  refine aw_aload_n dX12_init_128 rfl rfl (aw_pc (pc' := 129) rfl ?_)
  refine aw_sipush dX12_init_129 (by decide) (aw_pc (pc' := 132) rfl ?_)
  refine ar_newarr (k := 0) (kc := 3) (ks := 4389) (ms := 4320) (Or.inl rfl) rfl qY_int (by decide) dX12_init_132 h ?_
  clear h
  intro n43 F44 h
  refine aw_pc (pc' := 134) rfl ?_
  refine ar_pFF fl_RX12_62 ft_X12_30 rfl rfl (okA _ _) dX12_init_134 h ?_
  clear h
  intro F45 h
  refine aw_pc (pc' := 137) rfl ?_
  refine aw_aload_n dX12_init_137 rfl rfl (aw_pc (pc' := 138) rfl ?_)
  refine aw_sipush dX12_init_138 (by decide) (aw_pc (pc' := 141) rfl ?_)
  refine ar_newarr (k := 0) (kc := 2) (ks := 69) (ms := 4320) (Or.inl rfl) rfl qY_int (by decide) dX12_init_141 h ?_
  clear h
  intro n46 F47 h
  refine aw_pc (pc' := 143) rfl ?_
  refine ar_pFF fl_RX12_65 ft_X12_31 rfl rfl (okA _ _) dX12_init_143 h ?_
  clear h
  intro F48 h
  refine aw_pc (pc' := 146) rfl ?_
  refine aw_aload_n dX12_init_146 rfl rfl (aw_pc (pc' := 147) rfl ?_)
  refine aw_iconst dX12_init_147 (aw_pc (pc' := 148) rfl ?_)
  refine ar_newarr (k := 0) (kc := 1) (ks := 64) (ms := 5) (Or.inl rfl) rfl qY_int (by decide) dX12_init_148 h ?_
  clear h
  intro n49 F50 h
  refine aw_pc (pc' := 150) rfl ?_
  refine ar_pFF fl_RX12_68 ft_X12_33 rfl rfl (okA _ _) dX12_init_150 h ?_
  clear h
  intro F51 h
  refine aw_pc (pc' := 153) rfl ?_
  refine aw_aload_n dX12_init_153 rfl rfl (aw_pc (pc' := 154) rfl ?_)
  refine aw_bipush dX12_init_154 (by decide) (aw_pc (pc' := 156) rfl ?_)
  refine ar_newarr (k := 0) (kc := 0) (ks := 0) (ms := 64) (Or.inl rfl) rfl qY_int (by decide) dX12_init_156 h ?_
  clear h
  intro n52 F53 h
  refine aw_pc (pc' := 158) rfl ?_
  refine ar_pFF fl_RX12_71 ft_X12_34 rfl rfl (okA _ _) dX12_init_158 h ?_
  clear h
  intro F54 h
  refine aw_pc (pc' := 161) rfl ?_
  refine aw_aload_n dX12_init_161 rfl rfl (aw_pc (pc' := 162) rfl ?_)
  refine ar_gR fl_RX12_7 dX12_init_162 h ?_
  clear h
  intro x55 h
  refine aw_pc (pc' := 165) rfl ?_
  refine aw_bipush dX12_init_165 (by decide) (aw_pc (pc' := 167) rfl ?_)
  refine aw_sipush dX12_init_167 (by decide) (aw_pc (pc' := 170) rfl ?_)
  refine ar_sI dX12_init_170 h ?_
  clear h
  intro F56 h
  refine aw_pc (pc' := 171) rfl ?_
  refine aw_aload_n dX12_init_171 rfl rfl (aw_pc (pc' := 172) rfl ?_)
  refine ar_gR fl_RX12_7 dX12_init_172 h ?_
  clear h
  intro x57 h
  refine aw_pc (pc' := 175) rfl ?_
  refine aw_iconst dX12_init_175 (aw_pc (pc' := 176) rfl ?_)
  refine aw_iconst dX12_init_176 (aw_pc (pc' := 177) rfl ?_)
  refine ar_sI dX12_init_177 h ?_
  clear h
  intro F58 h
  refine aw_pc (pc' := 178) rfl ?_
  refine aw_aload_n dX12_init_178 rfl rfl (aw_pc (pc' := 179) rfl ?_)
  refine ar_gR fl_RX12_7 dX12_init_179 h ?_
  clear h
  intro x59 h
  refine aw_pc (pc' := 182) rfl ?_
  refine aw_bipush dX12_init_182 (by decide) (aw_pc (pc' := 184) rfl ?_)
  refine aw_iconst dX12_init_184 (aw_pc (pc' := 185) rfl ?_)
  refine ar_sI dX12_init_185 h ?_
  clear h
  intro F60 h
  refine aw_pc (pc' := 186) rfl ?_
  refine aw_aload_n dX12_init_186 rfl rfl (aw_pc (pc' := 187) rfl ?_)
  refine ar_gR fl_RX12_7 dX12_init_187 h ?_
  clear h
  intro x61 h
  refine aw_pc (pc' := 190) rfl ?_
  refine aw_bipush dX12_init_190 (by decide) (aw_pc (pc' := 192) rfl ?_)
  refine aw_iconst dX12_init_192 (aw_pc (pc' := 193) rfl ?_)
  refine ar_sI dX12_init_193 h ?_
  clear h
  intro F62 h
  refine aw_pc (pc' := 194) rfl ?_
  refine aw_iconst dX12_init_194 (aw_pc (pc' := 195) rfl ?_)
  refine aw_istore_n dX12_init_195 rfl (by decide) (aw_pc (pc' := 196) rfl ?_)
  obtain ⟨k63, h⟩ := h
  exact aw_mask [true, true] (tX12_init_L196 k63 _ _ _ h)
def mX12_isIn (a0 : Int) (a1 : Int) (a2 : Int) (F : hp) (Q : Int → hp → Prop) : Prop := (w32 a0 < w32 a1 → Q 0 F) ∧ (¬ w32 a0 < w32 a1 → (w32 a2 < w32 a0 → Q 0 F) ∧ (¬ w32 a2 < w32 a0 → Q 1 F))
set_option maxHeartbeats 4000000 in
theorem tX12_isIn {d : Nat} {a0 : Int} {a1 : Int} {a2 : Int} {F : hp} {Q : Int → hp → Prop} (h : mX12_isIn a0 a1 a2 F Q) : am nX12_isIn d 0 0 [vi a0, vi a1, vi a2] F (qI Q) := by
  refine am_of (by decide +kernel) (Nat.le_of_ble_eq_true rfl) ?_
  show aw nX12_isIn d 0 0 0 [some (vi a0), some (vi a1), some (vi a2)] [] F (qI Q)
  unfold mX12_isIn at h
  refine aw_iload_n dX12_isIn_0 rfl rfl (aw_pc (pc' := 1) rfl ?_)
  refine aw_iload_n dX12_isIn_1 rfl rfl (aw_pc (pc' := 2) rfl ?_)
  refine ac_lt rfl rfl dX12_isIn_2 rfl (fun c => ?_) (fun c => ?_)
  · replace h := h.1 c
    refine aw_iconst dX12_isIn_14 (aw_pc (pc' := 15) rfl ?_)
    exact aw_zret rfl (by decide) dX12_isIn_15 ⟨_, rfl, h⟩
  · replace h := h.2 c
    refine aw_iload_n dX12_isIn_5 rfl rfl (aw_pc (pc' := 6) rfl ?_)
    refine aw_iload_n dX12_isIn_6 rfl rfl (aw_pc (pc' := 7) rfl ?_)
    refine ac_gt rfl rfl dX12_isIn_7 rfl (fun c => ?_) (fun c => ?_)
    · replace h := h.1 c
      refine aw_iconst dX12_isIn_14 (aw_pc (pc' := 15) rfl ?_)
      exact aw_zret rfl (by decide) dX12_isIn_15 ⟨_, rfl, h⟩
    · replace h := h.2 c
      refine aw_iconst dX12_isIn_10 (aw_pc (pc' := 11) rfl ?_)
      refine aw_goto (tgt := 15) dX12_isIn_11 rfl ?_
      exact aw_zret rfl (by decide) dX12_isIn_15 ⟨_, rfl, h⟩
def mX12_cut (a0 : Int) (a2 : Int) (a3 : Int) (F : hp) (Q : Int → hp → Prop) : Prop := (w32 (iCmp a0 (w32 a2)) < 0 → Q a2 F) ∧ (¬ w32 (iCmp a0 (w32 a2)) < 0 → (0 < w32 (iCmp a0 (w32 a3)) → Q a3 F) ∧ (¬ 0 < w32 (iCmp a0 (w32 a3)) → Q a0 F))
set_option maxHeartbeats 4000000 in
theorem tX12_cut {d : Nat} {a0 : Int} {a2 : Int} {a3 : Int} {F : hp} {Q : Int → hp → Prop} (h : mX12_cut a0 a2 a3 F Q) : am nX12_cut d 0 0 [vl a0, vi a2, vi a3] F (qI Q) := by
  refine am_of (by decide +kernel) (Nat.le_of_ble_eq_true rfl) ?_
  show aw nX12_cut d 0 0 0 [some (vl a0), none, some (vi a2), some (vi a3)] [] F (qI Q)
  unfold mX12_cut at h
  refine aw_lload_n dX12_cut_0 rfl rfl (aw_pc (pc' := 1) rfl ?_)
  refine aw_iload_n dX12_cut_1 rfl rfl (aw_pc (pc' := 2) rfl ?_)
  refine aw_i2l dX12_cut_2 (aw_pc (pc' := 3) rfl ?_)
  refine aw_lcmp dX12_cut_3 (aw_pc (pc' := 4) rfl ?_)
  refine aw_if_ge dX12_cut_4 rfl (fun c => ?_) (fun c => ?_)
  · replace h := h.1 c
    refine aw_iload_n dX12_cut_7 rfl rfl (aw_pc (pc' := 8) rfl ?_)
    refine aw_goto (tgt := 24) dX12_cut_8 rfl ?_
    exact aw_iret rfl dX12_cut_24 ⟨_, rfl, h⟩
  · replace h := h.2 c
    refine aw_lload_n dX12_cut_11 rfl rfl (aw_pc (pc' := 12) rfl ?_)
    refine aw_iload_n dX12_cut_12 rfl rfl (aw_pc (pc' := 13) rfl ?_)
    refine aw_i2l dX12_cut_13 (aw_pc (pc' := 14) rfl ?_)
    refine aw_lcmp dX12_cut_14 (aw_pc (pc' := 15) rfl ?_)
    refine aw_if_le dX12_cut_15 rfl (fun c => ?_) (fun c => ?_)
    · replace h := h.1 c
      refine aw_iload_n dX12_cut_18 rfl rfl (aw_pc (pc' := 19) rfl ?_)
      refine aw_goto (tgt := 24) dX12_cut_19 rfl ?_
      exact aw_iret rfl dX12_cut_24 ⟨_, rfl, h⟩
    · replace h := h.2 c
      refine aw_lload_n dX12_cut_22 rfl rfl (aw_pc (pc' := 23) rfl ?_)
      refine aw_l2i dX12_cut_23 (aw_pc (pc' := 24) rfl ?_)
      exact aw_iret rfl dX12_cut_24 ⟨_, rfl, h⟩
def mX12_has (a0 : Int) (a1 : Int) (F : hp) (Q : Int → hp → Prop) : Prop := (w32 (iAnd (iShr a0 a1) 1) = 1 → Q 1 F) ∧ (¬ w32 (iAnd (iShr a0 a1) 1) = 1 → Q 0 F)
set_option maxHeartbeats 4000000 in
theorem tX12_has {d : Nat} {a0 : Int} {a1 : Int} {F : hp} {Q : Int → hp → Prop} (h : mX12_has a0 a1 F Q) : am nX12_has d 0 0 [vi a0, vi a1] F (qI Q) := by
  refine am_of (by decide +kernel) (Nat.le_of_ble_eq_true rfl) ?_
  show aw nX12_has d 0 0 0 [some (vi a0), some (vi a1)] [] F (qI Q)
  unfold mX12_has at h
  refine aw_iload_n dX12_has_0 rfl rfl (aw_pc (pc' := 1) rfl ?_)
  refine aw_iload_n dX12_has_1 rfl rfl (aw_pc (pc' := 2) rfl ?_)
  refine aw_ishr dX12_has_2 (aw_pc (pc' := 3) rfl ?_)
  refine aw_iconst dX12_has_3 (aw_pc (pc' := 4) rfl ?_)
  refine aw_iand dX12_has_4 (aw_pc (pc' := 5) rfl ?_)
  refine aw_iconst dX12_has_5 (aw_pc (pc' := 6) rfl ?_)
  refine ac_ne rfl wl_1 dX12_has_6 rfl (fun c => ?_) (fun c => ?_)
  · replace h := h.1 c
    refine aw_iconst dX12_has_9 (aw_pc (pc' := 10) rfl ?_)
    refine aw_goto (tgt := 14) dX12_has_10 rfl ?_
    exact aw_zret rfl (by decide) dX12_has_14 ⟨_, rfl, h⟩
  · replace h := h.2 c
    refine aw_iconst dX12_has_13 (aw_pc (pc' := 14) rfl ?_)
    exact aw_zret rfl (by decide) dX12_has_14 ⟨_, rfl, h⟩
def mX12_isCar (o : Nat) (a1 : Int) (F : hp) (Q : Int → hp → Prop) : Prop := gR F (some o) 12 0 (fun x1 => aI F x1 0 0 (fun x2 => mX12_isIn a1 0 (x2 - 1) F (fun x4 F3 => (((x4 : Int) = 0 ∨ (x4 : Int) = 1) ∧ Q x4 F3))))
set_option maxHeartbeats 4000000 in
theorem tX12_isCar {d : Nat} {o : Nat} {a1 : Int} {F : hp} {Q : Int → hp → Prop} (h : mX12_isCar o a1 F Q) : am nX12_isCar (d + 1) 0 0 [vr (some o), vi a1] F (qI Q) := by
  refine am_of (by decide +kernel) (Nat.le_of_ble_eq_true rfl) ?_
  show aw nX12_isCar (d + 1) 0 0 0 [some (vr (some o)), some (vi a1)] [] F (qI Q)
  unfold mX12_isCar at h
  refine aw_iload_n dX12_isCar_0 rfl rfl (aw_pc (pc' := 1) rfl ?_)
  refine aw_iconst dX12_isCar_1 (aw_pc (pc' := 2) rfl ?_)
  refine aw_aload_n dX12_isCar_2 rfl rfl (aw_pc (pc' := 3) rfl ?_)
  refine ar_gR fl_RX12_7 dX12_isCar_3 h ?_
  clear h
  intro x1 h
  refine aw_pc (pc' := 6) rfl ?_
  refine aw_iconst dX12_isCar_6 (aw_pc (pc' := 7) rfl ?_)
  refine ar_aI dX12_isCar_7 h ?_
  clear h
  intro x2 h
  refine aw_pc (pc' := 8) rfl ?_
  refine aw_iconst dX12_isCar_8 (aw_pc (pc' := 9) rfl ?_)
  refine aw_isub dX12_isCar_9 (aw_pc (pc' := 10) rfl ?_)
  refine ar_SI (kc' := 0) (ks' := 0) (kc := 0) (ks := 0) (as := [vi a1, vi 0, vi (x2 - 1)]) (st := []) (tX12_isIn h) mt_X12_isIn qM_RX12_78 qS_X12_isIn rfl (Nat.le_of_ble_eq_true rfl) dX12_isCar_10 ?_
  clear h
  intro x4 F3 h
  refine aw_pc (pc' := 13) rfl ?_
  exact aw_zret rfl (nz h.1) dX12_isCar_13 ⟨_, rfl, h.2⟩
def mX12_isTrack (a0 : Int) (F : hp) (Q : Int → hp → Prop) : Prop := mX12_isIn a0 0 2 F (fun x2 F1 => (((x2 : Int) = 0 ∨ (x2 : Int) = 1) ∧ Q x2 F1))
set_option maxHeartbeats 4000000 in
theorem tX12_isTrack {d : Nat} {a0 : Int} {F : hp} {Q : Int → hp → Prop} (h : mX12_isTrack a0 F Q) : am nX12_isTrack (d + 1) 0 0 [vi a0] F (qI Q) := by
  refine am_of (by decide +kernel) (Nat.le_of_ble_eq_true rfl) ?_
  show aw nX12_isTrack (d + 1) 0 0 0 [some (vi a0)] [] F (qI Q)
  unfold mX12_isTrack at h
  refine aw_iload_n dX12_isTrack_0 rfl rfl (aw_pc (pc' := 1) rfl ?_)
  refine aw_iconst dX12_isTrack_1 (aw_pc (pc' := 2) rfl ?_)
  refine aw_iconst dX12_isTrack_2 (aw_pc (pc' := 3) rfl ?_)
  refine ar_SI (kc' := 0) (ks' := 0) (kc := 0) (ks := 0) (as := [vi a0, vi 0, vi 2]) (st := []) (tX12_isIn h) mt_X12_isIn qM_RX12_78 qS_X12_isIn rfl (Nat.le_of_ble_eq_true rfl) dX12_isTrack_3 ?_
  clear h
  intro x2 F1 h
  refine aw_pc (pc' := 6) rfl ?_
  exact aw_zret rfl (nz h.1) dX12_isTrack_6 ⟨_, rfl, h.2⟩
def mX12_carOn (o : Nat) (a1 : Int) (a2 : Int) (F : hp) (Q : Int → hp → Prop) : Prop := gR F (some o) 12 0 (fun x1 => aI F x1 0 ((15 + (5 * a1)) + a2) (fun x2 => Q x2 F))
set_option maxHeartbeats 4000000 in
theorem tX12_carOn {d : Nat} {o : Nat} {a1 : Int} {a2 : Int} {F : hp} {Q : Int → hp → Prop} (h : mX12_carOn o a1 a2 F Q) : am nX12_carOn d 0 0 [vr (some o), vi a1, vi a2] F (qI Q) := by
  refine am_of (by decide +kernel) (Nat.le_of_ble_eq_true rfl) ?_
  show aw nX12_carOn d 0 0 0 [some (vr (some o)), some (vi a1), some (vi a2)] [] F (qI Q)
  unfold mX12_carOn at h
  refine aw_aload_n dX12_carOn_0 rfl rfl (aw_pc (pc' := 1) rfl ?_)
  refine ar_gR fl_RX12_7 dX12_carOn_1 h ?_
  clear h
  intro x1 h
  refine aw_pc (pc' := 4) rfl ?_
  refine aw_bipush dX12_carOn_4 (by decide) (aw_pc (pc' := 6) rfl ?_)
  refine aw_iconst dX12_carOn_6 (aw_pc (pc' := 7) rfl ?_)
  refine aw_iload_n dX12_carOn_7 rfl rfl (aw_pc (pc' := 8) rfl ?_)
  refine aw_imul dX12_carOn_8 (aw_pc (pc' := 9) rfl ?_)
  refine aw_iadd dX12_carOn_9 (aw_pc (pc' := 10) rfl ?_)
  refine aw_iload_n dX12_carOn_10 rfl rfl (aw_pc (pc' := 11) rfl ?_)
  refine aw_iadd dX12_carOn_11 (aw_pc (pc' := 12) rfl ?_)
  refine ar_aI dX12_carOn_12 h ?_
  clear h
  intro x2 h
  refine aw_pc (pc' := 13) rfl ?_
  exact aw_iret rfl dX12_carOn_13 ⟨_, rfl, h⟩
def mX12_uppermost (o : Nat) (a1 : Int) (F : hp) (Q : Int → hp → Prop) : Prop := gR F (some o) 12 0 (fun x1 => aI F x1 0 (12 + a1) (fun x2 => (w32 x2 = 0 → Q (-1) F) ∧ (¬ w32 x2 = 0 → gR F (some o) 12 0 (fun x3 => aI F x3 0 (12 + a1) (fun x4 => rcv F (some o) 12 (fun o7 => mX12_carOn o7 a1 (x4 - 1) F (fun x6 F5 => Q x6 F5)))))))
set_option maxHeartbeats 4000000 in
theorem tX12_uppermost {d : Nat} {o : Nat} {a1 : Int} {F : hp} {Q : Int → hp → Prop} (h : mX12_uppermost o a1 F Q) : am nX12_uppermost (d + 1) 0 0 [vr (some o), vi a1] F (qI Q) := by
  refine am_of (by decide +kernel) (Nat.le_of_ble_eq_true rfl) ?_
  show aw nX12_uppermost (d + 1) 0 0 0 [some (vr (some o)), some (vi a1)] [] F (qI Q)
  unfold mX12_uppermost at h
  refine aw_aload_n dX12_uppermost_0 rfl rfl (aw_pc (pc' := 1) rfl ?_)
  refine ar_gR fl_RX12_7 dX12_uppermost_1 h ?_
  clear h
  intro x1 h
  refine aw_pc (pc' := 4) rfl ?_
  refine aw_bipush dX12_uppermost_4 (by decide) (aw_pc (pc' := 6) rfl ?_)
  refine aw_iload_n dX12_uppermost_6 rfl rfl (aw_pc (pc' := 7) rfl ?_)
  refine aw_iadd dX12_uppermost_7 (aw_pc (pc' := 8) rfl ?_)
  refine ar_aI dX12_uppermost_8 h ?_
  clear h
  intro x2 h
  refine aw_pc (pc' := 9) rfl ?_
  refine aw_if_ne dX12_uppermost_9 rfl (fun c => ?_) (fun c => ?_)
  · replace h := h.1 c
    refine aw_iconst dX12_uppermost_12 (aw_pc (pc' := 13) rfl ?_)
    refine aw_goto (tgt := 32) dX12_uppermost_13 rfl ?_
    exact aw_iret rfl dX12_uppermost_32 ⟨_, rfl, h⟩
  · replace h := h.2 c
    refine aw_aload_n dX12_uppermost_16 rfl rfl (aw_pc (pc' := 17) rfl ?_)
    refine aw_iload_n dX12_uppermost_17 rfl rfl (aw_pc (pc' := 18) rfl ?_)
    refine aw_aload_n dX12_uppermost_18 rfl rfl (aw_pc (pc' := 19) rfl ?_)
    refine ar_gR fl_RX12_7 dX12_uppermost_19 h ?_
    clear h
    intro x3 h
    refine aw_pc (pc' := 22) rfl ?_
    refine aw_bipush dX12_uppermost_22 (by decide) (aw_pc (pc' := 24) rfl ?_)
    refine aw_iload_n dX12_uppermost_24 rfl rfl (aw_pc (pc' := 25) rfl ?_)
    refine aw_iadd dX12_uppermost_25 (aw_pc (pc' := 26) rfl ?_)
    refine ar_aI dX12_uppermost_26 h ?_
    clear h
    intro x4 h
    refine aw_pc (pc' := 27) rfl ?_
    refine aw_iconst dX12_uppermost_27 (aw_pc (pc' := 28) rfl ?_)
    refine aw_isub dX12_uppermost_28 (aw_pc (pc' := 29) rfl ?_)
    have h0 := rcv_inv h
    clear h
    obtain ⟨o7, fs_o7, hr_o7, he_o7, h⟩ := h0
    obtain rfl : o = o7 := Option.some.inj hr_o7
    refine ar_VI (kc' := 0) (ks' := 0) (kc := 0) (ks := 0) (a := o) (ci := 12) (as := [vi a1, vi (x4 - 1)]) (st := []) (tX12_carOn h) mt_X12_carOn rfl qM_RX12_82 qI_X12_carOn qV_X12_carOn he_o7 rfl (Nat.le_of_ble_eq_true rfl) dX12_uppermost_29 ?_
    clear h
    intro x6 F5 h
    refine aw_pc (pc' := 32) rfl ?_
    exact aw_iret rfl dX12_uppermost_32 ⟨_, rfl, h⟩
def mX12_trackOf_L9 (X2 : Nat → Int → Int → hp → Prop) (Q : Int → hp → Prop) : Nat → Nat → Int → Int → Int → hp → Prop
  | 0, _, _, _, _, _ => False
  | k + 1, o, a1, a2, a3, F => gR F (some o) 12 0 (fun x1 => aI F x1 0 (12 + a2) (fun x2 => (w32 a3 < w32 x2 → rcv F (some o) 12 (fun o5 => mX12_carOn o5 a2 a3 F (fun x4 F3 => (w32 x4 = w32 a1 → Q a2 F3) ∧ (¬ w32 x4 = w32 a1 → mX12_trackOf_L9 X2 Q k o a1 a2 (a3 + 1) F3)))) ∧ (¬ w32 a3 < w32 x2 → X2 o a1 (a2 + 1) F)))
set_option maxHeartbeats 4000000 in
theorem tX12_trackOf_L9 {d : Nat} {X2 : Nat → Int → Int → hp → Prop} {Q : Int → hp → Prop} (hX2 : ∀ (o : Nat) (a1 : Int) (a2 : Int) (F : hp), X2 o a1 a2 F → aw nX12_trackOf (d + 1) 0 0 2 [some (vr (some o)), some (vi a1), some (vi a2), none] [] F (qI Q)) : ∀ (k : Nat) (o : Nat) (a1 : Int) (a2 : Int) (a3 : Int) (F : hp), mX12_trackOf_L9 X2 Q k o a1 a2 a3 F → aw nX12_trackOf (d + 1) 0 0 9 [some (vr (some o)), some (vi a1), some (vi a2), some (vi a3)] [] F (qI Q) := by
  intro k
  induction k with
  | zero => intro o a1 a2 a3 F h; exact h.elim
  | succ k ih =>
    intro o a1 a2 a3 F h
    simp only [mX12_trackOf_L9] at h
    refine aw_iload_n dX12_trackOf_9 rfl rfl (aw_pc (pc' := 10) rfl ?_)
    refine aw_aload_n dX12_trackOf_10 rfl rfl (aw_pc (pc' := 11) rfl ?_)
    refine ar_gR fl_RX12_7 dX12_trackOf_11 h ?_
    clear h
    intro x1 h
    refine aw_pc (pc' := 14) rfl ?_
    refine aw_bipush dX12_trackOf_14 (by decide) (aw_pc (pc' := 16) rfl ?_)
    refine aw_iload_n dX12_trackOf_16 rfl rfl (aw_pc (pc' := 17) rfl ?_)
    refine aw_iadd dX12_trackOf_17 (aw_pc (pc' := 18) rfl ?_)
    refine ar_aI dX12_trackOf_18 h ?_
    clear h
    intro x2 h
    refine aw_pc (pc' := 19) rfl ?_
    refine ac_ge rfl rfl dX12_trackOf_19 rfl (fun c => ?_) (fun c => ?_)
    · replace h := h.1 c
      refine aw_aload_n dX12_trackOf_22 rfl rfl (aw_pc (pc' := 23) rfl ?_)
      refine aw_iload_n dX12_trackOf_23 rfl rfl (aw_pc (pc' := 24) rfl ?_)
      refine aw_iload_n dX12_trackOf_24 rfl rfl (aw_pc (pc' := 25) rfl ?_)
      have h0 := rcv_inv h
      clear h
      obtain ⟨o5, fs_o5, hr_o5, he_o5, h⟩ := h0
      obtain rfl : o = o5 := Option.some.inj hr_o5
      refine ar_VI (kc' := 0) (ks' := 0) (kc := 0) (ks := 0) (a := o) (ci := 12) (as := [vi a2, vi a3]) (st := []) (tX12_carOn h) mt_X12_carOn rfl qM_RX12_82 qI_X12_carOn qV_X12_carOn he_o5 rfl (Nat.le_of_ble_eq_true rfl) dX12_trackOf_25 ?_
      clear h
      intro x4 F3 h
      refine aw_pc (pc' := 28) rfl ?_
      refine aw_iload_n dX12_trackOf_28 rfl rfl (aw_pc (pc' := 29) rfl ?_)
      refine ac_ne rfl rfl dX12_trackOf_29 rfl (fun c => ?_) (fun c => ?_)
      · replace h := h.1 c
        refine aw_iload_n dX12_trackOf_32 rfl rfl (aw_pc (pc' := 33) rfl ?_)
        exact aw_iret rfl dX12_trackOf_33 ⟨_, rfl, h⟩
      · replace h := h.2 c
        refine aw_iinc dX12_trackOf_34 rfl (by decide) (aw_pc (pc' := 37) rfl ?_)
        refine aw_goto (tgt := 9) dX12_trackOf_37 rfl ?_
        exact aw_mask [true, true, true, true] (ih _ _ _ _ _ h)
    · replace h := h.2 c
      refine aw_iinc dX12_trackOf_40 rfl (by decide) (aw_pc (pc' := 43) rfl ?_)
      refine aw_goto (tgt := 2) dX12_trackOf_43 rfl ?_
      exact aw_mask [true, true, true, false] (hX2 _ _ _ _ h)
def mX12_trackOf_L2 (Q : Int → hp → Prop) : Nat → Nat → Int → Int → hp → Prop
  | 0, _, _, _, _ => False
  | k + 1, o, a1, a2, F => (w32 a2 < 3 → (∃ k1, mX12_trackOf_L9 (fun o' a1' a2' F' => mX12_trackOf_L2 Q k o' a1' a2' F') Q k1 o a1 a2 0 F)) ∧ (¬ w32 a2 < 3 → Q (-1) F)
set_option maxHeartbeats 4000000 in
theorem tX12_trackOf_L2 {d : Nat} {Q : Int → hp → Prop} : ∀ (k : Nat) (o : Nat) (a1 : Int) (a2 : Int) (F : hp), mX12_trackOf_L2 Q k o a1 a2 F → aw nX12_trackOf (d + 1) 0 0 2 [some (vr (some o)), some (vi a1), some (vi a2), none] [] F (qI Q) := by
  intro k
  induction k with
  | zero => intro o a1 a2 F h; exact h.elim
  | succ k ih =>
    intro o a1 a2 F h
    simp only [mX12_trackOf_L2] at h
    refine aw_iload_n dX12_trackOf_2 rfl rfl (aw_pc (pc' := 3) rfl ?_)
    refine aw_iconst dX12_trackOf_3 (aw_pc (pc' := 4) rfl ?_)
    refine ac_ge rfl wl_3 dX12_trackOf_4 rfl (fun c => ?_) (fun c => ?_)
    · replace h := h.1 c
      refine aw_iconst dX12_trackOf_7 (aw_pc (pc' := 8) rfl ?_)
      refine aw_istore_n dX12_trackOf_8 rfl (by decide) (aw_pc (pc' := 9) rfl ?_)
      obtain ⟨k1, h⟩ := h
      exact aw_mask [true, true, true, true] (tX12_trackOf_L9 (fun o' a1' a2' F' h' => ih o' a1' a2' F' h') k1 _ _ _ _ _ h)
    · replace h := h.2 c
      refine aw_iconst dX12_trackOf_46 (aw_pc (pc' := 47) rfl ?_)
      exact aw_iret rfl dX12_trackOf_47 ⟨_, rfl, h⟩
def mX12_trackOf (o : Nat) (a1 : Int) (F : hp) (Q : Int → hp → Prop) : Prop := (∃ k1, mX12_trackOf_L2 Q k1 o a1 0 F)
set_option maxHeartbeats 4000000 in
theorem tX12_trackOf {d : Nat} {o : Nat} {a1 : Int} {F : hp} {Q : Int → hp → Prop} (h : mX12_trackOf o a1 F Q) : am nX12_trackOf (d + 1) 0 0 [vr (some o), vi a1] F (qI Q) := by
  refine am_of (by decide +kernel) (Nat.le_of_ble_eq_true rfl) ?_
  show aw nX12_trackOf (d + 1) 0 0 0 [some (vr (some o)), some (vi a1), none, none] [] F (qI Q)
  unfold mX12_trackOf at h
  refine aw_iconst dX12_trackOf_0 (aw_pc (pc' := 1) rfl ?_)
  refine aw_istore_n dX12_trackOf_1 rfl (by decide) (aw_pc (pc' := 2) rfl ?_)
  obtain ⟨k1, h⟩ := h
  exact aw_mask [true, true, true, false] (tX12_trackOf_L2 k1 _ _ _ _ h)
def mX12_placeOf_L8 (Q : Int → hp → Prop) : Nat → Nat → Int → Int → Int → hp → Prop
  | 0, _, _, _, _, _ => False
  | k + 1, o, a1, a2, a3, F => rcv F (some o) 12 (fun o3 => mX12_carOn o3 a2 a3 F (fun x2 F1 => (w32 x2 = w32 a1 → Q a3 F1) ∧ (¬ w32 x2 = w32 a1 → mX12_placeOf_L8 Q k o a1 a2 (a3 + 1) F1)))
set_option maxHeartbeats 4000000 in
theorem tX12_placeOf_L8 {d : Nat} {Q : Int → hp → Prop} : ∀ (k : Nat) (o : Nat) (a1 : Int) (a2 : Int) (a3 : Int) (F : hp), mX12_placeOf_L8 Q k o a1 a2 a3 F → aw nX12_placeOf (d + 2) 0 0 8 [some (vr (some o)), some (vi a1), some (vi a2), some (vi a3)] [] F (qI Q) := by
  intro k
  induction k with
  | zero => intro o a1 a2 a3 F h; exact h.elim
  | succ k ih =>
    intro o a1 a2 a3 F h
    simp only [mX12_placeOf_L8] at h
    refine aw_aload_n dX12_placeOf_8 rfl rfl (aw_pc (pc' := 9) rfl ?_)
    refine aw_iload_n dX12_placeOf_9 rfl rfl (aw_pc (pc' := 10) rfl ?_)
    refine aw_iload_n dX12_placeOf_10 rfl rfl (aw_pc (pc' := 11) rfl ?_)
    have h0 := rcv_inv h
    clear h
    obtain ⟨o3, fs_o3, hr_o3, he_o3, h⟩ := h0
    obtain rfl : o = o3 := Option.some.inj hr_o3
    refine ar_VI (kc' := 0) (ks' := 0) (kc := 0) (ks := 0) (a := o) (ci := 12) (as := [vi a2, vi a3]) (st := []) (tX12_carOn h) mt_X12_carOn rfl qM_RX12_82 qI_X12_carOn qV_X12_carOn he_o3 rfl (Nat.le_of_ble_eq_true rfl) dX12_placeOf_11 ?_
    clear h
    intro x2 F1 h
    refine aw_pc (pc' := 14) rfl ?_
    refine aw_iload_n dX12_placeOf_14 rfl rfl (aw_pc (pc' := 15) rfl ?_)
    refine ac_eq rfl rfl dX12_placeOf_15 rfl (fun c => ?_) (fun c => ?_)
    · replace h := h.1 c
      refine aw_iload_n dX12_placeOf_24 rfl rfl (aw_pc (pc' := 25) rfl ?_)
      exact aw_iret rfl dX12_placeOf_25 ⟨_, rfl, h⟩
    · replace h := h.2 c
      refine aw_iinc dX12_placeOf_18 rfl (by decide) (aw_pc (pc' := 21) rfl ?_)
      refine aw_goto (tgt := 8) dX12_placeOf_21 rfl ?_
      exact aw_mask [true, true, true, true] (ih _ _ _ _ _ h)
def mX12_placeOf (o : Nat) (a1 : Int) (F : hp) (Q : Int → hp → Prop) : Prop := rcv F (some o) 12 (fun o3 => mX12_trackOf o3 a1 F (fun x2 F1 => (∃ k4, mX12_placeOf_L8 Q k4 o a1 x2 0 F1)))
set_option maxHeartbeats 4000000 in
theorem tX12_placeOf {d : Nat} {o : Nat} {a1 : Int} {F : hp} {Q : Int → hp → Prop} (h : mX12_placeOf o a1 F Q) : am nX12_placeOf (d + 2) 0 0 [vr (some o), vi a1] F (qI Q) := by
  refine am_of (by decide +kernel) (Nat.le_of_ble_eq_true rfl) ?_
  show aw nX12_placeOf (d + 2) 0 0 0 [some (vr (some o)), some (vi a1), none, none] [] F (qI Q)
  unfold mX12_placeOf at h
  refine aw_aload_n dX12_placeOf_0 rfl rfl (aw_pc (pc' := 1) rfl ?_)
  refine aw_iload_n dX12_placeOf_1 rfl rfl (aw_pc (pc' := 2) rfl ?_)
  have h0 := rcv_inv h
  clear h
  obtain ⟨o3, fs_o3, hr_o3, he_o3, h⟩ := h0
  obtain rfl : o = o3 := Option.some.inj hr_o3
  refine ar_VI (kc' := 0) (ks' := 0) (kc := 0) (ks := 0) (a := o) (ci := 12) (as := [vi a1]) (st := []) (tX12_trackOf h) mt_X12_trackOf rfl qM_RX12_86 qI_X12_trackOf qV_X12_trackOf he_o3 rfl (Nat.le_of_ble_eq_true rfl) dX12_placeOf_2 ?_
  clear h
  intro x2 F1 h
  refine aw_pc (pc' := 5) rfl ?_
  refine aw_istore_n dX12_placeOf_5 rfl (by decide) (aw_pc (pc' := 6) rfl ?_)
  refine aw_iconst dX12_placeOf_6 (aw_pc (pc' := 7) rfl ?_)
  refine aw_istore_n dX12_placeOf_7 rfl (by decide) (aw_pc (pc' := 8) rfl ?_)
  obtain ⟨k4, h⟩ := h
  exact aw_mask [true, true, true, true] (tX12_placeOf_L8 k4 _ _ _ _ _ h)
def mX12_come (o : Nat) (a1 : Int) (a2 : Int) (F : hp) (Q : hp → Prop) : Prop := gR F (some o) 12 0 (fun x1 => gR F (some o) 12 0 (fun x2 => aI F x2 0 (12 + a1) (fun x3 => sI F x1 0 ((15 + (5 * a1)) + x3) a2 (fun F4 => gR F4 (some o) 12 0 (fun x5 => aI F4 x5 0 (12 + a1) (fun x6 => sI F4 x5 0 (12 + a1) (x6 + 1) (fun F7 => Q F7)))))))
set_option maxHeartbeats 4000000 in
theorem tX12_come {d : Nat} {o : Nat} {a1 : Int} {a2 : Int} {F : hp} {Q : hp → Prop} (h : mX12_come o a1 a2 F Q) : am nX12_come d 0 0 [vr (some o), vi a1, vi a2] F (qV Q) := by
  refine am_of (by decide +kernel) (Nat.le_of_ble_eq_true rfl) ?_
  show aw nX12_come d 0 0 0 [some (vr (some o)), some (vi a1), some (vi a2)] [] F (qV Q)
  unfold mX12_come at h
  refine aw_aload_n dX12_come_0 rfl rfl (aw_pc (pc' := 1) rfl ?_)
  refine ar_gR fl_RX12_7 dX12_come_1 h ?_
  clear h
  intro x1 h
  refine aw_pc (pc' := 4) rfl ?_
  refine aw_bipush dX12_come_4 (by decide) (aw_pc (pc' := 6) rfl ?_)
  refine aw_iconst dX12_come_6 (aw_pc (pc' := 7) rfl ?_)
  refine aw_iload_n dX12_come_7 rfl rfl (aw_pc (pc' := 8) rfl ?_)
  refine aw_imul dX12_come_8 (aw_pc (pc' := 9) rfl ?_)
  refine aw_iadd dX12_come_9 (aw_pc (pc' := 10) rfl ?_)
  refine aw_aload_n dX12_come_10 rfl rfl (aw_pc (pc' := 11) rfl ?_)
  refine ar_gR fl_RX12_7 dX12_come_11 h ?_
  clear h
  intro x2 h
  refine aw_pc (pc' := 14) rfl ?_
  refine aw_bipush dX12_come_14 (by decide) (aw_pc (pc' := 16) rfl ?_)
  refine aw_iload_n dX12_come_16 rfl rfl (aw_pc (pc' := 17) rfl ?_)
  refine aw_iadd dX12_come_17 (aw_pc (pc' := 18) rfl ?_)
  refine ar_aI dX12_come_18 h ?_
  clear h
  intro x3 h
  refine aw_pc (pc' := 19) rfl ?_
  refine aw_iadd dX12_come_19 (aw_pc (pc' := 20) rfl ?_)
  refine aw_iload_n dX12_come_20 rfl rfl (aw_pc (pc' := 21) rfl ?_)
  refine ar_sI dX12_come_21 h ?_
  clear h
  intro F4 h
  refine aw_pc (pc' := 22) rfl ?_
  refine aw_aload_n dX12_come_22 rfl rfl (aw_pc (pc' := 23) rfl ?_)
  refine ar_gR fl_RX12_7 dX12_come_23 h ?_
  clear h
  intro x5 h
  refine aw_pc (pc' := 26) rfl ?_
  refine aw_bipush dX12_come_26 (by decide) (aw_pc (pc' := 28) rfl ?_)
  refine aw_iload_n dX12_come_28 rfl rfl (aw_pc (pc' := 29) rfl ?_)
  refine aw_iadd dX12_come_29 (aw_pc (pc' := 30) rfl ?_)
  refine aw_dup2 dX12_come_30 trivial trivial (aw_pc (pc' := 31) rfl ?_)
  refine ar_aI dX12_come_31 h ?_
  clear h
  intro x6 h
  refine aw_pc (pc' := 32) rfl ?_
  refine aw_iconst dX12_come_32 (aw_pc (pc' := 33) rfl ?_)
  refine aw_iadd dX12_come_33 (aw_pc (pc' := 34) rfl ?_)
  refine ar_sI dX12_come_34 h ?_
  clear h
  intro F7 h
  refine aw_pc (pc' := 35) rfl ?_
  exact aw_vret rfl dX12_come_35 ⟨rfl, h⟩
def mX12_isWide (o : Nat) (a1 : Int) (F : hp) (Q : Int → hp → Prop) : Prop := gR F (some o) 12 0 (fun x1 => aI F x1 0 30 (fun x2 => Q (iAnd (iShr x2 a1) 1) F))
set_option maxHeartbeats 4000000 in
theorem tX12_isWide {d : Nat} {o : Nat} {a1 : Int} {F : hp} {Q : Int → hp → Prop} (h : mX12_isWide o a1 F Q) : am nX12_isWide d 0 0 [vr (some o), vi a1] F (qI Q) := by
  refine am_of (by decide +kernel) (Nat.le_of_ble_eq_true rfl) ?_
  show aw nX12_isWide d 0 0 0 [some (vr (some o)), some (vi a1)] [] F (qI Q)
  unfold mX12_isWide at h
  refine aw_aload_n dX12_isWide_0 rfl rfl (aw_pc (pc' := 1) rfl ?_)
  refine ar_gR fl_RX12_7 dX12_isWide_1 h ?_
  clear h
  intro x1 h
  refine aw_pc (pc' := 4) rfl ?_
  refine aw_bipush dX12_isWide_4 (by decide) (aw_pc (pc' := 6) rfl ?_)
  refine ar_aI dX12_isWide_6 h ?_
  clear h
  intro x2 h
  refine aw_pc (pc' := 7) rfl ?_
  refine aw_iload_n dX12_isWide_7 rfl rfl (aw_pc (pc' := 8) rfl ?_)
  refine aw_ishr dX12_isWide_8 (aw_pc (pc' := 9) rfl ?_)
  refine aw_iconst dX12_isWide_9 (aw_pc (pc' := 10) rfl ?_)
  refine aw_iand dX12_isWide_10 (aw_pc (pc' := 11) rfl ?_)
  exact aw_iret rfl dX12_isWide_11 ⟨_, rfl, h⟩
def mX12_isForbidden (o : Nat) (a1 : Int) (a2 : Int) (F : hp) (Q : Int → hp → Prop) : Prop := gR F (some o) 12 0 (fun x1 => gR F (some o) 12 0 (fun x2 => aI F x2 0 (36 + a1) (fun x3 => aI F x1 0 (56 + x3) (fun x4 => gR F (some o) 12 0 (fun x5 => aI F x5 0 (36 + a2) (fun x6 => mX12_has x4 x6 F (fun x8 F7 => (((x8 : Int) = 0 ∨ (x8 : Int) = 1) ∧ Q x8 F7))))))))
set_option maxHeartbeats 4000000 in
theorem tX12_isForbidden {d : Nat} {o : Nat} {a1 : Int} {a2 : Int} {F : hp} {Q : Int → hp → Prop} (h : mX12_isForbidden o a1 a2 F Q) : am nX12_isForbidden (d + 1) 0 0 [vr (some o), vi a1, vi a2] F (qI Q) := by
  refine am_of (by decide +kernel) (Nat.le_of_ble_eq_true rfl) ?_
  show aw nX12_isForbidden (d + 1) 0 0 0 [some (vr (some o)), some (vi a1), some (vi a2)] [] F (qI Q)
  unfold mX12_isForbidden at h
  refine aw_aload_n dX12_isForbidden_0 rfl rfl (aw_pc (pc' := 1) rfl ?_)
  refine ar_gR fl_RX12_7 dX12_isForbidden_1 h ?_
  clear h
  intro x1 h
  refine aw_pc (pc' := 4) rfl ?_
  refine aw_bipush dX12_isForbidden_4 (by decide) (aw_pc (pc' := 6) rfl ?_)
  refine aw_aload_n dX12_isForbidden_6 rfl rfl (aw_pc (pc' := 7) rfl ?_)
  refine ar_gR fl_RX12_7 dX12_isForbidden_7 h ?_
  clear h
  intro x2 h
  refine aw_pc (pc' := 10) rfl ?_
  refine aw_bipush dX12_isForbidden_10 (by decide) (aw_pc (pc' := 12) rfl ?_)
  refine aw_iload_n dX12_isForbidden_12 rfl rfl (aw_pc (pc' := 13) rfl ?_)
  refine aw_iadd dX12_isForbidden_13 (aw_pc (pc' := 14) rfl ?_)
  refine ar_aI dX12_isForbidden_14 h ?_
  clear h
  intro x3 h
  refine aw_pc (pc' := 15) rfl ?_
  refine aw_iadd dX12_isForbidden_15 (aw_pc (pc' := 16) rfl ?_)
  refine ar_aI dX12_isForbidden_16 h ?_
  clear h
  intro x4 h
  refine aw_pc (pc' := 17) rfl ?_
  refine aw_aload_n dX12_isForbidden_17 rfl rfl (aw_pc (pc' := 18) rfl ?_)
  refine ar_gR fl_RX12_7 dX12_isForbidden_18 h ?_
  clear h
  intro x5 h
  refine aw_pc (pc' := 21) rfl ?_
  refine aw_bipush dX12_isForbidden_21 (by decide) (aw_pc (pc' := 23) rfl ?_)
  refine aw_iload_n dX12_isForbidden_23 rfl rfl (aw_pc (pc' := 24) rfl ?_)
  refine aw_iadd dX12_isForbidden_24 (aw_pc (pc' := 25) rfl ?_)
  refine ar_aI dX12_isForbidden_25 h ?_
  clear h
  intro x6 h
  refine aw_pc (pc' := 26) rfl ?_
  refine ar_SI (kc' := 0) (ks' := 0) (kc := 0) (ks := 0) (as := [vi x4, vi x6]) (st := []) (tX12_has h) mt_X12_has qM_RX12_90 qS_X12_has rfl (Nat.le_of_ble_eq_true rfl) dX12_isForbidden_26 ?_
  clear h
  intro x8 F7 h
  refine aw_pc (pc' := 29) rfl ?_
  exact aw_zret rfl (nz h.1) dX12_isForbidden_29 ⟨_, rfl, h.2⟩
def mX12_car (o : Nat) (a1 : Int) (a2 : Int) (F : hp) (Q : Int → hp → Prop) : Prop := mX12_isIn a1 0 3 F (fun x2 F1 => (w32 x2 = 0 → Q (-1) F1) ∧ (¬ w32 x2 = 0 → mX12_isIn a2 1 9 F1 (fun x4 F3 => (w32 x4 = 0 → Q (-1) F3) ∧ (¬ w32 x4 = 0 → gR F3 (some o) 12 0 (fun x5 => aI F3 x5 0 0 (fun x6 => (w32 x6 = 5 → Q (-1) F3) ∧ (¬ w32 x6 = 5 → gR F3 (some o) 12 0 (fun x7 => aI F3 x7 0 0 (fun x8 => gR F3 (some o) 12 0 (fun x9 => sI F3 x9 0 (36 + x8) a1 (fun F10 => gR F10 (some o) 12 0 (fun x11 => sI F10 x11 0 (41 + x8) a2 (fun F12 => rcv F12 (some o) 12 (fun o14 => mX12_come o14 0 x8 F12 (fun F13 => gR F13 (some o) 12 0 (fun x15 => aI F13 x15 0 0 (fun x16 => sI F13 x15 0 0 (x16 + 1) (fun F17 => Q x8 F17))))))))))))))))))
set_option maxHeartbeats 4000000 in
theorem tX12_car {d : Nat} {o : Nat} {a1 : Int} {a2 : Int} {F : hp} {Q : Int → hp → Prop} (h : mX12_car o a1 a2 F Q) : am nX12_car (d + 1) 0 0 [vr (some o), vi a1, vi a2] F (qI Q) := by
  refine am_of (by decide +kernel) (Nat.le_of_ble_eq_true rfl) ?_
  show aw nX12_car (d + 1) 0 0 0 [some (vr (some o)), some (vi a1), some (vi a2), none] [] F (qI Q)
  unfold mX12_car at h
  refine aw_iload_n dX12_car_0 rfl rfl (aw_pc (pc' := 1) rfl ?_)
  refine aw_iconst dX12_car_1 (aw_pc (pc' := 2) rfl ?_)
  refine aw_iconst dX12_car_2 (aw_pc (pc' := 3) rfl ?_)
  refine ar_SI (kc' := 0) (ks' := 0) (kc := 0) (ks := 0) (as := [vi a1, vi 0, vi 3]) (st := []) (tX12_isIn h) mt_X12_isIn qM_RX12_78 qS_X12_isIn rfl (Nat.le_of_ble_eq_true rfl) dX12_car_3 ?_
  clear h
  intro x2 F1 h
  refine aw_pc (pc' := 6) rfl ?_
  refine aw_if_eq dX12_car_6 rfl (fun c => ?_) (fun c => ?_)
  · replace h := h.1 c
    refine aw_iconst dX12_car_29 (aw_pc (pc' := 30) rfl ?_)
    exact aw_iret rfl dX12_car_30 ⟨_, rfl, h⟩
  · replace h := h.2 c
    refine aw_iload_n dX12_car_9 rfl rfl (aw_pc (pc' := 10) rfl ?_)
    refine aw_iconst dX12_car_10 (aw_pc (pc' := 11) rfl ?_)
    refine aw_bipush dX12_car_11 (by decide) (aw_pc (pc' := 13) rfl ?_)
    refine ar_SI (kc' := 0) (ks' := 0) (kc := 0) (ks := 0) (as := [vi a2, vi 1, vi 9]) (st := []) (tX12_isIn h) mt_X12_isIn qM_RX12_78 qS_X12_isIn rfl (Nat.le_of_ble_eq_true rfl) dX12_car_13 ?_
    clear h
    intro x4 F3 h
    refine aw_pc (pc' := 16) rfl ?_
    refine aw_if_eq dX12_car_16 rfl (fun c => ?_) (fun c => ?_)
    · replace h := h.1 c
      refine aw_iconst dX12_car_29 (aw_pc (pc' := 30) rfl ?_)
      exact aw_iret rfl dX12_car_30 ⟨_, rfl, h⟩
    · replace h := h.2 c
      refine aw_aload_n dX12_car_19 rfl rfl (aw_pc (pc' := 20) rfl ?_)
      refine ar_gR fl_RX12_7 dX12_car_20 h ?_
      clear h
      intro x5 h
      refine aw_pc (pc' := 23) rfl ?_
      refine aw_iconst dX12_car_23 (aw_pc (pc' := 24) rfl ?_)
      refine ar_aI dX12_car_24 h ?_
      clear h
      intro x6 h
      refine aw_pc (pc' := 25) rfl ?_
      refine aw_iconst dX12_car_25 (aw_pc (pc' := 26) rfl ?_)
      refine ac_ne rfl wl_5 dX12_car_26 rfl (fun c => ?_) (fun c => ?_)
      · replace h := h.1 c
        refine aw_iconst dX12_car_29 (aw_pc (pc' := 30) rfl ?_)
        exact aw_iret rfl dX12_car_30 ⟨_, rfl, h⟩
      · replace h := h.2 c
        refine aw_aload_n dX12_car_31 rfl rfl (aw_pc (pc' := 32) rfl ?_)
        refine ar_gR fl_RX12_7 dX12_car_32 h ?_
        clear h
        intro x7 h
        refine aw_pc (pc' := 35) rfl ?_
        refine aw_iconst dX12_car_35 (aw_pc (pc' := 36) rfl ?_)
        refine ar_aI dX12_car_36 h ?_
        clear h
        intro x8 h
        refine aw_pc (pc' := 37) rfl ?_
        refine aw_istore_n dX12_car_37 rfl (by decide) (aw_pc (pc' := 38) rfl ?_)
        refine aw_aload_n dX12_car_38 rfl rfl (aw_pc (pc' := 39) rfl ?_)
        refine ar_gR fl_RX12_7 dX12_car_39 h ?_
        clear h
        intro x9 h
        refine aw_pc (pc' := 42) rfl ?_
        refine aw_bipush dX12_car_42 (by decide) (aw_pc (pc' := 44) rfl ?_)
        refine aw_iload_n dX12_car_44 rfl rfl (aw_pc (pc' := 45) rfl ?_)
        refine aw_iadd dX12_car_45 (aw_pc (pc' := 46) rfl ?_)
        refine aw_iload_n dX12_car_46 rfl rfl (aw_pc (pc' := 47) rfl ?_)
        refine ar_sI dX12_car_47 h ?_
        clear h
        intro F10 h
        refine aw_pc (pc' := 48) rfl ?_
        refine aw_aload_n dX12_car_48 rfl rfl (aw_pc (pc' := 49) rfl ?_)
        refine ar_gR fl_RX12_7 dX12_car_49 h ?_
        clear h
        intro x11 h
        refine aw_pc (pc' := 52) rfl ?_
        refine aw_bipush dX12_car_52 (by decide) (aw_pc (pc' := 54) rfl ?_)
        refine aw_iload_n dX12_car_54 rfl rfl (aw_pc (pc' := 55) rfl ?_)
        refine aw_iadd dX12_car_55 (aw_pc (pc' := 56) rfl ?_)
        refine aw_iload_n dX12_car_56 rfl rfl (aw_pc (pc' := 57) rfl ?_)
        refine ar_sI dX12_car_57 h ?_
        clear h
        intro F12 h
        refine aw_pc (pc' := 58) rfl ?_
        refine aw_aload_n dX12_car_58 rfl rfl (aw_pc (pc' := 59) rfl ?_)
        refine aw_iconst dX12_car_59 (aw_pc (pc' := 60) rfl ?_)
        refine aw_iload_n dX12_car_60 rfl rfl (aw_pc (pc' := 61) rfl ?_)
        have h0 := rcv_inv h
        clear h
        obtain ⟨o14, fs_o14, hr_o14, he_o14, h⟩ := h0
        obtain rfl : o = o14 := Option.some.inj hr_o14
        refine ar_VV (kc' := 0) (ks' := 0) (kc := 0) (ks := 0) (a := o) (ci := 12) (as := [vi 0, vi x8]) (st := []) (tX12_come h) mt_X12_come rfl qM_RX12_94 qI_X12_come qV_X12_come he_o14 rfl (Nat.le_of_ble_eq_true rfl) dX12_car_61 ?_
        clear h
        intro F13 h
        refine aw_pc (pc' := 64) rfl ?_
        refine aw_aload_n dX12_car_64 rfl rfl (aw_pc (pc' := 65) rfl ?_)
        refine ar_gR fl_RX12_7 dX12_car_65 h ?_
        clear h
        intro x15 h
        refine aw_pc (pc' := 68) rfl ?_
        refine aw_iconst dX12_car_68 (aw_pc (pc' := 69) rfl ?_)
        refine aw_dup2 dX12_car_69 trivial trivial (aw_pc (pc' := 70) rfl ?_)
        refine ar_aI dX12_car_70 h ?_
        clear h
        intro x16 h
        refine aw_pc (pc' := 71) rfl ?_
        refine aw_iconst dX12_car_71 (aw_pc (pc' := 72) rfl ?_)
        refine aw_iadd dX12_car_72 (aw_pc (pc' := 73) rfl ?_)
        refine ar_sI dX12_car_73 h ?_
        clear h
        intro F17 h
        refine aw_pc (pc' := 74) rfl ?_
        refine aw_iload_n dX12_car_74 rfl rfl (aw_pc (pc' := 75) rfl ?_)
        exact aw_iret rfl dX12_car_75 ⟨_, rfl, h⟩
def mX12_forbidOne (o : Nat) (a1 : Int) (a2 : Int) (a3 : Int) (F : hp) (Q : hp → Prop) : Prop := gR F (some o) 12 0 (fun x1 => (w32 a3 = 0 → gR F (some o) 12 0 (fun x2 => aI F x2 0 (56 + a1) (fun x3 => sI F x1 0 (56 + a1) (iAnd x3 (iXor (iShl 1 a2) (-1))) (fun F4 => Q F4)))) ∧ (¬ w32 a3 = 0 → gR F (some o) 12 0 (fun x5 => aI F x5 0 (56 + a1) (fun x6 => sI F x1 0 (56 + a1) (iOr x6 (iShl 1 a2)) (fun F7 => Q F7)))))
set_option maxHeartbeats 4000000 in
theorem tX12_forbidOne {d : Nat} {o : Nat} {a1 : Int} {a2 : Int} {a3 : Int} {F : hp} {Q : hp → Prop} (h : mX12_forbidOne o a1 a2 a3 F Q) : am nX12_forbidOne d 0 0 [vr (some o), vi a1, vi a2, vi a3] F (qV Q) := by
  refine am_of (by decide +kernel) (Nat.le_of_ble_eq_true rfl) ?_
  show aw nX12_forbidOne d 0 0 0 [some (vr (some o)), some (vi a1), some (vi a2), some (vi a3)] [] F (qV Q)
  unfold mX12_forbidOne at h
  refine aw_aload_n dX12_forbidOne_0 rfl rfl (aw_pc (pc' := 1) rfl ?_)
  refine ar_gR fl_RX12_7 dX12_forbidOne_1 h ?_
  clear h
  intro x1 h
  refine aw_pc (pc' := 4) rfl ?_
  refine aw_bipush dX12_forbidOne_4 (by decide) (aw_pc (pc' := 6) rfl ?_)
  refine aw_iload_n dX12_forbidOne_6 rfl rfl (aw_pc (pc' := 7) rfl ?_)
  refine aw_iadd dX12_forbidOne_7 (aw_pc (pc' := 8) rfl ?_)
  refine aw_iload_n dX12_forbidOne_8 rfl rfl (aw_pc (pc' := 9) rfl ?_)
  refine aw_if_eq dX12_forbidOne_9 rfl (fun c => ?_) (fun c => ?_)
  · replace h := h.1 c
    refine aw_aload_n dX12_forbidOne_28 rfl rfl (aw_pc (pc' := 29) rfl ?_)
    refine ar_gR fl_RX12_7 dX12_forbidOne_29 h ?_
    clear h
    intro x2 h
    refine aw_pc (pc' := 32) rfl ?_
    refine aw_bipush dX12_forbidOne_32 (by decide) (aw_pc (pc' := 34) rfl ?_)
    refine aw_iload_n dX12_forbidOne_34 rfl rfl (aw_pc (pc' := 35) rfl ?_)
    refine aw_iadd dX12_forbidOne_35 (aw_pc (pc' := 36) rfl ?_)
    refine ar_aI dX12_forbidOne_36 h ?_
    clear h
    intro x3 h
    refine aw_pc (pc' := 37) rfl ?_
    refine aw_iconst dX12_forbidOne_37 (aw_pc (pc' := 38) rfl ?_)
    refine aw_iload_n dX12_forbidOne_38 rfl rfl (aw_pc (pc' := 39) rfl ?_)
    refine aw_ishl dX12_forbidOne_39 (aw_pc (pc' := 40) rfl ?_)
    refine aw_iconst dX12_forbidOne_40 (aw_pc (pc' := 41) rfl ?_)
    refine aw_ixor dX12_forbidOne_41 (aw_pc (pc' := 42) rfl ?_)
    refine aw_iand dX12_forbidOne_42 (aw_pc (pc' := 43) rfl ?_)
    refine ar_sI dX12_forbidOne_43 h ?_
    clear h
    intro F4 h
    refine aw_pc (pc' := 44) rfl ?_
    exact aw_vret rfl dX12_forbidOne_44 ⟨rfl, h⟩
  · replace h := h.2 c
    refine aw_aload_n dX12_forbidOne_12 rfl rfl (aw_pc (pc' := 13) rfl ?_)
    refine ar_gR fl_RX12_7 dX12_forbidOne_13 h ?_
    clear h
    intro x5 h
    refine aw_pc (pc' := 16) rfl ?_
    refine aw_bipush dX12_forbidOne_16 (by decide) (aw_pc (pc' := 18) rfl ?_)
    refine aw_iload_n dX12_forbidOne_18 rfl rfl (aw_pc (pc' := 19) rfl ?_)
    refine aw_iadd dX12_forbidOne_19 (aw_pc (pc' := 20) rfl ?_)
    refine ar_aI dX12_forbidOne_20 h ?_
    clear h
    intro x6 h
    refine aw_pc (pc' := 21) rfl ?_
    refine aw_iconst dX12_forbidOne_21 (aw_pc (pc' := 22) rfl ?_)
    refine aw_iload_n dX12_forbidOne_22 rfl rfl (aw_pc (pc' := 23) rfl ?_)
    refine aw_ishl dX12_forbidOne_23 (aw_pc (pc' := 24) rfl ?_)
    refine aw_ior dX12_forbidOne_24 (aw_pc (pc' := 25) rfl ?_)
    refine aw_goto (tgt := 43) dX12_forbidOne_25 rfl ?_
    refine ar_sI dX12_forbidOne_43 h ?_
    clear h
    intro F7 h
    refine aw_pc (pc' := 44) rfl ?_
    exact aw_vret rfl dX12_forbidOne_44 ⟨rfl, h⟩
def mX12_forbid (o : Nat) (a1 : Int) (a2 : Int) (a3 : Int) (F : hp) (Q : Int → hp → Prop) : Prop := mX12_isIn a1 0 3 F (fun x2 F1 => (w32 x2 = 0 → Q 0 F1) ∧ (¬ w32 x2 = 0 → mX12_isIn a2 0 3 F1 (fun x4 F3 => (w32 x4 = 0 → Q 0 F3) ∧ (¬ w32 x4 = 0 → rcv F3 (some o) 12 (fun o6 => mX12_forbidOne o6 a1 a2 a3 F3 (fun F5 => rcv F5 (some o) 12 (fun o8 => mX12_forbidOne o8 a2 a1 a3 F5 (fun F7 => Q 1 F7))))))))
set_option maxHeartbeats 4000000 in
theorem tX12_forbid {d : Nat} {o : Nat} {a1 : Int} {a2 : Int} {a3 : Int} {F : hp} {Q : Int → hp → Prop} (h : mX12_forbid o a1 a2 a3 F Q) : am nX12_forbid (d + 1) 0 0 [vr (some o), vi a1, vi a2, vi a3] F (qI Q) := by
  refine am_of (by decide +kernel) (Nat.le_of_ble_eq_true rfl) ?_
  show aw nX12_forbid (d + 1) 0 0 0 [some (vr (some o)), some (vi a1), some (vi a2), some (vi a3)] [] F (qI Q)
  unfold mX12_forbid at h
  refine aw_iload_n dX12_forbid_0 rfl rfl (aw_pc (pc' := 1) rfl ?_)
  refine aw_iconst dX12_forbid_1 (aw_pc (pc' := 2) rfl ?_)
  refine aw_iconst dX12_forbid_2 (aw_pc (pc' := 3) rfl ?_)
  refine ar_SI (kc' := 0) (ks' := 0) (kc := 0) (ks := 0) (as := [vi a1, vi 0, vi 3]) (st := []) (tX12_isIn h) mt_X12_isIn qM_RX12_78 qS_X12_isIn rfl (Nat.le_of_ble_eq_true rfl) dX12_forbid_3 ?_
  clear h
  intro x2 F1 h
  refine aw_pc (pc' := 6) rfl ?_
  refine aw_if_eq dX12_forbid_6 rfl (fun c => ?_) (fun c => ?_)
  · replace h := h.1 c
    refine aw_iconst dX12_forbid_18 (aw_pc (pc' := 19) rfl ?_)
    exact aw_zret rfl (by decide) dX12_forbid_19 ⟨_, rfl, h⟩
  · replace h := h.2 c
    refine aw_iload_n dX12_forbid_9 rfl rfl (aw_pc (pc' := 10) rfl ?_)
    refine aw_iconst dX12_forbid_10 (aw_pc (pc' := 11) rfl ?_)
    refine aw_iconst dX12_forbid_11 (aw_pc (pc' := 12) rfl ?_)
    refine ar_SI (kc' := 0) (ks' := 0) (kc := 0) (ks := 0) (as := [vi a2, vi 0, vi 3]) (st := []) (tX12_isIn h) mt_X12_isIn qM_RX12_78 qS_X12_isIn rfl (Nat.le_of_ble_eq_true rfl) dX12_forbid_12 ?_
    clear h
    intro x4 F3 h
    refine aw_pc (pc' := 15) rfl ?_
    refine aw_if_ne dX12_forbid_15 rfl (fun c => ?_) (fun c => ?_)
    · replace h := h.1 c
      refine aw_iconst dX12_forbid_18 (aw_pc (pc' := 19) rfl ?_)
      exact aw_zret rfl (by decide) dX12_forbid_19 ⟨_, rfl, h⟩
    · replace h := h.2 c
      refine aw_aload_n dX12_forbid_20 rfl rfl (aw_pc (pc' := 21) rfl ?_)
      refine aw_iload_n dX12_forbid_21 rfl rfl (aw_pc (pc' := 22) rfl ?_)
      refine aw_iload_n dX12_forbid_22 rfl rfl (aw_pc (pc' := 23) rfl ?_)
      refine aw_iload_n dX12_forbid_23 rfl rfl (aw_pc (pc' := 24) rfl ?_)
      have h0 := rcv_inv h
      clear h
      obtain ⟨o6, fs_o6, hr_o6, he_o6, h⟩ := h0
      obtain rfl : o = o6 := Option.some.inj hr_o6
      refine ar_VV (kc' := 0) (ks' := 0) (kc := 0) (ks := 0) (a := o) (ci := 12) (as := [vi a1, vi a2, vi a3]) (st := []) (tX12_forbidOne h) mt_X12_forbidOne rfl qM_RX12_98 qI_X12_forbidOne qV_X12_forbidOne he_o6 rfl (Nat.le_of_ble_eq_true rfl) dX12_forbid_24 ?_
      clear h
      intro F5 h
      refine aw_pc (pc' := 27) rfl ?_
      refine aw_aload_n dX12_forbid_27 rfl rfl (aw_pc (pc' := 28) rfl ?_)
      refine aw_iload_n dX12_forbid_28 rfl rfl (aw_pc (pc' := 29) rfl ?_)
      refine aw_iload_n dX12_forbid_29 rfl rfl (aw_pc (pc' := 30) rfl ?_)
      refine aw_iload_n dX12_forbid_30 rfl rfl (aw_pc (pc' := 31) rfl ?_)
      have h0 := rcv_inv h
      clear h
      obtain ⟨o8, fs_o8, hr_o8, he_o8, h⟩ := h0
      obtain rfl : o = o8 := Option.some.inj hr_o8
      refine ar_VV (kc' := 0) (ks' := 0) (kc := 0) (ks := 0) (a := o) (ci := 12) (as := [vi a2, vi a1, vi a3]) (st := []) (tX12_forbidOne h) mt_X12_forbidOne rfl qM_RX12_98 qI_X12_forbidOne qV_X12_forbidOne he_o8 rfl (Nat.le_of_ble_eq_true rfl) dX12_forbid_31 ?_
      clear h
      intro F7 h
      refine aw_pc (pc' := 34) rfl ?_
      refine aw_iconst dX12_forbid_34 (aw_pc (pc' := 35) rfl ?_)
      exact aw_zret rfl (by decide) dX12_forbid_35 ⟨_, rfl, h⟩
def mX12_times (o : Nat) (a1 : Int) (a2 : Int) (a3 : Int) (F : hp) (Q : Int → hp → Prop) : Prop := rcv F (some o) 12 (fun o3 => mX12_isCar o3 a1 F (fun x2 F1 => (w32 x2 = 0 → Q 0 F1) ∧ (¬ w32 x2 = 0 → mX12_isIn a2 1 20 F1 (fun x5 F4 => (w32 x5 = 0 → Q 0 F4) ∧ (¬ w32 x5 = 0 → mX12_isIn a3 1 20 F4 (fun x7 F6 => (w32 x7 = 0 → Q 0 F6) ∧ (¬ w32 x7 = 0 → gR F6 (some o) 12 0 (fun x8 => sI F6 x8 0 (46 + a1) a2 (fun F9 => gR F9 (some o) 12 0 (fun x10 => sI F9 x10 0 (51 + a1) a3 (fun F11 => Q 1 F11)))))))))))
set_option maxHeartbeats 4000000 in
theorem tX12_times {d : Nat} {o : Nat} {a1 : Int} {a2 : Int} {a3 : Int} {F : hp} {Q : Int → hp → Prop} (h : mX12_times o a1 a2 a3 F Q) : am nX12_times (d + 2) 0 0 [vr (some o), vi a1, vi a2, vi a3] F (qI Q) := by
  refine am_of (by decide +kernel) (Nat.le_of_ble_eq_true rfl) ?_
  show aw nX12_times (d + 2) 0 0 0 [some (vr (some o)), some (vi a1), some (vi a2), some (vi a3)] [] F (qI Q)
  unfold mX12_times at h
  refine aw_aload_n dX12_times_0 rfl rfl (aw_pc (pc' := 1) rfl ?_)
  refine aw_iload_n dX12_times_1 rfl rfl (aw_pc (pc' := 2) rfl ?_)
  have h0 := rcv_inv h
  clear h
  obtain ⟨o3, fs_o3, hr_o3, he_o3, h⟩ := h0
  obtain rfl : o = o3 := Option.some.inj hr_o3
  refine ar_VI (kc' := 0) (ks' := 0) (kc := 0) (ks := 0) (a := o) (ci := 12) (as := [vi a1]) (st := []) (tX12_isCar h) mt_X12_isCar rfl qM_RX12_102 qI_X12_isCar qV_X12_isCar he_o3 rfl (Nat.le_of_ble_eq_true rfl) dX12_times_2 ?_
  clear h
  intro x2 F1 h
  refine aw_pc (pc' := 5) rfl ?_
  refine aw_if_eq dX12_times_5 rfl (fun c => ?_) (fun c => ?_)
  · replace h := h.1 c
    refine aw_iconst dX12_times_28 (aw_pc (pc' := 29) rfl ?_)
    exact aw_zret rfl (by decide) dX12_times_29 ⟨_, rfl, h⟩
  · replace h := h.2 c
    refine aw_iload_n dX12_times_8 rfl rfl (aw_pc (pc' := 9) rfl ?_)
    refine aw_iconst dX12_times_9 (aw_pc (pc' := 10) rfl ?_)
    refine aw_bipush dX12_times_10 (by decide) (aw_pc (pc' := 12) rfl ?_)
    refine ar_SI (kc' := 0) (ks' := 0) (kc := 0) (ks := 0) (as := [vi a2, vi 1, vi 20]) (st := []) (tX12_isIn h) mt_X12_isIn qM_RX12_78 qS_X12_isIn rfl (Nat.le_of_ble_eq_true rfl) dX12_times_12 ?_
    clear h
    intro x5 F4 h
    refine aw_pc (pc' := 15) rfl ?_
    refine aw_if_eq dX12_times_15 rfl (fun c => ?_) (fun c => ?_)
    · replace h := h.1 c
      refine aw_iconst dX12_times_28 (aw_pc (pc' := 29) rfl ?_)
      exact aw_zret rfl (by decide) dX12_times_29 ⟨_, rfl, h⟩
    · replace h := h.2 c
      refine aw_iload_n dX12_times_18 rfl rfl (aw_pc (pc' := 19) rfl ?_)
      refine aw_iconst dX12_times_19 (aw_pc (pc' := 20) rfl ?_)
      refine aw_bipush dX12_times_20 (by decide) (aw_pc (pc' := 22) rfl ?_)
      refine ar_SI (kc' := 0) (ks' := 0) (kc := 0) (ks := 0) (as := [vi a3, vi 1, vi 20]) (st := []) (tX12_isIn h) mt_X12_isIn qM_RX12_78 qS_X12_isIn rfl (Nat.le_of_ble_eq_true rfl) dX12_times_22 ?_
      clear h
      intro x7 F6 h
      refine aw_pc (pc' := 25) rfl ?_
      refine aw_if_ne dX12_times_25 rfl (fun c => ?_) (fun c => ?_)
      · replace h := h.1 c
        refine aw_iconst dX12_times_28 (aw_pc (pc' := 29) rfl ?_)
        exact aw_zret rfl (by decide) dX12_times_29 ⟨_, rfl, h⟩
      · replace h := h.2 c
        refine aw_aload_n dX12_times_30 rfl rfl (aw_pc (pc' := 31) rfl ?_)
        refine ar_gR fl_RX12_7 dX12_times_31 h ?_
        clear h
        intro x8 h
        refine aw_pc (pc' := 34) rfl ?_
        refine aw_bipush dX12_times_34 (by decide) (aw_pc (pc' := 36) rfl ?_)
        refine aw_iload_n dX12_times_36 rfl rfl (aw_pc (pc' := 37) rfl ?_)
        refine aw_iadd dX12_times_37 (aw_pc (pc' := 38) rfl ?_)
        refine aw_iload_n dX12_times_38 rfl rfl (aw_pc (pc' := 39) rfl ?_)
        refine ar_sI dX12_times_39 h ?_
        clear h
        intro F9 h
        refine aw_pc (pc' := 40) rfl ?_
        refine aw_aload_n dX12_times_40 rfl rfl (aw_pc (pc' := 41) rfl ?_)
        refine ar_gR fl_RX12_7 dX12_times_41 h ?_
        clear h
        intro x10 h
        refine aw_pc (pc' := 44) rfl ?_
        refine aw_bipush dX12_times_44 (by decide) (aw_pc (pc' := 46) rfl ?_)
        refine aw_iload_n dX12_times_46 rfl rfl (aw_pc (pc' := 47) rfl ?_)
        refine aw_iadd dX12_times_47 (aw_pc (pc' := 48) rfl ?_)
        refine aw_iload_n dX12_times_48 rfl rfl (aw_pc (pc' := 49) rfl ?_)
        refine ar_sI dX12_times_49 h ?_
        clear h
        intro F11 h
        refine aw_pc (pc' := 50) rfl ?_
        refine aw_iconst dX12_times_50 (aw_pc (pc' := 51) rfl ?_)
        exact aw_zret rfl (by decide) dX12_times_51 ⟨_, rfl, h⟩
def mX12_four_L3 (Q : hp → Prop) : Nat → Nat → Int → Int → hp → Prop
  | 0, _, _, _, _ => False
  | k + 1, o, a1, a2, F => (w32 a2 < 0 → Q F) ∧ (¬ w32 a2 < 0 → gR F (some o) 12 3 (fun x1 => gI F (some o) 12 4 (fun x2 => sI F x1 0 x2 (iAnd (iShr a1 a2) 255) (fun F3 => gI F3 (some o) 12 4 (fun x4 => pF F3 (some o) 12 4 (vi (x4 + 1)) (fun F5 => mX12_four_L3 Q k o a1 (a2 + (-8)) F5))))))
set_option maxHeartbeats 4000000 in
theorem tX12_four_L3 {d : Nat} {Q : hp → Prop} : ∀ (k : Nat) (o : Nat) (a1 : Int) (a2 : Int) (F : hp), mX12_four_L3 Q k o a1 a2 F → aw nX12_four d 0 0 3 [some (vr (some o)), some (vi a1), some (vi a2)] [] F (qV Q) := by
  intro k
  induction k with
  | zero => intro o a1 a2 F h; exact h.elim
  | succ k ih =>
    intro o a1 a2 F h
    simp only [mX12_four_L3] at h
    refine aw_iload_n dX12_four_3 rfl rfl (aw_pc (pc' := 4) rfl ?_)
    refine aw_if_lt dX12_four_4 rfl (fun c => ?_) (fun c => ?_)
    · replace h := h.1 c
      exact aw_vret rfl dX12_four_39 ⟨rfl, h⟩
    · replace h := h.2 c
      refine aw_aload_n dX12_four_7 rfl rfl (aw_pc (pc' := 8) rfl ?_)
      refine ar_gR fl_RX12_19 dX12_four_8 h ?_
      clear h
      intro x1 h
      refine aw_pc (pc' := 11) rfl ?_
      refine aw_aload_n dX12_four_11 rfl rfl (aw_pc (pc' := 12) rfl ?_)
      refine ar_gI fl_RX12_106 dX12_four_12 h ?_
      clear h
      intro x2 h
      refine aw_pc (pc' := 15) rfl ?_
      refine aw_iload_n dX12_four_15 rfl rfl (aw_pc (pc' := 16) rfl ?_)
      refine aw_iload_n dX12_four_16 rfl rfl (aw_pc (pc' := 17) rfl ?_)
      refine aw_ishr dX12_four_17 (aw_pc (pc' := 18) rfl ?_)
      refine aw_sipush dX12_four_18 (by decide) (aw_pc (pc' := 21) rfl ?_)
      refine aw_iand dX12_four_21 (aw_pc (pc' := 22) rfl ?_)
      refine ar_sI dX12_four_22 h ?_
      clear h
      intro F3 h
      refine aw_pc (pc' := 23) rfl ?_
      refine aw_aload_n dX12_four_23 rfl rfl (aw_pc (pc' := 24) rfl ?_)
      refine aw_dup dX12_four_24 trivial (aw_pc (pc' := 25) rfl ?_)
      refine ar_gI fl_RX12_106 dX12_four_25 h ?_
      clear h
      intro x4 h
      refine aw_pc (pc' := 28) rfl ?_
      refine aw_iconst dX12_four_28 (aw_pc (pc' := 29) rfl ?_)
      refine aw_iadd dX12_four_29 (aw_pc (pc' := 30) rfl ?_)
      refine ar_pF fl_RX12_106 ft_X12_4 (okI _) dX12_four_30 h ?_
      clear h
      intro F5 h
      refine aw_pc (pc' := 33) rfl ?_
      refine aw_iinc dX12_four_33 rfl (by decide) (aw_pc (pc' := 36) rfl ?_)
      refine aw_goto (tgt := 3) dX12_four_36 rfl ?_
      exact aw_mask [true, true, true] (ih _ _ _ _ h)
def mX12_four (o : Nat) (a1 : Int) (F : hp) (Q : hp → Prop) : Prop := (∃ k1, mX12_four_L3 Q k1 o a1 24 F)
set_option maxHeartbeats 4000000 in
theorem tX12_four {d : Nat} {o : Nat} {a1 : Int} {F : hp} {Q : hp → Prop} (h : mX12_four o a1 F Q) : am nX12_four d 0 0 [vr (some o), vi a1] F (qV Q) := by
  refine am_of (by decide +kernel) (Nat.le_of_ble_eq_true rfl) ?_
  show aw nX12_four d 0 0 0 [some (vr (some o)), some (vi a1), none] [] F (qV Q)
  unfold mX12_four at h
  refine aw_bipush dX12_four_0 (by decide) (aw_pc (pc' := 2) rfl ?_)
  refine aw_istore_n dX12_four_2 rfl (by decide) (aw_pc (pc' := 3) rfl ?_)
  obtain ⟨k1, h⟩ := h
  exact aw_mask [true, true, true] (tX12_four_L3 k1 _ _ _ _ h)
def mX12_feed (o : Nat) (a1 : Int) (a2 : Int) (a3 : Int) (a4 : Int) (a5 : Int) (F : hp) (Q : Int → hp → Prop) : Prop := gI F (some o) 12 4 (fun x1 => (300 < w32 (x1 + 20) → Q (-1) F) ∧ (¬ 300 < w32 (x1 + 20) → rcv F (some o) 12 (fun o3 => mX12_four o3 a1 F (fun F2 => rcv F2 (some o) 12 (fun o5 => mX12_four o5 a2 F2 (fun F4 => rcv F4 (some o) 12 (fun o7 => mX12_four o7 a3 F4 (fun F6 => rcv F6 (some o) 12 (fun o9 => mX12_four o9 a4 F6 (fun F8 => rcv F8 (some o) 12 (fun o11 => mX12_four o11 a5 F8 (fun F10 => gI F10 (some o) 12 4 (fun x12 => Q x12 F10)))))))))))))
set_option maxHeartbeats 4000000 in
theorem tX12_feed {d : Nat} {o : Nat} {a1 : Int} {a2 : Int} {a3 : Int} {a4 : Int} {a5 : Int} {F : hp} {Q : Int → hp → Prop} (h : mX12_feed o a1 a2 a3 a4 a5 F Q) : am nX12_feed (d + 1) 0 0 [vr (some o), vi a1, vi a2, vi a3, vi a4, vi a5] F (qI Q) := by
  refine am_of (by decide +kernel) (Nat.le_of_ble_eq_true rfl) ?_
  show aw nX12_feed (d + 1) 0 0 0 [some (vr (some o)), some (vi a1), some (vi a2), some (vi a3), some (vi a4), some (vi a5)] [] F (qI Q)
  unfold mX12_feed at h
  refine aw_aload_n dX12_feed_0 rfl rfl (aw_pc (pc' := 1) rfl ?_)
  refine ar_gI fl_RX12_106 dX12_feed_1 h ?_
  clear h
  intro x1 h
  refine aw_pc (pc' := 4) rfl ?_
  refine aw_bipush dX12_feed_4 (by decide) (aw_pc (pc' := 6) rfl ?_)
  refine aw_iadd dX12_feed_6 (aw_pc (pc' := 7) rfl ?_)
  refine aw_sipush dX12_feed_7 (by decide) (aw_pc (pc' := 10) rfl ?_)
  refine ac_le rfl wl_300 dX12_feed_10 rfl (fun c => ?_) (fun c => ?_)
  · replace h := h.1 c
    refine aw_iconst dX12_feed_13 (aw_pc (pc' := 14) rfl ?_)
    exact aw_iret rfl dX12_feed_14 ⟨_, rfl, h⟩
  · replace h := h.2 c
    refine aw_aload_n dX12_feed_15 rfl rfl (aw_pc (pc' := 16) rfl ?_)
    refine aw_iload_n dX12_feed_16 rfl rfl (aw_pc (pc' := 17) rfl ?_)
    have h0 := rcv_inv h
    clear h
    obtain ⟨o3, fs_o3, hr_o3, he_o3, h⟩ := h0
    obtain rfl : o = o3 := Option.some.inj hr_o3
    refine ar_VV (kc' := 0) (ks' := 0) (kc := 0) (ks := 0) (a := o) (ci := 12) (as := [vi a1]) (st := []) (tX12_four h) mt_X12_four rfl qM_RX12_109 qI_X12_four qV_X12_four he_o3 rfl (Nat.le_of_ble_eq_true rfl) dX12_feed_17 ?_
    clear h
    intro F2 h
    refine aw_pc (pc' := 20) rfl ?_
    refine aw_aload_n dX12_feed_20 rfl rfl (aw_pc (pc' := 21) rfl ?_)
    refine aw_iload_n dX12_feed_21 rfl rfl (aw_pc (pc' := 22) rfl ?_)
    have h0 := rcv_inv h
    clear h
    obtain ⟨o5, fs_o5, hr_o5, he_o5, h⟩ := h0
    obtain rfl : o = o5 := Option.some.inj hr_o5
    refine ar_VV (kc' := 0) (ks' := 0) (kc := 0) (ks := 0) (a := o) (ci := 12) (as := [vi a2]) (st := []) (tX12_four h) mt_X12_four rfl qM_RX12_109 qI_X12_four qV_X12_four he_o5 rfl (Nat.le_of_ble_eq_true rfl) dX12_feed_22 ?_
    clear h
    intro F4 h
    refine aw_pc (pc' := 25) rfl ?_
    refine aw_aload_n dX12_feed_25 rfl rfl (aw_pc (pc' := 26) rfl ?_)
    refine aw_iload_n dX12_feed_26 rfl rfl (aw_pc (pc' := 27) rfl ?_)
    have h0 := rcv_inv h
    clear h
    obtain ⟨o7, fs_o7, hr_o7, he_o7, h⟩ := h0
    obtain rfl : o = o7 := Option.some.inj hr_o7
    refine ar_VV (kc' := 0) (ks' := 0) (kc := 0) (ks := 0) (a := o) (ci := 12) (as := [vi a3]) (st := []) (tX12_four h) mt_X12_four rfl qM_RX12_109 qI_X12_four qV_X12_four he_o7 rfl (Nat.le_of_ble_eq_true rfl) dX12_feed_27 ?_
    clear h
    intro F6 h
    refine aw_pc (pc' := 30) rfl ?_
    refine aw_aload_n dX12_feed_30 rfl rfl (aw_pc (pc' := 31) rfl ?_)
    refine aw_iload dX12_feed_31 rfl (aw_pc (pc' := 33) rfl ?_)
    have h0 := rcv_inv h
    clear h
    obtain ⟨o9, fs_o9, hr_o9, he_o9, h⟩ := h0
    obtain rfl : o = o9 := Option.some.inj hr_o9
    refine ar_VV (kc' := 0) (ks' := 0) (kc := 0) (ks := 0) (a := o) (ci := 12) (as := [vi a4]) (st := []) (tX12_four h) mt_X12_four rfl qM_RX12_109 qI_X12_four qV_X12_four he_o9 rfl (Nat.le_of_ble_eq_true rfl) dX12_feed_33 ?_
    clear h
    intro F8 h
    refine aw_pc (pc' := 36) rfl ?_
    refine aw_aload_n dX12_feed_36 rfl rfl (aw_pc (pc' := 37) rfl ?_)
    refine aw_iload dX12_feed_37 rfl (aw_pc (pc' := 39) rfl ?_)
    have h0 := rcv_inv h
    clear h
    obtain ⟨o11, fs_o11, hr_o11, he_o11, h⟩ := h0
    obtain rfl : o = o11 := Option.some.inj hr_o11
    refine ar_VV (kc' := 0) (ks' := 0) (kc := 0) (ks := 0) (a := o) (ci := 12) (as := [vi a5]) (st := []) (tX12_four h) mt_X12_four rfl qM_RX12_109 qI_X12_four qV_X12_four he_o11 rfl (Nat.le_of_ble_eq_true rfl) dX12_feed_39 ?_
    clear h
    intro F10 h
    refine aw_pc (pc' := 42) rfl ?_
    refine aw_aload_n dX12_feed_42 rfl rfl (aw_pc (pc' := 43) rfl ?_)
    refine ar_gI fl_RX12_106 dX12_feed_43 h ?_
    clear h
    intro x12 h
    refine aw_pc (pc' := 46) rfl ?_
    exact aw_iret rfl dX12_feed_46 ⟨_, rfl, h⟩
def mX12_end (o : Nat) (a1 : Int) (F : hp) (Q : Int → hp → Prop) : Prop := gI F (some o) 12 4 (fun x1 => mX12_isIn a1 0 x1 F (fun x3 F2 => (w32 x3 = 0 → Q (-1) F2) ∧ (¬ w32 x3 = 0 → pF F2 (some o) 12 4 (vi a1) (fun F4 => Q a1 F4))))
set_option maxHeartbeats 4000000 in
theorem tX12_end {d : Nat} {o : Nat} {a1 : Int} {F : hp} {Q : Int → hp → Prop} (h : mX12_end o a1 F Q) : am nX12_end (d + 1) 0 0 [vr (some o), vi a1] F (qI Q) := by
  refine am_of (by decide +kernel) (Nat.le_of_ble_eq_true rfl) ?_
  show aw nX12_end (d + 1) 0 0 0 [some (vr (some o)), some (vi a1)] [] F (qI Q)
  unfold mX12_end at h
  refine aw_iload_n dX12_end_0 rfl rfl (aw_pc (pc' := 1) rfl ?_)
  refine aw_iconst dX12_end_1 (aw_pc (pc' := 2) rfl ?_)
  refine aw_aload_n dX12_end_2 rfl rfl (aw_pc (pc' := 3) rfl ?_)
  refine ar_gI fl_RX12_106 dX12_end_3 h ?_
  clear h
  intro x1 h
  refine aw_pc (pc' := 6) rfl ?_
  refine ar_SI (kc' := 0) (ks' := 0) (kc := 0) (ks := 0) (as := [vi a1, vi 0, vi x1]) (st := []) (tX12_isIn h) mt_X12_isIn qM_RX12_78 qS_X12_isIn rfl (Nat.le_of_ble_eq_true rfl) dX12_end_6 ?_
  clear h
  intro x3 F2 h
  refine aw_pc (pc' := 9) rfl ?_
  refine aw_if_ne dX12_end_9 rfl (fun c => ?_) (fun c => ?_)
  · replace h := h.1 c
    refine aw_iconst dX12_end_12 (aw_pc (pc' := 13) rfl ?_)
    exact aw_iret rfl dX12_end_13 ⟨_, rfl, h⟩
  · replace h := h.2 c
    refine aw_aload_n dX12_end_14 rfl rfl (aw_pc (pc' := 15) rfl ?_)
    refine aw_iload_n dX12_end_15 rfl rfl (aw_pc (pc' := 16) rfl ?_)
    refine ar_pF fl_RX12_106 ft_X12_4 (okI _) dX12_end_16 h ?_
    clear h
    intro F4 h
    refine aw_pc (pc' := 19) rfl ?_
    refine aw_iload_n dX12_end_19 rfl rfl (aw_pc (pc' := 20) rfl ?_)
    exact aw_iret rfl dX12_end_20 ⟨_, rfl, h⟩
def mX12_byteAt (o : Nat) (a1 : Int) (F : hp) (Q : Int → hp → Prop) : Prop := gI F (some o) 12 4 (fun x1 => (w32 a1 < w32 x1 → gR F (some o) 12 3 (fun x2 => aI F x2 0 a1 (fun x3 => Q x3 F))) ∧ (¬ w32 a1 < w32 x1 → Q (-1) F))
set_option maxHeartbeats 4000000 in
theorem tX12_byteAt {d : Nat} {o : Nat} {a1 : Int} {F : hp} {Q : Int → hp → Prop} (h : mX12_byteAt o a1 F Q) : am nX12_byteAt d 0 0 [vr (some o), vi a1] F (qI Q) := by
  refine am_of (by decide +kernel) (Nat.le_of_ble_eq_true rfl) ?_
  show aw nX12_byteAt d 0 0 0 [some (vr (some o)), some (vi a1)] [] F (qI Q)
  unfold mX12_byteAt at h
  refine aw_iload_n dX12_byteAt_0 rfl rfl (aw_pc (pc' := 1) rfl ?_)
  refine aw_aload_n dX12_byteAt_1 rfl rfl (aw_pc (pc' := 2) rfl ?_)
  refine ar_gI fl_RX12_106 dX12_byteAt_2 h ?_
  clear h
  intro x1 h
  refine aw_pc (pc' := 5) rfl ?_
  refine ac_ge rfl rfl dX12_byteAt_5 rfl (fun c => ?_) (fun c => ?_)
  · replace h := h.1 c
    refine aw_aload_n dX12_byteAt_8 rfl rfl (aw_pc (pc' := 9) rfl ?_)
    refine ar_gR fl_RX12_19 dX12_byteAt_9 h ?_
    clear h
    intro x2 h
    refine aw_pc (pc' := 12) rfl ?_
    refine aw_iload_n dX12_byteAt_12 rfl rfl (aw_pc (pc' := 13) rfl ?_)
    refine ar_aI dX12_byteAt_13 h ?_
    clear h
    intro x3 h
    refine aw_pc (pc' := 14) rfl ?_
    refine aw_goto (tgt := 18) dX12_byteAt_14 rfl ?_
    exact aw_iret rfl dX12_byteAt_18 ⟨_, rfl, h⟩
  · replace h := h.2 c
    refine aw_iconst dX12_byteAt_17 (aw_pc (pc' := 18) rfl ?_)
    exact aw_iret rfl dX12_byteAt_18 ⟨_, rfl, h⟩
def mX12_isLetterByte_J24 (Q : Int → hp → Prop) (F : hp) : Prop := Q 1 F
set_option maxHeartbeats 4000000 in
theorem tX12_isLetterByte_J24 {d : Nat} {Q : Int → hp → Prop} {F : hp} (h : mX12_isLetterByte_J24 Q F) : aw nX12_isLetterByte d 0 0 24 [none] [] F (qI Q) := by
  unfold mX12_isLetterByte_J24 at h
  refine aw_iconst dX12_isLetterByte_24 (aw_pc (pc' := 25) rfl ?_)
  refine aw_goto (tgt := 29) dX12_isLetterByte_25 rfl ?_
  exact aw_zret rfl (by decide) dX12_isLetterByte_29 ⟨_, rfl, h⟩
def mX12_isLetterByte_J12 (Q : Int → hp → Prop) (a0 : Int) (F : hp) : Prop := (w32 a0 < 65 → Q 0 F) ∧ (¬ w32 a0 < 65 → (90 < w32 a0 → Q 0 F) ∧ (¬ 90 < w32 a0 → mX12_isLetterByte_J24 Q F))
set_option maxHeartbeats 4000000 in
theorem tX12_isLetterByte_J12 {d : Nat} {Q : Int → hp → Prop} {a0 : Int} {F : hp} (h : mX12_isLetterByte_J12 Q a0 F) : aw nX12_isLetterByte d 0 0 12 [some (vi a0)] [] F (qI Q) := by
  unfold mX12_isLetterByte_J12 at h
  refine aw_iload_n dX12_isLetterByte_12 rfl rfl (aw_pc (pc' := 13) rfl ?_)
  refine aw_bipush dX12_isLetterByte_13 (by decide) (aw_pc (pc' := 15) rfl ?_)
  refine ac_lt rfl wl_65 dX12_isLetterByte_15 rfl (fun c => ?_) (fun c => ?_)
  · replace h := h.1 c
    refine aw_iconst dX12_isLetterByte_28 (aw_pc (pc' := 29) rfl ?_)
    exact aw_zret rfl (by decide) dX12_isLetterByte_29 ⟨_, rfl, h⟩
  · replace h := h.2 c
    refine aw_iload_n dX12_isLetterByte_18 rfl rfl (aw_pc (pc' := 19) rfl ?_)
    refine aw_bipush dX12_isLetterByte_19 (by decide) (aw_pc (pc' := 21) rfl ?_)
    refine ac_gt rfl wl_90 dX12_isLetterByte_21 rfl (fun c => ?_) (fun c => ?_)
    · replace h := h.1 c
      refine aw_iconst dX12_isLetterByte_28 (aw_pc (pc' := 29) rfl ?_)
      exact aw_zret rfl (by decide) dX12_isLetterByte_29 ⟨_, rfl, h⟩
    · replace h := h.2 c
      exact aw_mask [false] (tX12_isLetterByte_J24 h)
def mX12_isLetterByte (a0 : Int) (F : hp) (Q : Int → hp → Prop) : Prop := (w32 a0 < 97 → mX12_isLetterByte_J12 Q a0 F) ∧ (¬ w32 a0 < 97 → (122 < w32 a0 → mX12_isLetterByte_J12 Q a0 F) ∧ (¬ 122 < w32 a0 → mX12_isLetterByte_J24 Q F))
set_option maxHeartbeats 4000000 in
theorem tX12_isLetterByte {d : Nat} {a0 : Int} {F : hp} {Q : Int → hp → Prop} (h : mX12_isLetterByte a0 F Q) : am nX12_isLetterByte d 0 0 [vi a0] F (qI Q) := by
  refine am_of (by decide +kernel) (Nat.le_of_ble_eq_true rfl) ?_
  show aw nX12_isLetterByte d 0 0 0 [some (vi a0)] [] F (qI Q)
  unfold mX12_isLetterByte at h
  refine aw_iload_n dX12_isLetterByte_0 rfl rfl (aw_pc (pc' := 1) rfl ?_)
  refine aw_bipush dX12_isLetterByte_1 (by decide) (aw_pc (pc' := 3) rfl ?_)
  refine ac_lt rfl wl_97 dX12_isLetterByte_3 rfl (fun c => ?_) (fun c => ?_)
  · replace h := h.1 c
    exact aw_mask [true] (tX12_isLetterByte_J12 h)
  · replace h := h.2 c
    refine aw_iload_n dX12_isLetterByte_6 rfl rfl (aw_pc (pc' := 7) rfl ?_)
    refine aw_bipush dX12_isLetterByte_7 (by decide) (aw_pc (pc' := 9) rfl ?_)
    refine ac_le rfl wl_122 dX12_isLetterByte_9 rfl (fun c => ?_) (fun c => ?_)
    · replace h := h.1 c
      exact aw_mask [true] (tX12_isLetterByte_J12 h)
    · replace h := h.2 c
      exact aw_mask [false] (tX12_isLetterByte_J24 h)
def mX12_isFigure (a0 : Int) (F : hp) (Q : Int → hp → Prop) : Prop := (w32 a0 < 48 → Q 0 F) ∧ (¬ w32 a0 < 48 → (57 < w32 a0 → Q 0 F) ∧ (¬ 57 < w32 a0 → Q 1 F))
set_option maxHeartbeats 4000000 in
theorem tX12_isFigure {d : Nat} {a0 : Int} {F : hp} {Q : Int → hp → Prop} (h : mX12_isFigure a0 F Q) : am nX12_isFigure d 0 0 [vi a0] F (qI Q) := by
  refine am_of (by decide +kernel) (Nat.le_of_ble_eq_true rfl) ?_
  show aw nX12_isFigure d 0 0 0 [some (vi a0)] [] F (qI Q)
  unfold mX12_isFigure at h
  refine aw_iload_n dX12_isFigure_0 rfl rfl (aw_pc (pc' := 1) rfl ?_)
  refine aw_bipush dX12_isFigure_1 (by decide) (aw_pc (pc' := 3) rfl ?_)
  refine ac_lt rfl wl_48 dX12_isFigure_3 rfl (fun c => ?_) (fun c => ?_)
  · replace h := h.1 c
    refine aw_iconst dX12_isFigure_16 (aw_pc (pc' := 17) rfl ?_)
    exact aw_zret rfl (by decide) dX12_isFigure_17 ⟨_, rfl, h⟩
  · replace h := h.2 c
    refine aw_iload_n dX12_isFigure_6 rfl rfl (aw_pc (pc' := 7) rfl ?_)
    refine aw_bipush dX12_isFigure_7 (by decide) (aw_pc (pc' := 9) rfl ?_)
    refine ac_gt rfl wl_57 dX12_isFigure_9 rfl (fun c => ?_) (fun c => ?_)
    · replace h := h.1 c
      refine aw_iconst dX12_isFigure_16 (aw_pc (pc' := 17) rfl ?_)
      exact aw_zret rfl (by decide) dX12_isFigure_17 ⟨_, rfl, h⟩
    · replace h := h.2 c
      refine aw_iconst dX12_isFigure_12 (aw_pc (pc' := 13) rfl ?_)
      refine aw_goto (tgt := 17) dX12_isFigure_13 rfl ?_
      exact aw_zret rfl (by decide) dX12_isFigure_17 ⟨_, rfl, h⟩
def mX12_isSign (a0 : Int) (F : hp) (Q : Int → hp → Prop) : Prop := (w32 a0 = 35 → Q 1 F) ∧ (w32 a0 = 36 → Q 0 F) ∧ (w32 a0 = 37 → Q 0 F) ∧ (w32 a0 = 38 → Q 0 F) ∧ (w32 a0 = 39 → Q 0 F) ∧ (w32 a0 = 40 → Q 1 F) ∧ (w32 a0 = 41 → Q 1 F) ∧ (w32 a0 = 42 → Q 1 F) ∧ (w32 a0 = 43 → Q 1 F) ∧ (w32 a0 = 44 → Q 0 F) ∧ (w32 a0 = 45 → Q 1 F) ∧ (w32 a0 = 46 → Q 0 F) ∧ (w32 a0 = 47 → Q 1 F) ∧ (w32 a0 = 48 → Q 0 F) ∧ (w32 a0 = 49 → Q 0 F) ∧ (w32 a0 = 50 → Q 0 F) ∧ (w32 a0 = 51 → Q 0 F) ∧ (w32 a0 = 52 → Q 0 F) ∧ (w32 a0 = 53 → Q 0 F) ∧ (w32 a0 = 54 → Q 0 F) ∧ (w32 a0 = 55 → Q 0 F) ∧ (w32 a0 = 56 → Q 0 F) ∧ (w32 a0 = 57 → Q 0 F) ∧ (w32 a0 = 58 → Q 1 F) ∧ (w32 a0 = 59 → Q 1 F) ∧ (w32 a0 = 60 → Q 1 F) ∧ (w32 a0 = 61 → Q 1 F) ∧ (w32 a0 = 62 → Q 1 F) ∧ (w32 a0 < 35 ∨ 62 < w32 a0 → Q 0 F)
set_option maxHeartbeats 4000000 in
theorem tX12_isSign {d : Nat} {a0 : Int} {F : hp} {Q : Int → hp → Prop} (h : mX12_isSign a0 F Q) : am nX12_isSign d 0 0 [vi a0] F (qI Q) := by
  refine am_of (by decide +kernel) (Nat.le_of_ble_eq_true rfl) ?_
  show aw nX12_isSign d 0 0 0 [some (vi a0)] [] F (qI Q)
  unfold mX12_isSign at h
  refine aw_iload_n dX12_isSign_0 rfl rfl (aw_pc (pc' := 1) rfl ?_)
  refine aw_table dX12_isSign_1 (td := 130) rfl (fun j => [128, 130, 130, 130, 130, 128, 128, 128, 128, 130, 128, 130, 128, 130, 130, 130, 130, 130, 130, 130, 130, 130, 130, 128, 128, 128, 128, 128].getD j 0) rfl (by decide) (fun j hj hx => ?_) (fun hx => ?_)
  · have hj : j = 0 ∨ j = 1 ∨ j = 2 ∨ j = 3 ∨ j = 4 ∨ j = 5 ∨ j = 6 ∨ j = 7 ∨ j = 8 ∨ j = 9 ∨ j = 10 ∨ j = 11 ∨ j = 12 ∨ j = 13 ∨ j = 14 ∨ j = 15 ∨ j = 16 ∨ j = 17 ∨ j = 18 ∨ j = 19 ∨ j = 20 ∨ j = 21 ∨ j = 22 ∨ j = 23 ∨ j = 24 ∨ j = 25 ∨ j = 26 ∨ j = 27 := by (simp at hj; omega)
    rcases hj with rfl | rfl | rfl | rfl | rfl | rfl | rfl | rfl | rfl | rfl | rfl | rfl | rfl | rfl | rfl | rfl | rfl | rfl | rfl | rfl | rfl | rfl | rfl | rfl | rfl | rfl | rfl | rfl
    · replace h := h.1 (by omega)
      refine aw_pc (pc' := 128) rfl ?_
      refine aw_iconst dX12_isSign_128 (aw_pc (pc' := 129) rfl ?_)
      exact aw_zret rfl (by decide) dX12_isSign_129 ⟨_, rfl, h⟩
    · replace h := h.2.1 (by omega)
      refine aw_pc (pc' := 130) rfl ?_
      refine aw_iconst dX12_isSign_130 (aw_pc (pc' := 131) rfl ?_)
      exact aw_zret rfl (by decide) dX12_isSign_131 ⟨_, rfl, h⟩
    · replace h := h.2.2.1 (by omega)
      refine aw_pc (pc' := 130) rfl ?_
      refine aw_iconst dX12_isSign_130 (aw_pc (pc' := 131) rfl ?_)
      exact aw_zret rfl (by decide) dX12_isSign_131 ⟨_, rfl, h⟩
    · replace h := h.2.2.2.1 (by omega)
      refine aw_pc (pc' := 130) rfl ?_
      refine aw_iconst dX12_isSign_130 (aw_pc (pc' := 131) rfl ?_)
      exact aw_zret rfl (by decide) dX12_isSign_131 ⟨_, rfl, h⟩
    · replace h := h.2.2.2.2.1 (by omega)
      refine aw_pc (pc' := 130) rfl ?_
      refine aw_iconst dX12_isSign_130 (aw_pc (pc' := 131) rfl ?_)
      exact aw_zret rfl (by decide) dX12_isSign_131 ⟨_, rfl, h⟩
    · replace h := h.2.2.2.2.2.1 (by omega)
      refine aw_pc (pc' := 128) rfl ?_
      refine aw_iconst dX12_isSign_128 (aw_pc (pc' := 129) rfl ?_)
      exact aw_zret rfl (by decide) dX12_isSign_129 ⟨_, rfl, h⟩
    · replace h := h.2.2.2.2.2.2.1 (by omega)
      refine aw_pc (pc' := 128) rfl ?_
      refine aw_iconst dX12_isSign_128 (aw_pc (pc' := 129) rfl ?_)
      exact aw_zret rfl (by decide) dX12_isSign_129 ⟨_, rfl, h⟩
    · replace h := h.2.2.2.2.2.2.2.1 (by omega)
      refine aw_pc (pc' := 128) rfl ?_
      refine aw_iconst dX12_isSign_128 (aw_pc (pc' := 129) rfl ?_)
      exact aw_zret rfl (by decide) dX12_isSign_129 ⟨_, rfl, h⟩
    · replace h := h.2.2.2.2.2.2.2.2.1 (by omega)
      refine aw_pc (pc' := 128) rfl ?_
      refine aw_iconst dX12_isSign_128 (aw_pc (pc' := 129) rfl ?_)
      exact aw_zret rfl (by decide) dX12_isSign_129 ⟨_, rfl, h⟩
    · replace h := h.2.2.2.2.2.2.2.2.2.1 (by omega)
      refine aw_pc (pc' := 130) rfl ?_
      refine aw_iconst dX12_isSign_130 (aw_pc (pc' := 131) rfl ?_)
      exact aw_zret rfl (by decide) dX12_isSign_131 ⟨_, rfl, h⟩
    · replace h := h.2.2.2.2.2.2.2.2.2.2.1 (by omega)
      refine aw_pc (pc' := 128) rfl ?_
      refine aw_iconst dX12_isSign_128 (aw_pc (pc' := 129) rfl ?_)
      exact aw_zret rfl (by decide) dX12_isSign_129 ⟨_, rfl, h⟩
    · replace h := h.2.2.2.2.2.2.2.2.2.2.2.1 (by omega)
      refine aw_pc (pc' := 130) rfl ?_
      refine aw_iconst dX12_isSign_130 (aw_pc (pc' := 131) rfl ?_)
      exact aw_zret rfl (by decide) dX12_isSign_131 ⟨_, rfl, h⟩
    · replace h := h.2.2.2.2.2.2.2.2.2.2.2.2.1 (by omega)
      refine aw_pc (pc' := 128) rfl ?_
      refine aw_iconst dX12_isSign_128 (aw_pc (pc' := 129) rfl ?_)
      exact aw_zret rfl (by decide) dX12_isSign_129 ⟨_, rfl, h⟩
    · replace h := h.2.2.2.2.2.2.2.2.2.2.2.2.2.1 (by omega)
      refine aw_pc (pc' := 130) rfl ?_
      refine aw_iconst dX12_isSign_130 (aw_pc (pc' := 131) rfl ?_)
      exact aw_zret rfl (by decide) dX12_isSign_131 ⟨_, rfl, h⟩
    · replace h := h.2.2.2.2.2.2.2.2.2.2.2.2.2.2.1 (by omega)
      refine aw_pc (pc' := 130) rfl ?_
      refine aw_iconst dX12_isSign_130 (aw_pc (pc' := 131) rfl ?_)
      exact aw_zret rfl (by decide) dX12_isSign_131 ⟨_, rfl, h⟩
    · replace h := h.2.2.2.2.2.2.2.2.2.2.2.2.2.2.2.1 (by omega)
      refine aw_pc (pc' := 130) rfl ?_
      refine aw_iconst dX12_isSign_130 (aw_pc (pc' := 131) rfl ?_)
      exact aw_zret rfl (by decide) dX12_isSign_131 ⟨_, rfl, h⟩
    · replace h := h.2.2.2.2.2.2.2.2.2.2.2.2.2.2.2.2.1 (by omega)
      refine aw_pc (pc' := 130) rfl ?_
      refine aw_iconst dX12_isSign_130 (aw_pc (pc' := 131) rfl ?_)
      exact aw_zret rfl (by decide) dX12_isSign_131 ⟨_, rfl, h⟩
    · replace h := h.2.2.2.2.2.2.2.2.2.2.2.2.2.2.2.2.2.1 (by omega)
      refine aw_pc (pc' := 130) rfl ?_
      refine aw_iconst dX12_isSign_130 (aw_pc (pc' := 131) rfl ?_)
      exact aw_zret rfl (by decide) dX12_isSign_131 ⟨_, rfl, h⟩
    · replace h := h.2.2.2.2.2.2.2.2.2.2.2.2.2.2.2.2.2.2.1 (by omega)
      refine aw_pc (pc' := 130) rfl ?_
      refine aw_iconst dX12_isSign_130 (aw_pc (pc' := 131) rfl ?_)
      exact aw_zret rfl (by decide) dX12_isSign_131 ⟨_, rfl, h⟩
    · replace h := h.2.2.2.2.2.2.2.2.2.2.2.2.2.2.2.2.2.2.2.1 (by omega)
      refine aw_pc (pc' := 130) rfl ?_
      refine aw_iconst dX12_isSign_130 (aw_pc (pc' := 131) rfl ?_)
      exact aw_zret rfl (by decide) dX12_isSign_131 ⟨_, rfl, h⟩
    · replace h := h.2.2.2.2.2.2.2.2.2.2.2.2.2.2.2.2.2.2.2.2.1 (by omega)
      refine aw_pc (pc' := 130) rfl ?_
      refine aw_iconst dX12_isSign_130 (aw_pc (pc' := 131) rfl ?_)
      exact aw_zret rfl (by decide) dX12_isSign_131 ⟨_, rfl, h⟩
    · replace h := h.2.2.2.2.2.2.2.2.2.2.2.2.2.2.2.2.2.2.2.2.2.1 (by omega)
      refine aw_pc (pc' := 130) rfl ?_
      refine aw_iconst dX12_isSign_130 (aw_pc (pc' := 131) rfl ?_)
      exact aw_zret rfl (by decide) dX12_isSign_131 ⟨_, rfl, h⟩
    · replace h := h.2.2.2.2.2.2.2.2.2.2.2.2.2.2.2.2.2.2.2.2.2.2.1 (by omega)
      refine aw_pc (pc' := 130) rfl ?_
      refine aw_iconst dX12_isSign_130 (aw_pc (pc' := 131) rfl ?_)
      exact aw_zret rfl (by decide) dX12_isSign_131 ⟨_, rfl, h⟩
    · replace h := h.2.2.2.2.2.2.2.2.2.2.2.2.2.2.2.2.2.2.2.2.2.2.2.1 (by omega)
      refine aw_pc (pc' := 128) rfl ?_
      refine aw_iconst dX12_isSign_128 (aw_pc (pc' := 129) rfl ?_)
      exact aw_zret rfl (by decide) dX12_isSign_129 ⟨_, rfl, h⟩
    · replace h := h.2.2.2.2.2.2.2.2.2.2.2.2.2.2.2.2.2.2.2.2.2.2.2.2.1 (by omega)
      refine aw_pc (pc' := 128) rfl ?_
      refine aw_iconst dX12_isSign_128 (aw_pc (pc' := 129) rfl ?_)
      exact aw_zret rfl (by decide) dX12_isSign_129 ⟨_, rfl, h⟩
    · replace h := h.2.2.2.2.2.2.2.2.2.2.2.2.2.2.2.2.2.2.2.2.2.2.2.2.2.1 (by omega)
      refine aw_pc (pc' := 128) rfl ?_
      refine aw_iconst dX12_isSign_128 (aw_pc (pc' := 129) rfl ?_)
      exact aw_zret rfl (by decide) dX12_isSign_129 ⟨_, rfl, h⟩
    · replace h := h.2.2.2.2.2.2.2.2.2.2.2.2.2.2.2.2.2.2.2.2.2.2.2.2.2.2.1 (by omega)
      refine aw_pc (pc' := 128) rfl ?_
      refine aw_iconst dX12_isSign_128 (aw_pc (pc' := 129) rfl ?_)
      exact aw_zret rfl (by decide) dX12_isSign_129 ⟨_, rfl, h⟩
    · replace h := h.2.2.2.2.2.2.2.2.2.2.2.2.2.2.2.2.2.2.2.2.2.2.2.2.2.2.2.1 (by omega)
      refine aw_pc (pc' := 128) rfl ?_
      refine aw_iconst dX12_isSign_128 (aw_pc (pc' := 129) rfl ?_)
      exact aw_zret rfl (by decide) dX12_isSign_129 ⟨_, rfl, h⟩
  · replace h := h.2.2.2.2.2.2.2.2.2.2.2.2.2.2.2.2.2.2.2.2.2.2.2.2.2.2.2.2 hx
    refine aw_iconst dX12_isSign_130 (aw_pc (pc' := 131) rfl ?_)
    exact aw_zret rfl (by decide) dX12_isSign_131 ⟨_, rfl, h⟩
def mX12_nextToken_J297 (Q : hp → Prop) (o : Nat) (s0 : Option Nat) (s1 : Int) (F : hp) : Prop := pF F s0 12 9 (vi s1) (fun F1 => gI F1 (some o) 12 7 (fun x2 => pF F1 (some o) 12 7 (vi (x2 + 1)) (fun F3 => Q F3)))
set_option maxHeartbeats 4000000 in
theorem tX12_nextToken_J297 {d : Nat} {Q : hp → Prop} {o : Nat} {s0 : Option Nat} {s1 : Int} {F : hp} (h : mX12_nextToken_J297 Q o s0 s1 F) : aw nX12_nextToken (d + 1) 0 0 297 [some (vr (some o)), none] [vi s1, vr s0] F (qV Q) := by
  unfold mX12_nextToken_J297 at h
  refine ar_pF fl_RX12_122 ft_X12_9 (okI _) dX12_nextToken_297 h ?_
  clear h
  intro F1 h
  refine aw_pc (pc' := 300) rfl ?_
  refine aw_aload_n dX12_nextToken_300 rfl rfl (aw_pc (pc' := 301) rfl ?_)
  refine aw_dup dX12_nextToken_301 trivial (aw_pc (pc' := 302) rfl ?_)
  refine ar_gI fl_RX12_113 dX12_nextToken_302 h ?_
  clear h
  intro x2 h
  refine aw_pc (pc' := 305) rfl ?_
  refine aw_iconst dX12_nextToken_305 (aw_pc (pc' := 306) rfl ?_)
  refine aw_iadd dX12_nextToken_306 (aw_pc (pc' := 307) rfl ?_)
  refine ar_pF fl_RX12_113 ft_X12_7 (okI _) dX12_nextToken_307 h ?_
  clear h
  intro F3 h
  refine aw_pc (pc' := 310) rfl ?_
  exact aw_vret rfl dX12_nextToken_310 ⟨rfl, h⟩
def mX12_nextToken_J272 (Q : hp → Prop) (o : Nat) (a1 : Int) (F : hp) : Prop := gI F (some o) 12 7 (fun x1 => rcv F (some o) 12 (fun o4 => mX12_byteAt o4 x1 F (fun x3 F2 => (w32 x3 = 61 → (w32 a1 = 60 → mX12_nextToken_J297 Q o (some o) 4 F2) ∧ (¬ w32 a1 = 60 → mX12_nextToken_J297 Q o (some o) 5 F2)) ∧ (¬ w32 x3 = 61 → Q F2))))
set_option maxHeartbeats 4000000 in
theorem tX12_nextToken_J272 {d : Nat} {Q : hp → Prop} {o : Nat} {a1 : Int} {F : hp} (h : mX12_nextToken_J272 Q o a1 F) : aw nX12_nextToken (d + 1) 0 0 272 [some (vr (some o)), some (vi a1)] [] F (qV Q) := by
  unfold mX12_nextToken_J272 at h
  refine aw_aload_n dX12_nextToken_272 rfl rfl (aw_pc (pc' := 273) rfl ?_)
  refine aw_aload_n dX12_nextToken_273 rfl rfl (aw_pc (pc' := 274) rfl ?_)
  refine ar_gI fl_RX12_113 dX12_nextToken_274 h ?_
  clear h
  intro x1 h
  refine aw_pc (pc' := 277) rfl ?_
  have h0 := rcv_inv h
  clear h
  obtain ⟨o4, fs_o4, hr_o4, he_o4, h⟩ := h0
  obtain rfl : o = o4 := Option.some.inj hr_o4
  refine ar_VI (kc' := 0) (ks' := 0) (kc := 0) (ks := 0) (a := o) (ci := 12) (as := [vi x1]) (st := []) (tX12_byteAt h) mt_X12_byteAt rfl qM_RX12_116 qI_X12_byteAt qV_X12_byteAt he_o4 rfl (Nat.le_of_ble_eq_true rfl) dX12_nextToken_277 ?_
  clear h
  intro x3 F2 h
  refine aw_pc (pc' := 280) rfl ?_
  refine aw_bipush dX12_nextToken_280 (by decide) (aw_pc (pc' := 282) rfl ?_)
  refine ac_ne rfl wl_61 dX12_nextToken_282 rfl (fun c => ?_) (fun c => ?_)
  · replace h := h.1 c
    refine aw_aload_n dX12_nextToken_285 rfl rfl (aw_pc (pc' := 286) rfl ?_)
    refine aw_iload_n dX12_nextToken_286 rfl rfl (aw_pc (pc' := 287) rfl ?_)
    refine aw_bipush dX12_nextToken_287 (by decide) (aw_pc (pc' := 289) rfl ?_)
    refine ac_ne rfl wl_60 dX12_nextToken_289 rfl (fun c => ?_) (fun c => ?_)
    · replace h := h.1 c
      refine aw_iconst dX12_nextToken_292 (aw_pc (pc' := 293) rfl ?_)
      refine aw_goto (tgt := 297) dX12_nextToken_293 rfl ?_
      exact aw_mask [true, false] (tX12_nextToken_J297 h)
    · replace h := h.2 c
      refine aw_iconst dX12_nextToken_296 (aw_pc (pc' := 297) rfl ?_)
      exact aw_mask [true, false] (tX12_nextToken_J297 h)
  · replace h := h.2 c
    exact aw_vret rfl dX12_nextToken_310 ⟨rfl, h⟩
def mX12_nextToken_J247 (Q : hp → Prop) (o : Nat) (a1 : Int) (s0 : Option Nat) (s1 : Int) (F : hp) : Prop := pF F s0 12 9 (vi s1) (fun F1 => gI F1 (some o) 12 7 (fun x2 => pF F1 (some o) 12 7 (vi (x2 + 1)) (fun F3 => (w32 a1 = 60 → mX12_nextToken_J272 Q o a1 F3) ∧ (¬ w32 a1 = 60 → (w32 a1 = 62 → mX12_nextToken_J272 Q o a1 F3) ∧ (¬ w32 a1 = 62 → Q F3)))))
set_option maxHeartbeats 4000000 in
theorem tX12_nextToken_J247 {d : Nat} {Q : hp → Prop} {o : Nat} {a1 : Int} {s0 : Option Nat} {s1 : Int} {F : hp} (h : mX12_nextToken_J247 Q o a1 s0 s1 F) : aw nX12_nextToken (d + 1) 0 0 247 [some (vr (some o)), some (vi a1)] [vi s1, vr s0] F (qV Q) := by
  unfold mX12_nextToken_J247 at h
  refine ar_pF fl_RX12_122 ft_X12_9 (okI _) dX12_nextToken_247 h ?_
  clear h
  intro F1 h
  refine aw_pc (pc' := 250) rfl ?_
  refine aw_aload_n dX12_nextToken_250 rfl rfl (aw_pc (pc' := 251) rfl ?_)
  refine aw_dup dX12_nextToken_251 trivial (aw_pc (pc' := 252) rfl ?_)
  refine ar_gI fl_RX12_113 dX12_nextToken_252 h ?_
  clear h
  intro x2 h
  refine aw_pc (pc' := 255) rfl ?_
  refine aw_iconst dX12_nextToken_255 (aw_pc (pc' := 256) rfl ?_)
  refine aw_iadd dX12_nextToken_256 (aw_pc (pc' := 257) rfl ?_)
  refine ar_pF fl_RX12_113 ft_X12_7 (okI _) dX12_nextToken_257 h ?_
  clear h
  intro F3 h
  refine aw_pc (pc' := 260) rfl ?_
  refine aw_iload_n dX12_nextToken_260 rfl rfl (aw_pc (pc' := 261) rfl ?_)
  refine aw_bipush dX12_nextToken_261 (by decide) (aw_pc (pc' := 263) rfl ?_)
  refine ac_eq rfl wl_60 dX12_nextToken_263 rfl (fun c => ?_) (fun c => ?_)
  · replace h := h.1 c
    exact aw_mask [true, true] (tX12_nextToken_J272 h)
  · replace h := h.2 c
    refine aw_iload_n dX12_nextToken_266 rfl rfl (aw_pc (pc' := 267) rfl ?_)
    refine aw_bipush dX12_nextToken_267 (by decide) (aw_pc (pc' := 269) rfl ?_)
    refine ac_ne rfl wl_62 dX12_nextToken_269 rfl (fun c => ?_) (fun c => ?_)
    · replace h := h.1 c
      exact aw_mask [true, true] (tX12_nextToken_J272 h)
    · replace h := h.2 c
      exact aw_vret rfl dX12_nextToken_310 ⟨rfl, h⟩
def mX12_nextToken_J218 (X168 : Nat → hp → Prop) (Q : hp → Prop) (o : Nat) (s0 : Option Nat) (s1 : Int) (F : hp) : Prop := pF F s0 12 11 (vl s1) (fun F1 => gI F1 (some o) 12 7 (fun x2 => pF F1 (some o) 12 7 (vi (x2 + 1)) (fun F3 => X168 o F3)))
set_option maxHeartbeats 4000000 in
theorem tX12_nextToken_J218 {d : Nat} {X168 : Nat → hp → Prop} {Q : hp → Prop} (hX168 : ∀ (o : Nat) (F : hp), X168 o F → aw nX12_nextToken (d + 1) 0 0 168 [some (vr (some o)), none] [] F (qV Q)) {o : Nat} {s0 : Option Nat} {s1 : Int} {F : hp} (h : mX12_nextToken_J218 X168 Q o s0 s1 F) : aw nX12_nextToken (d + 1) 0 0 218 [some (vr (some o)), none] [vl s1, vr s0] F (qV Q) := by
  unfold mX12_nextToken_J218 at h
  refine ar_pF fl_RX12_135 ft_X12_11 (okL _) dX12_nextToken_218 h ?_
  clear h
  intro F1 h
  refine aw_pc (pc' := 221) rfl ?_
  refine aw_aload_n dX12_nextToken_221 rfl rfl (aw_pc (pc' := 222) rfl ?_)
  refine aw_dup dX12_nextToken_222 trivial (aw_pc (pc' := 223) rfl ?_)
  refine ar_gI fl_RX12_113 dX12_nextToken_223 h ?_
  clear h
  intro x2 h
  refine aw_pc (pc' := 226) rfl ?_
  refine aw_iconst dX12_nextToken_226 (aw_pc (pc' := 227) rfl ?_)
  refine aw_iadd dX12_nextToken_227 (aw_pc (pc' := 228) rfl ?_)
  refine ar_pF fl_RX12_113 ft_X12_7 (okI _) dX12_nextToken_228 h ?_
  clear h
  intro F3 h
  refine aw_pc (pc' := 231) rfl ?_
  refine aw_goto (tgt := 168) dX12_nextToken_231 rfl ?_
  exact aw_mask [true, false] (hX168 _ _ h)
def mX12_nextToken_L168 (Q : hp → Prop) : Nat → Nat → hp → Prop
  | 0, _, _ => False
  | k + 1, o, F => gI F (some o) 12 7 (fun x1 => rcv F (some o) 12 (fun o4 => mX12_byteAt o4 x1 F (fun x3 F2 => mX12_isLetterByte x3 F2 (fun x6 F5 => (w32 x6 = 0 → Q F5) ∧ (¬ w32 x6 = 0 → gL F5 (some o) 12 11 (fun x7 => (w32 (iCmp (lShr x7 48) 0) = 0 → gL F5 (some o) 12 11 (fun x8 => gI F5 (some o) 12 7 (fun x9 => rcv F5 (some o) 12 (fun o12 => mX12_byteAt o12 x9 F5 (fun x11 F10 => mX12_nextToken_J218 (fun o' F' => mX12_nextToken_L168 Q k o' F') Q o (some o) (lOr (lShl x8 8) (w32 x11)) F10))))) ∧ (¬ w32 (iCmp (lShr x7 48) 0) = 0 → mX12_nextToken_J218 (fun o' F' => mX12_nextToken_L168 Q k o' F') Q o (some o) 1152921504606846976 F5)))))))
set_option maxHeartbeats 4000000 in
theorem tX12_nextToken_L168 {d : Nat} {Q : hp → Prop} : ∀ (k : Nat) (o : Nat) (F : hp), mX12_nextToken_L168 Q k o F → aw nX12_nextToken (d + 1) 0 0 168 [some (vr (some o)), none] [] F (qV Q) := by
  intro k
  induction k with
  | zero => intro o F h; exact h.elim
  | succ k ih =>
    intro o F h
    simp only [mX12_nextToken_L168] at h
    refine aw_aload_n dX12_nextToken_168 rfl rfl (aw_pc (pc' := 169) rfl ?_)
    refine aw_aload_n dX12_nextToken_169 rfl rfl (aw_pc (pc' := 170) rfl ?_)
    refine ar_gI fl_RX12_113 dX12_nextToken_170 h ?_
    clear h
    intro x1 h
    refine aw_pc (pc' := 173) rfl ?_
    have h0 := rcv_inv h
    clear h
    obtain ⟨o4, fs_o4, hr_o4, he_o4, h⟩ := h0
    obtain rfl : o = o4 := Option.some.inj hr_o4
    refine ar_VI (kc' := 0) (ks' := 0) (kc := 0) (ks := 0) (a := o) (ci := 12) (as := [vi x1]) (st := []) (tX12_byteAt h) mt_X12_byteAt rfl qM_RX12_116 qI_X12_byteAt qV_X12_byteAt he_o4 rfl (Nat.le_of_ble_eq_true rfl) dX12_nextToken_173 ?_
    clear h
    intro x3 F2 h
    refine aw_pc (pc' := 176) rfl ?_
    refine ar_SI (kc' := 0) (ks' := 0) (kc := 0) (ks := 0) (as := [vi x3]) (st := []) (tX12_isLetterByte h) mt_X12_isLetterByte qM_RX12_132 qS_X12_isLetterByte rfl (Nat.le_of_ble_eq_true rfl) dX12_nextToken_176 ?_
    clear h
    intro x6 F5 h
    refine aw_pc (pc' := 179) rfl ?_
    refine aw_if_eq dX12_nextToken_179 rfl (fun c => ?_) (fun c => ?_)
    · replace h := h.1 c
      exact aw_vret rfl dX12_nextToken_310 ⟨rfl, h⟩
    · replace h := h.2 c
      refine aw_aload_n dX12_nextToken_182 rfl rfl (aw_pc (pc' := 183) rfl ?_)
      refine aw_aload_n dX12_nextToken_183 rfl rfl (aw_pc (pc' := 184) rfl ?_)
      refine ar_gL fl_RX12_135 dX12_nextToken_184 h ?_
      clear h
      intro x7 h
      refine aw_pc (pc' := 187) rfl ?_
      refine aw_bipush dX12_nextToken_187 (by decide) (aw_pc (pc' := 189) rfl ?_)
      refine aw_lshr dX12_nextToken_189 (aw_pc (pc' := 190) rfl ?_)
      refine aw_lconst (v := 0) dX12_nextToken_190 (by decide) (aw_pc (pc' := 191) rfl ?_)
      refine aw_lcmp dX12_nextToken_191 (aw_pc (pc' := 192) rfl ?_)
      refine aw_if_eq dX12_nextToken_192 rfl (fun c => ?_) (fun c => ?_)
      · replace h := h.1 c
        refine aw_aload_n dX12_nextToken_201 rfl rfl (aw_pc (pc' := 202) rfl ?_)
        refine ar_gL fl_RX12_135 dX12_nextToken_202 h ?_
        clear h
        intro x8 h
        refine aw_pc (pc' := 205) rfl ?_
        refine aw_bipush dX12_nextToken_205 (by decide) (aw_pc (pc' := 207) rfl ?_)
        refine aw_lshl dX12_nextToken_207 (aw_pc (pc' := 208) rfl ?_)
        refine aw_aload_n dX12_nextToken_208 rfl rfl (aw_pc (pc' := 209) rfl ?_)
        refine aw_aload_n dX12_nextToken_209 rfl rfl (aw_pc (pc' := 210) rfl ?_)
        refine ar_gI fl_RX12_113 dX12_nextToken_210 h ?_
        clear h
        intro x9 h
        refine aw_pc (pc' := 213) rfl ?_
        have h0 := rcv_inv h
        clear h
        obtain ⟨o12, fs_o12, hr_o12, he_o12, h⟩ := h0
        obtain rfl : o = o12 := Option.some.inj hr_o12
        refine ar_VI (kc' := 0) (ks' := 0) (kc := 0) (ks := 0) (a := o) (ci := 12) (as := [vi x9]) (st := [vl (lShl x8 8), vr (some o)]) (tX12_byteAt h) mt_X12_byteAt rfl qM_RX12_116 qI_X12_byteAt qV_X12_byteAt he_o12 rfl (Nat.le_of_ble_eq_true rfl) dX12_nextToken_213 ?_
        clear h
        intro x11 F10 h
        refine aw_pc (pc' := 216) rfl ?_
        refine aw_i2l dX12_nextToken_216 (aw_pc (pc' := 217) rfl ?_)
        refine aw_lor dX12_nextToken_217 (aw_pc (pc' := 218) rfl ?_)
        exact aw_mask [true, false] (tX12_nextToken_J218 (fun o' F' h' => ih o' F' h') h)
      · replace h := h.2 c
        refine aw_ldc2 (n := 1152921504606846976) dX12_nextToken_195 qK_RX12_139 (aw_pc (pc' := 198) rfl ?_)
        refine aw_goto (tgt := 218) dX12_nextToken_198 rfl ?_
        exact aw_mask [true, false] (tX12_nextToken_J218 (fun o' F' h' => ih o' F' h') h)
def mX12_nextToken_J135 (X85 : Nat → hp → Prop) (Q : hp → Prop) (o : Nat) (s0 : Option Nat) (s1 : Int) (F : hp) : Prop := pF F s0 12 10 (vi s1) (fun F1 => gI F1 (some o) 12 7 (fun x2 => pF F1 (some o) 12 7 (vi (x2 + 1)) (fun F3 => X85 o F3)))
set_option maxHeartbeats 4000000 in
theorem tX12_nextToken_J135 {d : Nat} {X85 : Nat → hp → Prop} {Q : hp → Prop} (hX85 : ∀ (o : Nat) (F : hp), X85 o F → aw nX12_nextToken (d + 1) 0 0 85 [some (vr (some o)), none] [] F (qV Q)) {o : Nat} {s0 : Option Nat} {s1 : Int} {F : hp} (h : mX12_nextToken_J135 X85 Q o s0 s1 F) : aw nX12_nextToken (d + 1) 0 0 135 [some (vr (some o)), none] [vi s1, vr s0] F (qV Q) := by
  unfold mX12_nextToken_J135 at h
  refine ar_pF fl_RX12_128 ft_X12_10 (okI _) dX12_nextToken_135 h ?_
  clear h
  intro F1 h
  refine aw_pc (pc' := 138) rfl ?_
  refine aw_aload_n dX12_nextToken_138 rfl rfl (aw_pc (pc' := 139) rfl ?_)
  refine aw_dup dX12_nextToken_139 trivial (aw_pc (pc' := 140) rfl ?_)
  refine ar_gI fl_RX12_113 dX12_nextToken_140 h ?_
  clear h
  intro x2 h
  refine aw_pc (pc' := 143) rfl ?_
  refine aw_iconst dX12_nextToken_143 (aw_pc (pc' := 144) rfl ?_)
  refine aw_iadd dX12_nextToken_144 (aw_pc (pc' := 145) rfl ?_)
  refine ar_pF fl_RX12_113 ft_X12_7 (okI _) dX12_nextToken_145 h ?_
  clear h
  intro F3 h
  refine aw_pc (pc' := 148) rfl ?_
  refine aw_goto (tgt := 85) dX12_nextToken_148 rfl ?_
  exact aw_mask [true, false] (hX85 _ _ h)
def mX12_nextToken_L85 (Q : hp → Prop) : Nat → Nat → hp → Prop
  | 0, _, _ => False
  | k + 1, o, F => gI F (some o) 12 7 (fun x1 => rcv F (some o) 12 (fun o4 => mX12_byteAt o4 x1 F (fun x3 F2 => mX12_isFigure x3 F2 (fun x6 F5 => (w32 x6 = 0 → Q F5) ∧ (¬ w32 x6 = 0 → gI F5 (some o) 12 10 (fun x7 => (99999 < w32 x7 → gI F5 (some o) 12 10 (fun x8 => mX12_nextToken_J135 (fun o' F' => mX12_nextToken_L85 Q k o' F') Q o (some o) x8 F5)) ∧ (¬ 99999 < w32 x7 → gI F5 (some o) 12 10 (fun x9 => gI F5 (some o) 12 7 (fun x10 => rcv F5 (some o) 12 (fun o13 => mX12_byteAt o13 x10 F5 (fun x12 F11 => mX12_nextToken_J135 (fun o' F' => mX12_nextToken_L85 Q k o' F') Q o (some o) (((10 * x9) + x12) - 48) F11)))))))))))
set_option maxHeartbeats 4000000 in
theorem tX12_nextToken_L85 {d : Nat} {Q : hp → Prop} : ∀ (k : Nat) (o : Nat) (F : hp), mX12_nextToken_L85 Q k o F → aw nX12_nextToken (d + 1) 0 0 85 [some (vr (some o)), none] [] F (qV Q) := by
  intro k
  induction k with
  | zero => intro o F h; exact h.elim
  | succ k ih =>
    intro o F h
    simp only [mX12_nextToken_L85] at h
    refine aw_aload_n dX12_nextToken_85 rfl rfl (aw_pc (pc' := 86) rfl ?_)
    refine aw_aload_n dX12_nextToken_86 rfl rfl (aw_pc (pc' := 87) rfl ?_)
    refine ar_gI fl_RX12_113 dX12_nextToken_87 h ?_
    clear h
    intro x1 h
    refine aw_pc (pc' := 90) rfl ?_
    have h0 := rcv_inv h
    clear h
    obtain ⟨o4, fs_o4, hr_o4, he_o4, h⟩ := h0
    obtain rfl : o = o4 := Option.some.inj hr_o4
    refine ar_VI (kc' := 0) (ks' := 0) (kc := 0) (ks := 0) (a := o) (ci := 12) (as := [vi x1]) (st := []) (tX12_byteAt h) mt_X12_byteAt rfl qM_RX12_116 qI_X12_byteAt qV_X12_byteAt he_o4 rfl (Nat.le_of_ble_eq_true rfl) dX12_nextToken_90 ?_
    clear h
    intro x3 F2 h
    refine aw_pc (pc' := 93) rfl ?_
    refine ar_SI (kc' := 0) (ks' := 0) (kc := 0) (ks := 0) (as := [vi x3]) (st := []) (tX12_isFigure h) mt_X12_isFigure qM_RX12_125 qS_X12_isFigure rfl (Nat.le_of_ble_eq_true rfl) dX12_nextToken_93 ?_
    clear h
    intro x6 F5 h
    refine aw_pc (pc' := 96) rfl ?_
    refine aw_if_eq dX12_nextToken_96 rfl (fun c => ?_) (fun c => ?_)
    · replace h := h.1 c
      exact aw_vret rfl dX12_nextToken_310 ⟨rfl, h⟩
    · replace h := h.2 c
      refine aw_aload_n dX12_nextToken_99 rfl rfl (aw_pc (pc' := 100) rfl ?_)
      refine aw_aload_n dX12_nextToken_100 rfl rfl (aw_pc (pc' := 101) rfl ?_)
      refine ar_gI fl_RX12_128 dX12_nextToken_101 h ?_
      clear h
      intro x7 h
      refine aw_pc (pc' := 104) rfl ?_
      refine aw_ldc (n := 99999) dX12_nextToken_104 qK_RX12_131 (aw_pc (pc' := 106) rfl ?_)
      refine ac_le rfl wl_99999 dX12_nextToken_106 rfl (fun c => ?_) (fun c => ?_)
      · replace h := h.1 c
        refine aw_aload_n dX12_nextToken_109 rfl rfl (aw_pc (pc' := 110) rfl ?_)
        refine ar_gI fl_RX12_128 dX12_nextToken_110 h ?_
        clear h
        intro x8 h
        refine aw_pc (pc' := 113) rfl ?_
        refine aw_goto (tgt := 135) dX12_nextToken_113 rfl ?_
        exact aw_mask [true, false] (tX12_nextToken_J135 (fun o' F' h' => ih o' F' h') h)
      · replace h := h.2 c
        refine aw_bipush dX12_nextToken_116 (by decide) (aw_pc (pc' := 118) rfl ?_)
        refine aw_aload_n dX12_nextToken_118 rfl rfl (aw_pc (pc' := 119) rfl ?_)
        refine ar_gI fl_RX12_128 dX12_nextToken_119 h ?_
        clear h
        intro x9 h
        refine aw_pc (pc' := 122) rfl ?_
        refine aw_imul dX12_nextToken_122 (aw_pc (pc' := 123) rfl ?_)
        refine aw_aload_n dX12_nextToken_123 rfl rfl (aw_pc (pc' := 124) rfl ?_)
        refine aw_aload_n dX12_nextToken_124 rfl rfl (aw_pc (pc' := 125) rfl ?_)
        refine ar_gI fl_RX12_113 dX12_nextToken_125 h ?_
        clear h
        intro x10 h
        refine aw_pc (pc' := 128) rfl ?_
        have h0 := rcv_inv h
        clear h
        obtain ⟨o13, fs_o13, hr_o13, he_o13, h⟩ := h0
        obtain rfl : o = o13 := Option.some.inj hr_o13
        refine ar_VI (kc' := 0) (ks' := 0) (kc := 0) (ks := 0) (a := o) (ci := 12) (as := [vi x10]) (st := [vi (10 * x9), vr (some o)]) (tX12_byteAt h) mt_X12_byteAt rfl qM_RX12_116 qI_X12_byteAt qV_X12_byteAt he_o13 rfl (Nat.le_of_ble_eq_true rfl) dX12_nextToken_128 ?_
        clear h
        intro x12 F11 h
        refine aw_pc (pc' := 131) rfl ?_
        refine aw_iadd dX12_nextToken_131 (aw_pc (pc' := 132) rfl ?_)
        refine aw_bipush dX12_nextToken_132 (by decide) (aw_pc (pc' := 134) rfl ?_)
        refine aw_isub dX12_nextToken_134 (aw_pc (pc' := 135) rfl ?_)
        exact aw_mask [true, false] (tX12_nextToken_J135 (fun o' F' h' => ih o' F' h') h)
def mX12_nextToken_J26 (X0 : Nat → hp → Prop) (Q : hp → Prop) (o : Nat) (F : hp) : Prop := gI F (some o) 12 7 (fun x1 => pF F (some o) 12 7 (vi (x1 + 1)) (fun F2 => X0 o F2))
set_option maxHeartbeats 4000000 in
theorem tX12_nextToken_J26 {d : Nat} {X0 : Nat → hp → Prop} {Q : hp → Prop} (hX0 : ∀ (o : Nat) (F : hp), X0 o F → aw nX12_nextToken (d + 1) 0 0 0 [some (vr (some o)), none] [] F (qV Q)) {o : Nat} {F : hp} (h : mX12_nextToken_J26 X0 Q o F) : aw nX12_nextToken (d + 1) 0 0 26 [some (vr (some o)), none] [] F (qV Q) := by
  unfold mX12_nextToken_J26 at h
  refine aw_aload_n dX12_nextToken_26 rfl rfl (aw_pc (pc' := 27) rfl ?_)
  refine aw_dup dX12_nextToken_27 trivial (aw_pc (pc' := 28) rfl ?_)
  refine ar_gI fl_RX12_113 dX12_nextToken_28 h ?_
  clear h
  intro x1 h
  refine aw_pc (pc' := 31) rfl ?_
  refine aw_iconst dX12_nextToken_31 (aw_pc (pc' := 32) rfl ?_)
  refine aw_iadd dX12_nextToken_32 (aw_pc (pc' := 33) rfl ?_)
  refine ar_pF fl_RX12_113 ft_X12_7 (okI _) dX12_nextToken_33 h ?_
  clear h
  intro F2 h
  refine aw_pc (pc' := 36) rfl ?_
  refine aw_goto (tgt := 0) dX12_nextToken_36 rfl ?_
  exact aw_mask [true, false] (hX0 _ _ h)
def mX12_nextToken_L0 (Q : hp → Prop) : Nat → Nat → hp → Prop
  | 0, _, _ => False
  | k + 1, o, F => gI F (some o) 12 7 (fun x1 => rcv F (some o) 12 (fun o4 => mX12_byteAt o4 x1 F (fun x3 F2 => (w32 x3 = 32 → mX12_nextToken_J26 (fun o' F' => mX12_nextToken_L0 Q k o' F') Q o F2) ∧ (¬ w32 x3 = 32 → gI F2 (some o) 12 7 (fun x5 => rcv F2 (some o) 12 (fun o8 => mX12_byteAt o8 x5 F2 (fun x7 F6 => (w32 x7 = 10 → mX12_nextToken_J26 (fun o' F' => mX12_nextToken_L0 Q k o' F') Q o F6) ∧ (¬ w32 x7 = 10 → gI F6 (some o) 12 7 (fun x9 => pF F6 (some o) 12 8 (vi x9) (fun F10 => gI F10 (some o) 12 7 (fun x11 => rcv F10 (some o) 12 (fun o14 => mX12_byteAt o14 x11 F10 (fun x13 F12 => (w32 x13 < 0 → pF F12 (some o) 12 9 (vi 0) (fun F15 => Q F15)) ∧ (¬ w32 x13 < 0 → mX12_isFigure x13 F12 (fun x17 F16 => (w32 x17 = 0 → mX12_isLetterByte x13 F16 (fun x19 F18 => (w32 x19 = 0 → mX12_isSign x13 F18 (fun x21 F20 => (w32 x21 = 0 → mX12_nextToken_J247 Q o x13 (some o) 3 F20) ∧ (¬ w32 x21 = 0 → mX12_nextToken_J247 Q o x13 (some o) x13 F20))) ∧ (¬ w32 x19 = 0 → pF F18 (some o) 12 9 (vi 2) (fun F22 => pF F22 (some o) 12 11 (vl 0) (fun F23 => (∃ k24, mX12_nextToken_L168 Q k24 o F23)))))) ∧ (¬ w32 x17 = 0 → pF F16 (some o) 12 9 (vi 1) (fun F25 => pF F25 (some o) 12 10 (vi 0) (fun F26 => (∃ k27, mX12_nextToken_L85 Q k27 o F26)))))))))))))))))))
set_option maxHeartbeats 4000000 in
theorem tX12_nextToken_L0 {d : Nat} {Q : hp → Prop} : ∀ (k : Nat) (o : Nat) (F : hp), mX12_nextToken_L0 Q k o F → aw nX12_nextToken (d + 1) 0 0 0 [some (vr (some o)), none] [] F (qV Q) := by
  intro k
  induction k with
  | zero => intro o F h; exact h.elim
  | succ k ih =>
    intro o F h
    simp only [mX12_nextToken_L0] at h
    refine aw_aload_n dX12_nextToken_0 rfl rfl (aw_pc (pc' := 1) rfl ?_)
    refine aw_aload_n dX12_nextToken_1 rfl rfl (aw_pc (pc' := 2) rfl ?_)
    refine ar_gI fl_RX12_113 dX12_nextToken_2 h ?_
    clear h
    intro x1 h
    refine aw_pc (pc' := 5) rfl ?_
    have h0 := rcv_inv h
    clear h
    obtain ⟨o4, fs_o4, hr_o4, he_o4, h⟩ := h0
    obtain rfl : o = o4 := Option.some.inj hr_o4
    refine ar_VI (kc' := 0) (ks' := 0) (kc := 0) (ks := 0) (a := o) (ci := 12) (as := [vi x1]) (st := []) (tX12_byteAt h) mt_X12_byteAt rfl qM_RX12_116 qI_X12_byteAt qV_X12_byteAt he_o4 rfl (Nat.le_of_ble_eq_true rfl) dX12_nextToken_5 ?_
    clear h
    intro x3 F2 h
    refine aw_pc (pc' := 8) rfl ?_
    refine aw_bipush dX12_nextToken_8 (by decide) (aw_pc (pc' := 10) rfl ?_)
    refine ac_eq rfl wl_32 dX12_nextToken_10 rfl (fun c => ?_) (fun c => ?_)
    · replace h := h.1 c
      exact aw_mask [true, false] (tX12_nextToken_J26 (fun o' F' h' => ih o' F' h') h)
    · replace h := h.2 c
      refine aw_aload_n dX12_nextToken_13 rfl rfl (aw_pc (pc' := 14) rfl ?_)
      refine aw_aload_n dX12_nextToken_14 rfl rfl (aw_pc (pc' := 15) rfl ?_)
      refine ar_gI fl_RX12_113 dX12_nextToken_15 h ?_
      clear h
      intro x5 h
      refine aw_pc (pc' := 18) rfl ?_
      have h0 := rcv_inv h
      clear h
      obtain ⟨o8, fs_o8, hr_o8, he_o8, h⟩ := h0
      obtain rfl : o = o8 := Option.some.inj hr_o8
      refine ar_VI (kc' := 0) (ks' := 0) (kc := 0) (ks := 0) (a := o) (ci := 12) (as := [vi x5]) (st := []) (tX12_byteAt h) mt_X12_byteAt rfl qM_RX12_116 qI_X12_byteAt qV_X12_byteAt he_o8 rfl (Nat.le_of_ble_eq_true rfl) dX12_nextToken_18 ?_
      clear h
      intro x7 F6 h
      refine aw_pc (pc' := 21) rfl ?_
      refine aw_bipush dX12_nextToken_21 (by decide) (aw_pc (pc' := 23) rfl ?_)
      refine ac_ne rfl wl_10 dX12_nextToken_23 rfl (fun c => ?_) (fun c => ?_)
      · replace h := h.1 c
        exact aw_mask [true, false] (tX12_nextToken_J26 (fun o' F' h' => ih o' F' h') h)
      · replace h := h.2 c
        refine aw_aload_n dX12_nextToken_39 rfl rfl (aw_pc (pc' := 40) rfl ?_)
        refine aw_aload_n dX12_nextToken_40 rfl rfl (aw_pc (pc' := 41) rfl ?_)
        refine ar_gI fl_RX12_113 dX12_nextToken_41 h ?_
        clear h
        intro x9 h
        refine aw_pc (pc' := 44) rfl ?_
        refine ar_pF fl_RX12_119 ft_X12_8 (okI _) dX12_nextToken_44 h ?_
        clear h
        intro F10 h
        refine aw_pc (pc' := 47) rfl ?_
        refine aw_aload_n dX12_nextToken_47 rfl rfl (aw_pc (pc' := 48) rfl ?_)
        refine aw_aload_n dX12_nextToken_48 rfl rfl (aw_pc (pc' := 49) rfl ?_)
        refine ar_gI fl_RX12_113 dX12_nextToken_49 h ?_
        clear h
        intro x11 h
        refine aw_pc (pc' := 52) rfl ?_
        have h0 := rcv_inv h
        clear h
        obtain ⟨o14, fs_o14, hr_o14, he_o14, h⟩ := h0
        obtain rfl : o = o14 := Option.some.inj hr_o14
        refine ar_VI (kc' := 0) (ks' := 0) (kc := 0) (ks := 0) (a := o) (ci := 12) (as := [vi x11]) (st := []) (tX12_byteAt h) mt_X12_byteAt rfl qM_RX12_116 qI_X12_byteAt qV_X12_byteAt he_o14 rfl (Nat.le_of_ble_eq_true rfl) dX12_nextToken_52 ?_
        clear h
        intro x13 F12 h
        refine aw_pc (pc' := 55) rfl ?_
        refine aw_istore_n dX12_nextToken_55 rfl (by decide) (aw_pc (pc' := 56) rfl ?_)
        refine aw_iload_n dX12_nextToken_56 rfl rfl (aw_pc (pc' := 57) rfl ?_)
        refine aw_if_ge dX12_nextToken_57 rfl (fun c => ?_) (fun c => ?_)
        · replace h := h.1 c
          refine aw_aload_n dX12_nextToken_60 rfl rfl (aw_pc (pc' := 61) rfl ?_)
          refine aw_iconst dX12_nextToken_61 (aw_pc (pc' := 62) rfl ?_)
          refine ar_pF fl_RX12_122 ft_X12_9 (okI _) dX12_nextToken_62 h ?_
          clear h
          intro F15 h
          refine aw_pc (pc' := 65) rfl ?_
          refine aw_goto (tgt := 310) dX12_nextToken_65 rfl ?_
          exact aw_vret rfl dX12_nextToken_310 ⟨rfl, h⟩
        · replace h := h.2 c
          refine aw_iload_n dX12_nextToken_68 rfl rfl (aw_pc (pc' := 69) rfl ?_)
          refine ar_SI (kc' := 0) (ks' := 0) (kc := 0) (ks := 0) (as := [vi x13]) (st := []) (tX12_isFigure h) mt_X12_isFigure qM_RX12_125 qS_X12_isFigure rfl (Nat.le_of_ble_eq_true rfl) dX12_nextToken_69 ?_
          clear h
          intro x17 F16 h
          refine aw_pc (pc' := 72) rfl ?_
          refine aw_if_eq dX12_nextToken_72 rfl (fun c => ?_) (fun c => ?_)
          · replace h := h.1 c
            refine aw_iload_n dX12_nextToken_151 rfl rfl (aw_pc (pc' := 152) rfl ?_)
            refine ar_SI (kc' := 0) (ks' := 0) (kc := 0) (ks := 0) (as := [vi x13]) (st := []) (tX12_isLetterByte h) mt_X12_isLetterByte qM_RX12_132 qS_X12_isLetterByte rfl (Nat.le_of_ble_eq_true rfl) dX12_nextToken_152 ?_
            clear h
            intro x19 F18 h
            refine aw_pc (pc' := 155) rfl ?_
            refine aw_if_eq dX12_nextToken_155 rfl (fun c => ?_) (fun c => ?_)
            · replace h := h.1 c
              refine aw_aload_n dX12_nextToken_234 rfl rfl (aw_pc (pc' := 235) rfl ?_)
              refine aw_iload_n dX12_nextToken_235 rfl rfl (aw_pc (pc' := 236) rfl ?_)
              refine ar_SI (kc' := 0) (ks' := 0) (kc := 0) (ks := 0) (as := [vi x13]) (st := [vr (some o)]) (tX12_isSign h) mt_X12_isSign qM_RX12_141 qS_X12_isSign rfl (Nat.le_of_ble_eq_true rfl) dX12_nextToken_236 ?_
              clear h
              intro x21 F20 h
              refine aw_pc (pc' := 239) rfl ?_
              refine aw_if_eq dX12_nextToken_239 rfl (fun c => ?_) (fun c => ?_)
              · replace h := h.1 c
                refine aw_iconst dX12_nextToken_246 (aw_pc (pc' := 247) rfl ?_)
                exact aw_mask [true, true] (tX12_nextToken_J247 h)
              · replace h := h.2 c
                refine aw_iload_n dX12_nextToken_242 rfl rfl (aw_pc (pc' := 243) rfl ?_)
                refine aw_goto (tgt := 247) dX12_nextToken_243 rfl ?_
                exact aw_mask [true, true] (tX12_nextToken_J247 h)
            · replace h := h.2 c
              refine aw_aload_n dX12_nextToken_158 rfl rfl (aw_pc (pc' := 159) rfl ?_)
              refine aw_iconst dX12_nextToken_159 (aw_pc (pc' := 160) rfl ?_)
              refine ar_pF fl_RX12_122 ft_X12_9 (okI _) dX12_nextToken_160 h ?_
              clear h
              intro F22 h
              refine aw_pc (pc' := 163) rfl ?_
              refine aw_aload_n dX12_nextToken_163 rfl rfl (aw_pc (pc' := 164) rfl ?_)
              refine aw_lconst (v := 0) dX12_nextToken_164 (by decide) (aw_pc (pc' := 165) rfl ?_)
              refine ar_pF fl_RX12_135 ft_X12_11 (okL _) dX12_nextToken_165 h ?_
              clear h
              intro F23 h
              refine aw_pc (pc' := 168) rfl ?_
              obtain ⟨k24, h⟩ := h
              exact aw_mask [true, false] (tX12_nextToken_L168 k24 _ _ h)
          · replace h := h.2 c
            refine aw_aload_n dX12_nextToken_75 rfl rfl (aw_pc (pc' := 76) rfl ?_)
            refine aw_iconst dX12_nextToken_76 (aw_pc (pc' := 77) rfl ?_)
            refine ar_pF fl_RX12_122 ft_X12_9 (okI _) dX12_nextToken_77 h ?_
            clear h
            intro F25 h
            refine aw_pc (pc' := 80) rfl ?_
            refine aw_aload_n dX12_nextToken_80 rfl rfl (aw_pc (pc' := 81) rfl ?_)
            refine aw_iconst dX12_nextToken_81 (aw_pc (pc' := 82) rfl ?_)
            refine ar_pF fl_RX12_128 ft_X12_10 (okI _) dX12_nextToken_82 h ?_
            clear h
            intro F26 h
            refine aw_pc (pc' := 85) rfl ?_
            obtain ⟨k27, h⟩ := h
            exact aw_mask [true, false] (tX12_nextToken_L85 k27 _ _ h)
def mX12_nextToken (o : Nat) (F : hp) (Q : hp → Prop) : Prop := (∃ k1, mX12_nextToken_L0 Q k1 o F)
set_option maxHeartbeats 4000000 in
theorem tX12_nextToken {d : Nat} {o : Nat} {F : hp} {Q : hp → Prop} (h : mX12_nextToken o F Q) : am nX12_nextToken (d + 1) 0 0 [vr (some o)] F (qV Q) := by
  refine am_of (by decide +kernel) (Nat.le_of_ble_eq_true rfl) ?_
  show aw nX12_nextToken (d + 1) 0 0 0 [some (vr (some o)), none] [] F (qV Q)
  unfold mX12_nextToken at h
  obtain ⟨k1, h⟩ := h
  exact aw_mask [true, false] (tX12_nextToken_L0 k1 _ _ h)
def mX12_w2 (a0 : Int) (a1 : Int) (F : hp) (Q : Int → hp → Prop) : Prop := Q (lOr (lShl (w32 a0) 8) (w32 a1)) F
set_option maxHeartbeats 4000000 in
theorem tX12_w2 {d : Nat} {a0 : Int} {a1 : Int} {F : hp} {Q : Int → hp → Prop} (h : mX12_w2 a0 a1 F Q) : am nX12_w2 d 0 0 [vi a0, vi a1] F (qL Q) := by
  refine am_of (by decide +kernel) (Nat.le_of_ble_eq_true rfl) ?_
  show aw nX12_w2 d 0 0 0 [some (vi a0), some (vi a1)] [] F (qL Q)
  unfold mX12_w2 at h
  refine aw_iload_n dX12_w2_0 rfl rfl (aw_pc (pc' := 1) rfl ?_)
  refine aw_i2l dX12_w2_1 (aw_pc (pc' := 2) rfl ?_)
  refine aw_bipush dX12_w2_2 (by decide) (aw_pc (pc' := 4) rfl ?_)
  refine aw_lshl dX12_w2_4 (aw_pc (pc' := 5) rfl ?_)
  refine aw_iload_n dX12_w2_5 rfl rfl (aw_pc (pc' := 6) rfl ?_)
  refine aw_i2l dX12_w2_6 (aw_pc (pc' := 7) rfl ?_)
  refine aw_lor dX12_w2_7 (aw_pc (pc' := 8) rfl ?_)
  exact aw_lret rfl dX12_w2_8 ⟨_, rfl, h⟩
def mX12_w3 (a0 : Int) (a1 : Int) (a2 : Int) (F : hp) (Q : Int → hp → Prop) : Prop := mX12_w2 a0 a1 F (fun x2 F1 => Q (lOr (lShl x2 8) (w32 a2)) F1)
set_option maxHeartbeats 4000000 in
theorem tX12_w3 {d : Nat} {a0 : Int} {a1 : Int} {a2 : Int} {F : hp} {Q : Int → hp → Prop} (h : mX12_w3 a0 a1 a2 F Q) : am nX12_w3 (d + 1) 0 0 [vi a0, vi a1, vi a2] F (qL Q) := by
  refine am_of (by decide +kernel) (Nat.le_of_ble_eq_true rfl) ?_
  show aw nX12_w3 (d + 1) 0 0 0 [some (vi a0), some (vi a1), some (vi a2)] [] F (qL Q)
  unfold mX12_w3 at h
  refine aw_iload_n dX12_w3_0 rfl rfl (aw_pc (pc' := 1) rfl ?_)
  refine aw_iload_n dX12_w3_1 rfl rfl (aw_pc (pc' := 2) rfl ?_)
  refine ar_SL (kc' := 0) (ks' := 0) (kc := 0) (ks := 0) (as := [vi a0, vi a1]) (st := []) (tX12_w2 h) mt_X12_w2 qM_RX12_144 qS_X12_w2 rfl (Nat.le_of_ble_eq_true rfl) dX12_w3_2 ?_
  clear h
  intro x2 F1 h
  refine aw_pc (pc' := 5) rfl ?_
  refine aw_bipush dX12_w3_5 (by decide) (aw_pc (pc' := 7) rfl ?_)
  refine aw_lshl dX12_w3_7 (aw_pc (pc' := 8) rfl ?_)
  refine aw_iload_n dX12_w3_8 rfl rfl (aw_pc (pc' := 9) rfl ?_)
  refine aw_i2l dX12_w3_9 (aw_pc (pc' := 10) rfl ?_)
  refine aw_lor dX12_w3_10 (aw_pc (pc' := 11) rfl ?_)
  exact aw_lret rfl dX12_w3_11 ⟨_, rfl, h⟩
def mX12_w4 (a0 : Int) (a1 : Int) (a2 : Int) (a3 : Int) (F : hp) (Q : Int → hp → Prop) : Prop := mX12_w3 a0 a1 a2 F (fun x2 F1 => Q (lOr (lShl x2 8) (w32 a3)) F1)
set_option maxHeartbeats 4000000 in
theorem tX12_w4 {d : Nat} {a0 : Int} {a1 : Int} {a2 : Int} {a3 : Int} {F : hp} {Q : Int → hp → Prop} (h : mX12_w4 a0 a1 a2 a3 F Q) : am nX12_w4 (d + 2) 0 0 [vi a0, vi a1, vi a2, vi a3] F (qL Q) := by
  refine am_of (by decide +kernel) (Nat.le_of_ble_eq_true rfl) ?_
  show aw nX12_w4 (d + 2) 0 0 0 [some (vi a0), some (vi a1), some (vi a2), some (vi a3)] [] F (qL Q)
  unfold mX12_w4 at h
  refine aw_iload_n dX12_w4_0 rfl rfl (aw_pc (pc' := 1) rfl ?_)
  refine aw_iload_n dX12_w4_1 rfl rfl (aw_pc (pc' := 2) rfl ?_)
  refine aw_iload_n dX12_w4_2 rfl rfl (aw_pc (pc' := 3) rfl ?_)
  refine ar_SL (kc' := 0) (ks' := 0) (kc := 0) (ks := 0) (as := [vi a0, vi a1, vi a2]) (st := []) (tX12_w3 h) mt_X12_w3 qM_RX12_148 qS_X12_w3 rfl (Nat.le_of_ble_eq_true rfl) dX12_w4_3 ?_
  clear h
  intro x2 F1 h
  refine aw_pc (pc' := 6) rfl ?_
  refine aw_bipush dX12_w4_6 (by decide) (aw_pc (pc' := 8) rfl ?_)
  refine aw_lshl dX12_w4_8 (aw_pc (pc' := 9) rfl ?_)
  refine aw_iload_n dX12_w4_9 rfl rfl (aw_pc (pc' := 10) rfl ?_)
  refine aw_i2l dX12_w4_10 (aw_pc (pc' := 11) rfl ?_)
  refine aw_lor dX12_w4_11 (aw_pc (pc' := 12) rfl ?_)
  exact aw_lret rfl dX12_w4_12 ⟨_, rfl, h⟩
def mX12_w5 (a0 : Int) (a1 : Int) (a2 : Int) (a3 : Int) (a4 : Int) (F : hp) (Q : Int → hp → Prop) : Prop := mX12_w4 a0 a1 a2 a3 F (fun x2 F1 => Q (lOr (lShl x2 8) (w32 a4)) F1)
set_option maxHeartbeats 4000000 in
theorem tX12_w5 {d : Nat} {a0 : Int} {a1 : Int} {a2 : Int} {a3 : Int} {a4 : Int} {F : hp} {Q : Int → hp → Prop} (h : mX12_w5 a0 a1 a2 a3 a4 F Q) : am nX12_w5 (d + 3) 0 0 [vi a0, vi a1, vi a2, vi a3, vi a4] F (qL Q) := by
  refine am_of (by decide +kernel) (Nat.le_of_ble_eq_true rfl) ?_
  show aw nX12_w5 (d + 3) 0 0 0 [some (vi a0), some (vi a1), some (vi a2), some (vi a3), some (vi a4)] [] F (qL Q)
  unfold mX12_w5 at h
  refine aw_iload_n dX12_w5_0 rfl rfl (aw_pc (pc' := 1) rfl ?_)
  refine aw_iload_n dX12_w5_1 rfl rfl (aw_pc (pc' := 2) rfl ?_)
  refine aw_iload_n dX12_w5_2 rfl rfl (aw_pc (pc' := 3) rfl ?_)
  refine aw_iload_n dX12_w5_3 rfl rfl (aw_pc (pc' := 4) rfl ?_)
  refine ar_SL (kc' := 0) (ks' := 0) (kc := 0) (ks := 0) (as := [vi a0, vi a1, vi a2, vi a3]) (st := []) (tX12_w4 h) mt_X12_w4 qM_RX12_152 qS_X12_w4 rfl (Nat.le_of_ble_eq_true rfl) dX12_w5_4 ?_
  clear h
  intro x2 F1 h
  refine aw_pc (pc' := 7) rfl ?_
  refine aw_bipush dX12_w5_7 (by decide) (aw_pc (pc' := 9) rfl ?_)
  refine aw_lshl dX12_w5_9 (aw_pc (pc' := 10) rfl ?_)
  refine aw_iload dX12_w5_10 rfl (aw_pc (pc' := 12) rfl ?_)
  refine aw_i2l dX12_w5_12 (aw_pc (pc' := 13) rfl ?_)
  refine aw_lor dX12_w5_13 (aw_pc (pc' := 14) rfl ?_)
  exact aw_lret rfl dX12_w5_14 ⟨_, rfl, h⟩
def mX12_w6 (a0 : Int) (a1 : Int) (a2 : Int) (a3 : Int) (a4 : Int) (a5 : Int) (F : hp) (Q : Int → hp → Prop) : Prop := mX12_w5 a0 a1 a2 a3 a4 F (fun x2 F1 => Q (lOr (lShl x2 8) (w32 a5)) F1)
set_option maxHeartbeats 4000000 in
theorem tX12_w6 {d : Nat} {a0 : Int} {a1 : Int} {a2 : Int} {a3 : Int} {a4 : Int} {a5 : Int} {F : hp} {Q : Int → hp → Prop} (h : mX12_w6 a0 a1 a2 a3 a4 a5 F Q) : am nX12_w6 (d + 4) 0 0 [vi a0, vi a1, vi a2, vi a3, vi a4, vi a5] F (qL Q) := by
  refine am_of (by decide +kernel) (Nat.le_of_ble_eq_true rfl) ?_
  show aw nX12_w6 (d + 4) 0 0 0 [some (vi a0), some (vi a1), some (vi a2), some (vi a3), some (vi a4), some (vi a5)] [] F (qL Q)
  unfold mX12_w6 at h
  refine aw_iload_n dX12_w6_0 rfl rfl (aw_pc (pc' := 1) rfl ?_)
  refine aw_iload_n dX12_w6_1 rfl rfl (aw_pc (pc' := 2) rfl ?_)
  refine aw_iload_n dX12_w6_2 rfl rfl (aw_pc (pc' := 3) rfl ?_)
  refine aw_iload_n dX12_w6_3 rfl rfl (aw_pc (pc' := 4) rfl ?_)
  refine aw_iload dX12_w6_4 rfl (aw_pc (pc' := 6) rfl ?_)
  refine ar_SL (kc' := 0) (ks' := 0) (kc := 0) (ks := 0) (as := [vi a0, vi a1, vi a2, vi a3, vi a4]) (st := []) (tX12_w5 h) mt_X12_w5 qM_RX12_156 qS_X12_w5 rfl (Nat.le_of_ble_eq_true rfl) dX12_w6_6 ?_
  clear h
  intro x2 F1 h
  refine aw_pc (pc' := 9) rfl ?_
  refine aw_bipush dX12_w6_9 (by decide) (aw_pc (pc' := 11) rfl ?_)
  refine aw_lshl dX12_w6_11 (aw_pc (pc' := 12) rfl ?_)
  refine aw_iload dX12_w6_12 rfl (aw_pc (pc' := 14) rfl ?_)
  refine aw_i2l dX12_w6_14 (aw_pc (pc' := 15) rfl ?_)
  refine aw_lor dX12_w6_15 (aw_pc (pc' := 16) rfl ?_)
  exact aw_lret rfl dX12_w6_16 ⟨_, rfl, h⟩
def mX12_isWord (o : Nat) (a1 : Int) (F : hp) (Q : Int → hp → Prop) : Prop := gI F (some o) 12 9 (fun x1 => (w32 x1 = 2 → gL F (some o) 12 11 (fun x2 => (w32 (iCmp x2 a1) = 0 → Q 1 F) ∧ (¬ w32 (iCmp x2 a1) = 0 → Q 0 F))) ∧ (¬ w32 x1 = 2 → Q 0 F))
set_option maxHeartbeats 4000000 in
theorem tX12_isWord {d : Nat} {o : Nat} {a1 : Int} {F : hp} {Q : Int → hp → Prop} (h : mX12_isWord o a1 F Q) : am nX12_isWord d 0 0 [vr (some o), vl a1] F (qI Q) := by
  refine am_of (by decide +kernel) (Nat.le_of_ble_eq_true rfl) ?_
  show aw nX12_isWord d 0 0 0 [some (vr (some o)), some (vl a1), none] [] F (qI Q)
  unfold mX12_isWord at h
  refine aw_aload_n dX12_isWord_0 rfl rfl (aw_pc (pc' := 1) rfl ?_)
  refine ar_gI fl_RX12_122 dX12_isWord_1 h ?_
  clear h
  intro x1 h
  refine aw_pc (pc' := 4) rfl ?_
  refine aw_iconst dX12_isWord_4 (aw_pc (pc' := 5) rfl ?_)
  refine ac_ne rfl wl_2 dX12_isWord_5 rfl (fun c => ?_) (fun c => ?_)
  · replace h := h.1 c
    refine aw_aload_n dX12_isWord_8 rfl rfl (aw_pc (pc' := 9) rfl ?_)
    refine ar_gL fl_RX12_135 dX12_isWord_9 h ?_
    clear h
    intro x2 h
    refine aw_pc (pc' := 12) rfl ?_
    refine aw_lload_n dX12_isWord_12 rfl rfl (aw_pc (pc' := 13) rfl ?_)
    refine aw_lcmp dX12_isWord_13 (aw_pc (pc' := 14) rfl ?_)
    refine aw_if_ne dX12_isWord_14 rfl (fun c => ?_) (fun c => ?_)
    · replace h := h.1 c
      refine aw_iconst dX12_isWord_17 (aw_pc (pc' := 18) rfl ?_)
      refine aw_goto (tgt := 22) dX12_isWord_18 rfl ?_
      exact aw_zret rfl (by decide) dX12_isWord_22 ⟨_, rfl, h⟩
    · replace h := h.2 c
      refine aw_iconst dX12_isWord_21 (aw_pc (pc' := 22) rfl ?_)
      exact aw_zret rfl (by decide) dX12_isWord_22 ⟨_, rfl, h⟩
  · replace h := h.2 c
    refine aw_iconst dX12_isWord_21 (aw_pc (pc' := 22) rfl ?_)
    exact aw_zret rfl (by decide) dX12_isWord_22 ⟨_, rfl, h⟩
def mX12_emit (o : Nat) (a1 : Int) (a2 : Int) (F : hp) (Q : hp → Prop) : Prop := gR F (some o) 12 2 (fun x1 => gI F (some o) 12 12 (fun x2 => gI F (some o) 12 13 (fun x3 => sI F x1 0 ((x2 + 73) + (2 * x3)) a1 (fun F4 => gR F4 (some o) 12 2 (fun x5 => gI F4 (some o) 12 12 (fun x6 => gI F4 (some o) 12 13 (fun x7 => sI F4 x5 0 (((x6 + 73) + (2 * x7)) + 1) a2 (fun F8 => gI F8 (some o) 12 13 (fun x9 => pF F8 (some o) 12 13 (vi (x9 + 1)) (fun F10 => Q F10))))))))))
set_option maxHeartbeats 4000000 in
theorem tX12_emit {d : Nat} {o : Nat} {a1 : Int} {a2 : Int} {F : hp} {Q : hp → Prop} (h : mX12_emit o a1 a2 F Q) : am nX12_emit d 0 0 [vr (some o), vi a1, vi a2] F (qV Q) := by
  refine am_of (by decide +kernel) (Nat.le_of_ble_eq_true rfl) ?_
  show aw nX12_emit d 0 0 0 [some (vr (some o)), some (vi a1), some (vi a2)] [] F (qV Q)
  unfold mX12_emit at h
  refine aw_aload_n dX12_emit_0 rfl rfl (aw_pc (pc' := 1) rfl ?_)
  refine ar_gR fl_RX12_16 dX12_emit_1 h ?_
  clear h
  intro x1 h
  refine aw_pc (pc' := 4) rfl ?_
  refine aw_aload_n dX12_emit_4 rfl rfl (aw_pc (pc' := 5) rfl ?_)
  refine ar_gI fl_RX12_160 dX12_emit_5 h ?_
  clear h
  intro x2 h
  refine aw_pc (pc' := 8) rfl ?_
  refine aw_bipush dX12_emit_8 (by decide) (aw_pc (pc' := 10) rfl ?_)
  refine aw_iadd dX12_emit_10 (aw_pc (pc' := 11) rfl ?_)
  refine aw_iconst dX12_emit_11 (aw_pc (pc' := 12) rfl ?_)
  refine aw_aload_n dX12_emit_12 rfl rfl (aw_pc (pc' := 13) rfl ?_)
  refine ar_gI fl_RX12_163 dX12_emit_13 h ?_
  clear h
  intro x3 h
  refine aw_pc (pc' := 16) rfl ?_
  refine aw_imul dX12_emit_16 (aw_pc (pc' := 17) rfl ?_)
  refine aw_iadd dX12_emit_17 (aw_pc (pc' := 18) rfl ?_)
  refine aw_iload_n dX12_emit_18 rfl rfl (aw_pc (pc' := 19) rfl ?_)
  refine ar_sI dX12_emit_19 h ?_
  clear h
  intro F4 h
  refine aw_pc (pc' := 20) rfl ?_
  refine aw_aload_n dX12_emit_20 rfl rfl (aw_pc (pc' := 21) rfl ?_)
  refine ar_gR fl_RX12_16 dX12_emit_21 h ?_
  clear h
  intro x5 h
  refine aw_pc (pc' := 24) rfl ?_
  refine aw_aload_n dX12_emit_24 rfl rfl (aw_pc (pc' := 25) rfl ?_)
  refine ar_gI fl_RX12_160 dX12_emit_25 h ?_
  clear h
  intro x6 h
  refine aw_pc (pc' := 28) rfl ?_
  refine aw_bipush dX12_emit_28 (by decide) (aw_pc (pc' := 30) rfl ?_)
  refine aw_iadd dX12_emit_30 (aw_pc (pc' := 31) rfl ?_)
  refine aw_iconst dX12_emit_31 (aw_pc (pc' := 32) rfl ?_)
  refine aw_aload_n dX12_emit_32 rfl rfl (aw_pc (pc' := 33) rfl ?_)
  refine ar_gI fl_RX12_163 dX12_emit_33 h ?_
  clear h
  intro x7 h
  refine aw_pc (pc' := 36) rfl ?_
  refine aw_imul dX12_emit_36 (aw_pc (pc' := 37) rfl ?_)
  refine aw_iadd dX12_emit_37 (aw_pc (pc' := 38) rfl ?_)
  refine aw_iconst dX12_emit_38 (aw_pc (pc' := 39) rfl ?_)
  refine aw_iadd dX12_emit_39 (aw_pc (pc' := 40) rfl ?_)
  refine aw_iload_n dX12_emit_40 rfl rfl (aw_pc (pc' := 41) rfl ?_)
  refine ar_sI dX12_emit_41 h ?_
  clear h
  intro F8 h
  refine aw_pc (pc' := 42) rfl ?_
  refine aw_aload_n dX12_emit_42 rfl rfl (aw_pc (pc' := 43) rfl ?_)
  refine aw_dup dX12_emit_43 trivial (aw_pc (pc' := 44) rfl ?_)
  refine ar_gI fl_RX12_163 dX12_emit_44 h ?_
  clear h
  intro x9 h
  refine aw_pc (pc' := 47) rfl ?_
  refine aw_iconst dX12_emit_47 (aw_pc (pc' := 48) rfl ?_)
  refine aw_iadd dX12_emit_48 (aw_pc (pc' := 49) rfl ?_)
  refine ar_pF fl_RX12_163 ft_X12_13 (okI _) dX12_emit_49 h ?_
  clear h
  intro F10 h
  refine aw_pc (pc' := 52) rfl ?_
  exact aw_vret rfl dX12_emit_52 ⟨rfl, h⟩
def mX12_isChanges (o : Nat) (F : hp) (Q : Int → hp → Prop) : Prop := gI F (some o) 12 9 (fun x1 => (w32 x1 = 2 → gI F (some o) 12 7 (fun x2 => gI F (some o) 12 8 (fun x3 => (w32 (x2 - x3) = 7 → gI F (some o) 12 8 (fun x4 => rcv F (some o) 12 (fun o7 => mX12_byteAt o7 x4 F (fun x6 F5 => gI F5 (some o) 12 8 (fun x8 => rcv F5 (some o) 12 (fun o11 => mX12_byteAt o11 (x8 + 1) F5 (fun x10 F9 => gI F9 (some o) 12 8 (fun x12 => rcv F9 (some o) 12 (fun o15 => mX12_byteAt o15 (x12 + 2) F9 (fun x14 F13 => gI F13 (some o) 12 8 (fun x16 => rcv F13 (some o) 12 (fun o19 => mX12_byteAt o19 (x16 + 3) F13 (fun x18 F17 => mX12_w4 x6 x10 x14 x18 F17 (fun x21 F20 => mX12_w4 99 104 97 110 F20 (fun x23 F22 => (w32 (iCmp x21 x23) = 0 → gI F22 (some o) 12 8 (fun x24 => rcv F22 (some o) 12 (fun o27 => mX12_byteAt o27 (x24 + 4) F22 (fun x26 F25 => gI F25 (some o) 12 8 (fun x28 => rcv F25 (some o) 12 (fun o31 => mX12_byteAt o31 (x28 + 5) F25 (fun x30 F29 => gI F29 (some o) 12 8 (fun x32 => rcv F29 (some o) 12 (fun o35 => mX12_byteAt o35 (x32 + 6) F29 (fun x34 F33 => mX12_w3 x26 x30 x34 F33 (fun x37 F36 => mX12_w3 103 101 115 F36 (fun x39 F38 => (w32 (iCmp x37 x39) = 0 → Q 1 F38) ∧ (¬ w32 (iCmp x37 x39) = 0 → Q 0 F38))))))))))))) ∧ (¬ w32 (iCmp x21 x23) = 0 → Q 0 F22)))))))))))))))) ∧ (¬ w32 (x2 - x3) = 7 → Q 0 F)))) ∧ (¬ w32 x1 = 2 → Q 0 F))
set_option maxHeartbeats 4000000 in
theorem tX12_isChanges {d : Nat} {o : Nat} {F : hp} {Q : Int → hp → Prop} (h : mX12_isChanges o F Q) : am nX12_isChanges (d + 3) 0 0 [vr (some o)] F (qI Q) := by
  refine am_of (by decide +kernel) (Nat.le_of_ble_eq_true rfl) ?_
  show aw nX12_isChanges (d + 3) 0 0 0 [some (vr (some o))] [] F (qI Q)
  unfold mX12_isChanges at h
  refine aw_aload_n dX12_isChanges_0 rfl rfl (aw_pc (pc' := 1) rfl ?_)
  refine ar_gI fl_RX12_122 dX12_isChanges_1 h ?_
  clear h
  intro x1 h
  refine aw_pc (pc' := 4) rfl ?_
  refine aw_iconst dX12_isChanges_4 (aw_pc (pc' := 5) rfl ?_)
  refine ac_ne rfl wl_2 dX12_isChanges_5 rfl (fun c => ?_) (fun c => ?_)
  · replace h := h.1 c
    refine aw_aload_n dX12_isChanges_8 rfl rfl (aw_pc (pc' := 9) rfl ?_)
    refine ar_gI fl_RX12_113 dX12_isChanges_9 h ?_
    clear h
    intro x2 h
    refine aw_pc (pc' := 12) rfl ?_
    refine aw_aload_n dX12_isChanges_12 rfl rfl (aw_pc (pc' := 13) rfl ?_)
    refine ar_gI fl_RX12_119 dX12_isChanges_13 h ?_
    clear h
    intro x3 h
    refine aw_pc (pc' := 16) rfl ?_
    refine aw_isub dX12_isChanges_16 (aw_pc (pc' := 17) rfl ?_)
    refine aw_bipush dX12_isChanges_17 (by decide) (aw_pc (pc' := 19) rfl ?_)
    refine ac_ne rfl wl_7 dX12_isChanges_19 rfl (fun c => ?_) (fun c => ?_)
    · replace h := h.1 c
      refine aw_aload_n dX12_isChanges_22 rfl rfl (aw_pc (pc' := 23) rfl ?_)
      refine aw_aload_n dX12_isChanges_23 rfl rfl (aw_pc (pc' := 24) rfl ?_)
      refine ar_gI fl_RX12_119 dX12_isChanges_24 h ?_
      clear h
      intro x4 h
      refine aw_pc (pc' := 27) rfl ?_
      have h0 := rcv_inv h
      clear h
      obtain ⟨o7, fs_o7, hr_o7, he_o7, h⟩ := h0
      obtain rfl : o = o7 := Option.some.inj hr_o7
      refine ar_VI (kc' := 0) (ks' := 0) (kc := 0) (ks := 0) (a := o) (ci := 12) (as := [vi x4]) (st := []) (tX12_byteAt h) mt_X12_byteAt rfl qM_RX12_116 qI_X12_byteAt qV_X12_byteAt he_o7 rfl (Nat.le_of_ble_eq_true rfl) dX12_isChanges_27 ?_
      clear h
      intro x6 F5 h
      refine aw_pc (pc' := 30) rfl ?_
      refine aw_aload_n dX12_isChanges_30 rfl rfl (aw_pc (pc' := 31) rfl ?_)
      refine aw_aload_n dX12_isChanges_31 rfl rfl (aw_pc (pc' := 32) rfl ?_)
      refine ar_gI fl_RX12_119 dX12_isChanges_32 h ?_
      clear h
      intro x8 h
      refine aw_pc (pc' := 35) rfl ?_
      refine aw_iconst dX12_isChanges_35 (aw_pc (pc' := 36) rfl ?_)
      refine aw_iadd dX12_isChanges_36 (aw_pc (pc' := 37) rfl ?_)
      have h0 := rcv_inv h
      clear h
      obtain ⟨o11, fs_o11, hr_o11, he_o11, h⟩ := h0
      obtain rfl : o = o11 := Option.some.inj hr_o11
      refine ar_VI (kc' := 0) (ks' := 0) (kc := 0) (ks := 0) (a := o) (ci := 12) (as := [vi (x8 + 1)]) (st := [vi x6]) (tX12_byteAt h) mt_X12_byteAt rfl qM_RX12_116 qI_X12_byteAt qV_X12_byteAt he_o11 rfl (Nat.le_of_ble_eq_true rfl) dX12_isChanges_37 ?_
      clear h
      intro x10 F9 h
      refine aw_pc (pc' := 40) rfl ?_
      refine aw_aload_n dX12_isChanges_40 rfl rfl (aw_pc (pc' := 41) rfl ?_)
      refine aw_aload_n dX12_isChanges_41 rfl rfl (aw_pc (pc' := 42) rfl ?_)
      refine ar_gI fl_RX12_119 dX12_isChanges_42 h ?_
      clear h
      intro x12 h
      refine aw_pc (pc' := 45) rfl ?_
      refine aw_iconst dX12_isChanges_45 (aw_pc (pc' := 46) rfl ?_)
      refine aw_iadd dX12_isChanges_46 (aw_pc (pc' := 47) rfl ?_)
      have h0 := rcv_inv h
      clear h
      obtain ⟨o15, fs_o15, hr_o15, he_o15, h⟩ := h0
      obtain rfl : o = o15 := Option.some.inj hr_o15
      refine ar_VI (kc' := 0) (ks' := 0) (kc := 0) (ks := 0) (a := o) (ci := 12) (as := [vi (x12 + 2)]) (st := [vi x10, vi x6]) (tX12_byteAt h) mt_X12_byteAt rfl qM_RX12_116 qI_X12_byteAt qV_X12_byteAt he_o15 rfl (Nat.le_of_ble_eq_true rfl) dX12_isChanges_47 ?_
      clear h
      intro x14 F13 h
      refine aw_pc (pc' := 50) rfl ?_
      refine aw_aload_n dX12_isChanges_50 rfl rfl (aw_pc (pc' := 51) rfl ?_)
      refine aw_aload_n dX12_isChanges_51 rfl rfl (aw_pc (pc' := 52) rfl ?_)
      refine ar_gI fl_RX12_119 dX12_isChanges_52 h ?_
      clear h
      intro x16 h
      refine aw_pc (pc' := 55) rfl ?_
      refine aw_iconst dX12_isChanges_55 (aw_pc (pc' := 56) rfl ?_)
      refine aw_iadd dX12_isChanges_56 (aw_pc (pc' := 57) rfl ?_)
      have h0 := rcv_inv h
      clear h
      obtain ⟨o19, fs_o19, hr_o19, he_o19, h⟩ := h0
      obtain rfl : o = o19 := Option.some.inj hr_o19
      refine ar_VI (kc' := 0) (ks' := 0) (kc := 0) (ks := 0) (a := o) (ci := 12) (as := [vi (x16 + 3)]) (st := [vi x14, vi x10, vi x6]) (tX12_byteAt h) mt_X12_byteAt rfl qM_RX12_116 qI_X12_byteAt qV_X12_byteAt he_o19 rfl (Nat.le_of_ble_eq_true rfl) dX12_isChanges_57 ?_
      clear h
      intro x18 F17 h
      refine aw_pc (pc' := 60) rfl ?_
      refine ar_SL (kc' := 0) (ks' := 0) (kc := 0) (ks := 0) (as := [vi x6, vi x10, vi x14, vi x18]) (st := []) (tX12_w4 h) mt_X12_w4 qM_RX12_152 qS_X12_w4 rfl (Nat.le_of_ble_eq_true rfl) dX12_isChanges_60 ?_
      clear h
      intro x21 F20 h
      refine aw_pc (pc' := 63) rfl ?_
      refine aw_bipush dX12_isChanges_63 (by decide) (aw_pc (pc' := 65) rfl ?_)
      refine aw_bipush dX12_isChanges_65 (by decide) (aw_pc (pc' := 67) rfl ?_)
      refine aw_bipush dX12_isChanges_67 (by decide) (aw_pc (pc' := 69) rfl ?_)
      refine aw_bipush dX12_isChanges_69 (by decide) (aw_pc (pc' := 71) rfl ?_)
      refine ar_SL (kc' := 0) (ks' := 0) (kc := 0) (ks := 0) (as := [vi 99, vi 104, vi 97, vi 110]) (st := [vl x21]) (tX12_w4 h) mt_X12_w4 qM_RX12_152 qS_X12_w4 rfl (Nat.le_of_ble_eq_true rfl) dX12_isChanges_71 ?_
      clear h
      intro x23 F22 h
      refine aw_pc (pc' := 74) rfl ?_
      refine aw_lcmp dX12_isChanges_74 (aw_pc (pc' := 75) rfl ?_)
      refine aw_if_ne dX12_isChanges_75 rfl (fun c => ?_) (fun c => ?_)
      · replace h := h.1 c
        refine aw_aload_n dX12_isChanges_78 rfl rfl (aw_pc (pc' := 79) rfl ?_)
        refine aw_aload_n dX12_isChanges_79 rfl rfl (aw_pc (pc' := 80) rfl ?_)
        refine ar_gI fl_RX12_119 dX12_isChanges_80 h ?_
        clear h
        intro x24 h
        refine aw_pc (pc' := 83) rfl ?_
        refine aw_iconst dX12_isChanges_83 (aw_pc (pc' := 84) rfl ?_)
        refine aw_iadd dX12_isChanges_84 (aw_pc (pc' := 85) rfl ?_)
        have h0 := rcv_inv h
        clear h
        obtain ⟨o27, fs_o27, hr_o27, he_o27, h⟩ := h0
        obtain rfl : o = o27 := Option.some.inj hr_o27
        refine ar_VI (kc' := 0) (ks' := 0) (kc := 0) (ks := 0) (a := o) (ci := 12) (as := [vi (x24 + 4)]) (st := []) (tX12_byteAt h) mt_X12_byteAt rfl qM_RX12_116 qI_X12_byteAt qV_X12_byteAt he_o27 rfl (Nat.le_of_ble_eq_true rfl) dX12_isChanges_85 ?_
        clear h
        intro x26 F25 h
        refine aw_pc (pc' := 88) rfl ?_
        refine aw_aload_n dX12_isChanges_88 rfl rfl (aw_pc (pc' := 89) rfl ?_)
        refine aw_aload_n dX12_isChanges_89 rfl rfl (aw_pc (pc' := 90) rfl ?_)
        refine ar_gI fl_RX12_119 dX12_isChanges_90 h ?_
        clear h
        intro x28 h
        refine aw_pc (pc' := 93) rfl ?_
        refine aw_iconst dX12_isChanges_93 (aw_pc (pc' := 94) rfl ?_)
        refine aw_iadd dX12_isChanges_94 (aw_pc (pc' := 95) rfl ?_)
        have h0 := rcv_inv h
        clear h
        obtain ⟨o31, fs_o31, hr_o31, he_o31, h⟩ := h0
        obtain rfl : o = o31 := Option.some.inj hr_o31
        refine ar_VI (kc' := 0) (ks' := 0) (kc := 0) (ks := 0) (a := o) (ci := 12) (as := [vi (x28 + 5)]) (st := [vi x26]) (tX12_byteAt h) mt_X12_byteAt rfl qM_RX12_116 qI_X12_byteAt qV_X12_byteAt he_o31 rfl (Nat.le_of_ble_eq_true rfl) dX12_isChanges_95 ?_
        clear h
        intro x30 F29 h
        refine aw_pc (pc' := 98) rfl ?_
        refine aw_aload_n dX12_isChanges_98 rfl rfl (aw_pc (pc' := 99) rfl ?_)
        refine aw_aload_n dX12_isChanges_99 rfl rfl (aw_pc (pc' := 100) rfl ?_)
        refine ar_gI fl_RX12_119 dX12_isChanges_100 h ?_
        clear h
        intro x32 h
        refine aw_pc (pc' := 103) rfl ?_
        refine aw_bipush dX12_isChanges_103 (by decide) (aw_pc (pc' := 105) rfl ?_)
        refine aw_iadd dX12_isChanges_105 (aw_pc (pc' := 106) rfl ?_)
        have h0 := rcv_inv h
        clear h
        obtain ⟨o35, fs_o35, hr_o35, he_o35, h⟩ := h0
        obtain rfl : o = o35 := Option.some.inj hr_o35
        refine ar_VI (kc' := 0) (ks' := 0) (kc := 0) (ks := 0) (a := o) (ci := 12) (as := [vi (x32 + 6)]) (st := [vi x30, vi x26]) (tX12_byteAt h) mt_X12_byteAt rfl qM_RX12_116 qI_X12_byteAt qV_X12_byteAt he_o35 rfl (Nat.le_of_ble_eq_true rfl) dX12_isChanges_106 ?_
        clear h
        intro x34 F33 h
        refine aw_pc (pc' := 109) rfl ?_
        refine ar_SL (kc' := 0) (ks' := 0) (kc := 0) (ks := 0) (as := [vi x26, vi x30, vi x34]) (st := []) (tX12_w3 h) mt_X12_w3 qM_RX12_148 qS_X12_w3 rfl (Nat.le_of_ble_eq_true rfl) dX12_isChanges_109 ?_
        clear h
        intro x37 F36 h
        refine aw_pc (pc' := 112) rfl ?_
        refine aw_bipush dX12_isChanges_112 (by decide) (aw_pc (pc' := 114) rfl ?_)
        refine aw_bipush dX12_isChanges_114 (by decide) (aw_pc (pc' := 116) rfl ?_)
        refine aw_bipush dX12_isChanges_116 (by decide) (aw_pc (pc' := 118) rfl ?_)
        refine ar_SL (kc' := 0) (ks' := 0) (kc := 0) (ks := 0) (as := [vi 103, vi 101, vi 115]) (st := [vl x37]) (tX12_w3 h) mt_X12_w3 qM_RX12_148 qS_X12_w3 rfl (Nat.le_of_ble_eq_true rfl) dX12_isChanges_118 ?_
        clear h
        intro x39 F38 h
        refine aw_pc (pc' := 121) rfl ?_
        refine aw_lcmp dX12_isChanges_121 (aw_pc (pc' := 122) rfl ?_)
        refine aw_if_ne dX12_isChanges_122 rfl (fun c => ?_) (fun c => ?_)
        · replace h := h.1 c
          refine aw_iconst dX12_isChanges_125 (aw_pc (pc' := 126) rfl ?_)
          refine aw_goto (tgt := 130) dX12_isChanges_126 rfl ?_
          exact aw_zret rfl (by decide) dX12_isChanges_130 ⟨_, rfl, h⟩
        · replace h := h.2 c
          refine aw_iconst dX12_isChanges_129 (aw_pc (pc' := 130) rfl ?_)
          exact aw_zret rfl (by decide) dX12_isChanges_130 ⟨_, rfl, h⟩
      · replace h := h.2 c
        refine aw_iconst dX12_isChanges_129 (aw_pc (pc' := 130) rfl ?_)
        exact aw_zret rfl (by decide) dX12_isChanges_130 ⟨_, rfl, h⟩
    · replace h := h.2 c
      refine aw_iconst dX12_isChanges_129 (aw_pc (pc' := 130) rfl ?_)
      exact aw_zret rfl (by decide) dX12_isChanges_130 ⟨_, rfl, h⟩
  · replace h := h.2 c
    refine aw_iconst dX12_isChanges_129 (aw_pc (pc' := 130) rfl ?_)
    exact aw_zret rfl (by decide) dX12_isChanges_130 ⟨_, rfl, h⟩
def mX12_nameOf (o : Nat) (F : hp) (Q : Int → hp → Prop) : Prop := gI F (some o) 12 9 (fun x1 => (w32 x1 = 2 → gL F (some o) 12 11 (fun x2 => mX12_w4 104 111 117 114 F (fun x4 F3 => (w32 (iCmp x2 x4) = 0 → Q 0 F3) ∧ (¬ w32 (iCmp x2 x4) = 0 → gL F3 (some o) 12 11 (fun x5 => mX12_w6 110 117 109 98 101 114 F3 (fun x7 F6 => (w32 (iCmp x5 x7) = 0 → Q 1 F6) ∧ (¬ w32 (iCmp x5 x7) = 0 → gL F6 (some o) 12 11 (fun x8 => mX12_w4 108 111 97 100 F6 (fun x10 F9 => (w32 (iCmp x8 x10) = 0 → Q 2 F9) ∧ (¬ w32 (iCmp x8 x10) = 0 → gL F9 (some o) 12 11 (fun x11 => mX12_w4 107 105 110 100 F9 (fun x13 F12 => (w32 (iCmp x11 x13) = 0 → Q 3 F12) ∧ (¬ w32 (iCmp x11 x13) = 0 → gL F12 (some o) 12 11 (fun x14 => mX12_w4 119 105 100 101 F12 (fun x16 F15 => (w32 (iCmp x14 x16) = 0 → Q 4 F15) ∧ (¬ w32 (iCmp x14 x16) = 0 → gL F15 (some o) 12 11 (fun x17 => mX12_w4 119 111 114 110 F15 (fun x19 F18 => (w32 (iCmp x17 x19) = 0 → Q 5 F18) ∧ (¬ w32 (iCmp x17 x19) = 0 → gL F18 (some o) 12 11 (fun x20 => mX12_w4 102 114 111 109 F18 (fun x22 F21 => (w32 (iCmp x20 x22) = 0 → Q 6 F21) ∧ (¬ w32 (iCmp x20 x22) = 0 → gL F21 (some o) 12 11 (fun x23 => mX12_w2 116 111 F21 (fun x25 F24 => (w32 (iCmp x23 x25) = 0 → Q 7 F24) ∧ (¬ w32 (iCmp x23 x25) = 0 → gL F24 (some o) 12 11 (fun x26 => mX12_w4 109 97 110 121 F24 (fun x28 F27 => (w32 (iCmp x26 x28) = 0 → Q 8 F27) ∧ (¬ w32 (iCmp x26 x28) = 0 → gL F27 (some o) 12 11 (fun x29 => mX12_w6 110 97 114 114 111 119 F27 (fun x31 F30 => (w32 (iCmp x29 x31) = 0 → Q 9 F30) ∧ (¬ w32 (iCmp x29 x31) = 0 → gL F30 (some o) 12 11 (fun x32 => mX12_w5 98 114 111 97 100 F30 (fun x34 F33 => (w32 (iCmp x32 x34) = 0 → Q 10 F33) ∧ (¬ w32 (iCmp x32 x34) = 0 → Q (-1) F33)))))))))))))))))))))))))))))))))) ∧ (¬ w32 x1 = 2 → Q (-1) F))
set_option maxHeartbeats 4000000 in
theorem tX12_nameOf {d : Nat} {o : Nat} {F : hp} {Q : Int → hp → Prop} (h : mX12_nameOf o F Q) : am nX12_nameOf (d + 5) 0 0 [vr (some o)] F (qI Q) := by
  refine am_of (by decide +kernel) (Nat.le_of_ble_eq_true rfl) ?_
  show aw nX12_nameOf (d + 5) 0 0 0 [some (vr (some o))] [] F (qI Q)
  unfold mX12_nameOf at h
  refine aw_aload_n dX12_nameOf_0 rfl rfl (aw_pc (pc' := 1) rfl ?_)
  refine ar_gI fl_RX12_122 dX12_nameOf_1 h ?_
  clear h
  intro x1 h
  refine aw_pc (pc' := 4) rfl ?_
  refine aw_iconst dX12_nameOf_4 (aw_pc (pc' := 5) rfl ?_)
  refine ac_eq rfl wl_2 dX12_nameOf_5 rfl (fun c => ?_) (fun c => ?_)
  · replace h := h.1 c
    refine aw_aload_n dX12_nameOf_10 rfl rfl (aw_pc (pc' := 11) rfl ?_)
    refine ar_gL fl_RX12_135 dX12_nameOf_11 h ?_
    clear h
    intro x2 h
    refine aw_pc (pc' := 14) rfl ?_
    refine aw_bipush dX12_nameOf_14 (by decide) (aw_pc (pc' := 16) rfl ?_)
    refine aw_bipush dX12_nameOf_16 (by decide) (aw_pc (pc' := 18) rfl ?_)
    refine aw_bipush dX12_nameOf_18 (by decide) (aw_pc (pc' := 20) rfl ?_)
    refine aw_bipush dX12_nameOf_20 (by decide) (aw_pc (pc' := 22) rfl ?_)
    refine ar_SL (kc' := 0) (ks' := 0) (kc := 0) (ks := 0) (as := [vi 104, vi 111, vi 117, vi 114]) (st := [vl x2]) (tX12_w4 h) mt_X12_w4 qM_RX12_152 qS_X12_w4 rfl (Nat.le_of_ble_eq_true rfl) dX12_nameOf_22 ?_
    clear h
    intro x4 F3 h
    refine aw_pc (pc' := 25) rfl ?_
    refine aw_lcmp dX12_nameOf_25 (aw_pc (pc' := 26) rfl ?_)
    refine aw_if_ne dX12_nameOf_26 rfl (fun c => ?_) (fun c => ?_)
    · replace h := h.1 c
      refine aw_iconst dX12_nameOf_29 (aw_pc (pc' := 30) rfl ?_)
      exact aw_iret rfl dX12_nameOf_30 ⟨_, rfl, h⟩
    · replace h := h.2 c
      refine aw_aload_n dX12_nameOf_31 rfl rfl (aw_pc (pc' := 32) rfl ?_)
      refine ar_gL fl_RX12_135 dX12_nameOf_32 h ?_
      clear h
      intro x5 h
      refine aw_pc (pc' := 35) rfl ?_
      refine aw_bipush dX12_nameOf_35 (by decide) (aw_pc (pc' := 37) rfl ?_)
      refine aw_bipush dX12_nameOf_37 (by decide) (aw_pc (pc' := 39) rfl ?_)
      refine aw_bipush dX12_nameOf_39 (by decide) (aw_pc (pc' := 41) rfl ?_)
      refine aw_bipush dX12_nameOf_41 (by decide) (aw_pc (pc' := 43) rfl ?_)
      refine aw_bipush dX12_nameOf_43 (by decide) (aw_pc (pc' := 45) rfl ?_)
      refine aw_bipush dX12_nameOf_45 (by decide) (aw_pc (pc' := 47) rfl ?_)
      refine ar_SL (kc' := 0) (ks' := 0) (kc := 0) (ks := 0) (as := [vi 110, vi 117, vi 109, vi 98, vi 101, vi 114]) (st := [vl x5]) (tX12_w6 h) mt_X12_w6 qM_RX12_166 qS_X12_w6 rfl (Nat.le_of_ble_eq_true rfl) dX12_nameOf_47 ?_
      clear h
      intro x7 F6 h
      refine aw_pc (pc' := 50) rfl ?_
      refine aw_lcmp dX12_nameOf_50 (aw_pc (pc' := 51) rfl ?_)
      refine aw_if_ne dX12_nameOf_51 rfl (fun c => ?_) (fun c => ?_)
      · replace h := h.1 c
        refine aw_iconst dX12_nameOf_54 (aw_pc (pc' := 55) rfl ?_)
        exact aw_iret rfl dX12_nameOf_55 ⟨_, rfl, h⟩
      · replace h := h.2 c
        refine aw_aload_n dX12_nameOf_56 rfl rfl (aw_pc (pc' := 57) rfl ?_)
        refine ar_gL fl_RX12_135 dX12_nameOf_57 h ?_
        clear h
        intro x8 h
        refine aw_pc (pc' := 60) rfl ?_
        refine aw_bipush dX12_nameOf_60 (by decide) (aw_pc (pc' := 62) rfl ?_)
        refine aw_bipush dX12_nameOf_62 (by decide) (aw_pc (pc' := 64) rfl ?_)
        refine aw_bipush dX12_nameOf_64 (by decide) (aw_pc (pc' := 66) rfl ?_)
        refine aw_bipush dX12_nameOf_66 (by decide) (aw_pc (pc' := 68) rfl ?_)
        refine ar_SL (kc' := 0) (ks' := 0) (kc := 0) (ks := 0) (as := [vi 108, vi 111, vi 97, vi 100]) (st := [vl x8]) (tX12_w4 h) mt_X12_w4 qM_RX12_152 qS_X12_w4 rfl (Nat.le_of_ble_eq_true rfl) dX12_nameOf_68 ?_
        clear h
        intro x10 F9 h
        refine aw_pc (pc' := 71) rfl ?_
        refine aw_lcmp dX12_nameOf_71 (aw_pc (pc' := 72) rfl ?_)
        refine aw_if_ne dX12_nameOf_72 rfl (fun c => ?_) (fun c => ?_)
        · replace h := h.1 c
          refine aw_iconst dX12_nameOf_75 (aw_pc (pc' := 76) rfl ?_)
          exact aw_iret rfl dX12_nameOf_76 ⟨_, rfl, h⟩
        · replace h := h.2 c
          refine aw_aload_n dX12_nameOf_77 rfl rfl (aw_pc (pc' := 78) rfl ?_)
          refine ar_gL fl_RX12_135 dX12_nameOf_78 h ?_
          clear h
          intro x11 h
          refine aw_pc (pc' := 81) rfl ?_
          refine aw_bipush dX12_nameOf_81 (by decide) (aw_pc (pc' := 83) rfl ?_)
          refine aw_bipush dX12_nameOf_83 (by decide) (aw_pc (pc' := 85) rfl ?_)
          refine aw_bipush dX12_nameOf_85 (by decide) (aw_pc (pc' := 87) rfl ?_)
          refine aw_bipush dX12_nameOf_87 (by decide) (aw_pc (pc' := 89) rfl ?_)
          refine ar_SL (kc' := 0) (ks' := 0) (kc := 0) (ks := 0) (as := [vi 107, vi 105, vi 110, vi 100]) (st := [vl x11]) (tX12_w4 h) mt_X12_w4 qM_RX12_152 qS_X12_w4 rfl (Nat.le_of_ble_eq_true rfl) dX12_nameOf_89 ?_
          clear h
          intro x13 F12 h
          refine aw_pc (pc' := 92) rfl ?_
          refine aw_lcmp dX12_nameOf_92 (aw_pc (pc' := 93) rfl ?_)
          refine aw_if_ne dX12_nameOf_93 rfl (fun c => ?_) (fun c => ?_)
          · replace h := h.1 c
            refine aw_iconst dX12_nameOf_96 (aw_pc (pc' := 97) rfl ?_)
            exact aw_iret rfl dX12_nameOf_97 ⟨_, rfl, h⟩
          · replace h := h.2 c
            refine aw_aload_n dX12_nameOf_98 rfl rfl (aw_pc (pc' := 99) rfl ?_)
            refine ar_gL fl_RX12_135 dX12_nameOf_99 h ?_
            clear h
            intro x14 h
            refine aw_pc (pc' := 102) rfl ?_
            refine aw_bipush dX12_nameOf_102 (by decide) (aw_pc (pc' := 104) rfl ?_)
            refine aw_bipush dX12_nameOf_104 (by decide) (aw_pc (pc' := 106) rfl ?_)
            refine aw_bipush dX12_nameOf_106 (by decide) (aw_pc (pc' := 108) rfl ?_)
            refine aw_bipush dX12_nameOf_108 (by decide) (aw_pc (pc' := 110) rfl ?_)
            refine ar_SL (kc' := 0) (ks' := 0) (kc := 0) (ks := 0) (as := [vi 119, vi 105, vi 100, vi 101]) (st := [vl x14]) (tX12_w4 h) mt_X12_w4 qM_RX12_152 qS_X12_w4 rfl (Nat.le_of_ble_eq_true rfl) dX12_nameOf_110 ?_
            clear h
            intro x16 F15 h
            refine aw_pc (pc' := 113) rfl ?_
            refine aw_lcmp dX12_nameOf_113 (aw_pc (pc' := 114) rfl ?_)
            refine aw_if_ne dX12_nameOf_114 rfl (fun c => ?_) (fun c => ?_)
            · replace h := h.1 c
              refine aw_iconst dX12_nameOf_117 (aw_pc (pc' := 118) rfl ?_)
              exact aw_iret rfl dX12_nameOf_118 ⟨_, rfl, h⟩
            · replace h := h.2 c
              refine aw_aload_n dX12_nameOf_119 rfl rfl (aw_pc (pc' := 120) rfl ?_)
              refine ar_gL fl_RX12_135 dX12_nameOf_120 h ?_
              clear h
              intro x17 h
              refine aw_pc (pc' := 123) rfl ?_
              refine aw_bipush dX12_nameOf_123 (by decide) (aw_pc (pc' := 125) rfl ?_)
              refine aw_bipush dX12_nameOf_125 (by decide) (aw_pc (pc' := 127) rfl ?_)
              refine aw_bipush dX12_nameOf_127 (by decide) (aw_pc (pc' := 129) rfl ?_)
              refine aw_bipush dX12_nameOf_129 (by decide) (aw_pc (pc' := 131) rfl ?_)
              refine ar_SL (kc' := 0) (ks' := 0) (kc := 0) (ks := 0) (as := [vi 119, vi 111, vi 114, vi 110]) (st := [vl x17]) (tX12_w4 h) mt_X12_w4 qM_RX12_152 qS_X12_w4 rfl (Nat.le_of_ble_eq_true rfl) dX12_nameOf_131 ?_
              clear h
              intro x19 F18 h
              refine aw_pc (pc' := 134) rfl ?_
              refine aw_lcmp dX12_nameOf_134 (aw_pc (pc' := 135) rfl ?_)
              refine aw_if_ne dX12_nameOf_135 rfl (fun c => ?_) (fun c => ?_)
              · replace h := h.1 c
                refine aw_iconst dX12_nameOf_138 (aw_pc (pc' := 139) rfl ?_)
                exact aw_iret rfl dX12_nameOf_139 ⟨_, rfl, h⟩
              · replace h := h.2 c
                refine aw_aload_n dX12_nameOf_140 rfl rfl (aw_pc (pc' := 141) rfl ?_)
                refine ar_gL fl_RX12_135 dX12_nameOf_141 h ?_
                clear h
                intro x20 h
                refine aw_pc (pc' := 144) rfl ?_
                refine aw_bipush dX12_nameOf_144 (by decide) (aw_pc (pc' := 146) rfl ?_)
                refine aw_bipush dX12_nameOf_146 (by decide) (aw_pc (pc' := 148) rfl ?_)
                refine aw_bipush dX12_nameOf_148 (by decide) (aw_pc (pc' := 150) rfl ?_)
                refine aw_bipush dX12_nameOf_150 (by decide) (aw_pc (pc' := 152) rfl ?_)
                refine ar_SL (kc' := 0) (ks' := 0) (kc := 0) (ks := 0) (as := [vi 102, vi 114, vi 111, vi 109]) (st := [vl x20]) (tX12_w4 h) mt_X12_w4 qM_RX12_152 qS_X12_w4 rfl (Nat.le_of_ble_eq_true rfl) dX12_nameOf_152 ?_
                clear h
                intro x22 F21 h
                refine aw_pc (pc' := 155) rfl ?_
                refine aw_lcmp dX12_nameOf_155 (aw_pc (pc' := 156) rfl ?_)
                refine aw_if_ne dX12_nameOf_156 rfl (fun c => ?_) (fun c => ?_)
                · replace h := h.1 c
                  refine aw_bipush dX12_nameOf_159 (by decide) (aw_pc (pc' := 161) rfl ?_)
                  exact aw_iret rfl dX12_nameOf_161 ⟨_, rfl, h⟩
                · replace h := h.2 c
                  refine aw_aload_n dX12_nameOf_162 rfl rfl (aw_pc (pc' := 163) rfl ?_)
                  refine ar_gL fl_RX12_135 dX12_nameOf_163 h ?_
                  clear h
                  intro x23 h
                  refine aw_pc (pc' := 166) rfl ?_
                  refine aw_bipush dX12_nameOf_166 (by decide) (aw_pc (pc' := 168) rfl ?_)
                  refine aw_bipush dX12_nameOf_168 (by decide) (aw_pc (pc' := 170) rfl ?_)
                  refine ar_SL (kc' := 0) (ks' := 0) (kc := 0) (ks := 0) (as := [vi 116, vi 111]) (st := [vl x23]) (tX12_w2 h) mt_X12_w2 qM_RX12_144 qS_X12_w2 rfl (Nat.le_of_ble_eq_true rfl) dX12_nameOf_170 ?_
                  clear h
                  intro x25 F24 h
                  refine aw_pc (pc' := 173) rfl ?_
                  refine aw_lcmp dX12_nameOf_173 (aw_pc (pc' := 174) rfl ?_)
                  refine aw_if_ne dX12_nameOf_174 rfl (fun c => ?_) (fun c => ?_)
                  · replace h := h.1 c
                    refine aw_bipush dX12_nameOf_177 (by decide) (aw_pc (pc' := 179) rfl ?_)
                    exact aw_iret rfl dX12_nameOf_179 ⟨_, rfl, h⟩
                  · replace h := h.2 c
                    refine aw_aload_n dX12_nameOf_180 rfl rfl (aw_pc (pc' := 181) rfl ?_)
                    refine ar_gL fl_RX12_135 dX12_nameOf_181 h ?_
                    clear h
                    intro x26 h
                    refine aw_pc (pc' := 184) rfl ?_
                    refine aw_bipush dX12_nameOf_184 (by decide) (aw_pc (pc' := 186) rfl ?_)
                    refine aw_bipush dX12_nameOf_186 (by decide) (aw_pc (pc' := 188) rfl ?_)
                    refine aw_bipush dX12_nameOf_188 (by decide) (aw_pc (pc' := 190) rfl ?_)
                    refine aw_bipush dX12_nameOf_190 (by decide) (aw_pc (pc' := 192) rfl ?_)
                    refine ar_SL (kc' := 0) (ks' := 0) (kc := 0) (ks := 0) (as := [vi 109, vi 97, vi 110, vi 121]) (st := [vl x26]) (tX12_w4 h) mt_X12_w4 qM_RX12_152 qS_X12_w4 rfl (Nat.le_of_ble_eq_true rfl) dX12_nameOf_192 ?_
                    clear h
                    intro x28 F27 h
                    refine aw_pc (pc' := 195) rfl ?_
                    refine aw_lcmp dX12_nameOf_195 (aw_pc (pc' := 196) rfl ?_)
                    refine aw_if_ne dX12_nameOf_196 rfl (fun c => ?_) (fun c => ?_)
                    · replace h := h.1 c
                      refine aw_bipush dX12_nameOf_199 (by decide) (aw_pc (pc' := 201) rfl ?_)
                      exact aw_iret rfl dX12_nameOf_201 ⟨_, rfl, h⟩
                    · replace h := h.2 c
                      refine aw_aload_n dX12_nameOf_202 rfl rfl (aw_pc (pc' := 203) rfl ?_)
                      refine ar_gL fl_RX12_135 dX12_nameOf_203 h ?_
                      clear h
                      intro x29 h
                      refine aw_pc (pc' := 206) rfl ?_
                      refine aw_bipush dX12_nameOf_206 (by decide) (aw_pc (pc' := 208) rfl ?_)
                      refine aw_bipush dX12_nameOf_208 (by decide) (aw_pc (pc' := 210) rfl ?_)
                      refine aw_bipush dX12_nameOf_210 (by decide) (aw_pc (pc' := 212) rfl ?_)
                      refine aw_bipush dX12_nameOf_212 (by decide) (aw_pc (pc' := 214) rfl ?_)
                      refine aw_bipush dX12_nameOf_214 (by decide) (aw_pc (pc' := 216) rfl ?_)
                      refine aw_bipush dX12_nameOf_216 (by decide) (aw_pc (pc' := 218) rfl ?_)
                      refine ar_SL (kc' := 0) (ks' := 0) (kc := 0) (ks := 0) (as := [vi 110, vi 97, vi 114, vi 114, vi 111, vi 119]) (st := [vl x29]) (tX12_w6 h) mt_X12_w6 qM_RX12_166 qS_X12_w6 rfl (Nat.le_of_ble_eq_true rfl) dX12_nameOf_218 ?_
                      clear h
                      intro x31 F30 h
                      refine aw_pc (pc' := 221) rfl ?_
                      refine aw_lcmp dX12_nameOf_221 (aw_pc (pc' := 222) rfl ?_)
                      refine aw_if_ne dX12_nameOf_222 rfl (fun c => ?_) (fun c => ?_)
                      · replace h := h.1 c
                        refine aw_bipush dX12_nameOf_225 (by decide) (aw_pc (pc' := 227) rfl ?_)
                        refine aw_goto (tgt := 257) dX12_nameOf_227 rfl ?_
                        exact aw_iret rfl dX12_nameOf_257 ⟨_, rfl, h⟩
                      · replace h := h.2 c
                        refine aw_aload_n dX12_nameOf_230 rfl rfl (aw_pc (pc' := 231) rfl ?_)
                        refine ar_gL fl_RX12_135 dX12_nameOf_231 h ?_
                        clear h
                        intro x32 h
                        refine aw_pc (pc' := 234) rfl ?_
                        refine aw_bipush dX12_nameOf_234 (by decide) (aw_pc (pc' := 236) rfl ?_)
                        refine aw_bipush dX12_nameOf_236 (by decide) (aw_pc (pc' := 238) rfl ?_)
                        refine aw_bipush dX12_nameOf_238 (by decide) (aw_pc (pc' := 240) rfl ?_)
                        refine aw_bipush dX12_nameOf_240 (by decide) (aw_pc (pc' := 242) rfl ?_)
                        refine aw_bipush dX12_nameOf_242 (by decide) (aw_pc (pc' := 244) rfl ?_)
                        refine ar_SL (kc' := 0) (ks' := 0) (kc := 0) (ks := 0) (as := [vi 98, vi 114, vi 111, vi 97, vi 100]) (st := [vl x32]) (tX12_w5 h) mt_X12_w5 qM_RX12_156 qS_X12_w5 rfl (Nat.le_of_ble_eq_true rfl) dX12_nameOf_244 ?_
                        clear h
                        intro x34 F33 h
                        refine aw_pc (pc' := 247) rfl ?_
                        refine aw_lcmp dX12_nameOf_247 (aw_pc (pc' := 248) rfl ?_)
                        refine aw_if_ne dX12_nameOf_248 rfl (fun c => ?_) (fun c => ?_)
                        · replace h := h.1 c
                          refine aw_bipush dX12_nameOf_251 (by decide) (aw_pc (pc' := 253) rfl ?_)
                          refine aw_goto (tgt := 257) dX12_nameOf_253 rfl ?_
                          exact aw_iret rfl dX12_nameOf_257 ⟨_, rfl, h⟩
                        · replace h := h.2 c
                          refine aw_iconst dX12_nameOf_256 (aw_pc (pc' := 257) rfl ?_)
                          exact aw_iret rfl dX12_nameOf_257 ⟨_, rfl, h⟩
  · replace h := h.2 c
    refine aw_iconst dX12_nameOf_8 (aw_pc (pc' := 9) rfl ?_)
    exact aw_iret rfl dX12_nameOf_9 ⟨_, rfl, h⟩
def mX12_isOf_J30 (Q : Int → hp → Prop) (F : hp) : Prop := Q 1 F
set_option maxHeartbeats 4000000 in
theorem tX12_isOf_J30 {d : Nat} {Q : Int → hp → Prop} {F : hp} (h : mX12_isOf_J30 Q F) : aw nX12_isOf d 0 0 30 [none, none] [] F (qI Q) := by
  unfold mX12_isOf_J30 at h
  refine aw_iconst dX12_isOf_30 (aw_pc (pc' := 31) rfl ?_)
  refine aw_goto (tgt := 35) dX12_isOf_31 rfl ?_
  exact aw_zret rfl (by decide) dX12_isOf_35 ⟨_, rfl, h⟩
def mX12_isOf (o : Nat) (a1 : Int) (F : hp) (Q : Int → hp → Prop) : Prop := (w32 a1 < 6 → mX12_isOf_J30 Q F) ∧ (¬ w32 a1 < 6 → (w32 a1 < 9 → gI F (some o) 12 14 (fun x1 => (w32 x1 = 0 → mX12_isOf_J30 Q F) ∧ (¬ w32 x1 = 0 → Q 0 F))) ∧ (¬ w32 a1 < 9 → gI F (some o) 12 14 (fun x2 => (w32 x2 = 1 → mX12_isOf_J30 Q F) ∧ (¬ w32 x2 = 1 → Q 0 F))))
set_option maxHeartbeats 4000000 in
theorem tX12_isOf {d : Nat} {o : Nat} {a1 : Int} {F : hp} {Q : Int → hp → Prop} (h : mX12_isOf o a1 F Q) : am nX12_isOf d 0 0 [vr (some o), vi a1] F (qI Q) := by
  refine am_of (by decide +kernel) (Nat.le_of_ble_eq_true rfl) ?_
  show aw nX12_isOf d 0 0 0 [some (vr (some o)), some (vi a1)] [] F (qI Q)
  unfold mX12_isOf at h
  refine aw_iload_n dX12_isOf_0 rfl rfl (aw_pc (pc' := 1) rfl ?_)
  refine aw_bipush dX12_isOf_1 (by decide) (aw_pc (pc' := 3) rfl ?_)
  refine ac_lt rfl wl_6 dX12_isOf_3 rfl (fun c => ?_) (fun c => ?_)
  · replace h := h.1 c
    exact aw_mask [false, false] (tX12_isOf_J30 h)
  · replace h := h.2 c
    refine aw_iload_n dX12_isOf_6 rfl rfl (aw_pc (pc' := 7) rfl ?_)
    refine aw_bipush dX12_isOf_7 (by decide) (aw_pc (pc' := 9) rfl ?_)
    refine ac_ge rfl wl_9 dX12_isOf_9 rfl (fun c => ?_) (fun c => ?_)
    · replace h := h.1 c
      refine aw_aload_n dX12_isOf_12 rfl rfl (aw_pc (pc' := 13) rfl ?_)
      refine ar_gI fl_RX12_170 dX12_isOf_13 h ?_
      clear h
      intro x1 h
      refine aw_pc (pc' := 16) rfl ?_
      refine aw_if_ne dX12_isOf_16 rfl (fun c => ?_) (fun c => ?_)
      · replace h := h.1 c
        refine aw_goto (tgt := 30) dX12_isOf_19 rfl ?_
        exact aw_mask [false, false] (tX12_isOf_J30 h)
      · replace h := h.2 c
        refine aw_iconst dX12_isOf_34 (aw_pc (pc' := 35) rfl ?_)
        exact aw_zret rfl (by decide) dX12_isOf_35 ⟨_, rfl, h⟩
    · replace h := h.2 c
      refine aw_aload_n dX12_isOf_22 rfl rfl (aw_pc (pc' := 23) rfl ?_)
      refine ar_gI fl_RX12_170 dX12_isOf_23 h ?_
      clear h
      intro x2 h
      refine aw_pc (pc' := 26) rfl ?_
      refine aw_iconst dX12_isOf_26 (aw_pc (pc' := 27) rfl ?_)
      refine ac_ne rfl wl_1 dX12_isOf_27 rfl (fun c => ?_) (fun c => ?_)
      · replace h := h.1 c
        exact aw_mask [false, false] (tX12_isOf_J30 h)
      · replace h := h.2 c
        refine aw_iconst dX12_isOf_34 (aw_pc (pc' := 35) rfl ?_)
        exact aw_zret rfl (by decide) dX12_isOf_35 ⟨_, rfl, h⟩
def mX12_rank (a0 : Int) (F : hp) (Q : Int → hp → Prop) : Prop := (w32 a0 < 40 → (w32 a0 = 22 → Q 1 F) ∧ (¬ w32 a0 = 22 → (w32 a0 = 21 → Q 2 F) ∧ (¬ w32 a0 = 21 → (w32 a0 = 20 → Q 3 F) ∧ (¬ w32 a0 = 20 → (w32 a0 < 10 → (w32 a0 < 8 → (w32 a0 < 6 → Q 7 F) ∧ (¬ w32 a0 < 6 → Q 5 F)) ∧ (¬ w32 a0 < 8 → Q 6 F)) ∧ (¬ w32 a0 < 10 → Q 4 F))))) ∧ (¬ w32 a0 < 40 → Q 0 F)
set_option maxHeartbeats 4000000 in
theorem tX12_rank {d : Nat} {a0 : Int} {F : hp} {Q : Int → hp → Prop} (h : mX12_rank a0 F Q) : am nX12_rank d 0 0 [vi a0] F (qI Q) := by
  refine am_of (by decide +kernel) (Nat.le_of_ble_eq_true rfl) ?_
  show aw nX12_rank d 0 0 0 [some (vi a0)] [] F (qI Q)
  unfold mX12_rank at h
  refine aw_iload_n dX12_rank_0 rfl rfl (aw_pc (pc' := 1) rfl ?_)
  refine aw_bipush dX12_rank_1 (by decide) (aw_pc (pc' := 3) rfl ?_)
  refine ac_lt rfl wl_40 dX12_rank_3 rfl (fun c => ?_) (fun c => ?_)
  · replace h := h.1 c
    refine aw_iload_n dX12_rank_10 rfl rfl (aw_pc (pc' := 11) rfl ?_)
    refine aw_bipush dX12_rank_11 (by decide) (aw_pc (pc' := 13) rfl ?_)
    refine ac_ne rfl wl_22 dX12_rank_13 rfl (fun c => ?_) (fun c => ?_)
    · replace h := h.1 c
      refine aw_iconst dX12_rank_16 (aw_pc (pc' := 17) rfl ?_)
      refine aw_goto (tgt := 73) dX12_rank_17 rfl ?_
      exact aw_iret rfl dX12_rank_73 ⟨_, rfl, h⟩
    · replace h := h.2 c
      refine aw_iload_n dX12_rank_20 rfl rfl (aw_pc (pc' := 21) rfl ?_)
      refine aw_bipush dX12_rank_21 (by decide) (aw_pc (pc' := 23) rfl ?_)
      refine ac_ne rfl wl_21 dX12_rank_23 rfl (fun c => ?_) (fun c => ?_)
      · replace h := h.1 c
        refine aw_iconst dX12_rank_26 (aw_pc (pc' := 27) rfl ?_)
        refine aw_goto (tgt := 73) dX12_rank_27 rfl ?_
        exact aw_iret rfl dX12_rank_73 ⟨_, rfl, h⟩
      · replace h := h.2 c
        refine aw_iload_n dX12_rank_30 rfl rfl (aw_pc (pc' := 31) rfl ?_)
        refine aw_bipush dX12_rank_31 (by decide) (aw_pc (pc' := 33) rfl ?_)
        refine ac_ne rfl wl_20 dX12_rank_33 rfl (fun c => ?_) (fun c => ?_)
        · replace h := h.1 c
          refine aw_iconst dX12_rank_36 (aw_pc (pc' := 37) rfl ?_)
          refine aw_goto (tgt := 73) dX12_rank_37 rfl ?_
          exact aw_iret rfl dX12_rank_73 ⟨_, rfl, h⟩
        · replace h := h.2 c
          refine aw_iload_n dX12_rank_40 rfl rfl (aw_pc (pc' := 41) rfl ?_)
          refine aw_bipush dX12_rank_41 (by decide) (aw_pc (pc' := 43) rfl ?_)
          refine ac_lt rfl wl_10 dX12_rank_43 rfl (fun c => ?_) (fun c => ?_)
          · replace h := h.1 c
            refine aw_iload_n dX12_rank_50 rfl rfl (aw_pc (pc' := 51) rfl ?_)
            refine aw_bipush dX12_rank_51 (by decide) (aw_pc (pc' := 53) rfl ?_)
            refine ac_lt rfl wl_8 dX12_rank_53 rfl (fun c => ?_) (fun c => ?_)
            · replace h := h.1 c
              refine aw_iload_n dX12_rank_61 rfl rfl (aw_pc (pc' := 62) rfl ?_)
              refine aw_bipush dX12_rank_62 (by decide) (aw_pc (pc' := 64) rfl ?_)
              refine ac_lt rfl wl_6 dX12_rank_64 rfl (fun c => ?_) (fun c => ?_)
              · replace h := h.1 c
                refine aw_bipush dX12_rank_71 (by decide) (aw_pc (pc' := 73) rfl ?_)
                exact aw_iret rfl dX12_rank_73 ⟨_, rfl, h⟩
              · replace h := h.2 c
                refine aw_iconst dX12_rank_67 (aw_pc (pc' := 68) rfl ?_)
                refine aw_goto (tgt := 73) dX12_rank_68 rfl ?_
                exact aw_iret rfl dX12_rank_73 ⟨_, rfl, h⟩
            · replace h := h.2 c
              refine aw_bipush dX12_rank_56 (by decide) (aw_pc (pc' := 58) rfl ?_)
              refine aw_goto (tgt := 73) dX12_rank_58 rfl ?_
              exact aw_iret rfl dX12_rank_73 ⟨_, rfl, h⟩
          · replace h := h.2 c
            refine aw_iconst dX12_rank_46 (aw_pc (pc' := 47) rfl ?_)
            refine aw_goto (tgt := 73) dX12_rank_47 rfl ?_
            exact aw_iret rfl dX12_rank_73 ⟨_, rfl, h⟩
  · replace h := h.2 c
    refine aw_iconst dX12_rank_6 (aw_pc (pc' := 7) rfl ?_)
    refine aw_goto (tgt := 73) dX12_rank_7 rfl ?_
    exact aw_iret rfl dX12_rank_73 ⟨_, rfl, h⟩
def mX12_settle_J80 (X0 : Nat → Int → hp → Prop) (Q : hp → Prop) (o : Nat) (a1 : Int) (F : hp) : Prop := gI F (some o) 12 17 (fun x1 => pF F (some o) 12 17 (vi (x1 - 1)) (fun F2 => X0 o a1 F2))
set_option maxHeartbeats 4000000 in
theorem tX12_settle_J80 {d : Nat} {X0 : Nat → Int → hp → Prop} {Q : hp → Prop} (hX0 : ∀ (o : Nat) (a1 : Int) (F : hp), X0 o a1 F → aw nX12_settle (d + 1) 0 0 0 [some (vr (some o)), some (vi a1)] [] F (qV Q)) {o : Nat} {a1 : Int} {F : hp} (h : mX12_settle_J80 X0 Q o a1 F) : aw nX12_settle (d + 1) 0 0 80 [some (vr (some o)), some (vi a1)] [] F (qV Q) := by
  unfold mX12_settle_J80 at h
  refine aw_aload_n dX12_settle_80 rfl rfl (aw_pc (pc' := 81) rfl ?_)
  refine aw_dup dX12_settle_81 trivial (aw_pc (pc' := 82) rfl ?_)
  refine ar_gI fl_RX12_182 dX12_settle_82 h ?_
  clear h
  intro x1 h
  refine aw_pc (pc' := 85) rfl ?_
  refine aw_iconst dX12_settle_85 (aw_pc (pc' := 86) rfl ?_)
  refine aw_isub dX12_settle_86 (aw_pc (pc' := 87) rfl ?_)
  refine ar_pF fl_RX12_182 ft_X12_17 (okI _) dX12_settle_87 h ?_
  clear h
  intro F2 h
  refine aw_pc (pc' := 90) rfl ?_
  refine aw_goto (tgt := 0) dX12_settle_90 rfl ?_
  exact aw_mask [true, true] (hX0 _ _ _ h)
def mX12_settle_L0 (Q : hp → Prop) : Nat → Nat → Int → hp → Prop
  | 0, _, _, _ => False
  | k + 1, o, a1, F => gI F (some o) 12 16 (fun x1 => (0 < w32 x1 → gR F (some o) 12 15 (fun x2 => gI F (some o) 12 16 (fun x3 => aI F x2 0 (x3 - 1) (fun x4 => mX12_rank x4 F (fun x6 F5 => (w32 x6 < w32 a1 → Q F5) ∧ (¬ w32 x6 < w32 a1 → gI F5 (some o) 12 16 (fun x7 => pF F5 (some o) 12 16 (vi (x7 - 1)) (fun F8 => gR F8 (some o) 12 15 (fun x9 => gI F8 (some o) 12 16 (fun x10 => aI F8 x9 0 x10 (fun x11 => rcv F8 (some o) 12 (fun o13 => mX12_emit o13 x11 0 F8 (fun F12 => gR F12 (some o) 12 15 (fun x14 => gI F12 (some o) 12 16 (fun x15 => aI F12 x14 0 x15 (fun x16 => mX12_rank x16 F12 (fun x18 F17 => (w32 x18 = 7 → mX12_settle_J80 (fun o' a1' F' => mX12_settle_L0 Q k o' a1' F') Q o a1 F17) ∧ (¬ w32 x18 = 7 → gR F17 (some o) 12 15 (fun x19 => gI F17 (some o) 12 16 (fun x20 => aI F17 x19 0 x20 (fun x21 => (w32 x21 = 20 → mX12_settle_J80 (fun o' a1' F' => mX12_settle_L0 Q k o' a1' F') Q o a1 F17) ∧ (¬ w32 x21 = 20 → mX12_settle_L0 Q k o a1 F17)))))))))))))))))))))) ∧ (¬ 0 < w32 x1 → Q F))
set_option maxHeartbeats 4000000 in
theorem tX12_settle_L0 {d : Nat} {Q : hp → Prop} : ∀ (k : Nat) (o : Nat) (a1 : Int) (F : hp), mX12_settle_L0 Q k o a1 F → aw nX12_settle (d + 1) 0 0 0 [some (vr (some o)), some (vi a1)] [] F (qV Q) := by
  intro k
  induction k with
  | zero => intro o a1 F h; exact h.elim
  | succ k ih =>
    intro o a1 F h
    simp only [mX12_settle_L0] at h
    refine aw_aload_n dX12_settle_0 rfl rfl (aw_pc (pc' := 1) rfl ?_)
    refine ar_gI fl_RX12_173 dX12_settle_1 h ?_
    clear h
    intro x1 h
    refine aw_pc (pc' := 4) rfl ?_
    refine aw_if_le dX12_settle_4 rfl (fun c => ?_) (fun c => ?_)
    · replace h := h.1 c
      refine aw_aload_n dX12_settle_7 rfl rfl (aw_pc (pc' := 8) rfl ?_)
      refine ar_gR fl_RX12_29 dX12_settle_8 h ?_
      clear h
      intro x2 h
      refine aw_pc (pc' := 11) rfl ?_
      refine aw_aload_n dX12_settle_11 rfl rfl (aw_pc (pc' := 12) rfl ?_)
      refine ar_gI fl_RX12_173 dX12_settle_12 h ?_
      clear h
      intro x3 h
      refine aw_pc (pc' := 15) rfl ?_
      refine aw_iconst dX12_settle_15 (aw_pc (pc' := 16) rfl ?_)
      refine aw_isub dX12_settle_16 (aw_pc (pc' := 17) rfl ?_)
      refine ar_aI dX12_settle_17 h ?_
      clear h
      intro x4 h
      refine aw_pc (pc' := 18) rfl ?_
      refine ar_SI (kc' := 0) (ks' := 0) (kc := 0) (ks := 0) (as := [vi x4]) (st := []) (tX12_rank h) mt_X12_rank qM_RX12_176 qS_X12_rank rfl (Nat.le_of_ble_eq_true rfl) dX12_settle_18 ?_
      clear h
      intro x6 F5 h
      refine aw_pc (pc' := 21) rfl ?_
      refine aw_iload_n dX12_settle_21 rfl rfl (aw_pc (pc' := 22) rfl ?_)
      refine ac_lt rfl rfl dX12_settle_22 rfl (fun c => ?_) (fun c => ?_)
      · replace h := h.1 c
        exact aw_vret rfl dX12_settle_93 ⟨rfl, h⟩
      · replace h := h.2 c
        refine aw_aload_n dX12_settle_25 rfl rfl (aw_pc (pc' := 26) rfl ?_)
        refine aw_dup dX12_settle_26 trivial (aw_pc (pc' := 27) rfl ?_)
        refine ar_gI fl_RX12_173 dX12_settle_27 h ?_
        clear h
        intro x7 h
        refine aw_pc (pc' := 30) rfl ?_
        refine aw_iconst dX12_settle_30 (aw_pc (pc' := 31) rfl ?_)
        refine aw_isub dX12_settle_31 (aw_pc (pc' := 32) rfl ?_)
        refine ar_pF fl_RX12_173 ft_X12_16 (okI _) dX12_settle_32 h ?_
        clear h
        intro F8 h
        refine aw_pc (pc' := 35) rfl ?_
        refine aw_aload_n dX12_settle_35 rfl rfl (aw_pc (pc' := 36) rfl ?_)
        refine aw_aload_n dX12_settle_36 rfl rfl (aw_pc (pc' := 37) rfl ?_)
        refine ar_gR fl_RX12_29 dX12_settle_37 h ?_
        clear h
        intro x9 h
        refine aw_pc (pc' := 40) rfl ?_
        refine aw_aload_n dX12_settle_40 rfl rfl (aw_pc (pc' := 41) rfl ?_)
        refine ar_gI fl_RX12_173 dX12_settle_41 h ?_
        clear h
        intro x10 h
        refine aw_pc (pc' := 44) rfl ?_
        refine ar_aI dX12_settle_44 h ?_
        clear h
        intro x11 h
        refine aw_pc (pc' := 45) rfl ?_
        refine aw_iconst dX12_settle_45 (aw_pc (pc' := 46) rfl ?_)
        have h0 := rcv_inv h
        clear h
        obtain ⟨o13, fs_o13, hr_o13, he_o13, h⟩ := h0
        obtain rfl : o = o13 := Option.some.inj hr_o13
        refine ar_VV (kc' := 0) (ks' := 0) (kc := 0) (ks := 0) (a := o) (ci := 12) (as := [vi x11, vi 0]) (st := []) (tX12_emit h) mt_X12_emit rfl qM_RX12_179 qI_X12_emit qV_X12_emit he_o13 rfl (Nat.le_of_ble_eq_true rfl) dX12_settle_46 ?_
        clear h
        intro F12 h
        refine aw_pc (pc' := 49) rfl ?_
        refine aw_aload_n dX12_settle_49 rfl rfl (aw_pc (pc' := 50) rfl ?_)
        refine ar_gR fl_RX12_29 dX12_settle_50 h ?_
        clear h
        intro x14 h
        refine aw_pc (pc' := 53) rfl ?_
        refine aw_aload_n dX12_settle_53 rfl rfl (aw_pc (pc' := 54) rfl ?_)
        refine ar_gI fl_RX12_173 dX12_settle_54 h ?_
        clear h
        intro x15 h
        refine aw_pc (pc' := 57) rfl ?_
        refine ar_aI dX12_settle_57 h ?_
        clear h
        intro x16 h
        refine aw_pc (pc' := 58) rfl ?_
        refine ar_SI (kc' := 0) (ks' := 0) (kc := 0) (ks := 0) (as := [vi x16]) (st := []) (tX12_rank h) mt_X12_rank qM_RX12_176 qS_X12_rank rfl (Nat.le_of_ble_eq_true rfl) dX12_settle_58 ?_
        clear h
        intro x18 F17 h
        refine aw_pc (pc' := 61) rfl ?_
        refine aw_bipush dX12_settle_61 (by decide) (aw_pc (pc' := 63) rfl ?_)
        refine ac_eq rfl wl_7 dX12_settle_63 rfl (fun c => ?_) (fun c => ?_)
        · replace h := h.1 c
          exact aw_mask [true, true] (tX12_settle_J80 (fun o' a1' F' h' => ih o' a1' F' h') h)
        · replace h := h.2 c
          refine aw_aload_n dX12_settle_66 rfl rfl (aw_pc (pc' := 67) rfl ?_)
          refine ar_gR fl_RX12_29 dX12_settle_67 h ?_
          clear h
          intro x19 h
          refine aw_pc (pc' := 70) rfl ?_
          refine aw_aload_n dX12_settle_70 rfl rfl (aw_pc (pc' := 71) rfl ?_)
          refine ar_gI fl_RX12_173 dX12_settle_71 h ?_
          clear h
          intro x20 h
          refine aw_pc (pc' := 74) rfl ?_
          refine ar_aI dX12_settle_74 h ?_
          clear h
          intro x21 h
          refine aw_pc (pc' := 75) rfl ?_
          refine aw_bipush dX12_settle_75 (by decide) (aw_pc (pc' := 77) rfl ?_)
          refine ac_ne rfl wl_20 dX12_settle_77 rfl (fun c => ?_) (fun c => ?_)
          · replace h := h.1 c
            exact aw_mask [true, true] (tX12_settle_J80 (fun o' a1' F' h' => ih o' a1' F' h') h)
          · replace h := h.2 c
            exact aw_mask [true, true] (ih _ _ _ h)
    · replace h := h.2 c
      exact aw_vret rfl dX12_settle_93 ⟨rfl, h⟩
def mX12_settle (o : Nat) (a1 : Int) (F : hp) (Q : hp → Prop) : Prop := (∃ k1, mX12_settle_L0 Q k1 o a1 F)
set_option maxHeartbeats 4000000 in
theorem tX12_settle {d : Nat} {o : Nat} {a1 : Int} {F : hp} {Q : hp → Prop} (h : mX12_settle o a1 F Q) : am nX12_settle (d + 1) 0 0 [vr (some o), vi a1] F (qV Q) := by
  refine am_of (by decide +kernel) (Nat.le_of_ble_eq_true rfl) ?_
  show aw nX12_settle (d + 1) 0 0 0 [some (vr (some o)), some (vi a1)] [] F (qV Q)
  unfold mX12_settle at h
  obtain ⟨k1, h⟩ := h
  exact aw_mask [true, true] (tX12_settle_L0 k1 _ _ _ h)
def mX12_openAt_L7 (Q : Int → hp → Prop) : Nat → Nat → Int → hp → Prop
  | 0, _, _, _ => False
  | k + 1, o, a1, F => (w32 a1 < 0 → Q a1 F) ∧ (¬ w32 a1 < 0 → gR F (some o) 12 15 (fun x1 => aI F x1 0 a1 (fun x2 => (w32 x2 < 40 → mX12_openAt_L7 Q k o (a1 + (-1)) F) ∧ (¬ w32 x2 < 40 → Q a1 F))))
set_option maxHeartbeats 4000000 in
theorem tX12_openAt_L7 {d : Nat} {Q : Int → hp → Prop} : ∀ (k : Nat) (o : Nat) (a1 : Int) (F : hp), mX12_openAt_L7 Q k o a1 F → aw nX12_openAt d 0 0 7 [some (vr (some o)), some (vi a1)] [] F (qI Q) := by
  intro k
  induction k with
  | zero => intro o a1 F h; exact h.elim
  | succ k ih =>
    intro o a1 F h
    simp only [mX12_openAt_L7] at h
    refine aw_iload_n dX12_openAt_7 rfl rfl (aw_pc (pc' := 8) rfl ?_)
    refine aw_if_lt dX12_openAt_8 rfl (fun c => ?_) (fun c => ?_)
    · replace h := h.1 c
      refine aw_iload_n dX12_openAt_28 rfl rfl (aw_pc (pc' := 29) rfl ?_)
      exact aw_iret rfl dX12_openAt_29 ⟨_, rfl, h⟩
    · replace h := h.2 c
      refine aw_aload_n dX12_openAt_11 rfl rfl (aw_pc (pc' := 12) rfl ?_)
      refine ar_gR fl_RX12_29 dX12_openAt_12 h ?_
      clear h
      intro x1 h
      refine aw_pc (pc' := 15) rfl ?_
      refine aw_iload_n dX12_openAt_15 rfl rfl (aw_pc (pc' := 16) rfl ?_)
      refine ar_aI dX12_openAt_16 h ?_
      clear h
      intro x2 h
      refine aw_pc (pc' := 17) rfl ?_
      refine aw_bipush dX12_openAt_17 (by decide) (aw_pc (pc' := 19) rfl ?_)
      refine ac_ge rfl wl_40 dX12_openAt_19 rfl (fun c => ?_) (fun c => ?_)
      · replace h := h.1 c
        refine aw_iinc dX12_openAt_22 rfl (by decide) (aw_pc (pc' := 25) rfl ?_)
        refine aw_goto (tgt := 7) dX12_openAt_25 rfl ?_
        exact aw_mask [true, true] (ih _ _ _ h)
      · replace h := h.2 c
        refine aw_iload_n dX12_openAt_28 rfl rfl (aw_pc (pc' := 29) rfl ?_)
        exact aw_iret rfl dX12_openAt_29 ⟨_, rfl, h⟩
def mX12_openAt (o : Nat) (F : hp) (Q : Int → hp → Prop) : Prop := gI F (some o) 12 16 (fun x1 => ∀ v2 : Int, v2 = (x1 - 1) → (∃ k3, mX12_openAt_L7 Q k3 o v2 F))
set_option maxHeartbeats 4000000 in
theorem tX12_openAt {d : Nat} {o : Nat} {F : hp} {Q : Int → hp → Prop} (h : mX12_openAt o F Q) : am nX12_openAt d 0 0 [vr (some o)] F (qI Q) := by
  refine am_of (by decide +kernel) (Nat.le_of_ble_eq_true rfl) ?_
  show aw nX12_openAt d 0 0 0 [some (vr (some o)), none] [] F (qI Q)
  unfold mX12_openAt at h
  refine aw_aload_n dX12_openAt_0 rfl rfl (aw_pc (pc' := 1) rfl ?_)
  refine ar_gI fl_RX12_173 dX12_openAt_1 h ?_
  clear h
  intro x1 h
  refine aw_pc (pc' := 4) rfl ?_
  refine aw_iconst dX12_openAt_4 (aw_pc (pc' := 5) rfl ?_)
  refine aw_isub dX12_openAt_5 (aw_pc (pc' := 6) rfl ?_)
  generalize hv_v2 : (x1 - 1) = v2
  replace h := h v2 hv_v2.symm
  refine aw_istore_n dX12_openAt_6 rfl (by decide) (aw_pc (pc' := 7) rfl ?_)
  obtain ⟨k3, h⟩ := h
  exact aw_mask [true, true] (tX12_openAt_L7 k3 _ _ _ h)
def mX12_openNow (o : Nat) (F : hp) (Q : Int → hp → Prop) : Prop := rcv F (some o) 12 (fun o3 => mX12_openAt o3 F (fun x2 F1 => (w32 x2 < 0 → Q (-1) F1) ∧ (¬ w32 x2 < 0 → gR F1 (some o) 12 15 (fun x4 => rcv F1 (some o) 12 (fun o7 => mX12_openAt o7 F1 (fun x6 F5 => aI F5 x4 0 x6 (fun x8 => Q x8 F5)))))))
set_option maxHeartbeats 4000000 in
theorem tX12_openNow {d : Nat} {o : Nat} {F : hp} {Q : Int → hp → Prop} (h : mX12_openNow o F Q) : am nX12_openNow (d + 1) 0 0 [vr (some o)] F (qI Q) := by
  refine am_of (by decide +kernel) (Nat.le_of_ble_eq_true rfl) ?_
  show aw nX12_openNow (d + 1) 0 0 0 [some (vr (some o))] [] F (qI Q)
  unfold mX12_openNow at h
  refine aw_aload_n dX12_openNow_0 rfl rfl (aw_pc (pc' := 1) rfl ?_)
  have h0 := rcv_inv h
  clear h
  obtain ⟨o3, fs_o3, hr_o3, he_o3, h⟩ := h0
  obtain rfl : o = o3 := Option.some.inj hr_o3
  refine ar_VI (kc' := 0) (ks' := 0) (kc := 0) (ks := 0) (a := o) (ci := 12) (as := []) (st := []) (tX12_openAt h) mt_X12_openAt rfl qM_RX12_185 qI_X12_openAt qV_X12_openAt he_o3 rfl (Nat.le_of_ble_eq_true rfl) dX12_openNow_1 ?_
  clear h
  intro x2 F1 h
  refine aw_pc (pc' := 4) rfl ?_
  refine aw_if_ge dX12_openNow_4 rfl (fun c => ?_) (fun c => ?_)
  · replace h := h.1 c
    refine aw_iconst dX12_openNow_7 (aw_pc (pc' := 8) rfl ?_)
    refine aw_goto (tgt := 20) dX12_openNow_8 rfl ?_
    exact aw_iret rfl dX12_openNow_20 ⟨_, rfl, h⟩
  · replace h := h.2 c
    refine aw_aload_n dX12_openNow_11 rfl rfl (aw_pc (pc' := 12) rfl ?_)
    refine ar_gR fl_RX12_29 dX12_openNow_12 h ?_
    clear h
    intro x4 h
    refine aw_pc (pc' := 15) rfl ?_
    refine aw_aload_n dX12_openNow_15 rfl rfl (aw_pc (pc' := 16) rfl ?_)
    have h0 := rcv_inv h
    clear h
    obtain ⟨o7, fs_o7, hr_o7, he_o7, h⟩ := h0
    obtain rfl : o = o7 := Option.some.inj hr_o7
    refine ar_VI (kc' := 0) (ks' := 0) (kc := 0) (ks := 0) (a := o) (ci := 12) (as := []) (st := [vr x4]) (tX12_openAt h) mt_X12_openAt rfl qM_RX12_185 qI_X12_openAt qV_X12_openAt he_o7 rfl (Nat.le_of_ble_eq_true rfl) dX12_openNow_16 ?_
    clear h
    intro x6 F5 h
    refine aw_pc (pc' := 19) rfl ?_
    refine ar_aI dX12_openNow_19 h ?_
    clear h
    intro x8 h
    refine aw_pc (pc' := 20) rfl ?_
    exact aw_iret rfl dX12_openNow_20 ⟨_, rfl, h⟩
def mX12_isCompared_J30 (Q : Int → hp → Prop) (o : Nat) (a1 : Int) (F : hp) : Prop := (w32 a1 < 0 → Q 0 F) ∧ (¬ w32 a1 < 0 → gR F (some o) 12 15 (fun x1 => aI F x1 0 a1 (fun x2 => mX12_rank x2 F (fun x4 F3 => (w32 x4 = 4 → Q 1 F3) ∧ (¬ w32 x4 = 4 → Q 0 F3)))))
set_option maxHeartbeats 4000000 in
theorem tX12_isCompared_J30 {d : Nat} {Q : Int → hp → Prop} {o : Nat} {a1 : Int} {F : hp} (h : mX12_isCompared_J30 Q o a1 F) : aw nX12_isCompared (d + 1) 0 0 30 [some (vr (some o)), some (vi a1)] [] F (qI Q) := by
  unfold mX12_isCompared_J30 at h
  refine aw_iload_n dX12_isCompared_30 rfl rfl (aw_pc (pc' := 31) rfl ?_)
  refine aw_if_lt dX12_isCompared_31 rfl (fun c => ?_) (fun c => ?_)
  · replace h := h.1 c
    refine aw_iconst dX12_isCompared_51 (aw_pc (pc' := 52) rfl ?_)
    exact aw_zret rfl (by decide) dX12_isCompared_52 ⟨_, rfl, h⟩
  · replace h := h.2 c
    refine aw_aload_n dX12_isCompared_34 rfl rfl (aw_pc (pc' := 35) rfl ?_)
    refine ar_gR fl_RX12_29 dX12_isCompared_35 h ?_
    clear h
    intro x1 h
    refine aw_pc (pc' := 38) rfl ?_
    refine aw_iload_n dX12_isCompared_38 rfl rfl (aw_pc (pc' := 39) rfl ?_)
    refine ar_aI dX12_isCompared_39 h ?_
    clear h
    intro x2 h
    refine aw_pc (pc' := 40) rfl ?_
    refine ar_SI (kc' := 0) (ks' := 0) (kc := 0) (ks := 0) (as := [vi x2]) (st := []) (tX12_rank h) mt_X12_rank qM_RX12_176 qS_X12_rank rfl (Nat.le_of_ble_eq_true rfl) dX12_isCompared_40 ?_
    clear h
    intro x4 F3 h
    refine aw_pc (pc' := 43) rfl ?_
    refine aw_iconst dX12_isCompared_43 (aw_pc (pc' := 44) rfl ?_)
    refine ac_ne rfl wl_4 dX12_isCompared_44 rfl (fun c => ?_) (fun c => ?_)
    · replace h := h.1 c
      refine aw_iconst dX12_isCompared_47 (aw_pc (pc' := 48) rfl ?_)
      refine aw_goto (tgt := 52) dX12_isCompared_48 rfl ?_
      exact aw_zret rfl (by decide) dX12_isCompared_52 ⟨_, rfl, h⟩
    · replace h := h.2 c
      refine aw_iconst dX12_isCompared_51 (aw_pc (pc' := 52) rfl ?_)
      exact aw_zret rfl (by decide) dX12_isCompared_52 ⟨_, rfl, h⟩
def mX12_isCompared_L7 (Q : Int → hp → Prop) : Nat → Nat → Int → hp → Prop
  | 0, _, _, _ => False
  | k + 1, o, a1, F => (w32 a1 < 0 → mX12_isCompared_J30 Q o a1 F) ∧ (¬ w32 a1 < 0 → gR F (some o) 12 15 (fun x1 => aI F x1 0 a1 (fun x2 => mX12_rank x2 F (fun x4 F3 => (4 < w32 x4 → mX12_isCompared_L7 Q k o (a1 + (-1)) F3) ∧ (¬ 4 < w32 x4 → mX12_isCompared_J30 Q o a1 F3)))))
set_option maxHeartbeats 4000000 in
theorem tX12_isCompared_L7 {d : Nat} {Q : Int → hp → Prop} : ∀ (k : Nat) (o : Nat) (a1 : Int) (F : hp), mX12_isCompared_L7 Q k o a1 F → aw nX12_isCompared (d + 1) 0 0 7 [some (vr (some o)), some (vi a1)] [] F (qI Q) := by
  intro k
  induction k with
  | zero => intro o a1 F h; exact h.elim
  | succ k ih =>
    intro o a1 F h
    simp only [mX12_isCompared_L7] at h
    refine aw_iload_n dX12_isCompared_7 rfl rfl (aw_pc (pc' := 8) rfl ?_)
    refine aw_if_lt dX12_isCompared_8 rfl (fun c => ?_) (fun c => ?_)
    · replace h := h.1 c
      exact aw_mask [true, true] (tX12_isCompared_J30 h)
    · replace h := h.2 c
      refine aw_aload_n dX12_isCompared_11 rfl rfl (aw_pc (pc' := 12) rfl ?_)
      refine ar_gR fl_RX12_29 dX12_isCompared_12 h ?_
      clear h
      intro x1 h
      refine aw_pc (pc' := 15) rfl ?_
      refine aw_iload_n dX12_isCompared_15 rfl rfl (aw_pc (pc' := 16) rfl ?_)
      refine ar_aI dX12_isCompared_16 h ?_
      clear h
      intro x2 h
      refine aw_pc (pc' := 17) rfl ?_
      refine ar_SI (kc' := 0) (ks' := 0) (kc := 0) (ks := 0) (as := [vi x2]) (st := []) (tX12_rank h) mt_X12_rank qM_RX12_176 qS_X12_rank rfl (Nat.le_of_ble_eq_true rfl) dX12_isCompared_17 ?_
      clear h
      intro x4 F3 h
      refine aw_pc (pc' := 20) rfl ?_
      refine aw_iconst dX12_isCompared_20 (aw_pc (pc' := 21) rfl ?_)
      refine ac_le rfl wl_4 dX12_isCompared_21 rfl (fun c => ?_) (fun c => ?_)
      · replace h := h.1 c
        refine aw_iinc dX12_isCompared_24 rfl (by decide) (aw_pc (pc' := 27) rfl ?_)
        refine aw_goto (tgt := 7) dX12_isCompared_27 rfl ?_
        exact aw_mask [true, true] (ih _ _ _ h)
      · replace h := h.2 c
        exact aw_mask [true, true] (tX12_isCompared_J30 h)
def mX12_isCompared (o : Nat) (F : hp) (Q : Int → hp → Prop) : Prop := gI F (some o) 12 16 (fun x1 => ∀ v2 : Int, v2 = (x1 - 1) → (∃ k3, mX12_isCompared_L7 Q k3 o v2 F))
set_option maxHeartbeats 4000000 in
theorem tX12_isCompared {d : Nat} {o : Nat} {F : hp} {Q : Int → hp → Prop} (h : mX12_isCompared o F Q) : am nX12_isCompared (d + 1) 0 0 [vr (some o)] F (qI Q) := by
  refine am_of (by decide +kernel) (Nat.le_of_ble_eq_true rfl) ?_
  show aw nX12_isCompared (d + 1) 0 0 0 [some (vr (some o)), none] [] F (qI Q)
  unfold mX12_isCompared at h
  refine aw_aload_n dX12_isCompared_0 rfl rfl (aw_pc (pc' := 1) rfl ?_)
  refine ar_gI fl_RX12_173 dX12_isCompared_1 h ?_
  clear h
  intro x1 h
  refine aw_pc (pc' := 4) rfl ?_
  refine aw_iconst dX12_isCompared_4 (aw_pc (pc' := 5) rfl ?_)
  refine aw_isub dX12_isCompared_5 (aw_pc (pc' := 6) rfl ?_)
  generalize hv_v2 : (x1 - 1) = v2
  replace h := h v2 hv_v2.symm
  refine aw_istore_n dX12_isCompared_6 rfl (by decide) (aw_pc (pc' := 7) rfl ?_)
  obtain ⟨k3, h⟩ := h
  exact aw_mask [true, true] (tX12_isCompared_L7 k3 _ _ _ h)
def mX12_isAskAhead_J47 (Q : Int → hp → Prop) (F : hp) : Prop := Q 1 F
set_option maxHeartbeats 4000000 in
theorem tX12_isAskAhead_J47 {d : Nat} {Q : Int → hp → Prop} {F : hp} (h : mX12_isAskAhead_J47 Q F) : aw nX12_isAskAhead (d + 2) 0 0 47 [none] [] F (qI Q) := by
  unfold mX12_isAskAhead_J47 at h
  refine aw_iconst dX12_isAskAhead_47 (aw_pc (pc' := 48) rfl ?_)
  refine aw_goto (tgt := 52) dX12_isAskAhead_48 rfl ?_
  exact aw_zret rfl (by decide) dX12_isAskAhead_52 ⟨_, rfl, h⟩
def mX12_isAskAhead (o : Nat) (F : hp) (Q : Int → hp → Prop) : Prop := rcv F (some o) 12 (fun o3 => mX12_openNow o3 F (fun x2 F1 => (w32 x2 = 41 → gR F1 (some o) 12 15 (fun x4 => gI F1 (some o) 12 16 (fun x5 => aI F1 x4 0 (x5 - 1) (fun x6 => (w32 x6 < 40 → gR F1 (some o) 12 15 (fun x7 => gI F1 (some o) 12 16 (fun x8 => aI F1 x7 0 (x8 - 1) (fun x9 => mX12_rank x9 F1 (fun x11 F10 => mX12_isIn x11 1 3 F10 (fun x13 F12 => (w32 x13 = 0 → Q 0 F12) ∧ (¬ w32 x13 = 0 → mX12_isAskAhead_J47 Q F12))))))) ∧ (¬ w32 x6 < 40 → mX12_isAskAhead_J47 Q F1))))) ∧ (¬ w32 x2 = 41 → Q 0 F1)))
set_option maxHeartbeats 4000000 in
theorem tX12_isAskAhead {d : Nat} {o : Nat} {F : hp} {Q : Int → hp → Prop} (h : mX12_isAskAhead o F Q) : am nX12_isAskAhead (d + 2) 0 0 [vr (some o)] F (qI Q) := by
  refine am_of (by decide +kernel) (Nat.le_of_ble_eq_true rfl) ?_
  show aw nX12_isAskAhead (d + 2) 0 0 0 [some (vr (some o))] [] F (qI Q)
  unfold mX12_isAskAhead at h
  refine aw_aload_n dX12_isAskAhead_0 rfl rfl (aw_pc (pc' := 1) rfl ?_)
  have h0 := rcv_inv h
  clear h
  obtain ⟨o3, fs_o3, hr_o3, he_o3, h⟩ := h0
  obtain rfl : o = o3 := Option.some.inj hr_o3
  refine ar_VI (kc' := 0) (ks' := 0) (kc := 0) (ks := 0) (a := o) (ci := 12) (as := []) (st := []) (tX12_openNow h) mt_X12_openNow rfl qM_RX12_189 qI_X12_openNow qV_X12_openNow he_o3 rfl (Nat.le_of_ble_eq_true rfl) dX12_isAskAhead_1 ?_
  clear h
  intro x2 F1 h
  refine aw_pc (pc' := 4) rfl ?_
  refine aw_bipush dX12_isAskAhead_4 (by decide) (aw_pc (pc' := 6) rfl ?_)
  refine ac_ne rfl wl_41 dX12_isAskAhead_6 rfl (fun c => ?_) (fun c => ?_)
  · replace h := h.1 c
    refine aw_aload_n dX12_isAskAhead_9 rfl rfl (aw_pc (pc' := 10) rfl ?_)
    refine ar_gR fl_RX12_29 dX12_isAskAhead_10 h ?_
    clear h
    intro x4 h
    refine aw_pc (pc' := 13) rfl ?_
    refine aw_aload_n dX12_isAskAhead_13 rfl rfl (aw_pc (pc' := 14) rfl ?_)
    refine ar_gI fl_RX12_173 dX12_isAskAhead_14 h ?_
    clear h
    intro x5 h
    refine aw_pc (pc' := 17) rfl ?_
    refine aw_iconst dX12_isAskAhead_17 (aw_pc (pc' := 18) rfl ?_)
    refine aw_isub dX12_isAskAhead_18 (aw_pc (pc' := 19) rfl ?_)
    refine ar_aI dX12_isAskAhead_19 h ?_
    clear h
    intro x6 h
    refine aw_pc (pc' := 20) rfl ?_
    refine aw_bipush dX12_isAskAhead_20 (by decide) (aw_pc (pc' := 22) rfl ?_)
    refine ac_ge rfl wl_40 dX12_isAskAhead_22 rfl (fun c => ?_) (fun c => ?_)
    · replace h := h.1 c
      refine aw_aload_n dX12_isAskAhead_25 rfl rfl (aw_pc (pc' := 26) rfl ?_)
      refine ar_gR fl_RX12_29 dX12_isAskAhead_26 h ?_
      clear h
      intro x7 h
      refine aw_pc (pc' := 29) rfl ?_
      refine aw_aload_n dX12_isAskAhead_29 rfl rfl (aw_pc (pc' := 30) rfl ?_)
      refine ar_gI fl_RX12_173 dX12_isAskAhead_30 h ?_
      clear h
      intro x8 h
      refine aw_pc (pc' := 33) rfl ?_
      refine aw_iconst dX12_isAskAhead_33 (aw_pc (pc' := 34) rfl ?_)
      refine aw_isub dX12_isAskAhead_34 (aw_pc (pc' := 35) rfl ?_)
      refine ar_aI dX12_isAskAhead_35 h ?_
      clear h
      intro x9 h
      refine aw_pc (pc' := 36) rfl ?_
      refine ar_SI (kc' := 0) (ks' := 0) (kc := 0) (ks := 0) (as := [vi x9]) (st := []) (tX12_rank h) mt_X12_rank qM_RX12_176 qS_X12_rank rfl (Nat.le_of_ble_eq_true rfl) dX12_isAskAhead_36 ?_
      clear h
      intro x11 F10 h
      refine aw_pc (pc' := 39) rfl ?_
      refine aw_iconst dX12_isAskAhead_39 (aw_pc (pc' := 40) rfl ?_)
      refine aw_iconst dX12_isAskAhead_40 (aw_pc (pc' := 41) rfl ?_)
      refine ar_SI (kc' := 0) (ks' := 0) (kc := 0) (ks := 0) (as := [vi x11, vi 1, vi 3]) (st := []) (tX12_isIn h) mt_X12_isIn qM_RX12_78 qS_X12_isIn rfl (Nat.le_of_ble_eq_true rfl) dX12_isAskAhead_41 ?_
      clear h
      intro x13 F12 h
      refine aw_pc (pc' := 44) rfl ?_
      refine aw_if_eq dX12_isAskAhead_44 rfl (fun c => ?_) (fun c => ?_)
      · replace h := h.1 c
        refine aw_iconst dX12_isAskAhead_51 (aw_pc (pc' := 52) rfl ?_)
        exact aw_zret rfl (by decide) dX12_isAskAhead_52 ⟨_, rfl, h⟩
      · replace h := h.2 c
        exact aw_mask [false] (tX12_isAskAhead_J47 h)
    · replace h := h.2 c
      exact aw_mask [false] (tX12_isAskAhead_J47 h)
  · replace h := h.2 c
    refine aw_iconst dX12_isAskAhead_51 (aw_pc (pc' := 52) rfl ?_)
    exact aw_zret rfl (by decide) dX12_isAskAhead_52 ⟨_, rfl, h⟩
def mX12_opened (o : Nat) (a1 : Int) (F : hp) (Q : Int → hp → Prop) : Prop := gI F (some o) 12 17 (fun x1 => (w32 x1 = 8 → Q 3 F) ∧ (¬ w32 x1 = 8 → gI F (some o) 12 17 (fun x2 => pF F (some o) 12 17 (vi (x2 + 1)) (fun F3 => gR F3 (some o) 12 15 (fun x4 => gI F3 (some o) 12 16 (fun x5 => sI F3 x4 0 x5 a1 (fun F6 => gI F6 (some o) 12 16 (fun x7 => pF F6 (some o) 12 16 (vi (x7 + 1)) (fun F8 => rcv F8 (some o) 12 (fun o10 => mX12_nextToken o10 F8 (fun F9 => Q 0 F9)))))))))))
set_option maxHeartbeats 4000000 in
theorem tX12_opened {d : Nat} {o : Nat} {a1 : Int} {F : hp} {Q : Int → hp → Prop} (h : mX12_opened o a1 F Q) : am nX12_opened (d + 2) 0 0 [vr (some o), vi a1] F (qI Q) := by
  refine am_of (by decide +kernel) (Nat.le_of_ble_eq_true rfl) ?_
  show aw nX12_opened (d + 2) 0 0 0 [some (vr (some o)), some (vi a1)] [] F (qI Q)
  unfold mX12_opened at h
  refine aw_aload_n dX12_opened_0 rfl rfl (aw_pc (pc' := 1) rfl ?_)
  refine ar_gI fl_RX12_182 dX12_opened_1 h ?_
  clear h
  intro x1 h
  refine aw_pc (pc' := 4) rfl ?_
  refine aw_bipush dX12_opened_4 (by decide) (aw_pc (pc' := 6) rfl ?_)
  refine ac_ne rfl wl_8 dX12_opened_6 rfl (fun c => ?_) (fun c => ?_)
  · replace h := h.1 c
    refine aw_iconst dX12_opened_9 (aw_pc (pc' := 10) rfl ?_)
    exact aw_iret rfl dX12_opened_10 ⟨_, rfl, h⟩
  · replace h := h.2 c
    refine aw_aload_n dX12_opened_11 rfl rfl (aw_pc (pc' := 12) rfl ?_)
    refine aw_dup dX12_opened_12 trivial (aw_pc (pc' := 13) rfl ?_)
    refine ar_gI fl_RX12_182 dX12_opened_13 h ?_
    clear h
    intro x2 h
    refine aw_pc (pc' := 16) rfl ?_
    refine aw_iconst dX12_opened_16 (aw_pc (pc' := 17) rfl ?_)
    refine aw_iadd dX12_opened_17 (aw_pc (pc' := 18) rfl ?_)
    refine ar_pF fl_RX12_182 ft_X12_17 (okI _) dX12_opened_18 h ?_
    clear h
    intro F3 h
    refine aw_pc (pc' := 21) rfl ?_
    refine aw_aload_n dX12_opened_21 rfl rfl (aw_pc (pc' := 22) rfl ?_)
    refine ar_gR fl_RX12_29 dX12_opened_22 h ?_
    clear h
    intro x4 h
    refine aw_pc (pc' := 25) rfl ?_
    refine aw_aload_n dX12_opened_25 rfl rfl (aw_pc (pc' := 26) rfl ?_)
    refine ar_gI fl_RX12_173 dX12_opened_26 h ?_
    clear h
    intro x5 h
    refine aw_pc (pc' := 29) rfl ?_
    refine aw_iload_n dX12_opened_29 rfl rfl (aw_pc (pc' := 30) rfl ?_)
    refine ar_sI dX12_opened_30 h ?_
    clear h
    intro F6 h
    refine aw_pc (pc' := 31) rfl ?_
    refine aw_aload_n dX12_opened_31 rfl rfl (aw_pc (pc' := 32) rfl ?_)
    refine aw_dup dX12_opened_32 trivial (aw_pc (pc' := 33) rfl ?_)
    refine ar_gI fl_RX12_173 dX12_opened_33 h ?_
    clear h
    intro x7 h
    refine aw_pc (pc' := 36) rfl ?_
    refine aw_iconst dX12_opened_36 (aw_pc (pc' := 37) rfl ?_)
    refine aw_iadd dX12_opened_37 (aw_pc (pc' := 38) rfl ?_)
    refine ar_pF fl_RX12_173 ft_X12_16 (okI _) dX12_opened_38 h ?_
    clear h
    intro F8 h
    refine aw_pc (pc' := 41) rfl ?_
    refine aw_aload_n dX12_opened_41 rfl rfl (aw_pc (pc' := 42) rfl ?_)
    have h0 := rcv_inv h
    clear h
    obtain ⟨o10, fs_o10, hr_o10, he_o10, h⟩ := h0
    obtain rfl : o = o10 := Option.some.inj hr_o10
    refine ar_VV (kc' := 0) (ks' := 0) (kc := 0) (ks := 0) (a := o) (ci := 12) (as := []) (st := []) (tX12_nextToken h) mt_X12_nextToken rfl qM_RX12_192 qI_X12_nextToken qV_X12_nextToken he_o10 rfl (Nat.le_of_ble_eq_true rfl) dX12_opened_42 ?_
    clear h
    intro F9 h
    refine aw_pc (pc' := 45) rfl ?_
    refine aw_iconst dX12_opened_45 (aw_pc (pc' := 46) rfl ?_)
    exact aw_iret rfl dX12_opened_46 ⟨_, rfl, h⟩
def mX12_beginOne_J81 (Q : Int → hp → Prop) (o : Nat) (s0 : Option Nat) (s1 : Int) (s2 : Int) (F : hp) : Prop := rcv F s0 12 (fun o2 => mX12_emit o2 s1 s2 F (fun F1 => rcv F1 (some o) 12 (fun o4 => mX12_nextToken o4 F1 (fun F3 => pF F3 (some o) 12 18 (vi 1) (fun F5 => rcv F5 (some o) 12 (fun o7 => mX12_settle o7 7 F5 (fun F6 => Q 0 F6)))))))
set_option maxHeartbeats 4000000 in
theorem tX12_beginOne_J81 {d : Nat} {Q : Int → hp → Prop} {o : Nat} {s0 : Option Nat} {s1 : Int} {s2 : Int} {F : hp} (h : mX12_beginOne_J81 Q o s0 s1 s2 F) : aw nX12_beginOne (d + 6) 0 0 81 [some (vr (some o)), none] [vi s2, vi s1, vr s0] F (qI Q) := by
  unfold mX12_beginOne_J81 at h
  have h0 := rcv_inv h
  clear h
  obtain ⟨o2, fs_o2, hr_o2, he_o2, h⟩ := h0
  subst hr_o2
  refine ar_VV (kc' := 0) (ks' := 0) (kc := 0) (ks := 0) (a := o2) (ci := 12) (as := [vi s1, vi s2]) (st := []) (tX12_emit h) mt_X12_emit rfl qM_RX12_179 qI_X12_emit qV_X12_emit he_o2 rfl (Nat.le_of_ble_eq_true rfl) dX12_beginOne_81 ?_
  clear h
  intro F1 h
  refine aw_pc (pc' := 84) rfl ?_
  refine aw_aload_n dX12_beginOne_84 rfl rfl (aw_pc (pc' := 85) rfl ?_)
  have h0 := rcv_inv h
  clear h
  obtain ⟨o4, fs_o4, hr_o4, he_o4, h⟩ := h0
  obtain rfl : o = o4 := Option.some.inj hr_o4
  refine ar_VV (kc' := 0) (ks' := 0) (kc := 0) (ks := 0) (a := o) (ci := 12) (as := []) (st := []) (tX12_nextToken h) mt_X12_nextToken rfl qM_RX12_192 qI_X12_nextToken qV_X12_nextToken he_o4 rfl (Nat.le_of_ble_eq_true rfl) dX12_beginOne_85 ?_
  clear h
  intro F3 h
  refine aw_pc (pc' := 88) rfl ?_
  refine aw_aload_n dX12_beginOne_88 rfl rfl (aw_pc (pc' := 89) rfl ?_)
  refine aw_iconst dX12_beginOne_89 (aw_pc (pc' := 90) rfl ?_)
  refine ar_pF fl_RX12_201 ft_X12_18 (okZ (by decide)) dX12_beginOne_90 h ?_
  clear h
  intro F5 h
  refine aw_pc (pc' := 93) rfl ?_
  refine aw_aload_n dX12_beginOne_93 rfl rfl (aw_pc (pc' := 94) rfl ?_)
  refine aw_bipush dX12_beginOne_94 (by decide) (aw_pc (pc' := 96) rfl ?_)
  have h0 := rcv_inv h
  clear h
  obtain ⟨o7, fs_o7, hr_o7, he_o7, h⟩ := h0
  obtain rfl : o = o7 := Option.some.inj hr_o7
  refine ar_VV (kc' := 0) (ks' := 0) (kc := 0) (ks := 0) (a := o) (ci := 12) (as := [vi 7]) (st := []) (tX12_settle h) mt_X12_settle rfl qM_RX12_204 qI_X12_settle qV_X12_settle he_o7 rfl (Nat.le_of_ble_eq_true rfl) dX12_beginOne_96 ?_
  clear h
  intro F6 h
  refine aw_pc (pc' := 99) rfl ?_
  refine aw_iconst dX12_beginOne_99 (aw_pc (pc' := 100) rfl ?_)
  exact aw_iret rfl dX12_beginOne_100 ⟨_, rfl, h⟩
def mX12_beginOne_J65 (Q : Int → hp → Prop) (o : Nat) (a1 : Int) (s0 : Option Nat) (s1 : Int) (F : hp) : Prop := gI F (some o) 12 9 (fun x1 => (w32 x1 = 1 → gI F (some o) 12 10 (fun x2 => mX12_beginOne_J81 Q o s0 s1 x2 F)) ∧ (¬ w32 x1 = 1 → mX12_beginOne_J81 Q o s0 s1 a1 F))
set_option maxHeartbeats 4000000 in
theorem tX12_beginOne_J65 {d : Nat} {Q : Int → hp → Prop} {o : Nat} {a1 : Int} {s0 : Option Nat} {s1 : Int} {F : hp} (h : mX12_beginOne_J65 Q o a1 s0 s1 F) : aw nX12_beginOne (d + 6) 0 0 65 [some (vr (some o)), some (vi a1)] [vi s1, vr s0] F (qI Q) := by
  unfold mX12_beginOne_J65 at h
  refine aw_aload_n dX12_beginOne_65 rfl rfl (aw_pc (pc' := 66) rfl ?_)
  refine ar_gI fl_RX12_122 dX12_beginOne_66 h ?_
  clear h
  intro x1 h
  refine aw_pc (pc' := 69) rfl ?_
  refine aw_iconst dX12_beginOne_69 (aw_pc (pc' := 70) rfl ?_)
  refine ac_ne rfl wl_1 dX12_beginOne_70 rfl (fun c => ?_) (fun c => ?_)
  · replace h := h.1 c
    refine aw_aload_n dX12_beginOne_73 rfl rfl (aw_pc (pc' := 74) rfl ?_)
    refine ar_gI fl_RX12_128 dX12_beginOne_74 h ?_
    clear h
    intro x2 h
    refine aw_pc (pc' := 77) rfl ?_
    refine aw_goto (tgt := 81) dX12_beginOne_77 rfl ?_
    exact aw_mask [true, false] (tX12_beginOne_J81 h)
  · replace h := h.2 c
    refine aw_iload_n dX12_beginOne_80 rfl rfl (aw_pc (pc' := 81) rfl ?_)
    exact aw_mask [true, false] (tX12_beginOne_J81 h)
def mX12_beginOne_J51 (Q : Int → hp → Prop) (o : Nat) (a1 : Int) (F : hp) : Prop := gI F (some o) 12 9 (fun x1 => (w32 x1 = 1 → mX12_beginOne_J65 Q o a1 (some o) 0 F) ∧ (¬ w32 x1 = 1 → mX12_beginOne_J65 Q o a1 (some o) 1 F))
set_option maxHeartbeats 4000000 in
theorem tX12_beginOne_J51 {d : Nat} {Q : Int → hp → Prop} {o : Nat} {a1 : Int} {F : hp} (h : mX12_beginOne_J51 Q o a1 F) : aw nX12_beginOne (d + 6) 0 0 51 [some (vr (some o)), some (vi a1)] [] F (qI Q) := by
  unfold mX12_beginOne_J51 at h
  refine aw_aload_n dX12_beginOne_51 rfl rfl (aw_pc (pc' := 52) rfl ?_)
  refine aw_aload_n dX12_beginOne_52 rfl rfl (aw_pc (pc' := 53) rfl ?_)
  refine ar_gI fl_RX12_122 dX12_beginOne_53 h ?_
  clear h
  intro x1 h
  refine aw_pc (pc' := 56) rfl ?_
  refine aw_iconst dX12_beginOne_56 (aw_pc (pc' := 57) rfl ?_)
  refine ac_ne rfl wl_1 dX12_beginOne_57 rfl (fun c => ?_) (fun c => ?_)
  · replace h := h.1 c
    refine aw_iconst dX12_beginOne_60 (aw_pc (pc' := 61) rfl ?_)
    refine aw_goto (tgt := 65) dX12_beginOne_61 rfl ?_
    exact aw_mask [true, true] (tX12_beginOne_J65 h)
  · replace h := h.2 c
    refine aw_iconst dX12_beginOne_64 (aw_pc (pc' := 65) rfl ?_)
    exact aw_mask [true, true] (tX12_beginOne_J65 h)
def mX12_beginOne_J39 (Q : Int → hp → Prop) (o : Nat) (a1 : Int) (F : hp) : Prop := gI F (some o) 12 9 (fun x1 => (w32 x1 = 1 → mX12_beginOne_J51 Q o a1 F) ∧ (¬ w32 x1 = 1 → (w32 a1 < 0 → gI F (some o) 12 9 (fun x2 => (w32 x2 = 40 → rcv F (some o) 12 (fun o5 => mX12_opened o5 40 F (fun x4 F3 => Q x4 F3))) ∧ (¬ w32 x2 = 40 → gI F (some o) 12 9 (fun x6 => (w32 x6 = 45 → rcv F (some o) 12 (fun o9 => mX12_opened o9 5 F (fun x8 F7 => Q x8 F7))) ∧ (¬ w32 x6 = 45 → mX12_w3 111 100 100 F (fun x11 F10 => rcv F10 (some o) 12 (fun o14 => mX12_isWord o14 x11 F10 (fun x13 F12 => (w32 x13 = 0 → mX12_w3 116 111 112 F12 (fun x16 F15 => rcv F15 (some o) 12 (fun o19 => mX12_isWord o19 x16 F15 (fun x18 F17 => (w32 x18 = 0 → mX12_w2 105 102 F17 (fun x21 F20 => rcv F20 (some o) 12 (fun o24 => mX12_isWord o24 x21 F20 (fun x23 F22 => (w32 x23 = 0 → mX12_w3 110 111 116 F22 (fun x26 F25 => rcv F25 (some o) 12 (fun o29 => mX12_isWord o29 x26 F25 (fun x28 F27 => (w32 x28 = 0 → Q 1 F27) ∧ (¬ w32 x28 = 0 → rcv F27 (some o) 12 (fun o32 => mX12_isAskAhead o32 F27 (fun x31 F30 => (w32 x31 = 0 → Q 1 F30) ∧ (¬ w32 x31 = 0 → rcv F30 (some o) 12 (fun o35 => mX12_opened o35 20 F30 (fun x34 F33 => Q x34 F33)))))))))) ∧ (¬ w32 x23 = 0 → rcv F22 (some o) 12 (fun o38 => mX12_opened o38 41 F22 (fun x37 F36 => Q x37 F36))))))) ∧ (¬ w32 x18 = 0 → rcv F17 (some o) 12 (fun o41 => mX12_opened o41 2 F17 (fun x40 F39 => Q x40 F39))))))) ∧ (¬ w32 x13 = 0 → rcv F12 (some o) 12 (fun o44 => mX12_opened o44 4 F12 (fun x43 F42 => Q x43 F42))))))))))) ∧ (¬ w32 a1 < 0 → mX12_beginOne_J51 Q o a1 F)))
set_option maxHeartbeats 4000000 in
theorem tX12_beginOne_J39 {d : Nat} {Q : Int → hp → Prop} {o : Nat} {a1 : Int} {F : hp} (h : mX12_beginOne_J39 Q o a1 F) : aw nX12_beginOne (d + 6) 0 0 39 [some (vr (some o)), some (vi a1)] [] F (qI Q) := by
  unfold mX12_beginOne_J39 at h
  refine aw_aload_n dX12_beginOne_39 rfl rfl (aw_pc (pc' := 40) rfl ?_)
  refine ar_gI fl_RX12_122 dX12_beginOne_40 h ?_
  clear h
  intro x1 h
  refine aw_pc (pc' := 43) rfl ?_
  refine aw_iconst dX12_beginOne_43 (aw_pc (pc' := 44) rfl ?_)
  refine ac_eq rfl wl_1 dX12_beginOne_44 rfl (fun c => ?_) (fun c => ?_)
  · replace h := h.1 c
    exact aw_mask [true, true] (tX12_beginOne_J51 h)
  · replace h := h.2 c
    refine aw_iload_n dX12_beginOne_47 rfl rfl (aw_pc (pc' := 48) rfl ?_)
    refine aw_if_lt dX12_beginOne_48 rfl (fun c => ?_) (fun c => ?_)
    · replace h := h.1 c
      refine aw_aload_n dX12_beginOne_101 rfl rfl (aw_pc (pc' := 102) rfl ?_)
      refine ar_gI fl_RX12_122 dX12_beginOne_102 h ?_
      clear h
      intro x2 h
      refine aw_pc (pc' := 105) rfl ?_
      refine aw_bipush dX12_beginOne_105 (by decide) (aw_pc (pc' := 107) rfl ?_)
      refine ac_ne rfl wl_40 dX12_beginOne_107 rfl (fun c => ?_) (fun c => ?_)
      · replace h := h.1 c
        refine aw_aload_n dX12_beginOne_110 rfl rfl (aw_pc (pc' := 111) rfl ?_)
        refine aw_bipush dX12_beginOne_111 (by decide) (aw_pc (pc' := 113) rfl ?_)
        have h0 := rcv_inv h
        clear h
        obtain ⟨o5, fs_o5, hr_o5, he_o5, h⟩ := h0
        obtain rfl : o = o5 := Option.some.inj hr_o5
        refine ar_VI (kc' := 0) (ks' := 0) (kc := 0) (ks := 0) (a := o) (ci := 12) (as := [vi 40]) (st := []) (tX12_opened h) mt_X12_opened rfl qM_RX12_207 qI_X12_opened qV_X12_opened he_o5 rfl (Nat.le_of_ble_eq_true rfl) dX12_beginOne_113 ?_
        clear h
        intro x4 F3 h
        refine aw_pc (pc' := 116) rfl ?_
        exact aw_iret rfl dX12_beginOne_116 ⟨_, rfl, h⟩
      · replace h := h.2 c
        refine aw_aload_n dX12_beginOne_117 rfl rfl (aw_pc (pc' := 118) rfl ?_)
        refine ar_gI fl_RX12_122 dX12_beginOne_118 h ?_
        clear h
        intro x6 h
        refine aw_pc (pc' := 121) rfl ?_
        refine aw_bipush dX12_beginOne_121 (by decide) (aw_pc (pc' := 123) rfl ?_)
        refine ac_ne rfl wl_45 dX12_beginOne_123 rfl (fun c => ?_) (fun c => ?_)
        · replace h := h.1 c
          refine aw_aload_n dX12_beginOne_126 rfl rfl (aw_pc (pc' := 127) rfl ?_)
          refine aw_iconst dX12_beginOne_127 (aw_pc (pc' := 128) rfl ?_)
          have h0 := rcv_inv h
          clear h
          obtain ⟨o9, fs_o9, hr_o9, he_o9, h⟩ := h0
          obtain rfl : o = o9 := Option.some.inj hr_o9
          refine ar_VI (kc' := 0) (ks' := 0) (kc := 0) (ks := 0) (a := o) (ci := 12) (as := [vi 5]) (st := []) (tX12_opened h) mt_X12_opened rfl qM_RX12_207 qI_X12_opened qV_X12_opened he_o9 rfl (Nat.le_of_ble_eq_true rfl) dX12_beginOne_128 ?_
          clear h
          intro x8 F7 h
          refine aw_pc (pc' := 131) rfl ?_
          exact aw_iret rfl dX12_beginOne_131 ⟨_, rfl, h⟩
        · replace h := h.2 c
          refine aw_aload_n dX12_beginOne_132 rfl rfl (aw_pc (pc' := 133) rfl ?_)
          refine aw_bipush dX12_beginOne_133 (by decide) (aw_pc (pc' := 135) rfl ?_)
          refine aw_bipush dX12_beginOne_135 (by decide) (aw_pc (pc' := 137) rfl ?_)
          refine aw_bipush dX12_beginOne_137 (by decide) (aw_pc (pc' := 139) rfl ?_)
          refine ar_SL (kc' := 0) (ks' := 0) (kc := 0) (ks := 0) (as := [vi 111, vi 100, vi 100]) (st := [vr (some o)]) (tX12_w3 h) mt_X12_w3 qM_RX12_148 qS_X12_w3 rfl (Nat.le_of_ble_eq_true rfl) dX12_beginOne_139 ?_
          clear h
          intro x11 F10 h
          refine aw_pc (pc' := 142) rfl ?_
          have h0 := rcv_inv h
          clear h
          obtain ⟨o14, fs_o14, hr_o14, he_o14, h⟩ := h0
          obtain rfl : o = o14 := Option.some.inj hr_o14
          refine ar_VI (kc' := 0) (ks' := 0) (kc := 0) (ks := 0) (a := o) (ci := 12) (as := [vl x11]) (st := []) (tX12_isWord h) mt_X12_isWord rfl qM_RX12_210 qI_X12_isWord qV_X12_isWord he_o14 rfl (Nat.le_of_ble_eq_true rfl) dX12_beginOne_142 ?_
          clear h
          intro x13 F12 h
          refine aw_pc (pc' := 145) rfl ?_
          refine aw_if_eq dX12_beginOne_145 rfl (fun c => ?_) (fun c => ?_)
          · replace h := h.1 c
            refine aw_aload_n dX12_beginOne_154 rfl rfl (aw_pc (pc' := 155) rfl ?_)
            refine aw_bipush dX12_beginOne_155 (by decide) (aw_pc (pc' := 157) rfl ?_)
            refine aw_bipush dX12_beginOne_157 (by decide) (aw_pc (pc' := 159) rfl ?_)
            refine aw_bipush dX12_beginOne_159 (by decide) (aw_pc (pc' := 161) rfl ?_)
            refine ar_SL (kc' := 0) (ks' := 0) (kc := 0) (ks := 0) (as := [vi 116, vi 111, vi 112]) (st := [vr (some o)]) (tX12_w3 h) mt_X12_w3 qM_RX12_148 qS_X12_w3 rfl (Nat.le_of_ble_eq_true rfl) dX12_beginOne_161 ?_
            clear h
            intro x16 F15 h
            refine aw_pc (pc' := 164) rfl ?_
            have h0 := rcv_inv h
            clear h
            obtain ⟨o19, fs_o19, hr_o19, he_o19, h⟩ := h0
            obtain rfl : o = o19 := Option.some.inj hr_o19
            refine ar_VI (kc' := 0) (ks' := 0) (kc := 0) (ks := 0) (a := o) (ci := 12) (as := [vl x16]) (st := []) (tX12_isWord h) mt_X12_isWord rfl qM_RX12_210 qI_X12_isWord qV_X12_isWord he_o19 rfl (Nat.le_of_ble_eq_true rfl) dX12_beginOne_164 ?_
            clear h
            intro x18 F17 h
            refine aw_pc (pc' := 167) rfl ?_
            refine aw_if_eq dX12_beginOne_167 rfl (fun c => ?_) (fun c => ?_)
            · replace h := h.1 c
              refine aw_aload_n dX12_beginOne_176 rfl rfl (aw_pc (pc' := 177) rfl ?_)
              refine aw_bipush dX12_beginOne_177 (by decide) (aw_pc (pc' := 179) rfl ?_)
              refine aw_bipush dX12_beginOne_179 (by decide) (aw_pc (pc' := 181) rfl ?_)
              refine ar_SL (kc' := 0) (ks' := 0) (kc := 0) (ks := 0) (as := [vi 105, vi 102]) (st := [vr (some o)]) (tX12_w2 h) mt_X12_w2 qM_RX12_144 qS_X12_w2 rfl (Nat.le_of_ble_eq_true rfl) dX12_beginOne_181 ?_
              clear h
              intro x21 F20 h
              refine aw_pc (pc' := 184) rfl ?_
              have h0 := rcv_inv h
              clear h
              obtain ⟨o24, fs_o24, hr_o24, he_o24, h⟩ := h0
              obtain rfl : o = o24 := Option.some.inj hr_o24
              refine ar_VI (kc' := 0) (ks' := 0) (kc := 0) (ks := 0) (a := o) (ci := 12) (as := [vl x21]) (st := []) (tX12_isWord h) mt_X12_isWord rfl qM_RX12_210 qI_X12_isWord qV_X12_isWord he_o24 rfl (Nat.le_of_ble_eq_true rfl) dX12_beginOne_184 ?_
              clear h
              intro x23 F22 h
              refine aw_pc (pc' := 187) rfl ?_
              refine aw_if_eq dX12_beginOne_187 rfl (fun c => ?_) (fun c => ?_)
              · replace h := h.1 c
                refine aw_aload_n dX12_beginOne_197 rfl rfl (aw_pc (pc' := 198) rfl ?_)
                refine aw_bipush dX12_beginOne_198 (by decide) (aw_pc (pc' := 200) rfl ?_)
                refine aw_bipush dX12_beginOne_200 (by decide) (aw_pc (pc' := 202) rfl ?_)
                refine aw_bipush dX12_beginOne_202 (by decide) (aw_pc (pc' := 204) rfl ?_)
                refine ar_SL (kc' := 0) (ks' := 0) (kc := 0) (ks := 0) (as := [vi 110, vi 111, vi 116]) (st := [vr (some o)]) (tX12_w3 h) mt_X12_w3 qM_RX12_148 qS_X12_w3 rfl (Nat.le_of_ble_eq_true rfl) dX12_beginOne_204 ?_
                clear h
                intro x26 F25 h
                refine aw_pc (pc' := 207) rfl ?_
                have h0 := rcv_inv h
                clear h
                obtain ⟨o29, fs_o29, hr_o29, he_o29, h⟩ := h0
                obtain rfl : o = o29 := Option.some.inj hr_o29
                refine ar_VI (kc' := 0) (ks' := 0) (kc := 0) (ks := 0) (a := o) (ci := 12) (as := [vl x26]) (st := []) (tX12_isWord h) mt_X12_isWord rfl qM_RX12_210 qI_X12_isWord qV_X12_isWord he_o29 rfl (Nat.le_of_ble_eq_true rfl) dX12_beginOne_207 ?_
                clear h
                intro x28 F27 h
                refine aw_pc (pc' := 210) rfl ?_
                refine aw_if_eq dX12_beginOne_210 rfl (fun c => ?_) (fun c => ?_)
                · replace h := h.1 c
                  refine aw_iconst dX12_beginOne_229 (aw_pc (pc' := 230) rfl ?_)
                  exact aw_iret rfl dX12_beginOne_230 ⟨_, rfl, h⟩
                · replace h := h.2 c
                  refine aw_aload_n dX12_beginOne_213 rfl rfl (aw_pc (pc' := 214) rfl ?_)
                  have h0 := rcv_inv h
                  clear h
                  obtain ⟨o32, fs_o32, hr_o32, he_o32, h⟩ := h0
                  obtain rfl : o = o32 := Option.some.inj hr_o32
                  refine ar_VI (kc' := 0) (ks' := 0) (kc := 0) (ks := 0) (a := o) (ci := 12) (as := []) (st := []) (tX12_isAskAhead h) mt_X12_isAskAhead rfl qM_RX12_214 qI_X12_isAskAhead qV_X12_isAskAhead he_o32 rfl (Nat.le_of_ble_eq_true rfl) dX12_beginOne_214 ?_
                  clear h
                  intro x31 F30 h
                  refine aw_pc (pc' := 217) rfl ?_
                  refine aw_if_eq dX12_beginOne_217 rfl (fun c => ?_) (fun c => ?_)
                  · replace h := h.1 c
                    refine aw_iconst dX12_beginOne_229 (aw_pc (pc' := 230) rfl ?_)
                    exact aw_iret rfl dX12_beginOne_230 ⟨_, rfl, h⟩
                  · replace h := h.2 c
                    refine aw_aload_n dX12_beginOne_220 rfl rfl (aw_pc (pc' := 221) rfl ?_)
                    refine aw_bipush dX12_beginOne_221 (by decide) (aw_pc (pc' := 223) rfl ?_)
                    have h0 := rcv_inv h
                    clear h
                    obtain ⟨o35, fs_o35, hr_o35, he_o35, h⟩ := h0
                    obtain rfl : o = o35 := Option.some.inj hr_o35
                    refine ar_VI (kc' := 0) (ks' := 0) (kc := 0) (ks := 0) (a := o) (ci := 12) (as := [vi 20]) (st := []) (tX12_opened h) mt_X12_opened rfl qM_RX12_207 qI_X12_opened qV_X12_opened he_o35 rfl (Nat.le_of_ble_eq_true rfl) dX12_beginOne_223 ?_
                    clear h
                    intro x34 F33 h
                    refine aw_pc (pc' := 226) rfl ?_
                    refine aw_goto (tgt := 230) dX12_beginOne_226 rfl ?_
                    exact aw_iret rfl dX12_beginOne_230 ⟨_, rfl, h⟩
              · replace h := h.2 c
                refine aw_aload_n dX12_beginOne_190 rfl rfl (aw_pc (pc' := 191) rfl ?_)
                refine aw_bipush dX12_beginOne_191 (by decide) (aw_pc (pc' := 193) rfl ?_)
                have h0 := rcv_inv h
                clear h
                obtain ⟨o38, fs_o38, hr_o38, he_o38, h⟩ := h0
                obtain rfl : o = o38 := Option.some.inj hr_o38
                refine ar_VI (kc' := 0) (ks' := 0) (kc := 0) (ks := 0) (a := o) (ci := 12) (as := [vi 41]) (st := []) (tX12_opened h) mt_X12_opened rfl qM_RX12_207 qI_X12_opened qV_X12_opened he_o38 rfl (Nat.le_of_ble_eq_true rfl) dX12_beginOne_193 ?_
                clear h
                intro x37 F36 h
                refine aw_pc (pc' := 196) rfl ?_
                exact aw_iret rfl dX12_beginOne_196 ⟨_, rfl, h⟩
            · replace h := h.2 c
              refine aw_aload_n dX12_beginOne_170 rfl rfl (aw_pc (pc' := 171) rfl ?_)
              refine aw_iconst dX12_beginOne_171 (aw_pc (pc' := 172) rfl ?_)
              have h0 := rcv_inv h
              clear h
              obtain ⟨o41, fs_o41, hr_o41, he_o41, h⟩ := h0
              obtain rfl : o = o41 := Option.some.inj hr_o41
              refine ar_VI (kc' := 0) (ks' := 0) (kc := 0) (ks := 0) (a := o) (ci := 12) (as := [vi 2]) (st := []) (tX12_opened h) mt_X12_opened rfl qM_RX12_207 qI_X12_opened qV_X12_opened he_o41 rfl (Nat.le_of_ble_eq_true rfl) dX12_beginOne_172 ?_
              clear h
              intro x40 F39 h
              refine aw_pc (pc' := 175) rfl ?_
              exact aw_iret rfl dX12_beginOne_175 ⟨_, rfl, h⟩
          · replace h := h.2 c
            refine aw_aload_n dX12_beginOne_148 rfl rfl (aw_pc (pc' := 149) rfl ?_)
            refine aw_iconst dX12_beginOne_149 (aw_pc (pc' := 150) rfl ?_)
            have h0 := rcv_inv h
            clear h
            obtain ⟨o44, fs_o44, hr_o44, he_o44, h⟩ := h0
            obtain rfl : o = o44 := Option.some.inj hr_o44
            refine ar_VI (kc' := 0) (ks' := 0) (kc := 0) (ks := 0) (a := o) (ci := 12) (as := [vi 4]) (st := []) (tX12_opened h) mt_X12_opened rfl qM_RX12_207 qI_X12_opened qV_X12_opened he_o44 rfl (Nat.le_of_ble_eq_true rfl) dX12_beginOne_150 ?_
            clear h
            intro x43 F42 h
            refine aw_pc (pc' := 153) rfl ?_
            exact aw_iret rfl dX12_beginOne_153 ⟨_, rfl, h⟩
    · replace h := h.2 c
      exact aw_mask [true, true] (tX12_beginOne_J51 h)
def mX12_beginOne_J20 (Q : Int → hp → Prop) (o : Nat) (F : hp) : Prop := rcv F (some o) 12 (fun o3 => mX12_nameOf o3 F (fun x2 F1 => (w32 x2 < 0 → mX12_beginOne_J39 Q o x2 F1) ∧ (¬ w32 x2 < 0 → rcv F1 (some o) 12 (fun o6 => mX12_isOf o6 x2 F1 (fun x5 F4 => (w32 x5 = 0 → Q 5 F4) ∧ (¬ w32 x5 = 0 → mX12_beginOne_J39 Q o x2 F4))))))
set_option maxHeartbeats 4000000 in
theorem tX12_beginOne_J20 {d : Nat} {Q : Int → hp → Prop} {o : Nat} {F : hp} (h : mX12_beginOne_J20 Q o F) : aw nX12_beginOne (d + 6) 0 0 20 [some (vr (some o)), none] [] F (qI Q) := by
  unfold mX12_beginOne_J20 at h
  refine aw_aload_n dX12_beginOne_20 rfl rfl (aw_pc (pc' := 21) rfl ?_)
  have h0 := rcv_inv h
  clear h
  obtain ⟨o3, fs_o3, hr_o3, he_o3, h⟩ := h0
  obtain rfl : o = o3 := Option.some.inj hr_o3
  refine ar_VI (kc' := 0) (ks' := 0) (kc := 0) (ks := 0) (a := o) (ci := 12) (as := []) (st := []) (tX12_nameOf h) mt_X12_nameOf rfl qM_RX12_195 qI_X12_nameOf qV_X12_nameOf he_o3 rfl (Nat.le_of_ble_eq_true rfl) dX12_beginOne_21 ?_
  clear h
  intro x2 F1 h
  refine aw_pc (pc' := 24) rfl ?_
  refine aw_istore_n dX12_beginOne_24 rfl (by decide) (aw_pc (pc' := 25) rfl ?_)
  refine aw_iload_n dX12_beginOne_25 rfl rfl (aw_pc (pc' := 26) rfl ?_)
  refine aw_if_lt dX12_beginOne_26 rfl (fun c => ?_) (fun c => ?_)
  · replace h := h.1 c
    exact aw_mask [true, true] (tX12_beginOne_J39 h)
  · replace h := h.2 c
    refine aw_aload_n dX12_beginOne_29 rfl rfl (aw_pc (pc' := 30) rfl ?_)
    refine aw_iload_n dX12_beginOne_30 rfl rfl (aw_pc (pc' := 31) rfl ?_)
    have h0 := rcv_inv h
    clear h
    obtain ⟨o6, fs_o6, hr_o6, he_o6, h⟩ := h0
    obtain rfl : o = o6 := Option.some.inj hr_o6
    refine ar_VI (kc' := 0) (ks' := 0) (kc := 0) (ks := 0) (a := o) (ci := 12) (as := [vi x2]) (st := []) (tX12_isOf h) mt_X12_isOf rfl qM_RX12_198 qI_X12_isOf qV_X12_isOf he_o6 rfl (Nat.le_of_ble_eq_true rfl) dX12_beginOne_31 ?_
    clear h
    intro x5 F4 h
    refine aw_pc (pc' := 34) rfl ?_
    refine aw_if_ne dX12_beginOne_34 rfl (fun c => ?_) (fun c => ?_)
    · replace h := h.1 c
      refine aw_iconst dX12_beginOne_37 (aw_pc (pc' := 38) rfl ?_)
      exact aw_iret rfl dX12_beginOne_38 ⟨_, rfl, h⟩
    · replace h := h.2 c
      exact aw_mask [true, true] (tX12_beginOne_J39 h)
def mX12_beginOne (o : Nat) (F : hp) (Q : Int → hp → Prop) : Prop := gI F (some o) 12 9 (fun x1 => (w32 x1 = 1 → gI F (some o) 12 10 (fun x2 => (9999 < w32 x2 → Q 2 F) ∧ (¬ 9999 < w32 x2 → mX12_beginOne_J20 Q o F))) ∧ (¬ w32 x1 = 1 → mX12_beginOne_J20 Q o F))
set_option maxHeartbeats 4000000 in
theorem tX12_beginOne {d : Nat} {o : Nat} {F : hp} {Q : Int → hp → Prop} (h : mX12_beginOne o F Q) : am nX12_beginOne (d + 6) 0 0 [vr (some o)] F (qI Q) := by
  refine am_of (by decide +kernel) (Nat.le_of_ble_eq_true rfl) ?_
  show aw nX12_beginOne (d + 6) 0 0 0 [some (vr (some o)), none] [] F (qI Q)
  unfold mX12_beginOne at h
  refine aw_aload_n dX12_beginOne_0 rfl rfl (aw_pc (pc' := 1) rfl ?_)
  refine ar_gI fl_RX12_122 dX12_beginOne_1 h ?_
  clear h
  intro x1 h
  refine aw_pc (pc' := 4) rfl ?_
  refine aw_iconst dX12_beginOne_4 (aw_pc (pc' := 5) rfl ?_)
  refine ac_ne rfl wl_1 dX12_beginOne_5 rfl (fun c => ?_) (fun c => ?_)
  · replace h := h.1 c
    refine aw_aload_n dX12_beginOne_8 rfl rfl (aw_pc (pc' := 9) rfl ?_)
    refine ar_gI fl_RX12_128 dX12_beginOne_9 h ?_
    clear h
    intro x2 h
    refine aw_pc (pc' := 12) rfl ?_
    refine aw_sipush dX12_beginOne_12 (by decide) (aw_pc (pc' := 15) rfl ?_)
    refine ac_le rfl wl_9999 dX12_beginOne_15 rfl (fun c => ?_) (fun c => ?_)
    · replace h := h.1 c
      refine aw_iconst dX12_beginOne_18 (aw_pc (pc' := 19) rfl ?_)
      exact aw_iret rfl dX12_beginOne_19 ⟨_, rfl, h⟩
    · replace h := h.2 c
      exact aw_mask [true, false] (tX12_beginOne_J20 h)
  · replace h := h.2 c
    exact aw_mask [true, false] (tX12_beginOne_J20 h)
def mX12_compareOf (o : Nat) (F : hp) (Q : Int → hp → Prop) : Prop := gI F (some o) 12 9 (fun x1 => (w32 x1 = 60 → Q 10 F) ∧ (¬ w32 x1 = 60 → gI F (some o) 12 9 (fun x2 => (w32 x2 = 4 → Q 11 F) ∧ (¬ w32 x2 = 4 → gI F (some o) 12 9 (fun x3 => (w32 x3 = 62 → Q 12 F) ∧ (¬ w32 x3 = 62 → gI F (some o) 12 9 (fun x4 => (w32 x4 = 5 → Q 13 F) ∧ (¬ w32 x4 = 5 → gI F (some o) 12 9 (fun x5 => (w32 x5 = 61 → Q 14 F) ∧ (¬ w32 x5 = 61 → gI F (some o) 12 9 (fun x6 => (w32 x6 = 35 → Q 15 F) ∧ (¬ w32 x6 = 35 → Q (-1) F))))))))))))
set_option maxHeartbeats 4000000 in
theorem tX12_compareOf {d : Nat} {o : Nat} {F : hp} {Q : Int → hp → Prop} (h : mX12_compareOf o F Q) : am nX12_compareOf d 0 0 [vr (some o)] F (qI Q) := by
  refine am_of (by decide +kernel) (Nat.le_of_ble_eq_true rfl) ?_
  show aw nX12_compareOf d 0 0 0 [some (vr (some o))] [] F (qI Q)
  unfold mX12_compareOf at h
  refine aw_aload_n dX12_compareOf_0 rfl rfl (aw_pc (pc' := 1) rfl ?_)
  refine ar_gI fl_RX12_122 dX12_compareOf_1 h ?_
  clear h
  intro x1 h
  refine aw_pc (pc' := 4) rfl ?_
  refine aw_bipush dX12_compareOf_4 (by decide) (aw_pc (pc' := 6) rfl ?_)
  refine ac_ne rfl wl_60 dX12_compareOf_6 rfl (fun c => ?_) (fun c => ?_)
  · replace h := h.1 c
    refine aw_bipush dX12_compareOf_9 (by decide) (aw_pc (pc' := 11) rfl ?_)
    refine aw_goto (tgt := 83) dX12_compareOf_11 rfl ?_
    exact aw_iret rfl dX12_compareOf_83 ⟨_, rfl, h⟩
  · replace h := h.2 c
    refine aw_aload_n dX12_compareOf_14 rfl rfl (aw_pc (pc' := 15) rfl ?_)
    refine ar_gI fl_RX12_122 dX12_compareOf_15 h ?_
    clear h
    intro x2 h
    refine aw_pc (pc' := 18) rfl ?_
    refine aw_iconst dX12_compareOf_18 (aw_pc (pc' := 19) rfl ?_)
    refine ac_ne rfl wl_4 dX12_compareOf_19 rfl (fun c => ?_) (fun c => ?_)
    · replace h := h.1 c
      refine aw_bipush dX12_compareOf_22 (by decide) (aw_pc (pc' := 24) rfl ?_)
      refine aw_goto (tgt := 83) dX12_compareOf_24 rfl ?_
      exact aw_iret rfl dX12_compareOf_83 ⟨_, rfl, h⟩
    · replace h := h.2 c
      refine aw_aload_n dX12_compareOf_27 rfl rfl (aw_pc (pc' := 28) rfl ?_)
      refine ar_gI fl_RX12_122 dX12_compareOf_28 h ?_
      clear h
      intro x3 h
      refine aw_pc (pc' := 31) rfl ?_
      refine aw_bipush dX12_compareOf_31 (by decide) (aw_pc (pc' := 33) rfl ?_)
      refine ac_ne rfl wl_62 dX12_compareOf_33 rfl (fun c => ?_) (fun c => ?_)
      · replace h := h.1 c
        refine aw_bipush dX12_compareOf_36 (by decide) (aw_pc (pc' := 38) rfl ?_)
        refine aw_goto (tgt := 83) dX12_compareOf_38 rfl ?_
        exact aw_iret rfl dX12_compareOf_83 ⟨_, rfl, h⟩
      · replace h := h.2 c
        refine aw_aload_n dX12_compareOf_41 rfl rfl (aw_pc (pc' := 42) rfl ?_)
        refine ar_gI fl_RX12_122 dX12_compareOf_42 h ?_
        clear h
        intro x4 h
        refine aw_pc (pc' := 45) rfl ?_
        refine aw_iconst dX12_compareOf_45 (aw_pc (pc' := 46) rfl ?_)
        refine ac_ne rfl wl_5 dX12_compareOf_46 rfl (fun c => ?_) (fun c => ?_)
        · replace h := h.1 c
          refine aw_bipush dX12_compareOf_49 (by decide) (aw_pc (pc' := 51) rfl ?_)
          refine aw_goto (tgt := 83) dX12_compareOf_51 rfl ?_
          exact aw_iret rfl dX12_compareOf_83 ⟨_, rfl, h⟩
        · replace h := h.2 c
          refine aw_aload_n dX12_compareOf_54 rfl rfl (aw_pc (pc' := 55) rfl ?_)
          refine ar_gI fl_RX12_122 dX12_compareOf_55 h ?_
          clear h
          intro x5 h
          refine aw_pc (pc' := 58) rfl ?_
          refine aw_bipush dX12_compareOf_58 (by decide) (aw_pc (pc' := 60) rfl ?_)
          refine ac_ne rfl wl_61 dX12_compareOf_60 rfl (fun c => ?_) (fun c => ?_)
          · replace h := h.1 c
            refine aw_bipush dX12_compareOf_63 (by decide) (aw_pc (pc' := 65) rfl ?_)
            refine aw_goto (tgt := 83) dX12_compareOf_65 rfl ?_
            exact aw_iret rfl dX12_compareOf_83 ⟨_, rfl, h⟩
          · replace h := h.2 c
            refine aw_aload_n dX12_compareOf_68 rfl rfl (aw_pc (pc' := 69) rfl ?_)
            refine ar_gI fl_RX12_122 dX12_compareOf_69 h ?_
            clear h
            intro x6 h
            refine aw_pc (pc' := 72) rfl ?_
            refine aw_bipush dX12_compareOf_72 (by decide) (aw_pc (pc' := 74) rfl ?_)
            refine ac_ne rfl wl_35 dX12_compareOf_74 rfl (fun c => ?_) (fun c => ?_)
            · replace h := h.1 c
              refine aw_bipush dX12_compareOf_77 (by decide) (aw_pc (pc' := 79) rfl ?_)
              refine aw_goto (tgt := 83) dX12_compareOf_79 rfl ?_
              exact aw_iret rfl dX12_compareOf_83 ⟨_, rfl, h⟩
            · replace h := h.2 c
              refine aw_iconst dX12_compareOf_82 (aw_pc (pc' := 83) rfl ?_)
              exact aw_iret rfl dX12_compareOf_83 ⟨_, rfl, h⟩
def mX12_betweenOf (o : Nat) (F : hp) (Q : Int → hp → Prop) : Prop := gI F (some o) 12 9 (fun x1 => (w32 x1 = 43 → Q 6 F) ∧ (¬ w32 x1 = 43 → gI F (some o) 12 9 (fun x2 => (w32 x2 = 45 → Q 7 F) ∧ (¬ w32 x2 = 45 → gI F (some o) 12 9 (fun x3 => (w32 x3 = 42 → Q 8 F) ∧ (¬ w32 x3 = 42 → gI F (some o) 12 9 (fun x4 => (w32 x4 = 47 → Q 9 F) ∧ (¬ w32 x4 = 47 → rcv F (some o) 12 (fun o7 => mX12_openNow o7 F (fun x6 F5 => (w32 x6 = 41 → rcv F5 (some o) 12 (fun o10 => mX12_isCompared o10 F5 (fun x9 F8 => (w32 x9 = 0 → rcv F8 (some o) 12 (fun o13 => mX12_compareOf o13 F8 (fun x12 F11 => Q x12 F11))) ∧ (¬ w32 x9 = 0 → mX12_w3 97 110 100 F8 (fun x15 F14 => rcv F14 (some o) 12 (fun o18 => mX12_isWord o18 x15 F14 (fun x17 F16 => (w32 x17 = 0 → mX12_w2 111 114 F16 (fun x20 F19 => rcv F19 (some o) 12 (fun o23 => mX12_isWord o23 x20 F19 (fun x22 F21 => (w32 x22 = 0 → Q (-1) F21) ∧ (¬ w32 x22 = 0 → Q 22 F21))))) ∧ (¬ w32 x17 = 0 → Q 21 F16)))))))) ∧ (¬ w32 x6 = 41 → Q (-1) F5)))))))))))
set_option maxHeartbeats 4000000 in
theorem tX12_betweenOf {d : Nat} {o : Nat} {F : hp} {Q : Int → hp → Prop} (h : mX12_betweenOf o F Q) : am nX12_betweenOf (d + 2) 0 0 [vr (some o)] F (qI Q) := by
  refine am_of (by decide +kernel) (Nat.le_of_ble_eq_true rfl) ?_
  show aw nX12_betweenOf (d + 2) 0 0 0 [some (vr (some o))] [] F (qI Q)
  unfold mX12_betweenOf at h
  refine aw_aload_n dX12_betweenOf_0 rfl rfl (aw_pc (pc' := 1) rfl ?_)
  refine ar_gI fl_RX12_122 dX12_betweenOf_1 h ?_
  clear h
  intro x1 h
  refine aw_pc (pc' := 4) rfl ?_
  refine aw_bipush dX12_betweenOf_4 (by decide) (aw_pc (pc' := 6) rfl ?_)
  refine ac_ne rfl wl_43 dX12_betweenOf_6 rfl (fun c => ?_) (fun c => ?_)
  · replace h := h.1 c
    refine aw_bipush dX12_betweenOf_9 (by decide) (aw_pc (pc' := 11) rfl ?_)
    exact aw_iret rfl dX12_betweenOf_11 ⟨_, rfl, h⟩
  · replace h := h.2 c
    refine aw_aload_n dX12_betweenOf_12 rfl rfl (aw_pc (pc' := 13) rfl ?_)
    refine ar_gI fl_RX12_122 dX12_betweenOf_13 h ?_
    clear h
    intro x2 h
    refine aw_pc (pc' := 16) rfl ?_
    refine aw_bipush dX12_betweenOf_16 (by decide) (aw_pc (pc' := 18) rfl ?_)
    refine ac_ne rfl wl_45 dX12_betweenOf_18 rfl (fun c => ?_) (fun c => ?_)
    · replace h := h.1 c
      refine aw_bipush dX12_betweenOf_21 (by decide) (aw_pc (pc' := 23) rfl ?_)
      exact aw_iret rfl dX12_betweenOf_23 ⟨_, rfl, h⟩
    · replace h := h.2 c
      refine aw_aload_n dX12_betweenOf_24 rfl rfl (aw_pc (pc' := 25) rfl ?_)
      refine ar_gI fl_RX12_122 dX12_betweenOf_25 h ?_
      clear h
      intro x3 h
      refine aw_pc (pc' := 28) rfl ?_
      refine aw_bipush dX12_betweenOf_28 (by decide) (aw_pc (pc' := 30) rfl ?_)
      refine ac_ne rfl wl_42 dX12_betweenOf_30 rfl (fun c => ?_) (fun c => ?_)
      · replace h := h.1 c
        refine aw_bipush dX12_betweenOf_33 (by decide) (aw_pc (pc' := 35) rfl ?_)
        exact aw_iret rfl dX12_betweenOf_35 ⟨_, rfl, h⟩
      · replace h := h.2 c
        refine aw_aload_n dX12_betweenOf_36 rfl rfl (aw_pc (pc' := 37) rfl ?_)
        refine ar_gI fl_RX12_122 dX12_betweenOf_37 h ?_
        clear h
        intro x4 h
        refine aw_pc (pc' := 40) rfl ?_
        refine aw_bipush dX12_betweenOf_40 (by decide) (aw_pc (pc' := 42) rfl ?_)
        refine ac_ne rfl wl_47 dX12_betweenOf_42 rfl (fun c => ?_) (fun c => ?_)
        · replace h := h.1 c
          refine aw_bipush dX12_betweenOf_45 (by decide) (aw_pc (pc' := 47) rfl ?_)
          exact aw_iret rfl dX12_betweenOf_47 ⟨_, rfl, h⟩
        · replace h := h.2 c
          refine aw_aload_n dX12_betweenOf_48 rfl rfl (aw_pc (pc' := 49) rfl ?_)
          have h0 := rcv_inv h
          clear h
          obtain ⟨o7, fs_o7, hr_o7, he_o7, h⟩ := h0
          obtain rfl : o = o7 := Option.some.inj hr_o7
          refine ar_VI (kc' := 0) (ks' := 0) (kc := 0) (ks := 0) (a := o) (ci := 12) (as := []) (st := []) (tX12_openNow h) mt_X12_openNow rfl qM_RX12_189 qI_X12_openNow qV_X12_openNow he_o7 rfl (Nat.le_of_ble_eq_true rfl) dX12_betweenOf_49 ?_
          clear h
          intro x6 F5 h
          refine aw_pc (pc' := 52) rfl ?_
          refine aw_bipush dX12_betweenOf_52 (by decide) (aw_pc (pc' := 54) rfl ?_)
          refine ac_eq rfl wl_41 dX12_betweenOf_54 rfl (fun c => ?_) (fun c => ?_)
          · replace h := h.1 c
            refine aw_aload_n dX12_betweenOf_59 rfl rfl (aw_pc (pc' := 60) rfl ?_)
            have h0 := rcv_inv h
            clear h
            obtain ⟨o10, fs_o10, hr_o10, he_o10, h⟩ := h0
            obtain rfl : o = o10 := Option.some.inj hr_o10
            refine ar_VI (kc' := 0) (ks' := 0) (kc := 0) (ks := 0) (a := o) (ci := 12) (as := []) (st := []) (tX12_isCompared h) mt_X12_isCompared rfl qM_RX12_218 qI_X12_isCompared qV_X12_isCompared he_o10 rfl (Nat.le_of_ble_eq_true rfl) dX12_betweenOf_60 ?_
            clear h
            intro x9 F8 h
            refine aw_pc (pc' := 63) rfl ?_
            refine aw_if_ne dX12_betweenOf_63 rfl (fun c => ?_) (fun c => ?_)
            · replace h := h.1 c
              refine aw_aload_n dX12_betweenOf_66 rfl rfl (aw_pc (pc' := 67) rfl ?_)
              have h0 := rcv_inv h
              clear h
              obtain ⟨o13, fs_o13, hr_o13, he_o13, h⟩ := h0
              obtain rfl : o = o13 := Option.some.inj hr_o13
              refine ar_VI (kc' := 0) (ks' := 0) (kc := 0) (ks := 0) (a := o) (ci := 12) (as := []) (st := []) (tX12_compareOf h) mt_X12_compareOf rfl qM_RX12_221 qI_X12_compareOf qV_X12_compareOf he_o13 rfl (Nat.le_of_ble_eq_true rfl) dX12_betweenOf_67 ?_
              clear h
              intro x12 F11 h
              refine aw_pc (pc' := 70) rfl ?_
              exact aw_iret rfl dX12_betweenOf_70 ⟨_, rfl, h⟩
            · replace h := h.2 c
              refine aw_aload_n dX12_betweenOf_71 rfl rfl (aw_pc (pc' := 72) rfl ?_)
              refine aw_bipush dX12_betweenOf_72 (by decide) (aw_pc (pc' := 74) rfl ?_)
              refine aw_bipush dX12_betweenOf_74 (by decide) (aw_pc (pc' := 76) rfl ?_)
              refine aw_bipush dX12_betweenOf_76 (by decide) (aw_pc (pc' := 78) rfl ?_)
              refine ar_SL (kc' := 0) (ks' := 0) (kc := 0) (ks := 0) (as := [vi 97, vi 110, vi 100]) (st := [vr (some o)]) (tX12_w3 h) mt_X12_w3 qM_RX12_148 qS_X12_w3 rfl (Nat.le_of_ble_eq_true rfl) dX12_betweenOf_78 ?_
              clear h
              intro x15 F14 h
              refine aw_pc (pc' := 81) rfl ?_
              have h0 := rcv_inv h
              clear h
              obtain ⟨o18, fs_o18, hr_o18, he_o18, h⟩ := h0
              obtain rfl : o = o18 := Option.some.inj hr_o18
              refine ar_VI (kc' := 0) (ks' := 0) (kc := 0) (ks := 0) (a := o) (ci := 12) (as := [vl x15]) (st := []) (tX12_isWord h) mt_X12_isWord rfl qM_RX12_210 qI_X12_isWord qV_X12_isWord he_o18 rfl (Nat.le_of_ble_eq_true rfl) dX12_betweenOf_81 ?_
              clear h
              intro x17 F16 h
              refine aw_pc (pc' := 84) rfl ?_
              refine aw_if_eq dX12_betweenOf_84 rfl (fun c => ?_) (fun c => ?_)
              · replace h := h.1 c
                refine aw_aload_n dX12_betweenOf_92 rfl rfl (aw_pc (pc' := 93) rfl ?_)
                refine aw_bipush dX12_betweenOf_93 (by decide) (aw_pc (pc' := 95) rfl ?_)
                refine aw_bipush dX12_betweenOf_95 (by decide) (aw_pc (pc' := 97) rfl ?_)
                refine ar_SL (kc' := 0) (ks' := 0) (kc := 0) (ks := 0) (as := [vi 111, vi 114]) (st := [vr (some o)]) (tX12_w2 h) mt_X12_w2 qM_RX12_144 qS_X12_w2 rfl (Nat.le_of_ble_eq_true rfl) dX12_betweenOf_97 ?_
                clear h
                intro x20 F19 h
                refine aw_pc (pc' := 100) rfl ?_
                have h0 := rcv_inv h
                clear h
                obtain ⟨o23, fs_o23, hr_o23, he_o23, h⟩ := h0
                obtain rfl : o = o23 := Option.some.inj hr_o23
                refine ar_VI (kc' := 0) (ks' := 0) (kc := 0) (ks := 0) (a := o) (ci := 12) (as := [vl x20]) (st := []) (tX12_isWord h) mt_X12_isWord rfl qM_RX12_210 qI_X12_isWord qV_X12_isWord he_o23 rfl (Nat.le_of_ble_eq_true rfl) dX12_betweenOf_100 ?_
                clear h
                intro x22 F21 h
                refine aw_pc (pc' := 103) rfl ?_
                refine aw_if_eq dX12_betweenOf_103 rfl (fun c => ?_) (fun c => ?_)
                · replace h := h.1 c
                  refine aw_iconst dX12_betweenOf_111 (aw_pc (pc' := 112) rfl ?_)
                  exact aw_iret rfl dX12_betweenOf_112 ⟨_, rfl, h⟩
                · replace h := h.2 c
                  refine aw_bipush dX12_betweenOf_106 (by decide) (aw_pc (pc' := 108) rfl ?_)
                  refine aw_goto (tgt := 112) dX12_betweenOf_108 rfl ?_
                  exact aw_iret rfl dX12_betweenOf_112 ⟨_, rfl, h⟩
              · replace h := h.2 c
                refine aw_bipush dX12_betweenOf_87 (by decide) (aw_pc (pc' := 89) rfl ?_)
                refine aw_goto (tgt := 112) dX12_betweenOf_89 rfl ?_
                exact aw_iret rfl dX12_betweenOf_112 ⟨_, rfl, h⟩
          · replace h := h.2 c
            refine aw_iconst dX12_betweenOf_57 (aw_pc (pc' := 58) rfl ?_)
            exact aw_iret rfl dX12_betweenOf_58 ⟨_, rfl, h⟩
def mX12_partOf (o : Nat) (a1 : Int) (F : hp) (Q : Int → hp → Prop) : Prop := (w32 a1 = 40 → gI F (some o) 12 9 (fun x1 => (w32 x1 = 41 → Q 0 F) ∧ (¬ w32 x1 = 41 → Q (-1) F))) ∧ (w32 a1 = 41 → mX12_w4 116 104 101 110 F (fun x3 F2 => rcv F2 (some o) 12 (fun o6 => mX12_isWord o6 x3 F2 (fun x5 F4 => (w32 x5 = 0 → Q (-1) F4) ∧ (¬ w32 x5 = 0 → rcv F4 (some o) 12 (fun o9 => mX12_isCompared o9 F4 (fun x8 F7 => (w32 x8 = 0 → Q (-1) F7) ∧ (¬ w32 x8 = 0 → Q 42 F7)))))))) ∧ (w32 a1 = 42 → mX12_w4 101 108 115 101 F (fun x11 F10 => rcv F10 (some o) 12 (fun o14 => mX12_isWord o14 x11 F10 (fun x13 F12 => (w32 x13 = 0 → Q (-1) F12) ∧ (¬ w32 x13 = 0 → Q 43 F12))))) ∧ (w32 a1 = 43 → mX12_w3 101 110 100 F (fun x16 F15 => rcv F15 (some o) 12 (fun o19 => mX12_isWord o19 x16 F15 (fun x18 F17 => (w32 x18 = 0 → Q (-1) F17) ∧ (¬ w32 x18 = 0 → Q 0 F17))))) ∧ (w32 a1 < 40 ∨ 43 < w32 a1 → Q (-1) F)
set_option maxHeartbeats 4000000 in
theorem tX12_partOf {d : Nat} {o : Nat} {a1 : Int} {F : hp} {Q : Int → hp → Prop} (h : mX12_partOf o a1 F Q) : am nX12_partOf (d + 3) 0 0 [vr (some o), vi a1] F (qI Q) := by
  refine am_of (by decide +kernel) (Nat.le_of_ble_eq_true rfl) ?_
  show aw nX12_partOf (d + 3) 0 0 0 [some (vr (some o)), some (vi a1)] [] F (qI Q)
  unfold mX12_partOf at h
  refine aw_iload_n dX12_partOf_0 rfl rfl (aw_pc (pc' := 1) rfl ?_)
  refine aw_table dX12_partOf_1 (td := 126) rfl (fun j => [32, 47, 79, 104].getD j 0) rfl (by decide) (fun j hj hx => ?_) (fun hx => ?_)
  · have hj : j = 0 ∨ j = 1 ∨ j = 2 ∨ j = 3 := by (simp at hj; omega)
    rcases hj with rfl | rfl | rfl | rfl
    · replace h := h.1 (by omega)
      refine aw_pc (pc' := 32) rfl ?_
      refine aw_aload_n dX12_partOf_32 rfl rfl (aw_pc (pc' := 33) rfl ?_)
      refine ar_gI fl_RX12_122 dX12_partOf_33 h ?_
      clear h
      intro x1 h
      refine aw_pc (pc' := 36) rfl ?_
      refine aw_bipush dX12_partOf_36 (by decide) (aw_pc (pc' := 38) rfl ?_)
      refine ac_ne rfl wl_41 dX12_partOf_38 rfl (fun c => ?_) (fun c => ?_)
      · replace h := h.1 c
        refine aw_iconst dX12_partOf_41 (aw_pc (pc' := 42) rfl ?_)
        refine aw_goto (tgt := 46) dX12_partOf_42 rfl ?_
        exact aw_iret rfl dX12_partOf_46 ⟨_, rfl, h⟩
      · replace h := h.2 c
        refine aw_iconst dX12_partOf_45 (aw_pc (pc' := 46) rfl ?_)
        exact aw_iret rfl dX12_partOf_46 ⟨_, rfl, h⟩
    · replace h := h.2.1 (by omega)
      refine aw_pc (pc' := 47) rfl ?_
      refine aw_aload_n dX12_partOf_47 rfl rfl (aw_pc (pc' := 48) rfl ?_)
      refine aw_bipush dX12_partOf_48 (by decide) (aw_pc (pc' := 50) rfl ?_)
      refine aw_bipush dX12_partOf_50 (by decide) (aw_pc (pc' := 52) rfl ?_)
      refine aw_bipush dX12_partOf_52 (by decide) (aw_pc (pc' := 54) rfl ?_)
      refine aw_bipush dX12_partOf_54 (by decide) (aw_pc (pc' := 56) rfl ?_)
      refine ar_SL (kc' := 0) (ks' := 0) (kc := 0) (ks := 0) (as := [vi 116, vi 104, vi 101, vi 110]) (st := [vr (some o)]) (tX12_w4 h) mt_X12_w4 qM_RX12_152 qS_X12_w4 rfl (Nat.le_of_ble_eq_true rfl) dX12_partOf_56 ?_
      clear h
      intro x3 F2 h
      refine aw_pc (pc' := 59) rfl ?_
      have h0 := rcv_inv h
      clear h
      obtain ⟨o6, fs_o6, hr_o6, he_o6, h⟩ := h0
      obtain rfl : o = o6 := Option.some.inj hr_o6
      refine ar_VI (kc' := 0) (ks' := 0) (kc := 0) (ks := 0) (a := o) (ci := 12) (as := [vl x3]) (st := []) (tX12_isWord h) mt_X12_isWord rfl qM_RX12_210 qI_X12_isWord qV_X12_isWord he_o6 rfl (Nat.le_of_ble_eq_true rfl) dX12_partOf_59 ?_
      clear h
      intro x5 F4 h
      refine aw_pc (pc' := 62) rfl ?_
      refine aw_if_eq dX12_partOf_62 rfl (fun c => ?_) (fun c => ?_)
      · replace h := h.1 c
        refine aw_iconst dX12_partOf_77 (aw_pc (pc' := 78) rfl ?_)
        exact aw_iret rfl dX12_partOf_78 ⟨_, rfl, h⟩
      · replace h := h.2 c
        refine aw_aload_n dX12_partOf_65 rfl rfl (aw_pc (pc' := 66) rfl ?_)
        have h0 := rcv_inv h
        clear h
        obtain ⟨o9, fs_o9, hr_o9, he_o9, h⟩ := h0
        obtain rfl : o = o9 := Option.some.inj hr_o9
        refine ar_VI (kc' := 0) (ks' := 0) (kc := 0) (ks := 0) (a := o) (ci := 12) (as := []) (st := []) (tX12_isCompared h) mt_X12_isCompared rfl qM_RX12_218 qI_X12_isCompared qV_X12_isCompared he_o9 rfl (Nat.le_of_ble_eq_true rfl) dX12_partOf_66 ?_
        clear h
        intro x8 F7 h
        refine aw_pc (pc' := 69) rfl ?_
        refine aw_if_eq dX12_partOf_69 rfl (fun c => ?_) (fun c => ?_)
        · replace h := h.1 c
          refine aw_iconst dX12_partOf_77 (aw_pc (pc' := 78) rfl ?_)
          exact aw_iret rfl dX12_partOf_78 ⟨_, rfl, h⟩
        · replace h := h.2 c
          refine aw_bipush dX12_partOf_72 (by decide) (aw_pc (pc' := 74) rfl ?_)
          refine aw_goto (tgt := 78) dX12_partOf_74 rfl ?_
          exact aw_iret rfl dX12_partOf_78 ⟨_, rfl, h⟩
    · replace h := h.2.2.1 (by omega)
      refine aw_pc (pc' := 79) rfl ?_
      refine aw_aload_n dX12_partOf_79 rfl rfl (aw_pc (pc' := 80) rfl ?_)
      refine aw_bipush dX12_partOf_80 (by decide) (aw_pc (pc' := 82) rfl ?_)
      refine aw_bipush dX12_partOf_82 (by decide) (aw_pc (pc' := 84) rfl ?_)
      refine aw_bipush dX12_partOf_84 (by decide) (aw_pc (pc' := 86) rfl ?_)
      refine aw_bipush dX12_partOf_86 (by decide) (aw_pc (pc' := 88) rfl ?_)
      refine ar_SL (kc' := 0) (ks' := 0) (kc := 0) (ks := 0) (as := [vi 101, vi 108, vi 115, vi 101]) (st := [vr (some o)]) (tX12_w4 h) mt_X12_w4 qM_RX12_152 qS_X12_w4 rfl (Nat.le_of_ble_eq_true rfl) dX12_partOf_88 ?_
      clear h
      intro x11 F10 h
      refine aw_pc (pc' := 91) rfl ?_
      have h0 := rcv_inv h
      clear h
      obtain ⟨o14, fs_o14, hr_o14, he_o14, h⟩ := h0
      obtain rfl : o = o14 := Option.some.inj hr_o14
      refine ar_VI (kc' := 0) (ks' := 0) (kc := 0) (ks := 0) (a := o) (ci := 12) (as := [vl x11]) (st := []) (tX12_isWord h) mt_X12_isWord rfl qM_RX12_210 qI_X12_isWord qV_X12_isWord he_o14 rfl (Nat.le_of_ble_eq_true rfl) dX12_partOf_91 ?_
      clear h
      intro x13 F12 h
      refine aw_pc (pc' := 94) rfl ?_
      refine aw_if_eq dX12_partOf_94 rfl (fun c => ?_) (fun c => ?_)
      · replace h := h.1 c
        refine aw_iconst dX12_partOf_102 (aw_pc (pc' := 103) rfl ?_)
        exact aw_iret rfl dX12_partOf_103 ⟨_, rfl, h⟩
      · replace h := h.2 c
        refine aw_bipush dX12_partOf_97 (by decide) (aw_pc (pc' := 99) rfl ?_)
        refine aw_goto (tgt := 103) dX12_partOf_99 rfl ?_
        exact aw_iret rfl dX12_partOf_103 ⟨_, rfl, h⟩
    · replace h := h.2.2.2.1 (by omega)
      refine aw_pc (pc' := 104) rfl ?_
      refine aw_aload_n dX12_partOf_104 rfl rfl (aw_pc (pc' := 105) rfl ?_)
      refine aw_bipush dX12_partOf_105 (by decide) (aw_pc (pc' := 107) rfl ?_)
      refine aw_bipush dX12_partOf_107 (by decide) (aw_pc (pc' := 109) rfl ?_)
      refine aw_bipush dX12_partOf_109 (by decide) (aw_pc (pc' := 111) rfl ?_)
      refine ar_SL (kc' := 0) (ks' := 0) (kc := 0) (ks := 0) (as := [vi 101, vi 110, vi 100]) (st := [vr (some o)]) (tX12_w3 h) mt_X12_w3 qM_RX12_148 qS_X12_w3 rfl (Nat.le_of_ble_eq_true rfl) dX12_partOf_111 ?_
      clear h
      intro x16 F15 h
      refine aw_pc (pc' := 114) rfl ?_
      have h0 := rcv_inv h
      clear h
      obtain ⟨o19, fs_o19, hr_o19, he_o19, h⟩ := h0
      obtain rfl : o = o19 := Option.some.inj hr_o19
      refine ar_VI (kc' := 0) (ks' := 0) (kc := 0) (ks := 0) (a := o) (ci := 12) (as := [vl x16]) (st := []) (tX12_isWord h) mt_X12_isWord rfl qM_RX12_210 qI_X12_isWord qV_X12_isWord he_o19 rfl (Nat.le_of_ble_eq_true rfl) dX12_partOf_114 ?_
      clear h
      intro x18 F17 h
      refine aw_pc (pc' := 117) rfl ?_
      refine aw_if_eq dX12_partOf_117 rfl (fun c => ?_) (fun c => ?_)
      · replace h := h.1 c
        refine aw_iconst dX12_partOf_124 (aw_pc (pc' := 125) rfl ?_)
        exact aw_iret rfl dX12_partOf_125 ⟨_, rfl, h⟩
      · replace h := h.2 c
        refine aw_iconst dX12_partOf_120 (aw_pc (pc' := 121) rfl ?_)
        refine aw_goto (tgt := 125) dX12_partOf_121 rfl ?_
        exact aw_iret rfl dX12_partOf_125 ⟨_, rfl, h⟩
  · replace h := h.2.2.2.2 hx
    refine aw_iconst dX12_partOf_126 (aw_pc (pc' := 127) rfl ?_)
    exact aw_iret rfl dX12_partOf_127 ⟨_, rfl, h⟩
def mX12_behindOne_J139 (Q : Int → hp → Prop) (o : Nat) (F : hp) : Prop := rcv F (some o) 12 (fun o2 => mX12_settle o2 7 F (fun F1 => Q 1 F1))
set_option maxHeartbeats 4000000 in
theorem tX12_behindOne_J139 {d : Nat} {Q : Int → hp → Prop} {o : Nat} {F : hp} (h : mX12_behindOne_J139 Q o F) : aw nX12_behindOne (d + 4) 0 0 139 [some (vr (some o)), none, none, none] [] F (qI Q) := by
  unfold mX12_behindOne_J139 at h
  refine aw_aload_n dX12_behindOne_139 rfl rfl (aw_pc (pc' := 140) rfl ?_)
  refine aw_bipush dX12_behindOne_140 (by decide) (aw_pc (pc' := 142) rfl ?_)
  have h0 := rcv_inv h
  clear h
  obtain ⟨o2, fs_o2, hr_o2, he_o2, h⟩ := h0
  obtain rfl : o = o2 := Option.some.inj hr_o2
  refine ar_VV (kc' := 0) (ks' := 0) (kc := 0) (ks := 0) (a := o) (ci := 12) (as := [vi 7]) (st := []) (tX12_settle h) mt_X12_settle rfl qM_RX12_204 qI_X12_settle qV_X12_settle he_o2 rfl (Nat.le_of_ble_eq_true rfl) dX12_behindOne_142 ?_
  clear h
  intro F1 h
  refine aw_pc (pc' := 145) rfl ?_
  refine aw_iconst dX12_behindOne_145 (aw_pc (pc' := 146) rfl ?_)
  exact aw_zret rfl (by decide) dX12_behindOne_146 ⟨_, rfl, h⟩
def mX12_behindOne_J26 (Q : Int → hp → Prop) (o : Nat) (a1 : Int) (s0 : Option Nat) (s1 : Int) (F : hp) : Prop := rcv F s0 12 (fun o2 => mX12_settle o2 s1 F (fun F1 => gR F1 (some o) 12 15 (fun x3 => gI F1 (some o) 12 16 (fun x4 => sI F1 x3 0 x4 a1 (fun F5 => gI F5 (some o) 12 16 (fun x6 => pF F5 (some o) 12 16 (vi (x6 + 1)) (fun F7 => pF F7 (some o) 12 18 (vi 0) (fun F8 => rcv F8 (some o) 12 (fun o10 => mX12_nextToken o10 F8 (fun F9 => Q 1 F9))))))))))
set_option maxHeartbeats 4000000 in
theorem tX12_behindOne_J26 {d : Nat} {Q : Int → hp → Prop} {o : Nat} {a1 : Int} {s0 : Option Nat} {s1 : Int} {F : hp} (h : mX12_behindOne_J26 Q o a1 s0 s1 F) : aw nX12_behindOne (d + 4) 0 0 26 [some (vr (some o)), some (vi a1), none, none] [vi s1, vr s0] F (qI Q) := by
  unfold mX12_behindOne_J26 at h
  have h0 := rcv_inv h
  clear h
  obtain ⟨o2, fs_o2, hr_o2, he_o2, h⟩ := h0
  subst hr_o2
  refine ar_VV (kc' := 0) (ks' := 0) (kc := 0) (ks := 0) (a := o2) (ci := 12) (as := [vi s1]) (st := []) (tX12_settle h) mt_X12_settle rfl qM_RX12_204 qI_X12_settle qV_X12_settle he_o2 rfl (Nat.le_of_ble_eq_true rfl) dX12_behindOne_26 ?_
  clear h
  intro F1 h
  refine aw_pc (pc' := 29) rfl ?_
  refine aw_aload_n dX12_behindOne_29 rfl rfl (aw_pc (pc' := 30) rfl ?_)
  refine ar_gR fl_RX12_29 dX12_behindOne_30 h ?_
  clear h
  intro x3 h
  refine aw_pc (pc' := 33) rfl ?_
  refine aw_aload_n dX12_behindOne_33 rfl rfl (aw_pc (pc' := 34) rfl ?_)
  refine ar_gI fl_RX12_173 dX12_behindOne_34 h ?_
  clear h
  intro x4 h
  refine aw_pc (pc' := 37) rfl ?_
  refine aw_iload_n dX12_behindOne_37 rfl rfl (aw_pc (pc' := 38) rfl ?_)
  refine ar_sI dX12_behindOne_38 h ?_
  clear h
  intro F5 h
  refine aw_pc (pc' := 39) rfl ?_
  refine aw_aload_n dX12_behindOne_39 rfl rfl (aw_pc (pc' := 40) rfl ?_)
  refine aw_dup dX12_behindOne_40 trivial (aw_pc (pc' := 41) rfl ?_)
  refine ar_gI fl_RX12_173 dX12_behindOne_41 h ?_
  clear h
  intro x6 h
  refine aw_pc (pc' := 44) rfl ?_
  refine aw_iconst dX12_behindOne_44 (aw_pc (pc' := 45) rfl ?_)
  refine aw_iadd dX12_behindOne_45 (aw_pc (pc' := 46) rfl ?_)
  refine ar_pF fl_RX12_173 ft_X12_16 (okI _) dX12_behindOne_46 h ?_
  clear h
  intro F7 h
  refine aw_pc (pc' := 49) rfl ?_
  refine aw_aload_n dX12_behindOne_49 rfl rfl (aw_pc (pc' := 50) rfl ?_)
  refine aw_iconst dX12_behindOne_50 (aw_pc (pc' := 51) rfl ?_)
  refine ar_pF fl_RX12_201 ft_X12_18 (okZ (by decide)) dX12_behindOne_51 h ?_
  clear h
  intro F8 h
  refine aw_pc (pc' := 54) rfl ?_
  refine aw_aload_n dX12_behindOne_54 rfl rfl (aw_pc (pc' := 55) rfl ?_)
  have h0 := rcv_inv h
  clear h
  obtain ⟨o10, fs_o10, hr_o10, he_o10, h⟩ := h0
  obtain rfl : o = o10 := Option.some.inj hr_o10
  refine ar_VV (kc' := 0) (ks' := 0) (kc := 0) (ks := 0) (a := o) (ci := 12) (as := []) (st := []) (tX12_nextToken h) mt_X12_nextToken rfl qM_RX12_192 qI_X12_nextToken qV_X12_nextToken he_o10 rfl (Nat.le_of_ble_eq_true rfl) dX12_behindOne_55 ?_
  clear h
  intro F9 h
  refine aw_pc (pc' := 58) rfl ?_
  refine aw_iconst dX12_behindOne_58 (aw_pc (pc' := 59) rfl ?_)
  exact aw_zret rfl (by decide) dX12_behindOne_59 ⟨_, rfl, h⟩
def mX12_behindOne (o : Nat) (F : hp) (Q : Int → hp → Prop) : Prop := rcv F (some o) 12 (fun o3 => mX12_betweenOf o3 F (fun x2 F1 => (w32 x2 < 0 → rcv F1 (some o) 12 (fun o6 => mX12_openNow o6 F1 (fun x5 F4 => rcv F4 (some o) 12 (fun o9 => mX12_partOf o9 x5 F4 (fun x8 F7 => (w32 x8 < 0 → Q 0 F7) ∧ (¬ w32 x8 < 0 → rcv F7 (some o) 12 (fun o11 => mX12_settle o11 1 F7 (fun F10 => rcv F10 (some o) 12 (fun o13 => mX12_nextToken o13 F10 (fun F12 => (0 < w32 x8 → gR F12 (some o) 12 15 (fun x14 => rcv F12 (some o) 12 (fun o17 => mX12_openAt o17 F12 (fun x16 F15 => sI F15 x14 0 x16 x8 (fun F18 => pF F18 (some o) 12 18 (vi 0) (fun F19 => Q 1 F19)))))) ∧ (¬ 0 < w32 x8 → gI F12 (some o) 12 17 (fun x20 => pF F12 (some o) 12 17 (vi (x20 - 1)) (fun F21 => gI F21 (some o) 12 16 (fun x22 => pF F21 (some o) 12 16 (vi (x22 - 1)) (fun F23 => (w32 x5 = 43 → rcv F23 (some o) 12 (fun o25 => mX12_emit o25 3 0 F23 (fun F24 => mX12_behindOne_J139 Q o F24))) ∧ (¬ w32 x5 = 43 → mX12_behindOne_J139 Q o F23)))))))))))))))) ∧ (¬ w32 x2 < 0 → mX12_rank x2 F1 (fun x27 F26 => (w32 x27 = 4 → mX12_behindOne_J26 Q o x2 (some o) 5 F26) ∧ (¬ w32 x27 = 4 → mX12_rank x2 F26 (fun x29 F28 => mX12_behindOne_J26 Q o x2 (some o) x29 F28))))))
set_option maxHeartbeats 4000000 in
theorem tX12_behindOne {d : Nat} {o : Nat} {F : hp} {Q : Int → hp → Prop} (h : mX12_behindOne o F Q) : am nX12_behindOne (d + 4) 0 0 [vr (some o)] F (qI Q) := by
  refine am_of (by decide +kernel) (Nat.le_of_ble_eq_true rfl) ?_
  show aw nX12_behindOne (d + 4) 0 0 0 [some (vr (some o)), none, none, none] [] F (qI Q)
  unfold mX12_behindOne at h
  refine aw_aload_n dX12_behindOne_0 rfl rfl (aw_pc (pc' := 1) rfl ?_)
  have h0 := rcv_inv h
  clear h
  obtain ⟨o3, fs_o3, hr_o3, he_o3, h⟩ := h0
  obtain rfl : o = o3 := Option.some.inj hr_o3
  refine ar_VI (kc' := 0) (ks' := 0) (kc := 0) (ks := 0) (a := o) (ci := 12) (as := []) (st := []) (tX12_betweenOf h) mt_X12_betweenOf rfl qM_RX12_224 qI_X12_betweenOf qV_X12_betweenOf he_o3 rfl (Nat.le_of_ble_eq_true rfl) dX12_behindOne_1 ?_
  clear h
  intro x2 F1 h
  refine aw_pc (pc' := 4) rfl ?_
  refine aw_istore_n dX12_behindOne_4 rfl (by decide) (aw_pc (pc' := 5) rfl ?_)
  refine aw_iload_n dX12_behindOne_5 rfl rfl (aw_pc (pc' := 6) rfl ?_)
  refine aw_if_lt dX12_behindOne_6 rfl (fun c => ?_) (fun c => ?_)
  · replace h := h.1 c
    refine aw_aload_n dX12_behindOne_60 rfl rfl (aw_pc (pc' := 61) rfl ?_)
    have h0 := rcv_inv h
    clear h
    obtain ⟨o6, fs_o6, hr_o6, he_o6, h⟩ := h0
    obtain rfl : o = o6 := Option.some.inj hr_o6
    refine ar_VI (kc' := 0) (ks' := 0) (kc := 0) (ks := 0) (a := o) (ci := 12) (as := []) (st := []) (tX12_openNow h) mt_X12_openNow rfl qM_RX12_189 qI_X12_openNow qV_X12_openNow he_o6 rfl (Nat.le_of_ble_eq_true rfl) dX12_behindOne_61 ?_
    clear h
    intro x5 F4 h
    refine aw_pc (pc' := 64) rfl ?_
    refine aw_istore_n dX12_behindOne_64 rfl (by decide) (aw_pc (pc' := 65) rfl ?_)
    refine aw_aload_n dX12_behindOne_65 rfl rfl (aw_pc (pc' := 66) rfl ?_)
    refine aw_iload_n dX12_behindOne_66 rfl rfl (aw_pc (pc' := 67) rfl ?_)
    have h0 := rcv_inv h
    clear h
    obtain ⟨o9, fs_o9, hr_o9, he_o9, h⟩ := h0
    obtain rfl : o = o9 := Option.some.inj hr_o9
    refine ar_VI (kc' := 0) (ks' := 0) (kc := 0) (ks := 0) (a := o) (ci := 12) (as := [vi x5]) (st := []) (tX12_partOf h) mt_X12_partOf rfl qM_RX12_227 qI_X12_partOf qV_X12_partOf he_o9 rfl (Nat.le_of_ble_eq_true rfl) dX12_behindOne_67 ?_
    clear h
    intro x8 F7 h
    refine aw_pc (pc' := 70) rfl ?_
    refine aw_istore_n dX12_behindOne_70 rfl (by decide) (aw_pc (pc' := 71) rfl ?_)
    refine aw_iload_n dX12_behindOne_71 rfl rfl (aw_pc (pc' := 72) rfl ?_)
    refine aw_if_ge dX12_behindOne_72 rfl (fun c => ?_) (fun c => ?_)
    · replace h := h.1 c
      refine aw_iconst dX12_behindOne_75 (aw_pc (pc' := 76) rfl ?_)
      exact aw_zret rfl (by decide) dX12_behindOne_76 ⟨_, rfl, h⟩
    · replace h := h.2 c
      refine aw_aload_n dX12_behindOne_77 rfl rfl (aw_pc (pc' := 78) rfl ?_)
      refine aw_iconst dX12_behindOne_78 (aw_pc (pc' := 79) rfl ?_)
      have h0 := rcv_inv h
      clear h
      obtain ⟨o11, fs_o11, hr_o11, he_o11, h⟩ := h0
      obtain rfl : o = o11 := Option.some.inj hr_o11
      refine ar_VV (kc' := 0) (ks' := 0) (kc := 0) (ks := 0) (a := o) (ci := 12) (as := [vi 1]) (st := []) (tX12_settle h) mt_X12_settle rfl qM_RX12_204 qI_X12_settle qV_X12_settle he_o11 rfl (Nat.le_of_ble_eq_true rfl) dX12_behindOne_79 ?_
      clear h
      intro F10 h
      refine aw_pc (pc' := 82) rfl ?_
      refine aw_aload_n dX12_behindOne_82 rfl rfl (aw_pc (pc' := 83) rfl ?_)
      have h0 := rcv_inv h
      clear h
      obtain ⟨o13, fs_o13, hr_o13, he_o13, h⟩ := h0
      obtain rfl : o = o13 := Option.some.inj hr_o13
      refine ar_VV (kc' := 0) (ks' := 0) (kc := 0) (ks := 0) (a := o) (ci := 12) (as := []) (st := []) (tX12_nextToken h) mt_X12_nextToken rfl qM_RX12_192 qI_X12_nextToken qV_X12_nextToken he_o13 rfl (Nat.le_of_ble_eq_true rfl) dX12_behindOne_83 ?_
      clear h
      intro F12 h
      refine aw_pc (pc' := 86) rfl ?_
      refine aw_iload_n dX12_behindOne_86 rfl rfl (aw_pc (pc' := 87) rfl ?_)
      refine aw_if_le dX12_behindOne_87 rfl (fun c => ?_) (fun c => ?_)
      · replace h := h.1 c
        refine aw_aload_n dX12_behindOne_90 rfl rfl (aw_pc (pc' := 91) rfl ?_)
        refine ar_gR fl_RX12_29 dX12_behindOne_91 h ?_
        clear h
        intro x14 h
        refine aw_pc (pc' := 94) rfl ?_
        refine aw_aload_n dX12_behindOne_94 rfl rfl (aw_pc (pc' := 95) rfl ?_)
        have h0 := rcv_inv h
        clear h
        obtain ⟨o17, fs_o17, hr_o17, he_o17, h⟩ := h0
        obtain rfl : o = o17 := Option.some.inj hr_o17
        refine ar_VI (kc' := 0) (ks' := 0) (kc := 0) (ks := 0) (a := o) (ci := 12) (as := []) (st := [vr x14]) (tX12_openAt h) mt_X12_openAt rfl qM_RX12_185 qI_X12_openAt qV_X12_openAt he_o17 rfl (Nat.le_of_ble_eq_true rfl) dX12_behindOne_95 ?_
        clear h
        intro x16 F15 h
        refine aw_pc (pc' := 98) rfl ?_
        refine aw_iload_n dX12_behindOne_98 rfl rfl (aw_pc (pc' := 99) rfl ?_)
        refine ar_sI dX12_behindOne_99 h ?_
        clear h
        intro F18 h
        refine aw_pc (pc' := 100) rfl ?_
        refine aw_aload_n dX12_behindOne_100 rfl rfl (aw_pc (pc' := 101) rfl ?_)
        refine aw_iconst dX12_behindOne_101 (aw_pc (pc' := 102) rfl ?_)
        refine ar_pF fl_RX12_201 ft_X12_18 (okZ (by decide)) dX12_behindOne_102 h ?_
        clear h
        intro F19 h
        refine aw_pc (pc' := 105) rfl ?_
        refine aw_iconst dX12_behindOne_105 (aw_pc (pc' := 106) rfl ?_)
        exact aw_zret rfl (by decide) dX12_behindOne_106 ⟨_, rfl, h⟩
      · replace h := h.2 c
        refine aw_aload_n dX12_behindOne_107 rfl rfl (aw_pc (pc' := 108) rfl ?_)
        refine aw_dup dX12_behindOne_108 trivial (aw_pc (pc' := 109) rfl ?_)
        refine ar_gI fl_RX12_182 dX12_behindOne_109 h ?_
        clear h
        intro x20 h
        refine aw_pc (pc' := 112) rfl ?_
        refine aw_iconst dX12_behindOne_112 (aw_pc (pc' := 113) rfl ?_)
        refine aw_isub dX12_behindOne_113 (aw_pc (pc' := 114) rfl ?_)
        refine ar_pF fl_RX12_182 ft_X12_17 (okI _) dX12_behindOne_114 h ?_
        clear h
        intro F21 h
        refine aw_pc (pc' := 117) rfl ?_
        refine aw_aload_n dX12_behindOne_117 rfl rfl (aw_pc (pc' := 118) rfl ?_)
        refine aw_dup dX12_behindOne_118 trivial (aw_pc (pc' := 119) rfl ?_)
        refine ar_gI fl_RX12_173 dX12_behindOne_119 h ?_
        clear h
        intro x22 h
        refine aw_pc (pc' := 122) rfl ?_
        refine aw_iconst dX12_behindOne_122 (aw_pc (pc' := 123) rfl ?_)
        refine aw_isub dX12_behindOne_123 (aw_pc (pc' := 124) rfl ?_)
        refine ar_pF fl_RX12_173 ft_X12_16 (okI _) dX12_behindOne_124 h ?_
        clear h
        intro F23 h
        refine aw_pc (pc' := 127) rfl ?_
        refine aw_iload_n dX12_behindOne_127 rfl rfl (aw_pc (pc' := 128) rfl ?_)
        refine aw_bipush dX12_behindOne_128 (by decide) (aw_pc (pc' := 130) rfl ?_)
        refine ac_ne rfl wl_43 dX12_behindOne_130 rfl (fun c => ?_) (fun c => ?_)
        · replace h := h.1 c
          refine aw_aload_n dX12_behindOne_133 rfl rfl (aw_pc (pc' := 134) rfl ?_)
          refine aw_iconst dX12_behindOne_134 (aw_pc (pc' := 135) rfl ?_)
          refine aw_iconst dX12_behindOne_135 (aw_pc (pc' := 136) rfl ?_)
          have h0 := rcv_inv h
          clear h
          obtain ⟨o25, fs_o25, hr_o25, he_o25, h⟩ := h0
          obtain rfl : o = o25 := Option.some.inj hr_o25
          refine ar_VV (kc' := 0) (ks' := 0) (kc := 0) (ks := 0) (a := o) (ci := 12) (as := [vi 3, vi 0]) (st := []) (tX12_emit h) mt_X12_emit rfl qM_RX12_179 qI_X12_emit qV_X12_emit he_o25 rfl (Nat.le_of_ble_eq_true rfl) dX12_behindOne_136 ?_
          clear h
          intro F24 h
          refine aw_pc (pc' := 139) rfl ?_
          exact aw_mask [true, false, false, false] (tX12_behindOne_J139 h)
        · replace h := h.2 c
          exact aw_mask [true, false, false, false] (tX12_behindOne_J139 h)
  · replace h := h.2 c
    refine aw_aload_n dX12_behindOne_9 rfl rfl (aw_pc (pc' := 10) rfl ?_)
    refine aw_iload_n dX12_behindOne_10 rfl rfl (aw_pc (pc' := 11) rfl ?_)
    refine ar_SI (kc' := 0) (ks' := 0) (kc := 0) (ks := 0) (as := [vi x2]) (st := [vr (some o)]) (tX12_rank h) mt_X12_rank qM_RX12_176 qS_X12_rank rfl (Nat.le_of_ble_eq_true rfl) dX12_behindOne_11 ?_
    clear h
    intro x27 F26 h
    refine aw_pc (pc' := 14) rfl ?_
    refine aw_iconst dX12_behindOne_14 (aw_pc (pc' := 15) rfl ?_)
    refine ac_ne rfl wl_4 dX12_behindOne_15 rfl (fun c => ?_) (fun c => ?_)
    · replace h := h.1 c
      refine aw_iconst dX12_behindOne_18 (aw_pc (pc' := 19) rfl ?_)
      refine aw_goto (tgt := 26) dX12_behindOne_19 rfl ?_
      exact aw_mask [true, true, false, false] (tX12_behindOne_J26 h)
    · replace h := h.2 c
      refine aw_iload_n dX12_behindOne_22 rfl rfl (aw_pc (pc' := 23) rfl ?_)
      refine ar_SI (kc' := 0) (ks' := 0) (kc := 0) (ks := 0) (as := [vi x2]) (st := [vr (some o)]) (tX12_rank h) mt_X12_rank qM_RX12_176 qS_X12_rank rfl (Nat.le_of_ble_eq_true rfl) dX12_behindOne_23 ?_
      clear h
      intro x29 F28 h
      refine aw_pc (pc' := 26) rfl ?_
      exact aw_mask [true, true, false, false] (tX12_behindOne_J26 h)
def mX12_summed_L15 (Q : Int → hp → Prop) : Nat → Nat → hp → Prop
  | 0, _, _ => False
  | k + 1, o, F => gI F (some o) 12 18 (fun x1 => (w32 x1 = 0 → rcv F (some o) 12 (fun o4 => mX12_beginOne o4 F (fun x3 F2 => (w32 x3 = 0 → mX12_summed_L15 Q k o F2) ∧ (¬ w32 x3 = 0 → Q x3 F2)))) ∧ (¬ w32 x1 = 0 → rcv F (some o) 12 (fun o7 => mX12_behindOne o7 F (fun x6 F5 => (w32 x6 = 0 → rcv F5 (some o) 12 (fun o10 => mX12_openNow o10 F5 (fun x9 F8 => (w32 x9 < 0 → rcv F8 (some o) 12 (fun o12 => mX12_settle o12 1 F8 (fun F11 => Q 0 F11))) ∧ (¬ w32 x9 < 0 → Q 1 F8)))) ∧ (¬ w32 x6 = 0 → mX12_summed_L15 Q k o F5)))))
set_option maxHeartbeats 4000000 in
theorem tX12_summed_L15 {d : Nat} {Q : Int → hp → Prop} : ∀ (k : Nat) (o : Nat) (F : hp), mX12_summed_L15 Q k o F → aw nX12_summed (d + 7) 0 0 15 [some (vr (some o)), none] [] F (qI Q) := by
  intro k
  induction k with
  | zero => intro o F h; exact h.elim
  | succ k ih =>
    intro o F h
    simp only [mX12_summed_L15] at h
    refine aw_aload_n dX12_summed_15 rfl rfl (aw_pc (pc' := 16) rfl ?_)
    refine ar_gI fl_RX12_201 dX12_summed_16 h ?_
    clear h
    intro x1 h
    refine aw_pc (pc' := 19) rfl ?_
    refine aw_if_eq dX12_summed_19 rfl (fun c => ?_) (fun c => ?_)
    · replace h := h.1 c
      refine aw_aload_n dX12_summed_48 rfl rfl (aw_pc (pc' := 49) rfl ?_)
      have h0 := rcv_inv h
      clear h
      obtain ⟨o4, fs_o4, hr_o4, he_o4, h⟩ := h0
      obtain rfl : o = o4 := Option.some.inj hr_o4
      refine ar_VI (kc' := 0) (ks' := 0) (kc := 0) (ks := 0) (a := o) (ci := 12) (as := []) (st := []) (tX12_beginOne h) mt_X12_beginOne rfl qM_RX12_233 qI_X12_beginOne qV_X12_beginOne he_o4 rfl (Nat.le_of_ble_eq_true rfl) dX12_summed_49 ?_
      clear h
      intro x3 F2 h
      refine aw_pc (pc' := 52) rfl ?_
      refine aw_istore_n dX12_summed_52 rfl (by decide) (aw_pc (pc' := 53) rfl ?_)
      refine aw_iload_n dX12_summed_53 rfl rfl (aw_pc (pc' := 54) rfl ?_)
      refine aw_if_eq dX12_summed_54 rfl (fun c => ?_) (fun c => ?_)
      · replace h := h.1 c
        refine aw_goto (tgt := 15) dX12_summed_59 rfl ?_
        exact aw_mask [true, false] (ih _ _ h)
      · replace h := h.2 c
        refine aw_iload_n dX12_summed_57 rfl rfl (aw_pc (pc' := 58) rfl ?_)
        exact aw_iret rfl dX12_summed_58 ⟨_, rfl, h⟩
    · replace h := h.2 c
      refine aw_aload_n dX12_summed_22 rfl rfl (aw_pc (pc' := 23) rfl ?_)
      have h0 := rcv_inv h
      clear h
      obtain ⟨o7, fs_o7, hr_o7, he_o7, h⟩ := h0
      obtain rfl : o = o7 := Option.some.inj hr_o7
      refine ar_VI (kc' := 0) (ks' := 0) (kc := 0) (ks := 0) (a := o) (ci := 12) (as := []) (st := []) (tX12_behindOne h) mt_X12_behindOne rfl qM_RX12_230 qI_X12_behindOne qV_X12_behindOne he_o7 rfl (Nat.le_of_ble_eq_true rfl) dX12_summed_23 ?_
      clear h
      intro x6 F5 h
      refine aw_pc (pc' := 26) rfl ?_
      refine aw_if_eq dX12_summed_26 rfl (fun c => ?_) (fun c => ?_)
      · replace h := h.1 c
        refine aw_aload_n dX12_summed_32 rfl rfl (aw_pc (pc' := 33) rfl ?_)
        have h0 := rcv_inv h
        clear h
        obtain ⟨o10, fs_o10, hr_o10, he_o10, h⟩ := h0
        obtain rfl : o = o10 := Option.some.inj hr_o10
        refine ar_VI (kc' := 0) (ks' := 0) (kc := 0) (ks := 0) (a := o) (ci := 12) (as := []) (st := []) (tX12_openNow h) mt_X12_openNow rfl qM_RX12_189 qI_X12_openNow qV_X12_openNow he_o10 rfl (Nat.le_of_ble_eq_true rfl) dX12_summed_33 ?_
        clear h
        intro x9 F8 h
        refine aw_pc (pc' := 36) rfl ?_
        refine aw_if_lt dX12_summed_36 rfl (fun c => ?_) (fun c => ?_)
        · replace h := h.1 c
          refine aw_aload_n dX12_summed_41 rfl rfl (aw_pc (pc' := 42) rfl ?_)
          refine aw_iconst dX12_summed_42 (aw_pc (pc' := 43) rfl ?_)
          have h0 := rcv_inv h
          clear h
          obtain ⟨o12, fs_o12, hr_o12, he_o12, h⟩ := h0
          obtain rfl : o = o12 := Option.some.inj hr_o12
          refine ar_VV (kc' := 0) (ks' := 0) (kc := 0) (ks := 0) (a := o) (ci := 12) (as := [vi 1]) (st := []) (tX12_settle h) mt_X12_settle rfl qM_RX12_204 qI_X12_settle qV_X12_settle he_o12 rfl (Nat.le_of_ble_eq_true rfl) dX12_summed_43 ?_
          clear h
          intro F11 h
          refine aw_pc (pc' := 46) rfl ?_
          refine aw_iconst dX12_summed_46 (aw_pc (pc' := 47) rfl ?_)
          exact aw_iret rfl dX12_summed_47 ⟨_, rfl, h⟩
        · replace h := h.2 c
          refine aw_iconst dX12_summed_39 (aw_pc (pc' := 40) rfl ?_)
          exact aw_iret rfl dX12_summed_40 ⟨_, rfl, h⟩
      · replace h := h.2 c
        refine aw_goto (tgt := 15) dX12_summed_29 rfl ?_
        exact aw_mask [true, false] (ih _ _ h)
def mX12_summed (o : Nat) (F : hp) (Q : Int → hp → Prop) : Prop := pF F (some o) 12 16 (vi 0) (fun F1 => pF F1 (some o) 12 17 (vi 0) (fun F2 => pF F2 (some o) 12 18 (vi 0) (fun F3 => (∃ k4, mX12_summed_L15 Q k4 o F3))))
set_option maxHeartbeats 4000000 in
theorem tX12_summed {d : Nat} {o : Nat} {F : hp} {Q : Int → hp → Prop} (h : mX12_summed o F Q) : am nX12_summed (d + 7) 0 0 [vr (some o)] F (qI Q) := by
  refine am_of (by decide +kernel) (Nat.le_of_ble_eq_true rfl) ?_
  show aw nX12_summed (d + 7) 0 0 0 [some (vr (some o)), none] [] F (qI Q)
  unfold mX12_summed at h
  refine aw_aload_n dX12_summed_0 rfl rfl (aw_pc (pc' := 1) rfl ?_)
  refine aw_iconst dX12_summed_1 (aw_pc (pc' := 2) rfl ?_)
  refine ar_pF fl_RX12_173 ft_X12_16 (okI _) dX12_summed_2 h ?_
  clear h
  intro F1 h
  refine aw_pc (pc' := 5) rfl ?_
  refine aw_aload_n dX12_summed_5 rfl rfl (aw_pc (pc' := 6) rfl ?_)
  refine aw_iconst dX12_summed_6 (aw_pc (pc' := 7) rfl ?_)
  refine ar_pF fl_RX12_182 ft_X12_17 (okI _) dX12_summed_7 h ?_
  clear h
  intro F2 h
  refine aw_pc (pc' := 10) rfl ?_
  refine aw_aload_n dX12_summed_10 rfl rfl (aw_pc (pc' := 11) rfl ?_)
  refine aw_iconst dX12_summed_11 (aw_pc (pc' := 12) rfl ?_)
  refine ar_pF fl_RX12_201 ft_X12_18 (okZ (by decide)) dX12_summed_12 h ?_
  clear h
  intro F3 h
  refine aw_pc (pc' := 15) rfl ?_
  obtain ⟨k4, h⟩ := h
  exact aw_mask [true, false] (tX12_summed_L15 k4 _ _ h)
def mX12_figure (o : Nat) (a1 : Int) (a2 : Int) (a3 : Int) (F : hp) (Q : Int → hp → Prop) : Prop := gI F (some o) 12 9 (fun x1 => (w32 x1 = 1 → gI F (some o) 12 10 (fun x2 => mX12_isIn x2 a2 a3 F (fun x4 F3 => (w32 x4 = 0 → Q 2 F3) ∧ (¬ w32 x4 = 0 → gR F3 (some o) 12 2 (fun x5 => gI F3 (some o) 12 10 (fun x6 => sI F3 x5 0 a1 x6 (fun F7 => rcv F7 (some o) 12 (fun o9 => mX12_nextToken o9 F7 (fun F8 => Q 0 F8))))))))) ∧ (¬ w32 x1 = 1 → Q 1 F))
set_option maxHeartbeats 4000000 in
theorem tX12_figure {d : Nat} {o : Nat} {a1 : Int} {a2 : Int} {a3 : Int} {F : hp} {Q : Int → hp → Prop} (h : mX12_figure o a1 a2 a3 F Q) : am nX12_figure (d + 2) 0 0 [vr (some o), vi a1, vi a2, vi a3] F (qI Q) := by
  refine am_of (by decide +kernel) (Nat.le_of_ble_eq_true rfl) ?_
  show aw nX12_figure (d + 2) 0 0 0 [some (vr (some o)), some (vi a1), some (vi a2), some (vi a3)] [] F (qI Q)
  unfold mX12_figure at h
  refine aw_aload_n dX12_figure_0 rfl rfl (aw_pc (pc' := 1) rfl ?_)
  refine ar_gI fl_RX12_122 dX12_figure_1 h ?_
  clear h
  intro x1 h
  refine aw_pc (pc' := 4) rfl ?_
  refine aw_iconst dX12_figure_4 (aw_pc (pc' := 5) rfl ?_)
  refine ac_eq rfl wl_1 dX12_figure_5 rfl (fun c => ?_) (fun c => ?_)
  · replace h := h.1 c
    refine aw_aload_n dX12_figure_10 rfl rfl (aw_pc (pc' := 11) rfl ?_)
    refine ar_gI fl_RX12_128 dX12_figure_11 h ?_
    clear h
    intro x2 h
    refine aw_pc (pc' := 14) rfl ?_
    refine aw_iload_n dX12_figure_14 rfl rfl (aw_pc (pc' := 15) rfl ?_)
    refine aw_iload_n dX12_figure_15 rfl rfl (aw_pc (pc' := 16) rfl ?_)
    refine ar_SI (kc' := 0) (ks' := 0) (kc := 0) (ks := 0) (as := [vi x2, vi a2, vi a3]) (st := []) (tX12_isIn h) mt_X12_isIn qM_RX12_78 qS_X12_isIn rfl (Nat.le_of_ble_eq_true rfl) dX12_figure_16 ?_
    clear h
    intro x4 F3 h
    refine aw_pc (pc' := 19) rfl ?_
    refine aw_if_ne dX12_figure_19 rfl (fun c => ?_) (fun c => ?_)
    · replace h := h.1 c
      refine aw_iconst dX12_figure_22 (aw_pc (pc' := 23) rfl ?_)
      exact aw_iret rfl dX12_figure_23 ⟨_, rfl, h⟩
    · replace h := h.2 c
      refine aw_aload_n dX12_figure_24 rfl rfl (aw_pc (pc' := 25) rfl ?_)
      refine ar_gR fl_RX12_16 dX12_figure_25 h ?_
      clear h
      intro x5 h
      refine aw_pc (pc' := 28) rfl ?_
      refine aw_iload_n dX12_figure_28 rfl rfl (aw_pc (pc' := 29) rfl ?_)
      refine aw_aload_n dX12_figure_29 rfl rfl (aw_pc (pc' := 30) rfl ?_)
      refine ar_gI fl_RX12_128 dX12_figure_30 h ?_
      clear h
      intro x6 h
      refine aw_pc (pc' := 33) rfl ?_
      refine ar_sI dX12_figure_33 h ?_
      clear h
      intro F7 h
      refine aw_pc (pc' := 34) rfl ?_
      refine aw_aload_n dX12_figure_34 rfl rfl (aw_pc (pc' := 35) rfl ?_)
      have h0 := rcv_inv h
      clear h
      obtain ⟨o9, fs_o9, hr_o9, he_o9, h⟩ := h0
      obtain rfl : o = o9 := Option.some.inj hr_o9
      refine ar_VV (kc' := 0) (ks' := 0) (kc := 0) (ks := 0) (a := o) (ci := 12) (as := []) (st := []) (tX12_nextToken h) mt_X12_nextToken rfl qM_RX12_192 qI_X12_nextToken qV_X12_nextToken he_o9 rfl (Nat.le_of_ble_eq_true rfl) dX12_figure_35 ?_
      clear h
      intro F8 h
      refine aw_pc (pc' := 38) rfl ?_
      refine aw_iconst dX12_figure_38 (aw_pc (pc' := 39) rfl ?_)
      exact aw_iret rfl dX12_figure_39 ⟨_, rfl, h⟩
  · replace h := h.2 c
    refine aw_iconst dX12_figure_8 (aw_pc (pc' := 9) rfl ?_)
    exact aw_iret rfl dX12_figure_9 ⟨_, rfl, h⟩
