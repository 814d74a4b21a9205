def mX2_init (o : Nat) (F : hp) (Q : hp → Prop) : Prop := nwc F (cA 1 300 (fun _ => 0)) (fun n1 F2 => pF F2 (some o) 2 0 (vr (some n1)) (fun F3 => nwc F3 (cA 0 301 (fun _ => 0)) (fun n4 F5 => pF F5 (some o) 2 1 (vr (some n4)) (fun F6 => nwc F6 (cA 0 301 (fun _ => 0)) (fun n7 F8 => pF F8 (some o) 2 2 (vr (some n7)) (fun F9 => nwc F9 (cA 0 300 (fun _ => 0)) (fun n10 F11 => pF F11 (some o) 2 3 (vr (some n10)) (fun F12 => nwc F12 (cA 0 72 (fun _ => 0)) (fun n13 F14 => pF F14 (some o) 2 4 (vr (some n13)) (fun F15 => nwc F15 (cA 0 4 (fun _ => 0)) (fun n16 F17 => pF F17 (some o) 2 5 (vr (some n16)) (fun F18 => pF F18 (some o) 2 7 (vi (-1)) (fun F19 => pF F19 (some o) 2 8 (vi (-1)) (fun F20 => Q F20))))))))))))))
set_option maxHeartbeats 4000000 in
theorem tX2_init {d : Nat} {o : Nat} {F : hp} {Q : hp → Prop} (h : mX2_init o F Q) : am nX2_init (d + 1) 6 1278 [vr (some o)] F (qV Q) := by
  refine am_of (by decide +kernel) (Nat.le_of_ble_eq_true rfl) ?_
  show aw nX2_init (d + 1) 6 1278 0 [some (vr (some o))] [] F (qV Q)
  unfold mX2_init at h
  refine aw_aload_n dX2_init_0 rfl rfl (aw_pc (pc' := 1) rfl ?_)
  refine aw_obj qM_RX2_3 mw_obj (Nat.le_of_ble_eq_true rfl) dX2_init_1 (aw_pc (pc' := 4) rfl ?_)
  refine aw_aload_n dX2_init_4 rfl rfl (aw_pc (pc' := 5) rfl ?_)
  refine aw_sipush dX2_init_5 (by decide) (aw_pc (pc' := 8) rfl ?_)
  refine ar_newarr (k := 1) (kc := 5) (ks := 978) (ms := 300) (Or.inr (Or.inl rfl)) rfl qY_byte (by decide) dX2_init_8 h ?_
  clear h
  intro n1 F2 h
  refine aw_pc (pc' := 10) rfl ?_
  refine ar_pFF fl_RX2_9 ft_X2_0 rfl rfl (okA _ _) dX2_init_10 h ?_
  clear h
  intro F3 h
  refine aw_pc (pc' := 13) rfl ?_
  refine aw_aload_n dX2_init_13 rfl rfl (aw_pc (pc' := 14) rfl ?_)
  refine aw_sipush dX2_init_14 (by decide) (aw_pc (pc' := 17) rfl ?_)
  refine ar_newarr (k := 0) (kc := 4) (ks := 677) (ms := 301) (Or.inl rfl) rfl qY_int (by decide) dX2_init_17 h ?_
  clear h
  intro n4 F5 h
  refine aw_pc (pc' := 19) rfl ?_
  refine ar_pFF fl_RX2_15 ft_X2_1 rfl rfl (okA _ _) dX2_init_19 h ?_
  clear h
  intro F6 h
  refine aw_pc (pc' := 22) rfl ?_
  refine aw_aload_n dX2_init_22 rfl rfl (aw_pc (pc' := 23) rfl ?_)
  refine aw_sipush dX2_init_23 (by decide) (aw_pc (pc' := 26) rfl ?_)
  refine ar_newarr (k := 0) (kc := 3) (ks := 376) (ms := 301) (Or.inl rfl) rfl qY_int (by decide) dX2_init_26 h ?_
  clear h
  intro n7 F8 h
  refine aw_pc (pc' := 28) rfl ?_
  refine ar_pFF fl_RX2_19 ft_X2_2 rfl rfl (okA _ _) dX2_init_28 h ?_
  clear h
  intro F9 h
  refine aw_pc (pc' := 31) rfl ?_
  refine aw_aload_n dX2_init_31 rfl rfl (aw_pc (pc' := 32) rfl ?_)
  refine aw_sipush dX2_init_32 (by decide) (aw_pc (pc' := 35) rfl ?_)
  refine ar_newarr (k := 0) (kc := 2) (ks := 76) (ms := 300) (Or.inl rfl) rfl qY_int (by decide) dX2_init_35 h ?_
  clear h
  intro n10 F11 h
  refine aw_pc (pc' := 37) rfl ?_
  refine ar_pFF fl_RX2_22 ft_X2_3 rfl rfl (okA _ _) dX2_init_37 h ?_
  clear h
  intro F12 h
  refine aw_pc (pc' := 40) rfl ?_
  refine aw_aload_n dX2_init_40 rfl rfl (aw_pc (pc' := 41) rfl ?_)
  refine aw_bipush dX2_init_41 (by decide) (aw_pc (pc' := 43) rfl ?_)
  refine ar_newarr (k := 0) (kc := 1) (ks := 4) (ms := 72) (Or.inl rfl) rfl qY_int (by decide) dX2_init_43 h ?_
  clear h
  intro n13 F14 h
  refine aw_pc (pc' := 45) rfl ?_
  refine ar_pFF fl_RX2_25 ft_X2_4 rfl rfl (okA _ _) dX2_init_45 h ?_
  clear h
  intro F15 h
  refine aw_pc (pc' := 48) rfl ?_
  refine aw_aload_n dX2_init_48 rfl rfl (aw_pc (pc' := 49) rfl ?_)
  refine aw_iconst dX2_init_49 (aw_pc (pc' := 50) rfl ?_)
  refine ar_newarr (k := 0) (kc := 0) (ks := 0) (ms := 4) (Or.inl rfl) rfl qY_int (by decide) dX2_init_50 h ?_
  clear h
  intro n16 F17 h
  refine aw_pc (pc' := 52) rfl ?_
  refine ar_pFF fl_RX2_28 ft_X2_5 rfl rfl (okA _ _) dX2_init_52 h ?_
  clear h
  intro F18 h
  refine aw_pc (pc' := 55) rfl ?_
  refine aw_aload_n dX2_init_55 rfl rfl (aw_pc (pc' := 56) rfl ?_)
  refine aw_iconst dX2_init_56 (aw_pc (pc' := 57) rfl ?_)
  refine ar_pF fl_RX2_31 ft_X2_7 (okI _) dX2_init_57 h ?_
  clear h
  intro F19 h
  refine aw_pc (pc' := 60) rfl ?_
  refine aw_aload_n dX2_init_60 rfl rfl (aw_pc (pc' := 61) rfl ?_)
  refine aw_iconst dX2_init_61 (aw_pc (pc' := 62) rfl ?_)
  refine ar_pF fl_RX2_35 ft_X2_8 (okI _) dX2_init_62 h ?_
  clear h
  intro F20 h
  refine aw_pc (pc' := 65) rfl ?_
  exact aw_vret rfl dX2_init_65 ⟨rfl, h⟩
def mX2_takeFour_L3 (Q : hp → Prop) : Nat → Nat → Int → Int → hp → Prop
  | 0, _, _, _, _ => False
  | k + 1, o, a1, a2, F => (w32 a2 < 0 → Q F) ∧ (¬ w32 a2 < 0 → gI F (some o) 2 6 (fun x1 => (w32 x1 < 300 → gR F (some o) 2 0 (fun x2 => gI F (some o) 2 6 (fun x3 => sI F x2 1 x3 (iB (iB (iShr a1 a2))) (fun F4 => gI F4 (some o) 2 6 (fun x5 => pF F4 (some o) 2 6 (vi (x5 + 1)) (fun F6 => mX2_takeFour_L3 Q k o a1 (a2 + (-8)) F6)))))) ∧ (¬ w32 x1 < 300 → Q F)))
set_option maxHeartbeats 4000000 in
theorem tX2_takeFour_L3 {d : Nat} {Q : hp → Prop} : ∀ (k : Nat) (o : Nat) (a1 : Int) (a2 : Int) (F : hp), mX2_takeFour_L3 Q k o a1 a2 F → aw nX2_takeFour d 0 0 3 [some (vr (some o)), some (vi a1), some (vi a2)] [] F (qV Q) := by
  intro k
  induction k with
  | zero => intro o a1 a2 F h; exact h.elim
  | succ k ih =>
    intro o a1 a2 F h
    simp only [mX2_takeFour_L3] at h
    refine aw_iload_n dX2_takeFour_3 rfl rfl (aw_pc (pc' := 4) rfl ?_)
    refine aw_if_lt dX2_takeFour_4 rfl (fun c => ?_) (fun c => ?_)
    · replace h := h.1 c
      exact aw_vret rfl dX2_takeFour_46 ⟨rfl, h⟩
    · replace h := h.2 c
      refine aw_aload_n dX2_takeFour_7 rfl rfl (aw_pc (pc' := 8) rfl ?_)
      refine ar_gI fl_RX2_38 dX2_takeFour_8 h ?_
      clear h
      intro x1 h
      refine aw_pc (pc' := 11) rfl ?_
      refine aw_sipush dX2_takeFour_11 (by decide) (aw_pc (pc' := 14) rfl ?_)
      refine ac_ge rfl wl_300 dX2_takeFour_14 rfl (fun c => ?_) (fun c => ?_)
      · replace h := h.1 c
        refine aw_aload_n dX2_takeFour_17 rfl rfl (aw_pc (pc' := 18) rfl ?_)
        refine ar_gR fl_RX2_9 dX2_takeFour_18 h ?_
        clear h
        intro x2 h
        refine aw_pc (pc' := 21) rfl ?_
        refine aw_aload_n dX2_takeFour_21 rfl rfl (aw_pc (pc' := 22) rfl ?_)
        refine ar_gI fl_RX2_38 dX2_takeFour_22 h ?_
        clear h
        intro x3 h
        refine aw_pc (pc' := 25) rfl ?_
        refine aw_iload_n dX2_takeFour_25 rfl rfl (aw_pc (pc' := 26) rfl ?_)
        refine aw_iload_n dX2_takeFour_26 rfl rfl (aw_pc (pc' := 27) rfl ?_)
        refine aw_ishr dX2_takeFour_27 (aw_pc (pc' := 28) rfl ?_)
        refine aw_i2b dX2_takeFour_28 (aw_pc (pc' := 29) rfl ?_)
        refine ar_sB dX2_takeFour_29 h ?_
        clear h
        intro F4 h
        refine aw_pc (pc' := 30) rfl ?_
        refine aw_aload_n dX2_takeFour_30 rfl rfl (aw_pc (pc' := 31) rfl ?_)
        refine aw_dup dX2_takeFour_31 trivial (aw_pc (pc' := 32) rfl ?_)
        refine ar_gI fl_RX2_38 dX2_takeFour_32 h ?_
        clear h
        intro x5 h
        refine aw_pc (pc' := 35) rfl ?_
        refine aw_iconst dX2_takeFour_35 (aw_pc (pc' := 36) rfl ?_)
        refine aw_iadd dX2_takeFour_36 (aw_pc (pc' := 37) rfl ?_)
        refine ar_pF fl_RX2_38 ft_X2_6 (okI _) dX2_takeFour_37 h ?_
        clear h
        intro F6 h
        refine aw_pc (pc' := 40) rfl ?_
        refine aw_iinc dX2_takeFour_40 rfl (by decide) (aw_pc (pc' := 43) rfl ?_)
        refine aw_goto (tgt := 3) dX2_takeFour_43 rfl ?_
        exact aw_mask [true, true, true] (ih _ _ _ _ h)
      · replace h := h.2 c
        exact aw_vret rfl dX2_takeFour_46 ⟨rfl, h⟩
def mX2_takeFour (o : Nat) (a1 : Int) (F : hp) (Q : hp → Prop) : Prop := (∃ k1, mX2_takeFour_L3 Q k1 o a1 24 F)
set_option maxHeartbeats 4000000 in
theorem tX2_takeFour {d : Nat} {o : Nat} {a1 : Int} {F : hp} {Q : hp → Prop} (h : mX2_takeFour o a1 F Q) : am nX2_takeFour d 0 0 [vr (some o), vi a1] F (qV Q) := by
  refine am_of (by decide +kernel) (Nat.le_of_ble_eq_true rfl) ?_
  show aw nX2_takeFour d 0 0 0 [some (vr (some o)), some (vi a1), none] [] F (qV Q)
  unfold mX2_takeFour at h
  refine aw_bipush dX2_takeFour_0 (by decide) (aw_pc (pc' := 2) rfl ?_)
  refine aw_istore_n dX2_takeFour_2 rfl (by decide) (aw_pc (pc' := 3) rfl ?_)
  obtain ⟨k1, h⟩ := h
  exact aw_mask [true, true, true] (tX2_takeFour_L3 k1 _ _ _ _ h)
def mX2_isLetter_J22 (Q : Int → hp → Prop) (F : hp) : Prop := Q 1 F
set_option maxHeartbeats 4000000 in
theorem tX2_isLetter_J22 {d : Nat} {Q : Int → hp → Prop} {F : hp} (h : mX2_isLetter_J22 Q F) : aw nX2_isLetter (d + 1) 0 0 22 [none] [] F (qI Q) := by
  unfold mX2_isLetter_J22 at h
  refine aw_iconst dX2_isLetter_22 (aw_pc (pc' := 23) rfl ?_)
  refine aw_goto (tgt := 27) dX2_isLetter_23 rfl ?_
  exact aw_zret rfl (by decide) dX2_isLetter_27 ⟨_, rfl, h⟩
def mX2_isLetter (a0 : Int) (F : hp) (Q : Int → hp → Prop) : Prop := mX11_within a0 97 122 F (fun x2 F1 => (w32 x2 = 0 → mX11_within a0 65 90 F1 (fun x4 F3 => (w32 x4 = 0 → Q 0 F3) ∧ (¬ w32 x4 = 0 → mX2_isLetter_J22 Q F3))) ∧ (¬ w32 x2 = 0 → mX2_isLetter_J22 Q F1))
set_option maxHeartbeats 4000000 in
theorem tX2_isLetter {d : Nat} {a0 : Int} {F : hp} {Q : Int → hp → Prop} (h : mX2_isLetter a0 F Q) : am nX2_isLetter (d + 1) 0 0 [vi a0] F (qI Q) := by
  refine am_of (by decide +kernel) (Nat.le_of_ble_eq_true rfl) ?_
  show aw nX2_isLetter (d + 1) 0 0 0 [some (vi a0)] [] F (qI Q)
  unfold mX2_isLetter at h
  refine aw_iload_n dX2_isLetter_0 rfl rfl (aw_pc (pc' := 1) rfl ?_)
  refine aw_bipush dX2_isLetter_1 (by decide) (aw_pc (pc' := 3) rfl ?_)
  refine aw_bipush dX2_isLetter_3 (by decide) (aw_pc (pc' := 5) rfl ?_)
  refine ar_SNI (kc' := 0) (ks' := 0) (kc := 0) (ks := 0) (as := [vi a0, vi 97, vi 122]) (st := []) (tX11_within h) mt_X11_within qN_RX2_114 qS_X11_within rfl (Nat.le_of_ble_eq_true rfl) dX2_isLetter_5 ?_
  clear h
  intro x2 F1 h
  refine aw_pc (pc' := 8) rfl ?_
  refine aw_if_ne dX2_isLetter_8 rfl (fun c => ?_) (fun c => ?_)
  · replace h := h.1 c
    refine aw_iload_n dX2_isLetter_11 rfl rfl (aw_pc (pc' := 12) rfl ?_)
    refine aw_bipush dX2_isLetter_12 (by decide) (aw_pc (pc' := 14) rfl ?_)
    refine aw_bipush dX2_isLetter_14 (by decide) (aw_pc (pc' := 16) rfl ?_)
    refine ar_SNI (kc' := 0) (ks' := 0) (kc := 0) (ks := 0) (as := [vi a0, vi 65, vi 90]) (st := []) (tX11_within h) mt_X11_within qN_RX2_114 qS_X11_within rfl (Nat.le_of_ble_eq_true rfl) dX2_isLetter_16 ?_
    clear h
    intro x4 F3 h
    refine aw_pc (pc' := 19) rfl ?_
    refine aw_if_eq dX2_isLetter_19 rfl (fun c => ?_) (fun c => ?_)
    · replace h := h.1 c
      refine aw_iconst dX2_isLetter_26 (aw_pc (pc' := 27) rfl ?_)
      exact aw_zret rfl (by decide) dX2_isLetter_27 ⟨_, rfl, h⟩
    · replace h := h.2 c
      exact aw_mask [false] (tX2_isLetter_J22 h)
  · replace h := h.2 c
    exact aw_mask [false] (tX2_isLetter_J22 h)
def mX2_behindWord_L2 (Q : Int → hp → Prop) : Nat → Nat → Int → hp → Prop
  | 0, _, _, _ => False
  | k + 1, o, a2, F => gI F (some o) 2 6 (fun x1 => (w32 a2 < w32 x1 → gR F (some o) 2 0 (fun x2 => aI F x2 1 a2 (fun x3 => mX2_isLetter x3 F (fun x5 F4 => (w32 x5 = 0 → Q a2 F4) ∧ (¬ w32 x5 = 0 → mX2_behindWord_L2 Q k o (a2 + 1) F4))))) ∧ (¬ w32 a2 < w32 x1 → Q a2 F))
set_option maxHeartbeats 4000000 in
theorem tX2_behindWord_L2 {d : Nat} {Q : Int → hp → Prop} : ∀ (k : Nat) (o : Nat) (a2 : Int) (F : hp), mX2_behindWord_L2 Q k o a2 F → aw nX2_behindWord (d + 2) 0 0 2 [some (vr (some o)), none, some (vi a2)] [] F (qI Q) := by
  intro k
  induction k with
  | zero => intro o a2 F h; exact h.elim
  | succ k ih =>
    intro o a2 F h
    simp only [mX2_behindWord_L2] at h
    refine aw_iload_n dX2_behindWord_2 rfl rfl (aw_pc (pc' := 3) rfl ?_)
    refine aw_aload_n dX2_behindWord_3 rfl rfl (aw_pc (pc' := 4) rfl ?_)
    refine ar_gI fl_RX2_38 dX2_behindWord_4 h ?_
    clear h
    intro x1 h
    refine aw_pc (pc' := 7) rfl ?_
    refine ac_ge rfl rfl dX2_behindWord_7 rfl (fun c => ?_) (fun c => ?_)
    · replace h := h.1 c
      refine aw_aload_n dX2_behindWord_10 rfl rfl (aw_pc (pc' := 11) rfl ?_)
      refine ar_gR fl_RX2_9 dX2_behindWord_11 h ?_
      clear h
      intro x2 h
      refine aw_pc (pc' := 14) rfl ?_
      refine aw_iload_n dX2_behindWord_14 rfl rfl (aw_pc (pc' := 15) rfl ?_)
      refine ar_aB dX2_behindWord_15 h ?_
      clear h
      intro x3 h
      refine aw_pc (pc' := 16) rfl ?_
      refine ar_SI (kc' := 0) (ks' := 0) (kc := 0) (ks := 0) (as := [vi x3]) (st := []) (tX2_isLetter h) mt_X2_isLetter qM_RX2_82 qS_X2_isLetter rfl (Nat.le_of_ble_eq_true rfl) dX2_behindWord_16 ?_
      clear h
      intro x5 F4 h
      refine aw_pc (pc' := 19) rfl ?_
      refine aw_if_eq dX2_behindWord_19 rfl (fun c => ?_) (fun c => ?_)
      · replace h := h.1 c
        refine aw_iload_n dX2_behindWord_28 rfl rfl (aw_pc (pc' := 29) rfl ?_)
        exact aw_iret rfl dX2_behindWord_29 ⟨_, rfl, h⟩
      · replace h := h.2 c
        refine aw_iinc dX2_behindWord_22 rfl (by decide) (aw_pc (pc' := 25) rfl ?_)
        refine aw_goto (tgt := 2) dX2_behindWord_25 rfl ?_
        exact aw_mask [true, false, true] (ih _ _ _ h)
    · replace h := h.2 c
      refine aw_iload_n dX2_behindWord_28 rfl rfl (aw_pc (pc' := 29) rfl ?_)
      exact aw_iret rfl dX2_behindWord_29 ⟨_, rfl, h⟩
def mX2_behindWord (o : Nat) (a1 : Int) (F : hp) (Q : Int → hp → Prop) : Prop := (∃ k1, mX2_behindWord_L2 Q k1 o a1 F)
set_option maxHeartbeats 4000000 in
theorem tX2_behindWord {d : Nat} {o : Nat} {a1 : Int} {F : hp} {Q : Int → hp → Prop} (h : mX2_behindWord o a1 F Q) : am nX2_behindWord (d + 2) 0 0 [vr (some o), vi a1] F (qI Q) := by
  refine am_of (by decide +kernel) (Nat.le_of_ble_eq_true rfl) ?_
  show aw nX2_behindWord (d + 2) 0 0 0 [some (vr (some o)), some (vi a1), none] [] F (qI Q)
  unfold mX2_behindWord at h
  refine aw_iload_n dX2_behindWord_0 rfl rfl (aw_pc (pc' := 1) rfl ?_)
  refine aw_istore_n dX2_behindWord_1 rfl (by decide) (aw_pc (pc' := 2) rfl ?_)
  obtain ⟨k1, h⟩ := h
  exact aw_mask [true, false, true] (tX2_behindWord_L2 k1 _ _ _ h)
def mX2_wordAt_J95 (X11 : Nat → Int → Int → Int → Int → Int → Int → hp → Prop) (Q : Int → hp → Prop) (o : Nat) (a1 : Int) (a2 : Int) (a3 : Int) (a4 : Int) (a5 : Int) (a6 : Int) (F : hp) : Prop := X11 o a1 a2 a3 a4 a5 (a6 + 1) F
set_option maxHeartbeats 4000000 in
theorem tX2_wordAt_J95 {d : Nat} {X11 : Nat → Int → Int → Int → Int → Int → Int → hp → Prop} {Q : Int → hp → Prop} (hX11 : ∀ (o : Nat) (a1 : Int) (a2 : Int) (a3 : Int) (a4 : Int) (a5 : Int) (a6 : Int) (F : hp), X11 o a1 a2 a3 a4 a5 a6 F → aw nX2_wordAt (d + 4) 0 0 11 [some (vr (some o)), some (vi a1), some (vi a2), some (vi a3), some (vi a4), some (vi a5), some (vi a6), none] [] F (qI Q)) {o : Nat} {a1 : Int} {a2 : Int} {a3 : Int} {a4 : Int} {a5 : Int} {a6 : Int} {F : hp} (h : mX2_wordAt_J95 X11 Q o a1 a2 a3 a4 a5 a6 F) : aw nX2_wordAt (d + 4) 0 0 95 [some (vr (some o)), some (vi a1), some (vi a2), some (vi a3), some (vi a4), some (vi a5), some (vi a6), none] [] F (qI Q) := by
  unfold mX2_wordAt_J95 at h
  refine aw_iinc dX2_wordAt_95 rfl (by decide) (aw_pc (pc' := 98) rfl ?_)
  refine aw_goto (tgt := 11) dX2_wordAt_98 rfl ?_
  exact aw_mask [true, true, true, true, true, true, true, false] (hX11 _ _ _ _ _ _ _ _ h)
def mX2_wordAt_J86 (X11 : Nat → Int → Int → Int → Int → Int → Int → hp → Prop) (Q : Int → hp → Prop) (o : Nat) (a1 : Int) (a2 : Int) (a3 : Int) (a6 : Int) (F : hp) : Prop := mX2_wordAt_J95 X11 Q o a1 a2 (a3 + 1) a1 1 a6 F
set_option maxHeartbeats 4000000 in
theorem tX2_wordAt_J86 {d : Nat} {X11 : Nat → Int → Int → Int → Int → Int → Int → hp → Prop} {Q : Int → hp → Prop} (hX11 : ∀ (o : Nat) (a1 : Int) (a2 : Int) (a3 : Int) (a4 : Int) (a5 : Int) (a6 : Int) (F : hp), X11 o a1 a2 a3 a4 a5 a6 F → aw nX2_wordAt (d + 4) 0 0 11 [some (vr (some o)), some (vi a1), some (vi a2), some (vi a3), some (vi a4), some (vi a5), some (vi a6), none] [] F (qI Q)) {o : Nat} {a1 : Int} {a2 : Int} {a3 : Int} {a6 : Int} {F : hp} (h : mX2_wordAt_J86 X11 Q o a1 a2 a3 a6 F) : aw nX2_wordAt (d + 4) 0 0 86 [some (vr (some o)), some (vi a1), some (vi a2), some (vi a3), none, none, some (vi a6), none] [] F (qI Q) := by
  unfold mX2_wordAt_J86 at h
  refine aw_iinc dX2_wordAt_86 rfl (by decide) (aw_pc (pc' := 89) rfl ?_)
  refine aw_iload_n dX2_wordAt_89 rfl rfl (aw_pc (pc' := 90) rfl ?_)
  refine aw_istore dX2_wordAt_90 (by decide) (aw_pc (pc' := 92) rfl ?_)
  refine aw_iconst dX2_wordAt_92 (aw_pc (pc' := 93) rfl ?_)
  refine aw_istore dX2_wordAt_93 (by decide) (aw_pc (pc' := 95) rfl ?_)
  exact aw_mask [true, true, true, true, true, true, true, false] (tX2_wordAt_J95 hX11 h)
def mX2_wordAt_J65 (X11 : Nat → Int → Int → Int → Int → Int → Int → hp → Prop) (Q : Int → hp → Prop) (o : Nat) (a1 : Int) (a2 : Int) (a3 : Int) (a4 : Int) (a6 : Int) (s0 : Int) (F : hp) : Prop := mX2_wordAt_J95 X11 Q o a1 a2 a3 (a4 + 1) s0 a6 F
set_option maxHeartbeats 4000000 in
theorem tX2_wordAt_J65 {d : Nat} {X11 : Nat → Int → Int → Int → Int → Int → Int → hp → Prop} {Q : Int → hp → Prop} (hX11 : ∀ (o : Nat) (a1 : Int) (a2 : Int) (a3 : Int) (a4 : Int) (a5 : Int) (a6 : Int) (F : hp), X11 o a1 a2 a3 a4 a5 a6 F → aw nX2_wordAt (d + 4) 0 0 11 [some (vr (some o)), some (vi a1), some (vi a2), some (vi a3), some (vi a4), some (vi a5), some (vi a6), none] [] F (qI Q)) {o : Nat} {a1 : Int} {a2 : Int} {a3 : Int} {a4 : Int} {a6 : Int} {s0 : Int} {F : hp} (h : mX2_wordAt_J65 X11 Q o a1 a2 a3 a4 a6 s0 F) : aw nX2_wordAt (d + 4) 0 0 65 [some (vr (some o)), some (vi a1), some (vi a2), some (vi a3), some (vi a4), none, some (vi a6), none] [vi s0] F (qI Q) := by
  unfold mX2_wordAt_J65 at h
  refine aw_istore dX2_wordAt_65 (by decide) (aw_pc (pc' := 67) rfl ?_)
  refine aw_iinc dX2_wordAt_67 rfl (by decide) (aw_pc (pc' := 70) rfl ?_)
  refine aw_goto (tgt := 95) dX2_wordAt_70 rfl ?_
  exact aw_mask [true, true, true, true, true, true, true, false] (tX2_wordAt_J95 hX11 h)
def mX2_wordAt_J64 (X11 : Nat → Int → Int → Int → Int → Int → Int → hp → Prop) (Q : Int → hp → Prop) (o : Nat) (a1 : Int) (a2 : Int) (a3 : Int) (a4 : Int) (a6 : Int) (F : hp) : Prop := mX2_wordAt_J65 X11 Q o a1 a2 a3 a4 a6 0 F
set_option maxHeartbeats 4000000 in
theorem tX2_wordAt_J64 {d : Nat} {X11 : Nat → Int → Int → Int → Int → Int → Int → hp → Prop} {Q : Int → hp → Prop} (hX11 : ∀ (o : Nat) (a1 : Int) (a2 : Int) (a3 : Int) (a4 : Int) (a5 : Int) (a6 : Int) (F : hp), X11 o a1 a2 a3 a4 a5 a6 F → aw nX2_wordAt (d + 4) 0 0 11 [some (vr (some o)), some (vi a1), some (vi a2), some (vi a3), some (vi a4), some (vi a5), some (vi a6), none] [] F (qI Q)) {o : Nat} {a1 : Int} {a2 : Int} {a3 : Int} {a4 : Int} {a6 : Int} {F : hp} (h : mX2_wordAt_J64 X11 Q o a1 a2 a3 a4 a6 F) : aw nX2_wordAt (d + 4) 0 0 64 [some (vr (some o)), some (vi a1), some (vi a2), some (vi a3), some (vi a4), none, some (vi a6), none] [] F (qI Q) := by
  unfold mX2_wordAt_J64 at h
  refine aw_iconst dX2_wordAt_64 (aw_pc (pc' := 65) rfl ?_)
  exact aw_mask [true, true, true, true, true, false, true, false] (tX2_wordAt_J65 hX11 h)
def mX2_wordAt_L11 (Q : Int → hp → Prop) : Nat → Nat → Int → Int → Int → Int → Int → Int → hp → Prop
  | 0, _, _, _, _, _, _, _, _ => False
  | k + 1, o, a1, a2, a3, a4, a5, a6, F => rcS (some 1) (fun o3 => mJ0_length_8abf5 o3 F (fun x2 F1 => (w32 a6 < w32 x2 → rcS (some 1) (fun o6 => mJ0_charAt_5068e o6 a6 F1 (fun x5 F4 => (w32 x5 = 32 → (w32 a5 = 0 → mX2_wordAt_J86 (fun o' a1' a2' a3' a4' a5' a6' F' => mX2_wordAt_L11 Q k o' a1' a2' a3' a4' a5' a6' F') Q o a1 a2 a3 a6 F4) ∧ (¬ w32 a5 = 0 → (w32 a4 = w32 a2 → Q a3 F4) ∧ (¬ w32 a4 = w32 a2 → mX2_wordAt_J86 (fun o' a1' a2' a3' a4' a5' a6' F' => mX2_wordAt_L11 Q k o' a1' a2' a3' a4' a5' a6' F') Q o a1 a2 a3 a6 F4))) ∧ (¬ w32 x5 = 32 → (w32 a5 = 0 → mX2_wordAt_J64 (fun o' a1' a2' a3' a4' a5' a6' F' => mX2_wordAt_L11 Q k o' a1' a2' a3' a4' a5' a6' F') Q o a1 a2 a3 a4 a6 F4) ∧ (¬ w32 a5 = 0 → (w32 a4 < w32 a2 → gR F4 (some o) 2 0 (fun x7 => aI F4 x7 1 a4 (fun x8 => (w32 x8 = w32 x5 → mX2_wordAt_J65 (fun o' a1' a2' a3' a4' a5' a6' F' => mX2_wordAt_L11 Q k o' a1' a2' a3' a4' a5' a6' F') Q o a1 a2 a3 a4 a6 1 F4) ∧ (¬ w32 x8 = w32 x5 → mX2_wordAt_J64 (fun o' a1' a2' a3' a4' a5' a6' F' => mX2_wordAt_L11 Q k o' a1' a2' a3' a4' a5' a6' F') Q o a1 a2 a3 a4 a6 F4)))) ∧ (¬ w32 a4 < w32 a2 → mX2_wordAt_J64 (fun o' a1' a2' a3' a4' a5' a6' F' => mX2_wordAt_L11 Q k o' a1' a2' a3' a4' a5' a6' F') Q o a1 a2 a3 a4 a6 F4)))))) ∧ (¬ w32 a6 < w32 x2 → Q 45 F1)))
set_option maxHeartbeats 4000000 in
theorem tX2_wordAt_L11 {d : Nat} {Q : Int → hp → Prop} : ∀ (k : Nat) (o : Nat) (a1 : Int) (a2 : Int) (a3 : Int) (a4 : Int) (a5 : Int) (a6 : Int) (F : hp), mX2_wordAt_L11 Q k o a1 a2 a3 a4 a5 a6 F → aw nX2_wordAt (d + 4) 0 0 11 [some (vr (some o)), some (vi a1), some (vi a2), some (vi a3), some (vi a4), some (vi a5), some (vi a6), none] [] F (qI Q) := by
  intro k
  induction k with
  | zero => intro o a1 a2 a3 a4 a5 a6 F h; exact h.elim
  | succ k ih =>
    intro o a1 a2 a3 a4 a5 a6 F h
    simp only [mX2_wordAt_L11] at h
    refine aw_iload dX2_wordAt_11 rfl (aw_pc (pc' := 13) rfl ?_)
    refine aw_ldcS rfl (Or.inl rfl) dX2_wordAt_13 (aw_pc (pc' := 15) rfl ?_)
    show awx _ _ _ _ _ _ _ (vr (some 1) :: _) _ _
    have h0 := h
    clear h
    obtain ⟨o3, hr_o3, he_o3, h⟩ := h0
    obtain rfl : 1 = o3 := Option.some.inj hr_o3
    refine ar_TI (kc' := 0) (ks' := 0) (kc := 0) (ks := 0) (a := 1) (as := []) (st := [vi a6]) (tJ0_length_8abf5 h) he_o3 mt_J0_length_8abf5 rfl qM_RX2_120 qI_J0_length_8abf5 qV_J0_length_8abf5 rfl (Nat.le_of_ble_eq_true rfl) dX2_wordAt_15 ?_
    clear h
    intro x2 F1 h
    refine aw_pc (pc' := 18) rfl ?_
    refine ac_ge rfl rfl dX2_wordAt_18 rfl (fun c => ?_) (fun c => ?_)
    · replace h := h.1 c
      refine aw_ldcS rfl (Or.inl rfl) dX2_wordAt_21 (aw_pc (pc' := 23) rfl ?_)
      show awx _ _ _ _ _ _ _ (vr (some 1) :: _) _ _
      refine aw_iload dX2_wordAt_23 rfl (aw_pc (pc' := 25) rfl ?_)
      have h0 := h
      clear h
      obtain ⟨o6, hr_o6, he_o6, h⟩ := h0
      obtain rfl : 1 = o6 := Option.some.inj hr_o6
      refine ar_TI (kc' := 0) (ks' := 0) (kc := 0) (ks := 0) (a := 1) (as := [vi a6]) (st := []) (tJ0_charAt_5068e h) he_o6 mt_J0_charAt_5068e rfl qM_RX2_125 qI_J0_charAt_5068e qV_J0_charAt_5068e rfl (Nat.le_of_ble_eq_true rfl) dX2_wordAt_25 ?_
      clear h
      intro x5 F4 h
      refine aw_pc (pc' := 28) rfl ?_
      refine aw_istore dX2_wordAt_28 (by decide) (aw_pc (pc' := 30) rfl ?_)
      refine aw_iload dX2_wordAt_30 rfl (aw_pc (pc' := 32) rfl ?_)
      refine aw_bipush dX2_wordAt_32 (by decide) (aw_pc (pc' := 34) rfl ?_)
      refine ac_eq rfl wl_32 dX2_wordAt_34 rfl (fun c => ?_) (fun c => ?_)
      · replace h := h.1 c
        refine aw_iload dX2_wordAt_73 rfl (aw_pc (pc' := 75) rfl ?_)
        refine aw_if_eq dX2_wordAt_75 rfl (fun c => ?_) (fun c => ?_)
        · replace h := h.1 c
          exact aw_mask [true, true, true, true, false, false, true, false] (tX2_wordAt_J86 (fun o' a1' a2' a3' a4' a5' a6' F' h' => ih o' a1' a2' a3' a4' a5' a6' F' h') h)
        · replace h := h.2 c
          refine aw_iload dX2_wordAt_78 rfl (aw_pc (pc' := 80) rfl ?_)
          refine aw_iload_n dX2_wordAt_80 rfl rfl (aw_pc (pc' := 81) rfl ?_)
          refine ac_ne rfl rfl dX2_wordAt_81 rfl (fun c => ?_) (fun c => ?_)
          · replace h := h.1 c
            refine aw_iload_n dX2_wordAt_84 rfl rfl (aw_pc (pc' := 85) rfl ?_)
            exact aw_iret rfl dX2_wordAt_85 ⟨_, rfl, h⟩
          · replace h := h.2 c
            exact aw_mask [true, true, true, true, false, false, true, false] (tX2_wordAt_J86 (fun o' a1' a2' a3' a4' a5' a6' F' h' => ih o' a1' a2' a3' a4' a5' a6' F' h') h)
      · replace h := h.2 c
        refine aw_iload dX2_wordAt_37 rfl (aw_pc (pc' := 39) rfl ?_)
        refine aw_if_eq dX2_wordAt_39 rfl (fun c => ?_) (fun c => ?_)
        · replace h := h.1 c
          exact aw_mask [true, true, true, true, true, false, true, false] (tX2_wordAt_J64 (fun o' a1' a2' a3' a4' a5' a6' F' h' => ih o' a1' a2' a3' a4' a5' a6' F' h') h)
        · replace h := h.2 c
          refine aw_iload dX2_wordAt_42 rfl (aw_pc (pc' := 44) rfl ?_)
          refine aw_iload_n dX2_wordAt_44 rfl rfl (aw_pc (pc' := 45) rfl ?_)
          refine ac_ge rfl rfl dX2_wordAt_45 rfl (fun c => ?_) (fun c => ?_)
          · replace h := h.1 c
            refine aw_aload_n dX2_wordAt_48 rfl rfl (aw_pc (pc' := 49) rfl ?_)
            refine ar_gR fl_RX2_9 dX2_wordAt_49 h ?_
            clear h
            intro x7 h
            refine aw_pc (pc' := 52) rfl ?_
            refine aw_iload dX2_wordAt_52 rfl (aw_pc (pc' := 54) rfl ?_)
            refine ar_aB dX2_wordAt_54 h ?_
            clear h
            intro x8 h
            refine aw_pc (pc' := 55) rfl ?_
            refine aw_iload dX2_wordAt_55 rfl (aw_pc (pc' := 57) rfl ?_)
            refine ac_ne rfl rfl dX2_wordAt_57 rfl (fun c => ?_) (fun c => ?_)
            · replace h := h.1 c
              refine aw_iconst dX2_wordAt_60 (aw_pc (pc' := 61) rfl ?_)
              refine aw_goto (tgt := 65) dX2_wordAt_61 rfl ?_
              exact aw_mask [true, true, true, true, true, false, true, false] (tX2_wordAt_J65 (fun o' a1' a2' a3' a4' a5' a6' F' h' => ih o' a1' a2' a3' a4' a5' a6' F' h') h)
            · replace h := h.2 c
              exact aw_mask [true, true, true, true, true, false, true, false] (tX2_wordAt_J64 (fun o' a1' a2' a3' a4' a5' a6' F' h' => ih o' a1' a2' a3' a4' a5' a6' F' h') h)
          · replace h := h.2 c
            exact aw_mask [true, true, true, true, true, false, true, false] (tX2_wordAt_J64 (fun o' a1' a2' a3' a4' a5' a6' F' h' => ih o' a1' a2' a3' a4' a5' a6' F' h') h)
    · replace h := h.2 c
      refine aw_bipush dX2_wordAt_101 (by decide) (aw_pc (pc' := 103) rfl ?_)
      exact aw_iret rfl dX2_wordAt_103 ⟨_, rfl, h⟩
def mX2_wordAt (o : Nat) (a1 : Int) (a2 : Int) (F : hp) (Q : Int → hp → Prop) : Prop := (∃ k1, mX2_wordAt_L11 Q k1 o a1 a2 0 a1 1 0 F)
set_option maxHeartbeats 4000000 in
theorem tX2_wordAt {d : Nat} {o : Nat} {a1 : Int} {a2 : Int} {F : hp} {Q : Int → hp → Prop} (h : mX2_wordAt o a1 a2 F Q) : am nX2_wordAt (d + 4) 0 0 [vr (some o), vi a1, vi a2] F (qI Q) := by
  refine am_of (by decide +kernel) (Nat.le_of_ble_eq_true rfl) ?_
  show aw nX2_wordAt (d + 4) 0 0 0 [some (vr (some o)), some (vi a1), some (vi a2), none, none, none, none, none] [] F (qI Q)
  unfold mX2_wordAt at h
  refine aw_iconst dX2_wordAt_0 (aw_pc (pc' := 1) rfl ?_)
  refine aw_istore_n dX2_wordAt_1 rfl (by decide) (aw_pc (pc' := 2) rfl ?_)
  refine aw_iload_n dX2_wordAt_2 rfl rfl (aw_pc (pc' := 3) rfl ?_)
  refine aw_istore dX2_wordAt_3 (by decide) (aw_pc (pc' := 5) rfl ?_)
  refine aw_iconst dX2_wordAt_5 (aw_pc (pc' := 6) rfl ?_)
  refine aw_istore dX2_wordAt_6 (by decide) (aw_pc (pc' := 8) rfl ?_)
  refine aw_iconst dX2_wordAt_8 (aw_pc (pc' := 9) rfl ?_)
  refine aw_istore dX2_wordAt_9 (by decide) (aw_pc (pc' := 11) rfl ?_)
  obtain ⟨k1, h⟩ := h
  exact aw_mask [true, true, true, true, true, true, true, false] (tX2_wordAt_L11 k1 _ _ _ _ _ _ _ _ h)
def mX2_isDigit (a0 : Int) (F : hp) (Q : Int → hp → Prop) : Prop := mX11_within a0 48 57 F (fun x2 F1 => (((x2 : Int) = 0 ∨ (x2 : Int) = 1) ∧ Q x2 F1))
set_option maxHeartbeats 4000000 in
theorem tX2_isDigit {d : Nat} {a0 : Int} {F : hp} {Q : Int → hp → Prop} (h : mX2_isDigit a0 F Q) : am nX2_isDigit (d + 1) 0 0 [vi a0] F (qI Q) := by
  refine am_of (by decide +kernel) (Nat.le_of_ble_eq_true rfl) ?_
  show aw nX2_isDigit (d + 1) 0 0 0 [some (vi a0)] [] F (qI Q)
  unfold mX2_isDigit at h
  refine aw_iload_n dX2_isDigit_0 rfl rfl (aw_pc (pc' := 1) rfl ?_)
  refine aw_bipush dX2_isDigit_1 (by decide) (aw_pc (pc' := 3) rfl ?_)
  refine aw_bipush dX2_isDigit_3 (by decide) (aw_pc (pc' := 5) rfl ?_)
  refine ar_SNI (kc' := 0) (ks' := 0) (kc := 0) (ks := 0) (as := [vi a0, vi 48, vi 57]) (st := []) (tX11_within h) mt_X11_within qN_RX2_114 qS_X11_within rfl (Nat.le_of_ble_eq_true rfl) dX2_isDigit_5 ?_
  clear h
  intro x2 F1 h
  refine aw_pc (pc' := 8) rfl ?_
  exact aw_zret rfl (nz h.1) dX2_isDigit_8 ⟨_, rfl, h.2⟩
def mX2_behindNumber_L2 (Q : Int → hp → Prop) : Nat → Nat → Int → hp → Prop
  | 0, _, _, _ => False
  | k + 1, o, a2, F => gI F (some o) 2 6 (fun x1 => (w32 a2 < w32 x1 → gR F (some o) 2 0 (fun x2 => aI F x2 1 a2 (fun x3 => mX2_isDigit x3 F (fun x5 F4 => (w32 x5 = 0 → Q a2 F4) ∧ (¬ w32 x5 = 0 → mX2_behindNumber_L2 Q k o (a2 + 1) F4))))) ∧ (¬ w32 a2 < w32 x1 → Q a2 F))
set_option maxHeartbeats 4000000 in
theorem tX2_behindNumber_L2 {d : Nat} {Q : Int → hp → Prop} : ∀ (k : Nat) (o : Nat) (a2 : Int) (F : hp), mX2_behindNumber_L2 Q k o a2 F → aw nX2_behindNumber (d + 2) 0 0 2 [some (vr (some o)), none, some (vi a2)] [] F (qI Q) := by
  intro k
  induction k with
  | zero => intro o a2 F h; exact h.elim
  | succ k ih =>
    intro o a2 F h
    simp only [mX2_behindNumber_L2] at h
    refine aw_iload_n dX2_behindNumber_2 rfl rfl (aw_pc (pc' := 3) rfl ?_)
    refine aw_aload_n dX2_behindNumber_3 rfl rfl (aw_pc (pc' := 4) rfl ?_)
    refine ar_gI fl_RX2_38 dX2_behindNumber_4 h ?_
    clear h
    intro x1 h
    refine aw_pc (pc' := 7) rfl ?_
    refine ac_ge rfl rfl dX2_behindNumber_7 rfl (fun c => ?_) (fun c => ?_)
    · replace h := h.1 c
      refine aw_aload_n dX2_behindNumber_10 rfl rfl (aw_pc (pc' := 11) rfl ?_)
      refine ar_gR fl_RX2_9 dX2_behindNumber_11 h ?_
      clear h
      intro x2 h
      refine aw_pc (pc' := 14) rfl ?_
      refine aw_iload_n dX2_behindNumber_14 rfl rfl (aw_pc (pc' := 15) rfl ?_)
      refine ar_aB dX2_behindNumber_15 h ?_
      clear h
      intro x3 h
      refine aw_pc (pc' := 16) rfl ?_
      refine ar_SI (kc' := 0) (ks' := 0) (kc := 0) (ks := 0) (as := [vi x3]) (st := []) (tX2_isDigit h) mt_X2_isDigit qM_RX2_94 qS_X2_isDigit rfl (Nat.le_of_ble_eq_true rfl) dX2_behindNumber_16 ?_
      clear h
      intro x5 F4 h
      refine aw_pc (pc' := 19) rfl ?_
      refine aw_if_eq dX2_behindNumber_19 rfl (fun c => ?_) (fun c => ?_)
      · replace h := h.1 c
        refine aw_iload_n dX2_behindNumber_28 rfl rfl (aw_pc (pc' := 29) rfl ?_)
        exact aw_iret rfl dX2_behindNumber_29 ⟨_, rfl, h⟩
      · replace h := h.2 c
        refine aw_iinc dX2_behindNumber_22 rfl (by decide) (aw_pc (pc' := 25) rfl ?_)
        refine aw_goto (tgt := 2) dX2_behindNumber_25 rfl ?_
        exact aw_mask [true, false, true] (ih _ _ _ h)
    · replace h := h.2 c
      refine aw_iload_n dX2_behindNumber_28 rfl rfl (aw_pc (pc' := 29) rfl ?_)
      exact aw_iret rfl dX2_behindNumber_29 ⟨_, rfl, h⟩
def mX2_behindNumber (o : Nat) (a1 : Int) (F : hp) (Q : Int → hp → Prop) : Prop := (∃ k1, mX2_behindNumber_L2 Q k1 o a1 F)
set_option maxHeartbeats 4000000 in
theorem tX2_behindNumber {d : Nat} {o : Nat} {a1 : Int} {F : hp} {Q : Int → hp → Prop} (h : mX2_behindNumber o a1 F Q) : am nX2_behindNumber (d + 2) 0 0 [vr (some o), vi a1] F (qI Q) := by
  refine am_of (by decide +kernel) (Nat.le_of_ble_eq_true rfl) ?_
  show aw nX2_behindNumber (d + 2) 0 0 0 [some (vr (some o)), some (vi a1), none] [] F (qI Q)
  unfold mX2_behindNumber at h
  refine aw_iload_n dX2_behindNumber_0 rfl rfl (aw_pc (pc' := 1) rfl ?_)
  refine aw_istore_n dX2_behindNumber_1 rfl (by decide) (aw_pc (pc' := 2) rfl ?_)
  obtain ⟨k1, h⟩ := h
  exact aw_mask [true, false, true] (tX2_behindNumber_L2 k1 _ _ _ h)
def mX2_numberAt_L5 (Q : Int → hp → Prop) : Nat → Nat → Int → Int → Int → hp → Prop
  | 0, _, _, _, _, _ => False
  | k + 1, o, a2, a3, a4, F => (w32 a4 < w32 a2 → gR F (some o) 2 0 (fun x1 => aI F x1 1 a4 (fun x2 => ∀ v3 : Int, v3 = (iMin 10000 (((a3 * 10) + x2) - 48)) → mX2_numberAt_L5 Q k o a2 v3 (a4 + 1) F))) ∧ (¬ w32 a4 < w32 a2 → Q a3 F)
set_option maxHeartbeats 4000000 in
theorem tX2_numberAt_L5 {d : Nat} {Q : Int → hp → Prop} : ∀ (k : Nat) (o : Nat) (a2 : Int) (a3 : Int) (a4 : Int) (F : hp), mX2_numberAt_L5 Q k o a2 a3 a4 F → aw nX2_numberAt (d + 1) 0 0 5 [some (vr (some o)), none, some (vi a2), some (vi a3), some (vi a4)] [] F (qI Q) := by
  intro k
  induction k with
  | zero => intro o a2 a3 a4 F h; exact h.elim
  | succ k ih =>
    intro o a2 a3 a4 F h
    simp only [mX2_numberAt_L5] at h
    refine aw_iload dX2_numberAt_5 rfl (aw_pc (pc' := 7) rfl ?_)
    refine aw_iload_n dX2_numberAt_7 rfl rfl (aw_pc (pc' := 8) rfl ?_)
    refine ac_ge rfl rfl dX2_numberAt_8 rfl (fun c => ?_) (fun c => ?_)
    · replace h := h.1 c
      refine aw_sipush dX2_numberAt_11 (by decide) (aw_pc (pc' := 14) rfl ?_)
      refine aw_iload_n dX2_numberAt_14 rfl rfl (aw_pc (pc' := 15) rfl ?_)
      refine aw_bipush dX2_numberAt_15 (by decide) (aw_pc (pc' := 17) rfl ?_)
      refine aw_imul dX2_numberAt_17 (aw_pc (pc' := 18) rfl ?_)
      refine aw_aload_n dX2_numberAt_18 rfl rfl (aw_pc (pc' := 19) rfl ?_)
      refine ar_gR fl_RX2_9 dX2_numberAt_19 h ?_
      clear h
      intro x1 h
      refine aw_pc (pc' := 22) rfl ?_
      refine aw_iload dX2_numberAt_22 rfl (aw_pc (pc' := 24) rfl ?_)
      refine ar_aB dX2_numberAt_24 h ?_
      clear h
      intro x2 h
      refine aw_pc (pc' := 25) rfl ?_
      refine aw_iadd dX2_numberAt_25 (aw_pc (pc' := 26) rfl ?_)
      refine aw_bipush dX2_numberAt_26 (by decide) (aw_pc (pc' := 28) rfl ?_)
      refine aw_isub dX2_numberAt_28 (aw_pc (pc' := 29) rfl ?_)
      refine aw_min qM_RX2_129 mw_min (Nat.le_of_ble_eq_true rfl) dX2_numberAt_29 (aw_pc (pc' := 32) rfl ?_)
      generalize hv_v3 : (iMin 10000 (((a3 * 10) + x2) - 48)) = v3
      replace h := h v3 hv_v3.symm
      refine aw_istore_n dX2_numberAt_32 rfl (by decide) (aw_pc (pc' := 33) rfl ?_)
      refine aw_iinc dX2_numberAt_33 rfl (by decide) (aw_pc (pc' := 36) rfl ?_)
      refine aw_goto (tgt := 5) dX2_numberAt_36 rfl ?_
      exact aw_mask [true, false, true, true, true] (ih _ _ _ _ _ h)
    · replace h := h.2 c
      refine aw_iload_n dX2_numberAt_39 rfl rfl (aw_pc (pc' := 40) rfl ?_)
      exact aw_iret rfl dX2_numberAt_40 ⟨_, rfl, h⟩
def mX2_numberAt (o : Nat) (a1 : Int) (a2 : Int) (F : hp) (Q : Int → hp → Prop) : Prop := (∃ k1, mX2_numberAt_L5 Q k1 o a2 0 a1 F)
set_option maxHeartbeats 4000000 in
theorem tX2_numberAt {d : Nat} {o : Nat} {a1 : Int} {a2 : Int} {F : hp} {Q : Int → hp → Prop} (h : mX2_numberAt o a1 a2 F Q) : am nX2_numberAt (d + 1) 0 0 [vr (some o), vi a1, vi a2] F (qI Q) := by
  refine am_of (by decide +kernel) (Nat.le_of_ble_eq_true rfl) ?_
  show aw nX2_numberAt (d + 1) 0 0 0 [some (vr (some o)), some (vi a1), some (vi a2), none, none] [] F (qI Q)
  unfold mX2_numberAt at h
  refine aw_iconst dX2_numberAt_0 (aw_pc (pc' := 1) rfl ?_)
  refine aw_istore_n dX2_numberAt_1 rfl (by decide) (aw_pc (pc' := 2) rfl ?_)
  refine aw_iload_n dX2_numberAt_2 rfl rfl (aw_pc (pc' := 3) rfl ?_)
  refine aw_istore dX2_numberAt_3 (by decide) (aw_pc (pc' := 5) rfl ?_)
  obtain ⟨k1, h⟩ := h
  exact aw_mask [true, false, true, true, true] (tX2_numberAt_L5 k1 _ _ _ _ _ h)
def mX2_startsDouble_J22 (Q : Int → hp → Prop) (o : Nat) (a1 : Int) (F : hp) : Prop := gI F (some o) 2 6 (fun x1 => (w32 (a1 + 1) < w32 x1 → gR F (some o) 2 0 (fun x2 => aI F x2 1 (a1 + 1) (fun x3 => (w32 x3 = 61 → Q 1 F) ∧ (¬ w32 x3 = 61 → Q 0 F)))) ∧ (¬ w32 (a1 + 1) < w32 x1 → Q 0 F))
set_option maxHeartbeats 4000000 in
theorem tX2_startsDouble_J22 {d : Nat} {Q : Int → hp → Prop} {o : Nat} {a1 : Int} {F : hp} (h : mX2_startsDouble_J22 Q o a1 F) : aw nX2_startsDouble d 0 0 22 [some (vr (some o)), some (vi a1)] [] F (qI Q) := by
  unfold mX2_startsDouble_J22 at h
  refine aw_iload_n dX2_startsDouble_22 rfl rfl (aw_pc (pc' := 23) rfl ?_)
  refine aw_iconst dX2_startsDouble_23 (aw_pc (pc' := 24) rfl ?_)
  refine aw_iadd dX2_startsDouble_24 (aw_pc (pc' := 25) rfl ?_)
  refine aw_aload_n dX2_startsDouble_25 rfl rfl (aw_pc (pc' := 26) rfl ?_)
  refine ar_gI fl_RX2_38 dX2_startsDouble_26 h ?_
  clear h
  intro x1 h
  refine aw_pc (pc' := 29) rfl ?_
  refine ac_ge rfl rfl dX2_startsDouble_29 rfl (fun c => ?_) (fun c => ?_)
  · replace h := h.1 c
    refine aw_aload_n dX2_startsDouble_32 rfl rfl (aw_pc (pc' := 33) rfl ?_)
    refine ar_gR fl_RX2_9 dX2_startsDouble_33 h ?_
    clear h
    intro x2 h
    refine aw_pc (pc' := 36) rfl ?_
    refine aw_iload_n dX2_startsDouble_36 rfl rfl (aw_pc (pc' := 37) rfl ?_)
    refine aw_iconst dX2_startsDouble_37 (aw_pc (pc' := 38) rfl ?_)
    refine aw_iadd dX2_startsDouble_38 (aw_pc (pc' := 39) rfl ?_)
    refine ar_aB dX2_startsDouble_39 h ?_
    clear h
    intro x3 h
    refine aw_pc (pc' := 40) rfl ?_
    refine aw_bipush dX2_startsDouble_40 (by decide) (aw_pc (pc' := 42) rfl ?_)
    refine ac_ne rfl wl_61 dX2_startsDouble_42 rfl (fun c => ?_) (fun c => ?_)
    · replace h := h.1 c
      refine aw_iconst dX2_startsDouble_45 (aw_pc (pc' := 46) rfl ?_)
      refine aw_goto (tgt := 50) dX2_startsDouble_46 rfl ?_
      exact aw_zret rfl (by decide) dX2_startsDouble_50 ⟨_, rfl, h⟩
    · replace h := h.2 c
      refine aw_iconst dX2_startsDouble_49 (aw_pc (pc' := 50) rfl ?_)
      exact aw_zret rfl (by decide) dX2_startsDouble_50 ⟨_, rfl, h⟩
  · replace h := h.2 c
    refine aw_iconst dX2_startsDouble_49 (aw_pc (pc' := 50) rfl ?_)
    exact aw_zret rfl (by decide) dX2_startsDouble_50 ⟨_, rfl, h⟩
def mX2_startsDouble (o : Nat) (a1 : Int) (F : hp) (Q : Int → hp → Prop) : Prop := gR F (some o) 2 0 (fun x1 => aI F x1 1 a1 (fun x2 => (w32 x2 = 60 → mX2_startsDouble_J22 Q o a1 F) ∧ (¬ w32 x2 = 60 → gR F (some o) 2 0 (fun x3 => aI F x3 1 a1 (fun x4 => (w32 x4 = 62 → mX2_startsDouble_J22 Q o a1 F) ∧ (¬ w32 x4 = 62 → Q 0 F))))))
set_option maxHeartbeats 4000000 in
theorem tX2_startsDouble {d : Nat} {o : Nat} {a1 : Int} {F : hp} {Q : Int → hp → Prop} (h : mX2_startsDouble o a1 F Q) : am nX2_startsDouble d 0 0 [vr (some o), vi a1] F (qI Q) := by
  refine am_of (by decide +kernel) (Nat.le_of_ble_eq_true rfl) ?_
  show aw nX2_startsDouble d 0 0 0 [some (vr (some o)), some (vi a1)] [] F (qI Q)
  unfold mX2_startsDouble at h
  refine aw_aload_n dX2_startsDouble_0 rfl rfl (aw_pc (pc' := 1) rfl ?_)
  refine ar_gR fl_RX2_9 dX2_startsDouble_1 h ?_
  clear h
  intro x1 h
  refine aw_pc (pc' := 4) rfl ?_
  refine aw_iload_n dX2_startsDouble_4 rfl rfl (aw_pc (pc' := 5) rfl ?_)
  refine ar_aB dX2_startsDouble_5 h ?_
  clear h
  intro x2 h
  refine aw_pc (pc' := 6) rfl ?_
  refine aw_bipush dX2_startsDouble_6 (by decide) (aw_pc (pc' := 8) rfl ?_)
  refine ac_eq rfl wl_60 dX2_startsDouble_8 rfl (fun c => ?_) (fun c => ?_)
  · replace h := h.1 c
    exact aw_mask [true, true] (tX2_startsDouble_J22 h)
  · replace h := h.2 c
    refine aw_aload_n dX2_startsDouble_11 rfl rfl (aw_pc (pc' := 12) rfl ?_)
    refine ar_gR fl_RX2_9 dX2_startsDouble_12 h ?_
    clear h
    intro x3 h
    refine aw_pc (pc' := 15) rfl ?_
    refine aw_iload_n dX2_startsDouble_15 rfl rfl (aw_pc (pc' := 16) rfl ?_)
    refine ar_aB dX2_startsDouble_16 h ?_
    clear h
    intro x4 h
    refine aw_pc (pc' := 17) rfl ?_
    refine aw_bipush dX2_startsDouble_17 (by decide) (aw_pc (pc' := 19) rfl ?_)
    refine ac_ne rfl wl_62 dX2_startsDouble_19 rfl (fun c => ?_) (fun c => ?_)
    · replace h := h.1 c
      exact aw_mask [true, true] (tX2_startsDouble_J22 h)
    · replace h := h.2 c
      refine aw_iconst dX2_startsDouble_49 (aw_pc (pc' := 50) rfl ?_)
      exact aw_zret rfl (by decide) dX2_startsDouble_50 ⟨_, rfl, h⟩
def mX2_signAt_J25 (Q : Int → hp → Prop) (s0 : Int) (F : hp) : Prop := (w32 s0 < 0 → Q 45 F) ∧ (¬ w32 s0 < 0 → Q (30 + s0) F)
set_option maxHeartbeats 4000000 in
theorem tX2_signAt_J25 {d : Nat} {Q : Int → hp → Prop} {s0 : Int} {F : hp} (h : mX2_signAt_J25 Q s0 F) : aw nX2_signAt (d + 4) 0 0 25 [none, none, none] [vi s0] F (qI Q) := by
  unfold mX2_signAt_J25 at h
  refine aw_istore_n dX2_signAt_25 rfl (by decide) (aw_pc (pc' := 26) rfl ?_)
  refine aw_iload_n dX2_signAt_26 rfl rfl (aw_pc (pc' := 27) rfl ?_)
  refine aw_if_ge dX2_signAt_27 rfl (fun c => ?_) (fun c => ?_)
  · replace h := h.1 c
    refine aw_bipush dX2_signAt_30 (by decide) (aw_pc (pc' := 32) rfl ?_)
    refine aw_goto (tgt := 39) dX2_signAt_32 rfl ?_
    exact aw_iret rfl dX2_signAt_39 ⟨_, rfl, h⟩
  · replace h := h.2 c
    refine aw_bipush dX2_signAt_35 (by decide) (aw_pc (pc' := 37) rfl ?_)
    refine aw_iload_n dX2_signAt_37 rfl rfl (aw_pc (pc' := 38) rfl ?_)
    refine aw_iadd dX2_signAt_38 (aw_pc (pc' := 39) rfl ?_)
    exact aw_iret rfl dX2_signAt_39 ⟨_, rfl, h⟩
def mX2_signAt (o : Nat) (a1 : Int) (F : hp) (Q : Int → hp → Prop) : Prop := gR F (some o) 2 0 (fun x1 => aI F x1 1 a1 (fun x2 => (w32 x2 < 0 → mX2_signAt_J25 Q (-1) F) ∧ (¬ w32 x2 < 0 → gR F (some o) 2 0 (fun x3 => aI F x3 1 a1 (fun x4 => rcS (some 2) (fun o7 => mJ0_indexOf_0f7a4 o7 (iC x4) F (fun x6 F5 => mX2_signAt_J25 Q x6 F5)))))))
set_option maxHeartbeats 4000000 in
theorem tX2_signAt {d : Nat} {o : Nat} {a1 : Int} {F : hp} {Q : Int → hp → Prop} (h : mX2_signAt o a1 F Q) : am nX2_signAt (d + 4) 0 0 [vr (some o), vi a1] F (qI Q) := by
  refine am_of (by decide +kernel) (Nat.le_of_ble_eq_true rfl) ?_
  show aw nX2_signAt (d + 4) 0 0 0 [some (vr (some o)), some (vi a1), none] [] F (qI Q)
  unfold mX2_signAt at h
  refine aw_aload_n dX2_signAt_0 rfl rfl (aw_pc (pc' := 1) rfl ?_)
  refine ar_gR fl_RX2_9 dX2_signAt_1 h ?_
  clear h
  intro x1 h
  refine aw_pc (pc' := 4) rfl ?_
  refine aw_iload_n dX2_signAt_4 rfl rfl (aw_pc (pc' := 5) rfl ?_)
  refine ar_aB dX2_signAt_5 h ?_
  clear h
  intro x2 h
  refine aw_pc (pc' := 6) rfl ?_
  refine aw_if_ge dX2_signAt_6 rfl (fun c => ?_) (fun c => ?_)
  · replace h := h.1 c
    refine aw_iconst dX2_signAt_9 (aw_pc (pc' := 10) rfl ?_)
    refine aw_goto (tgt := 25) dX2_signAt_10 rfl ?_
    exact aw_mask [false, false, false] (tX2_signAt_J25 h)
  · replace h := h.2 c
    refine aw_ldcS rfl (Or.inr rfl) dX2_signAt_13 (aw_pc (pc' := 15) rfl ?_)
    show awx _ _ _ _ _ _ _ (vr (some 2) :: _) _ _
    refine aw_aload_n dX2_signAt_15 rfl rfl (aw_pc (pc' := 16) rfl ?_)
    refine ar_gR fl_RX2_9 dX2_signAt_16 h ?_
    clear h
    intro x3 h
    refine aw_pc (pc' := 19) rfl ?_
    refine aw_iload_n dX2_signAt_19 rfl rfl (aw_pc (pc' := 20) rfl ?_)
    refine ar_aB dX2_signAt_20 h ?_
    clear h
    intro x4 h
    refine aw_pc (pc' := 21) rfl ?_
    refine aw_i2c dX2_signAt_21 (aw_pc (pc' := 22) rfl ?_)
    have h0 := h
    clear h
    obtain ⟨o7, hr_o7, he_o7, h⟩ := h0
    obtain rfl : 2 = o7 := Option.some.inj hr_o7
    refine ar_TI (kc' := 0) (ks' := 0) (kc := 0) (ks := 0) (a := 2) (as := [vi (iC x4)]) (st := []) (tJ0_indexOf_0f7a4 h) he_o7 mt_J0_indexOf_0f7a4 rfl qM_RX2_134 qI_J0_indexOf_0f7a4 qV_J0_indexOf_0f7a4 rfl (Nat.le_of_ble_eq_true rfl) dX2_signAt_22 ?_
    clear h
    intro x6 F5 h
    refine aw_pc (pc' := 25) rfl ?_
    exact aw_mask [false, false, false] (tX2_signAt_J25 h)
def mX2_splitTape_J188 (Q : hp → Prop) (o : Nat) (a1 : Int) (F : hp) : Prop := gR F (some o) 2 1 (fun x1 => sI F x1 0 a1 44 (fun F2 => gR F2 (some o) 2 2 (fun x3 => gI F2 (some o) 2 6 (fun x4 => sI F2 x3 0 a1 x4 (fun F5 => Q F5)))))
set_option maxHeartbeats 4000000 in
theorem tX2_splitTape_J188 {d : Nat} {Q : hp → Prop} {o : Nat} {a1 : Int} {F : hp} (h : mX2_splitTape_J188 Q o a1 F) : aw nX2_splitTape (d + 5) 0 0 188 [some (vr (some o)), some (vi a1), none, none] [] F (qV Q) := by
  unfold mX2_splitTape_J188 at h
  refine aw_aload_n dX2_splitTape_188 rfl rfl (aw_pc (pc' := 189) rfl ?_)
  refine ar_gR fl_RX2_15 dX2_splitTape_189 h ?_
  clear h
  intro x1 h
  refine aw_pc (pc' := 192) rfl ?_
  refine aw_iload_n dX2_splitTape_192 rfl rfl (aw_pc (pc' := 193) rfl ?_)
  refine aw_bipush dX2_splitTape_193 (by decide) (aw_pc (pc' := 195) rfl ?_)
  refine ar_sI dX2_splitTape_195 h ?_
  clear h
  intro F2 h
  refine aw_pc (pc' := 196) rfl ?_
  refine aw_aload_n dX2_splitTape_196 rfl rfl (aw_pc (pc' := 197) rfl ?_)
  refine ar_gR fl_RX2_19 dX2_splitTape_197 h ?_
  clear h
  intro x3 h
  refine aw_pc (pc' := 200) rfl ?_
  refine aw_iload_n dX2_splitTape_200 rfl rfl (aw_pc (pc' := 201) rfl ?_)
  refine aw_aload_n dX2_splitTape_201 rfl rfl (aw_pc (pc' := 202) rfl ?_)
  refine ar_gI fl_RX2_38 dX2_splitTape_202 h ?_
  clear h
  intro x4 h
  refine aw_pc (pc' := 205) rfl ?_
  refine ar_sI dX2_splitTape_205 h ?_
  clear h
  intro F5 h
  refine aw_pc (pc' := 206) rfl ?_
  exact aw_vret rfl dX2_splitTape_206 ⟨rfl, h⟩
def mX2_splitTape_J177 (X4 : Nat → Int → Int → hp → Prop) (Q : hp → Prop) (o : Nat) (a1 : Int) (a2 : Int) (a3 : Int) (F : hp) : Prop := ∀ v1 : Int, v1 = (iMax (a3 + 1) a2) → X4 o a1 v1 F
set_option maxHeartbeats 4000000 in
theorem tX2_splitTape_J177 {d : Nat} {X4 : Nat → Int → Int → hp → Prop} {Q : hp → Prop} (hX4 : ∀ (o : Nat) (a1 : Int) (a3 : Int) (F : hp), X4 o a1 a3 F → aw nX2_splitTape (d + 5) 0 0 4 [some (vr (some o)), some (vi a1), none, some (vi a3)] [] F (qV Q)) {o : Nat} {a1 : Int} {a2 : Int} {a3 : Int} {F : hp} (h : mX2_splitTape_J177 X4 Q o a1 a2 a3 F) : aw nX2_splitTape (d + 5) 0 0 177 [some (vr (some o)), some (vi a1), some (vi a2), some (vi a3)] [] F (qV Q) := by
  unfold mX2_splitTape_J177 at h
  refine aw_iload_n dX2_splitTape_177 rfl rfl (aw_pc (pc' := 178) rfl ?_)
  refine aw_iconst dX2_splitTape_178 (aw_pc (pc' := 179) rfl ?_)
  refine aw_iadd dX2_splitTape_179 (aw_pc (pc' := 180) rfl ?_)
  refine aw_iload_n dX2_splitTape_180 rfl rfl (aw_pc (pc' := 181) rfl ?_)
  refine aw_max qM_RX2_109 mw_max (Nat.le_of_ble_eq_true rfl) dX2_splitTape_181 (aw_pc (pc' := 184) rfl ?_)
  generalize hv_v1 : (iMax (a3 + 1) a2) = v1
  replace h := h v1 hv_v1.symm
  refine aw_istore_n dX2_splitTape_184 rfl (by decide) (aw_pc (pc' := 185) rfl ?_)
  refine aw_goto (tgt := 4) dX2_splitTape_185 rfl ?_
  exact aw_mask [true, true, false, true] (hX4 _ _ _ _ h)
def mX2_splitTape_J167 (X4 : Nat → Int → Int → hp → Prop) (Q : hp → Prop) (o : Nat) (a1 : Int) (a2 : Int) (a3 : Int) (F : hp) : Prop := gR F (some o) 2 2 (fun x1 => sI F x1 0 a1 a3 (fun F2 => mX2_splitTape_J177 X4 Q o (a1 + 1) a2 a3 F2))
set_option maxHeartbeats 4000000 in
theorem tX2_splitTape_J167 {d : Nat} {X4 : Nat → Int → Int → hp → Prop} {Q : hp → Prop} (hX4 : ∀ (o : Nat) (a1 : Int) (a3 : Int) (F : hp), X4 o a1 a3 F → aw nX2_splitTape (d + 5) 0 0 4 [some (vr (some o)), some (vi a1), none, some (vi a3)] [] F (qV Q)) {o : Nat} {a1 : Int} {a2 : Int} {a3 : Int} {F : hp} (h : mX2_splitTape_J167 X4 Q o a1 a2 a3 F) : aw nX2_splitTape (d + 5) 0 0 167 [some (vr (some o)), some (vi a1), some (vi a2), some (vi a3)] [] F (qV Q) := by
  unfold mX2_splitTape_J167 at h
  refine aw_aload_n dX2_splitTape_167 rfl rfl (aw_pc (pc' := 168) rfl ?_)
  refine ar_gR fl_RX2_19 dX2_splitTape_168 h ?_
  clear h
  intro x1 h
  refine aw_pc (pc' := 171) rfl ?_
  refine aw_iload_n dX2_splitTape_171 rfl rfl (aw_pc (pc' := 172) rfl ?_)
  refine aw_iload_n dX2_splitTape_172 rfl rfl (aw_pc (pc' := 173) rfl ?_)
  refine ar_sI dX2_splitTape_173 h ?_
  clear h
  intro F2 h
  refine aw_pc (pc' := 174) rfl ?_
  refine aw_iinc dX2_splitTape_174 rfl (by decide) (aw_pc (pc' := 177) rfl ?_)
  exact aw_mask [true, true, true, true] (tX2_splitTape_J177 hX4 h)
def mX2_splitTape_J152 (X4 : Nat → Int → Int → hp → Prop) (Q : hp → Prop) (o : Nat) (a1 : Int) (a2 : Int) (a3 : Int) (s0 : Option Nat) (s1 : Int) (s2 : Int) (F : hp) : Prop := sI F s0 0 s1 s2 (fun F1 => mX2_splitTape_J167 X4 Q o a1 a2 a3 F1)
set_option maxHeartbeats 4000000 in
theorem tX2_splitTape_J152 {d : Nat} {X4 : Nat → Int → Int → hp → Prop} {Q : hp → Prop} (hX4 : ∀ (o : Nat) (a1 : Int) (a3 : Int) (F : hp), X4 o a1 a3 F → aw nX2_splitTape (d + 5) 0 0 4 [some (vr (some o)), some (vi a1), none, some (vi a3)] [] F (qV Q)) {o : Nat} {a1 : Int} {a2 : Int} {a3 : Int} {s0 : Option Nat} {s1 : Int} {s2 : Int} {F : hp} (h : mX2_splitTape_J152 X4 Q o a1 a2 a3 s0 s1 s2 F) : aw nX2_splitTape (d + 5) 0 0 152 [some (vr (some o)), some (vi a1), some (vi a2), some (vi a3)] [vi s2, vi s1, vr s0] F (qV Q) := by
  unfold mX2_splitTape_J152 at h
  refine ar_sI dX2_splitTape_152 h ?_
  clear h
  intro F1 h
  refine aw_pc (pc' := 153) rfl ?_
  refine aw_goto (tgt := 167) dX2_splitTape_153 rfl ?_
  exact aw_mask [true, true, true, true] (tX2_splitTape_J167 hX4 h)
def mX2_splitTape_L4 (Q : hp → Prop) : Nat → Nat → Int → Int → hp → Prop
  | 0, _, _, _, _ => False
  | k + 1, o, a1, a3, F => gI F (some o) 2 6 (fun x1 => (w32 a3 < w32 x1 → (w32 a1 < 300 → ∀ v2 : Int, v2 = (a3 + 1) → gR F (some o) 2 0 (fun x3 => aI F x3 1 a3 (fun x4 => (w32 x4 = 32 → mX2_splitTape_J177 (fun o' a1' a3' F' => mX2_splitTape_L4 Q k o' a1' a3' F') Q o a1 v2 a3 F) ∧ (¬ w32 x4 = 32 → gR F (some o) 2 0 (fun x5 => aI F x5 1 a3 (fun x6 => (w32 x6 = 10 → mX2_splitTape_J177 (fun o' a1' a3' F' => mX2_splitTape_L4 Q k o' a1' a3' F') Q o a1 v2 a3 F) ∧ (¬ w32 x6 = 10 → gR F (some o) 2 0 (fun x7 => aI F x7 1 a3 (fun x8 => mX2_isLetter x8 F (fun x10 F9 => (w32 x10 = 0 → gR F9 (some o) 2 0 (fun x11 => aI F9 x11 1 a3 (fun x12 => mX2_isDigit x12 F9 (fun x14 F13 => (w32 x14 = 0 → rcv F13 (some o) 2 (fun o17 => mX2_startsDouble o17 a3 F13 (fun x16 F15 => (w32 x16 = 0 → gR F15 (some o) 2 1 (fun x18 => rcv F15 (some o) 2 (fun o21 => mX2_signAt o21 a3 F15 (fun x20 F19 => sI F19 x18 0 a1 x20 (fun F22 => mX2_splitTape_J167 (fun o' a1' a3' F' => mX2_splitTape_L4 Q k o' a1' a3' F') Q o a1 v2 a3 F22))))) ∧ (¬ w32 x16 = 0 → ∀ v23 : Int, v23 = (a3 + 2) → gR F15 (some o) 2 1 (fun x24 => gR F15 (some o) 2 0 (fun x25 => aI F15 x25 1 a3 (fun x26 => (w32 x26 = 60 → mX2_splitTape_J152 (fun o' a1' a3' F' => mX2_splitTape_L4 Q k o' a1' a3' F') Q o a1 v23 a3 x24 a1 41 F15) ∧ (¬ w32 x26 = 60 → mX2_splitTape_J152 (fun o' a1' a3' F' => mX2_splitTape_L4 Q k o' a1' a3' F') Q o a1 v23 a3 x24 a1 42 F15)))))))) ∧ (¬ w32 x14 = 0 → rcv F13 (some o) 2 (fun o29 => mX2_behindNumber o29 a3 F13 (fun x28 F27 => gR F27 (some o) 2 1 (fun x30 => rcv F27 (some o) 2 (fun o33 => mX2_numberAt o33 a3 x28 F27 (fun x32 F31 => sI F31 x30 0 a1 (100 + x32) (fun F34 => mX2_splitTape_J167 (fun o' a1' a3' F' => mX2_splitTape_L4 Q k o' a1' a3' F') Q o a1 x28 a3 F34))))))))))) ∧ (¬ w32 x10 = 0 → rcv F9 (some o) 2 (fun o37 => mX2_behindWord o37 a3 F9 (fun x36 F35 => gR F35 (some o) 2 1 (fun x38 => rcv F35 (some o) 2 (fun o41 => mX2_wordAt o41 a3 x36 F35 (fun x40 F39 => sI F39 x38 0 a1 x40 (fun F42 => mX2_splitTape_J167 (fun o' a1' a3' F' => mX2_splitTape_L4 Q k o' a1' a3' F') Q o a1 x36 a3 F42))))))))))))))))) ∧ (¬ w32 a1 < 300 → mX2_splitTape_J188 Q o a1 F)) ∧ (¬ w32 a3 < w32 x1 → mX2_splitTape_J188 Q o a1 F))
set_option maxHeartbeats 4000000 in
theorem tX2_splitTape_L4 {d : Nat} {Q : hp → Prop} : ∀ (k : Nat) (o : Nat) (a1 : Int) (a3 : Int) (F : hp), mX2_splitTape_L4 Q k o a1 a3 F → aw nX2_splitTape (d + 5) 0 0 4 [some (vr (some o)), some (vi a1), none, some (vi a3)] [] F (qV Q) := by
  intro k
  induction k with
  | zero => intro o a1 a3 F h; exact h.elim
  | succ k ih =>
    intro o a1 a3 F h
    simp only [mX2_splitTape_L4] at h
    refine aw_iload_n dX2_splitTape_4 rfl rfl (aw_pc (pc' := 5) rfl ?_)
    refine aw_aload_n dX2_splitTape_5 rfl rfl (aw_pc (pc' := 6) rfl ?_)
    refine ar_gI fl_RX2_38 dX2_splitTape_6 h ?_
    clear h
    intro x1 h
    refine aw_pc (pc' := 9) rfl ?_
    refine ac_ge rfl rfl dX2_splitTape_9 rfl (fun c => ?_) (fun c => ?_)
    · replace h := h.1 c
      refine aw_iload_n dX2_splitTape_12 rfl rfl (aw_pc (pc' := 13) rfl ?_)
      refine aw_sipush dX2_splitTape_13 (by decide) (aw_pc (pc' := 16) rfl ?_)
      refine ac_ge rfl wl_300 dX2_splitTape_16 rfl (fun c => ?_) (fun c => ?_)
      · replace h := h.1 c
        refine aw_iload_n dX2_splitTape_19 rfl rfl (aw_pc (pc' := 20) rfl ?_)
        refine aw_iconst dX2_splitTape_20 (aw_pc (pc' := 21) rfl ?_)
        refine aw_iadd dX2_splitTape_21 (aw_pc (pc' := 22) rfl ?_)
        generalize hv_v2 : (a3 + 1) = v2
        replace h := h v2 hv_v2.symm
        refine aw_istore_n dX2_splitTape_22 rfl (by decide) (aw_pc (pc' := 23) rfl ?_)
        refine aw_aload_n dX2_splitTape_23 rfl rfl (aw_pc (pc' := 24) rfl ?_)
        refine ar_gR fl_RX2_9 dX2_splitTape_24 h ?_
        clear h
        intro x3 h
        refine aw_pc (pc' := 27) rfl ?_
        refine aw_iload_n dX2_splitTape_27 rfl rfl (aw_pc (pc' := 28) rfl ?_)
        refine ar_aB dX2_splitTape_28 h ?_
        clear h
        intro x4 h
        refine aw_pc (pc' := 29) rfl ?_
        refine aw_bipush dX2_splitTape_29 (by decide) (aw_pc (pc' := 31) rfl ?_)
        refine ac_eq rfl wl_32 dX2_splitTape_31 rfl (fun c => ?_) (fun c => ?_)
        · replace h := h.1 c
          exact aw_mask [true, true, true, true] (tX2_splitTape_J177 (fun o' a1' a3' F' h' => ih o' a1' a3' F' h') h)
        · replace h := h.2 c
          refine aw_aload_n dX2_splitTape_34 rfl rfl (aw_pc (pc' := 35) rfl ?_)
          refine ar_gR fl_RX2_9 dX2_splitTape_35 h ?_
          clear h
          intro x5 h
          refine aw_pc (pc' := 38) rfl ?_
          refine aw_iload_n dX2_splitTape_38 rfl rfl (aw_pc (pc' := 39) rfl ?_)
          refine ar_aB dX2_splitTape_39 h ?_
          clear h
          intro x6 h
          refine aw_pc (pc' := 40) rfl ?_
          refine aw_bipush dX2_splitTape_40 (by decide) (aw_pc (pc' := 42) rfl ?_)
          refine ac_ne rfl wl_10 dX2_splitTape_42 rfl (fun c => ?_) (fun c => ?_)
          · replace h := h.1 c
            refine aw_goto (tgt := 177) dX2_splitTape_45 rfl ?_
            exact aw_mask [true, true, true, true] (tX2_splitTape_J177 (fun o' a1' a3' F' h' => ih o' a1' a3' F' h') h)
          · replace h := h.2 c
            refine aw_aload_n dX2_splitTape_48 rfl rfl (aw_pc (pc' := 49) rfl ?_)
            refine ar_gR fl_RX2_9 dX2_splitTape_49 h ?_
            clear h
            intro x7 h
            refine aw_pc (pc' := 52) rfl ?_
            refine aw_iload_n dX2_splitTape_52 rfl rfl (aw_pc (pc' := 53) rfl ?_)
            refine ar_aB dX2_splitTape_53 h ?_
            clear h
            intro x8 h
            refine aw_pc (pc' := 54) rfl ?_
            refine ar_SI (kc' := 0) (ks' := 0) (kc := 0) (ks := 0) (as := [vi x8]) (st := []) (tX2_isLetter h) mt_X2_isLetter qM_RX2_82 qS_X2_isLetter rfl (Nat.le_of_ble_eq_true rfl) dX2_splitTape_54 ?_
            clear h
            intro x10 F9 h
            refine aw_pc (pc' := 57) rfl ?_
            refine aw_if_eq dX2_splitTape_57 rfl (fun c => ?_) (fun c => ?_)
            · replace h := h.1 c
              refine aw_aload_n dX2_splitTape_81 rfl rfl (aw_pc (pc' := 82) rfl ?_)
              refine ar_gR fl_RX2_9 dX2_splitTape_82 h ?_
              clear h
              intro x11 h
              refine aw_pc (pc' := 85) rfl ?_
              refine aw_iload_n dX2_splitTape_85 rfl rfl (aw_pc (pc' := 86) rfl ?_)
              refine ar_aB dX2_splitTape_86 h ?_
              clear h
              intro x12 h
              refine aw_pc (pc' := 87) rfl ?_
              refine ar_SI (kc' := 0) (ks' := 0) (kc := 0) (ks := 0) (as := [vi x12]) (st := []) (tX2_isDigit h) mt_X2_isDigit qM_RX2_94 qS_X2_isDigit rfl (Nat.le_of_ble_eq_true rfl) dX2_splitTape_87 ?_
              clear h
              intro x14 F13 h
              refine aw_pc (pc' := 90) rfl ?_
              refine aw_if_eq dX2_splitTape_90 rfl (fun c => ?_) (fun c => ?_)
              · replace h := h.1 c
                refine aw_aload_n dX2_splitTape_117 rfl rfl (aw_pc (pc' := 118) rfl ?_)
                refine aw_iload_n dX2_splitTape_118 rfl rfl (aw_pc (pc' := 119) rfl ?_)
                have h0 := rcv_inv h
                clear h
                obtain ⟨o17, fs_o17, hr_o17, he_o17, h⟩ := h0
                obtain rfl : o = o17 := Option.some.inj hr_o17
                refine ar_VI (kc' := 0) (ks' := 0) (kc := 0) (ks := 0) (a := o) (ci := 2) (as := [vi a3]) (st := []) (tX2_startsDouble h) mt_X2_startsDouble rfl qM_RX2_103 qI_X2_startsDouble qV_X2_startsDouble he_o17 rfl (Nat.le_of_ble_eq_true rfl) dX2_splitTape_119 ?_
                clear h
                intro x16 F15 h
                refine aw_pc (pc' := 122) rfl ?_
                refine aw_if_eq dX2_splitTape_122 rfl (fun c => ?_) (fun c => ?_)
                · replace h := h.1 c
                  refine aw_aload_n dX2_splitTape_156 rfl rfl (aw_pc (pc' := 157) rfl ?_)
                  refine ar_gR fl_RX2_15 dX2_splitTape_157 h ?_
                  clear h
                  intro x18 h
                  refine aw_pc (pc' := 160) rfl ?_
                  refine aw_iload_n dX2_splitTape_160 rfl rfl (aw_pc (pc' := 161) rfl ?_)
                  refine aw_aload_n dX2_splitTape_161 rfl rfl (aw_pc (pc' := 162) rfl ?_)
                  refine aw_iload_n dX2_splitTape_162 rfl rfl (aw_pc (pc' := 163) rfl ?_)
                  have h0 := rcv_inv h
                  clear h
                  obtain ⟨o21, fs_o21, hr_o21, he_o21, h⟩ := h0
                  obtain rfl : o = o21 := Option.some.inj hr_o21
                  refine ar_VI (kc' := 0) (ks' := 0) (kc := 0) (ks := 0) (a := o) (ci := 2) (as := [vi a3]) (st := [vi a1, vr x18]) (tX2_signAt h) mt_X2_signAt rfl qM_RX2_106 qI_X2_signAt qV_X2_signAt he_o21 rfl (Nat.le_of_ble_eq_true rfl) dX2_splitTape_163 ?_
                  clear h
                  intro x20 F19 h
                  refine aw_pc (pc' := 166) rfl ?_
                  refine ar_sI dX2_splitTape_166 h ?_
                  clear h
                  intro F22 h
                  refine aw_pc (pc' := 167) rfl ?_
                  exact aw_mask [true, true, true, true] (tX2_splitTape_J167 (fun o' a1' a3' F' h' => ih o' a1' a3' F' h') h)
                · replace h := h.2 c
                  refine aw_iload_n dX2_splitTape_125 rfl rfl (aw_pc (pc' := 126) rfl ?_)
                  refine aw_iconst dX2_splitTape_126 (aw_pc (pc' := 127) rfl ?_)
                  refine aw_iadd dX2_splitTape_127 (aw_pc (pc' := 128) rfl ?_)
                  generalize hv_v23 : (a3 + 2) = v23
                  replace h := h v23 hv_v23.symm
                  refine aw_istore_n dX2_splitTape_128 rfl (by decide) (aw_pc (pc' := 129) rfl ?_)
                  refine aw_aload_n dX2_splitTape_129 rfl rfl (aw_pc (pc' := 130) rfl ?_)
                  refine ar_gR fl_RX2_15 dX2_splitTape_130 h ?_
                  clear h
                  intro x24 h
                  refine aw_pc (pc' := 133) rfl ?_
                  refine aw_iload_n dX2_splitTape_133 rfl rfl (aw_pc (pc' := 134) rfl ?_)
                  refine aw_aload_n dX2_splitTape_134 rfl rfl (aw_pc (pc' := 135) rfl ?_)
                  refine ar_gR fl_RX2_9 dX2_splitTape_135 h ?_
                  clear h
                  intro x25 h
                  refine aw_pc (pc' := 138) rfl ?_
                  refine aw_iload_n dX2_splitTape_138 rfl rfl (aw_pc (pc' := 139) rfl ?_)
                  refine ar_aB dX2_splitTape_139 h ?_
                  clear h
                  intro x26 h
                  refine aw_pc (pc' := 140) rfl ?_
                  refine aw_bipush dX2_splitTape_140 (by decide) (aw_pc (pc' := 142) rfl ?_)
                  refine ac_ne rfl wl_60 dX2_splitTape_142 rfl (fun c => ?_) (fun c => ?_)
                  · replace h := h.1 c
                    refine aw_bipush dX2_splitTape_145 (by decide) (aw_pc (pc' := 147) rfl ?_)
                    refine aw_goto (tgt := 152) dX2_splitTape_147 rfl ?_
                    exact aw_mask [true, true, true, true] (tX2_splitTape_J152 (fun o' a1' a3' F' h' => ih o' a1' a3' F' h') h)
                  · replace h := h.2 c
                    refine aw_bipush dX2_splitTape_150 (by decide) (aw_pc (pc' := 152) rfl ?_)
                    exact aw_mask [true, true, true, true] (tX2_splitTape_J152 (fun o' a1' a3' F' h' => ih o' a1' a3' F' h') h)
              · replace h := h.2 c
                refine aw_aload_n dX2_splitTape_93 rfl rfl (aw_pc (pc' := 94) rfl ?_)
                refine aw_iload_n dX2_splitTape_94 rfl rfl (aw_pc (pc' := 95) rfl ?_)
                have h0 := rcv_inv h
                clear h
                obtain ⟨o29, fs_o29, hr_o29, he_o29, h⟩ := h0
                obtain rfl : o = o29 := Option.some.inj hr_o29
                refine ar_VI (kc' := 0) (ks' := 0) (kc := 0) (ks := 0) (a := o) (ci := 2) (as := [vi a3]) (st := []) (tX2_behindNumber h) mt_X2_behindNumber rfl qM_RX2_97 qI_X2_behindNumber qV_X2_behindNumber he_o29 rfl (Nat.le_of_ble_eq_true rfl) dX2_splitTape_95 ?_
                clear h
                intro x28 F27 h
                refine aw_pc (pc' := 98) rfl ?_
                refine aw_istore_n dX2_splitTape_98 rfl (by decide) (aw_pc (pc' := 99) rfl ?_)
                refine aw_aload_n dX2_splitTape_99 rfl rfl (aw_pc (pc' := 100) rfl ?_)
                refine ar_gR fl_RX2_15 dX2_splitTape_100 h ?_
                clear h
                intro x30 h
                refine aw_pc (pc' := 103) rfl ?_
                refine aw_iload_n dX2_splitTape_103 rfl rfl (aw_pc (pc' := 104) rfl ?_)
                refine aw_bipush dX2_splitTape_104 (by decide) (aw_pc (pc' := 106) rfl ?_)
                refine aw_aload_n dX2_splitTape_106 rfl rfl (aw_pc (pc' := 107) rfl ?_)
                refine aw_iload_n dX2_splitTape_107 rfl rfl (aw_pc (pc' := 108) rfl ?_)
                refine aw_iload_n dX2_splitTape_108 rfl rfl (aw_pc (pc' := 109) rfl ?_)
                have h0 := rcv_inv h
                clear h
                obtain ⟨o33, fs_o33, hr_o33, he_o33, h⟩ := h0
                obtain rfl : o = o33 := Option.some.inj hr_o33
                refine ar_VI (kc' := 0) (ks' := 0) (kc := 0) (ks := 0) (a := o) (ci := 2) (as := [vi a3, vi x28]) (st := [vi 100, vi a1, vr x30]) (tX2_numberAt h) mt_X2_numberAt rfl qM_RX2_100 qI_X2_numberAt qV_X2_numberAt he_o33 rfl (Nat.le_of_ble_eq_true rfl) dX2_splitTape_109 ?_
                clear h
                intro x32 F31 h
                refine aw_pc (pc' := 112) rfl ?_
                refine aw_iadd dX2_splitTape_112 (aw_pc (pc' := 113) rfl ?_)
                refine ar_sI dX2_splitTape_113 h ?_
                clear h
                intro F34 h
                refine aw_pc (pc' := 114) rfl ?_
                refine aw_goto (tgt := 167) dX2_splitTape_114 rfl ?_
                exact aw_mask [true, true, true, true] (tX2_splitTape_J167 (fun o' a1' a3' F' h' => ih o' a1' a3' F' h') h)
            · replace h := h.2 c
              refine aw_aload_n dX2_splitTape_60 rfl rfl (aw_pc (pc' := 61) rfl ?_)
              refine aw_iload_n dX2_splitTape_61 rfl rfl (aw_pc (pc' := 62) rfl ?_)
              have h0 := rcv_inv h
              clear h
              obtain ⟨o37, fs_o37, hr_o37, he_o37, h⟩ := h0
              obtain rfl : o = o37 := Option.some.inj hr_o37
              refine ar_VI (kc' := 0) (ks' := 0) (kc := 0) (ks := 0) (a := o) (ci := 2) (as := [vi a3]) (st := []) (tX2_behindWord h) mt_X2_behindWord rfl qM_RX2_86 qI_X2_behindWord qV_X2_behindWord he_o37 rfl (Nat.le_of_ble_eq_true rfl) dX2_splitTape_62 ?_
              clear h
              intro x36 F35 h
              refine aw_pc (pc' := 65) rfl ?_
              refine aw_istore_n dX2_splitTape_65 rfl (by decide) (aw_pc (pc' := 66) rfl ?_)
              refine aw_aload_n dX2_splitTape_66 rfl rfl (aw_pc (pc' := 67) rfl ?_)
              refine ar_gR fl_RX2_15 dX2_splitTape_67 h ?_
              clear h
              intro x38 h
              refine aw_pc (pc' := 70) rfl ?_
              refine aw_iload_n dX2_splitTape_70 rfl rfl (aw_pc (pc' := 71) rfl ?_)
              refine aw_aload_n dX2_splitTape_71 rfl rfl (aw_pc (pc' := 72) rfl ?_)
              refine aw_iload_n dX2_splitTape_72 rfl rfl (aw_pc (pc' := 73) rfl ?_)
              refine aw_iload_n dX2_splitTape_73 rfl rfl (aw_pc (pc' := 74) rfl ?_)
              have h0 := rcv_inv h
              clear h
              obtain ⟨o41, fs_o41, hr_o41, he_o41, h⟩ := h0
              obtain rfl : o = o41 := Option.some.inj hr_o41
              refine ar_VI (kc' := 0) (ks' := 0) (kc := 0) (ks := 0) (a := o) (ci := 2) (as := [vi a3, vi x36]) (st := [vi a1, vr x38]) (tX2_wordAt h) mt_X2_wordAt rfl qM_RX2_90 qI_X2_wordAt qV_X2_wordAt he_o41 rfl (Nat.le_of_ble_eq_true rfl) dX2_splitTape_74 ?_
              clear h
              intro x40 F39 h
              refine aw_pc (pc' := 77) rfl ?_
              refine ar_sI dX2_splitTape_77 h ?_
              clear h
              intro F42 h
              refine aw_pc (pc' := 78) rfl ?_
              refine aw_goto (tgt := 167) dX2_splitTape_78 rfl ?_
              exact aw_mask [true, true, true, true] (tX2_splitTape_J167 (fun o' a1' a3' F' h' => ih o' a1' a3' F' h') h)
      · replace h := h.2 c
        exact aw_mask [true, true, false, false] (tX2_splitTape_J188 h)
    · replace h := h.2 c
      exact aw_mask [true, true, false, false] (tX2_splitTape_J188 h)
def mX2_splitTape (o : Nat) (F : hp) (Q : hp → Prop) : Prop := (∃ k1, mX2_splitTape_L4 Q k1 o 0 0 F)
set_option maxHeartbeats 4000000 in
theorem tX2_splitTape {d : Nat} {o : Nat} {F : hp} {Q : hp → Prop} (h : mX2_splitTape o F Q) : am nX2_splitTape (d + 5) 0 0 [vr (some o)] F (qV Q) := by
  refine am_of (by decide +kernel) (Nat.le_of_ble_eq_true rfl) ?_
  show aw nX2_splitTape (d + 5) 0 0 0 [some (vr (some o)), none, none, none] [] F (qV Q)
  unfold mX2_splitTape at h
  refine aw_iconst dX2_splitTape_0 (aw_pc (pc' := 1) rfl ?_)
  refine aw_istore_n dX2_splitTape_1 rfl (by decide) (aw_pc (pc' := 2) rfl ?_)
  refine aw_iconst dX2_splitTape_2 (aw_pc (pc' := 3) rfl ?_)
  refine aw_istore_n dX2_splitTape_3 rfl (by decide) (aw_pc (pc' := 4) rfl ?_)
  obtain ⟨k1, h⟩ := h
  exact aw_mask [true, true, false, true] (tX2_splitTape_L4 k1 _ _ _ _ h)
def mX2_fail_J25 (Q : hp → Prop) (o : Nat) (F : hp) : Prop := pF F (some o) 2 10 (vi 45) (fun F1 => Q F1)
set_option maxHeartbeats 4000000 in
theorem tX2_fail_J25 {d : Nat} {Q : hp → Prop} {o : Nat} {F : hp} (h : mX2_fail_J25 Q o F) : aw nX2_fail d 0 0 25 [some (vr (some o)), none] [] F (qV Q) := by
  unfold mX2_fail_J25 at h
  refine aw_aload_n dX2_fail_25 rfl rfl (aw_pc (pc' := 26) rfl ?_)
  refine aw_bipush dX2_fail_26 (by decide) (aw_pc (pc' := 28) rfl ?_)
  refine ar_pF fl_RX2_47 ft_X2_10 (okI _) dX2_fail_28 h ?_
  clear h
  intro F1 h
  refine aw_pc (pc' := 31) rfl ?_
  exact aw_vret rfl dX2_fail_31 ⟨rfl, h⟩
def mX2_fail (o : Nat) (a1 : Int) (F : hp) (Q : hp → Prop) : Prop := gI F (some o) 2 7 (fun x1 => (w32 x1 = 0 → pF F (some o) 2 7 (vi a1) (fun F2 => gR F2 (some o) 2 2 (fun x3 => gI F2 (some o) 2 9 (fun x4 => aI F2 x3 0 x4 (fun x5 => pF F2 (some o) 2 8 (vi x5) (fun F6 => mX2_fail_J25 Q o F6)))))) ∧ (¬ w32 x1 = 0 → mX2_fail_J25 Q o F))
set_option maxHeartbeats 4000000 in
theorem tX2_fail {d : Nat} {o : Nat} {a1 : Int} {F : hp} {Q : hp → Prop} (h : mX2_fail o a1 F Q) : am nX2_fail d 0 0 [vr (some o), vi a1] F (qV Q) := by
  refine am_of (by decide +kernel) (Nat.le_of_ble_eq_true rfl) ?_
  show aw nX2_fail d 0 0 0 [some (vr (some o)), some (vi a1)] [] F (qV Q)
  unfold mX2_fail at h
  refine aw_aload_n dX2_fail_0 rfl rfl (aw_pc (pc' := 1) rfl ?_)
  refine ar_gI fl_RX2_31 dX2_fail_1 h ?_
  clear h
  intro x1 h
  refine aw_pc (pc' := 4) rfl ?_
  refine aw_if_ne dX2_fail_4 rfl (fun c => ?_) (fun c => ?_)
  · replace h := h.1 c
    refine aw_aload_n dX2_fail_7 rfl rfl (aw_pc (pc' := 8) rfl ?_)
    refine aw_iload_n dX2_fail_8 rfl rfl (aw_pc (pc' := 9) rfl ?_)
    refine ar_pF fl_RX2_31 ft_X2_7 (okI _) dX2_fail_9 h ?_
    clear h
    intro F2 h
    refine aw_pc (pc' := 12) rfl ?_
    refine aw_aload_n dX2_fail_12 rfl rfl (aw_pc (pc' := 13) rfl ?_)
    refine aw_aload_n dX2_fail_13 rfl rfl (aw_pc (pc' := 14) rfl ?_)
    refine ar_gR fl_RX2_19 dX2_fail_14 h ?_
    clear h
    intro x3 h
    refine aw_pc (pc' := 17) rfl ?_
    refine aw_aload_n dX2_fail_17 rfl rfl (aw_pc (pc' := 18) rfl ?_)
    refine ar_gI fl_RX2_44 dX2_fail_18 h ?_
    clear h
    intro x4 h
    refine aw_pc (pc' := 21) rfl ?_
    refine ar_aI dX2_fail_21 h ?_
    clear h
    intro x5 h
    refine aw_pc (pc' := 22) rfl ?_
    refine ar_pF fl_RX2_35 ft_X2_8 (okI _) dX2_fail_22 h ?_
    clear h
    intro F6 h
    refine aw_pc (pc' := 25) rfl ?_
    exact aw_mask [true, false] (tX2_fail_J25 h)
  · replace h := h.2 c
    exact aw_mask [true, false] (tX2_fail_J25 h)
def mX2_nextToken (o : Nat) (F : hp) (Q : hp → Prop) : Prop := gI F (some o) 2 7 (fun x1 => (w32 x1 = 0 → gI F (some o) 2 10 (fun x2 => (w32 x2 = 44 → Q F) ∧ (¬ w32 x2 = 44 → gI F (some o) 2 9 (fun x3 => gR F (some o) 2 1 (fun x4 => aN F x4 (fun x5 => (w32 (x3 + 1) < w32 x5 → gI F (some o) 2 9 (fun x6 => pF F (some o) 2 9 (vi (x6 + 1)) (fun F7 => gR F7 (some o) 2 1 (fun x8 => gI F7 (some o) 2 9 (fun x9 => aI F7 x8 0 x9 (fun x10 => pF F7 (some o) 2 10 (vi x10) (fun F11 => Q F11))))))) ∧ (¬ w32 (x3 + 1) < w32 x5 → Q F))))))) ∧ (¬ w32 x1 = 0 → Q F))
set_option maxHeartbeats 4000000 in
theorem tX2_nextToken {d : Nat} {o : Nat} {F : hp} {Q : hp → Prop} (h : mX2_nextToken o F Q) : am nX2_nextToken d 0 0 [vr (some o)] F (qV Q) := by
  refine am_of (by decide +kernel) (Nat.le_of_ble_eq_true rfl) ?_
  show aw nX2_nextToken d 0 0 0 [some (vr (some o))] [] F (qV Q)
  unfold mX2_nextToken at h
  refine aw_aload_n dX2_nextToken_0 rfl rfl (aw_pc (pc' := 1) rfl ?_)
  refine ar_gI fl_RX2_31 dX2_nextToken_1 h ?_
  clear h
  intro x1 h
  refine aw_pc (pc' := 4) rfl ?_
  refine aw_if_ne dX2_nextToken_4 rfl (fun c => ?_) (fun c => ?_)
  · replace h := h.1 c
    refine aw_aload_n dX2_nextToken_7 rfl rfl (aw_pc (pc' := 8) rfl ?_)
    refine ar_gI fl_RX2_47 dX2_nextToken_8 h ?_
    clear h
    intro x2 h
    refine aw_pc (pc' := 11) rfl ?_
    refine aw_bipush dX2_nextToken_11 (by decide) (aw_pc (pc' := 13) rfl ?_)
    refine ac_eq rfl wl_44 dX2_nextToken_13 rfl (fun c => ?_) (fun c => ?_)
    · replace h := h.1 c
      exact aw_vret rfl dX2_nextToken_53 ⟨rfl, h⟩
    · replace h := h.2 c
      refine aw_aload_n dX2_nextToken_16 rfl rfl (aw_pc (pc' := 17) rfl ?_)
      refine ar_gI fl_RX2_44 dX2_nextToken_17 h ?_
      clear h
      intro x3 h
      refine aw_pc (pc' := 20) rfl ?_
      refine aw_iconst dX2_nextToken_20 (aw_pc (pc' := 21) rfl ?_)
      refine aw_iadd dX2_nextToken_21 (aw_pc (pc' := 22) rfl ?_)
      refine aw_aload_n dX2_nextToken_22 rfl rfl (aw_pc (pc' := 23) rfl ?_)
      refine ar_gR fl_RX2_15 dX2_nextToken_23 h ?_
      clear h
      intro x4 h
      refine aw_pc (pc' := 26) rfl ?_
      refine ar_aN dX2_nextToken_26 h ?_
      clear h
      intro x5 h
      refine aw_pc (pc' := 27) rfl ?_
      refine ac_ge rfl rfl dX2_nextToken_27 rfl (fun c => ?_) (fun c => ?_)
      · replace h := h.1 c
        refine aw_aload_n dX2_nextToken_30 rfl rfl (aw_pc (pc' := 31) rfl ?_)
        refine aw_dup dX2_nextToken_31 trivial (aw_pc (pc' := 32) rfl ?_)
        refine ar_gI fl_RX2_44 dX2_nextToken_32 h ?_
        clear h
        intro x6 h
        refine aw_pc (pc' := 35) rfl ?_
        refine aw_iconst dX2_nextToken_35 (aw_pc (pc' := 36) rfl ?_)
        refine aw_iadd dX2_nextToken_36 (aw_pc (pc' := 37) rfl ?_)
        refine ar_pF fl_RX2_44 ft_X2_9 (okI _) dX2_nextToken_37 h ?_
        clear h
        intro F7 h
        refine aw_pc (pc' := 40) rfl ?_
        refine aw_aload_n dX2_nextToken_40 rfl rfl (aw_pc (pc' := 41) rfl ?_)
        refine aw_aload_n dX2_nextToken_41 rfl rfl (aw_pc (pc' := 42) rfl ?_)
        refine ar_gR fl_RX2_15 dX2_nextToken_42 h ?_
        clear h
        intro x8 h
        refine aw_pc (pc' := 45) rfl ?_
        refine aw_aload_n dX2_nextToken_45 rfl rfl (aw_pc (pc' := 46) rfl ?_)
        refine ar_gI fl_RX2_44 dX2_nextToken_46 h ?_
        clear h
        intro x9 h
        refine aw_pc (pc' := 49) rfl ?_
        refine ar_aI dX2_nextToken_49 h ?_
        clear h
        intro x10 h
        refine aw_pc (pc' := 50) rfl ?_
        refine ar_pF fl_RX2_47 ft_X2_10 (okI _) dX2_nextToken_50 h ?_
        clear h
        intro F11 h
        refine aw_pc (pc' := 53) rfl ?_
        exact aw_vret rfl dX2_nextToken_53 ⟨rfl, h⟩
      · replace h := h.2 c
        exact aw_vret rfl dX2_nextToken_53 ⟨rfl, h⟩
  · replace h := h.2 c
    exact aw_vret rfl dX2_nextToken_53 ⟨rfl, h⟩
def mX2_expectNumber (o : Nat) (a1 : Int) (a2 : Int) (F : hp) (Q : Int → hp → Prop) : Prop := gI F (some o) 2 10 (fun x1 => ∀ v2 : Int, v2 = (x1 - 100) → (w32 v2 < 0 → rcv F (some o) 2 (fun o4 => mX2_fail o4 1 F (fun F3 => Q 0 F3))) ∧ (¬ w32 v2 < 0 → mX11_within v2 a1 a2 F (fun x6 F5 => (w32 x6 = 0 → rcv F5 (some o) 2 (fun o8 => mX2_fail o8 2 F5 (fun F7 => Q 0 F7))) ∧ (¬ w32 x6 = 0 → rcv F5 (some o) 2 (fun o10 => mX2_nextToken o10 F5 (fun F9 => Q v2 F9))))))
set_option maxHeartbeats 4000000 in
theorem tX2_expectNumber {d : Nat} {o : Nat} {a1 : Int} {a2 : Int} {F : hp} {Q : Int → hp → Prop} (h : mX2_expectNumber o a1 a2 F Q) : am nX2_expectNumber (d + 1) 0 0 [vr (some o), vi a1, vi a2] F (qI Q) := by
  refine am_of (by decide +kernel) (Nat.le_of_ble_eq_true rfl) ?_
  show aw nX2_expectNumber (d + 1) 0 0 0 [some (vr (some o)), some (vi a1), some (vi a2), none] [] F (qI Q)
  unfold mX2_expectNumber at h
  refine aw_aload_n dX2_expectNumber_0 rfl rfl (aw_pc (pc' := 1) rfl ?_)
  refine ar_gI fl_RX2_47 dX2_expectNumber_1 h ?_
  clear h
  intro x1 h
  refine aw_pc (pc' := 4) rfl ?_
  refine aw_bipush dX2_expectNumber_4 (by decide) (aw_pc (pc' := 6) rfl ?_)
  refine aw_isub dX2_expectNumber_6 (aw_pc (pc' := 7) rfl ?_)
  generalize hv_v2 : (x1 - 100) = v2
  replace h := h v2 hv_v2.symm
  refine aw_istore_n dX2_expectNumber_7 rfl (by decide) (aw_pc (pc' := 8) rfl ?_)
  refine aw_iload_n dX2_expectNumber_8 rfl rfl (aw_pc (pc' := 9) rfl ?_)
  refine aw_if_ge dX2_expectNumber_9 rfl (fun c => ?_) (fun c => ?_)
  · replace h := h.1 c
    refine aw_aload_n dX2_expectNumber_12 rfl rfl (aw_pc (pc' := 13) rfl ?_)
    refine aw_iconst dX2_expectNumber_13 (aw_pc (pc' := 14) rfl ?_)
    have h0 := rcv_inv h
    clear h
    obtain ⟨o4, fs_o4, hr_o4, he_o4, h⟩ := h0
    obtain rfl : o = o4 := Option.some.inj hr_o4
    refine ar_VV (kc' := 0) (ks' := 0) (kc := 0) (ks := 0) (a := o) (ci := 2) (as := [vi 1]) (st := []) (tX2_fail h) mt_X2_fail rfl qM_RX2_140 qI_X2_fail qV_X2_fail he_o4 rfl (Nat.le_of_ble_eq_true rfl) dX2_expectNumber_14 ?_
    clear h
    intro F3 h
    refine aw_pc (pc' := 17) rfl ?_
    refine aw_iconst dX2_expectNumber_17 (aw_pc (pc' := 18) rfl ?_)
    exact aw_iret rfl dX2_expectNumber_18 ⟨_, rfl, h⟩
  · replace h := h.2 c
    refine aw_iload_n dX2_expectNumber_19 rfl rfl (aw_pc (pc' := 20) rfl ?_)
    refine aw_iload_n dX2_expectNumber_20 rfl rfl (aw_pc (pc' := 21) rfl ?_)
    refine aw_iload_n dX2_expectNumber_21 rfl rfl (aw_pc (pc' := 22) rfl ?_)
    refine ar_SNI (kc' := 0) (ks' := 0) (kc := 0) (ks := 0) (as := [vi v2, vi a1, vi a2]) (st := []) (tX11_within h) mt_X11_within qN_RX2_114 qS_X11_within rfl (Nat.le_of_ble_eq_true rfl) dX2_expectNumber_22 ?_
    clear h
    intro x6 F5 h
    refine aw_pc (pc' := 25) rfl ?_
    refine aw_if_ne dX2_expectNumber_25 rfl (fun c => ?_) (fun c => ?_)
    · replace h := h.1 c
      refine aw_aload_n dX2_expectNumber_28 rfl rfl (aw_pc (pc' := 29) rfl ?_)
      refine aw_iconst dX2_expectNumber_29 (aw_pc (pc' := 30) rfl ?_)
      have h0 := rcv_inv h
      clear h
      obtain ⟨o8, fs_o8, hr_o8, he_o8, h⟩ := h0
      obtain rfl : o = o8 := Option.some.inj hr_o8
      refine ar_VV (kc' := 0) (ks' := 0) (kc := 0) (ks := 0) (a := o) (ci := 2) (as := [vi 2]) (st := []) (tX2_fail h) mt_X2_fail rfl qM_RX2_140 qI_X2_fail qV_X2_fail he_o8 rfl (Nat.le_of_ble_eq_true rfl) dX2_expectNumber_30 ?_
      clear h
      intro F7 h
      refine aw_pc (pc' := 33) rfl ?_
      refine aw_iconst dX2_expectNumber_33 (aw_pc (pc' := 34) rfl ?_)
      exact aw_iret rfl dX2_expectNumber_34 ⟨_, rfl, h⟩
    · replace h := h.2 c
      refine aw_aload_n dX2_expectNumber_35 rfl rfl (aw_pc (pc' := 36) rfl ?_)
      have h0 := rcv_inv h
      clear h
      obtain ⟨o10, fs_o10, hr_o10, he_o10, h⟩ := h0
      obtain rfl : o = o10 := Option.some.inj hr_o10
      refine ar_VV (kc' := 0) (ks' := 0) (kc := 0) (ks := 0) (a := o) (ci := 2) (as := []) (st := []) (tX2_nextToken h) mt_X2_nextToken rfl qM_RX2_137 qI_X2_nextToken qV_X2_nextToken he_o10 rfl (Nat.le_of_ble_eq_true rfl) dX2_expectNumber_36 ?_
      clear h
      intro F9 h
      refine aw_pc (pc' := 39) rfl ?_
      refine aw_iload_n dX2_expectNumber_39 rfl rfl (aw_pc (pc' := 40) rfl ?_)
      exact aw_iret rfl dX2_expectNumber_40 ⟨_, rfl, h⟩
def mX2_emit (o : Nat) (a1 : Int) (F : hp) (Q : hp → Prop) : Prop := gI F (some o) 2 12 (fun x1 => gR F (some o) 2 3 (fun x2 => aN F x2 (fun x3 => (w32 x1 < w32 x3 → gR F (some o) 2 3 (fun x4 => gI F (some o) 2 12 (fun x5 => sI F x4 0 x5 a1 (fun F6 => gI F6 (some o) 2 12 (fun x7 => pF F6 (some o) 2 12 (vi (x7 + 1)) (fun F8 => Q F8)))))) ∧ (¬ w32 x1 < w32 x3 → Q F))))
set_option maxHeartbeats 4000000 in
theorem tX2_emit {d : Nat} {o : Nat} {a1 : Int} {F : hp} {Q : hp → Prop} (h : mX2_emit o a1 F Q) : am nX2_emit d 0 0 [vr (some o), vi a1] F (qV Q) := by
  refine am_of (by decide +kernel) (Nat.le_of_ble_eq_true rfl) ?_
  show aw nX2_emit d 0 0 0 [some (vr (some o)), some (vi a1)] [] F (qV Q)
  unfold mX2_emit at h
  refine aw_aload_n dX2_emit_0 rfl rfl (aw_pc (pc' := 1) rfl ?_)
  refine ar_gI fl_RX2_53 dX2_emit_1 h ?_
  clear h
  intro x1 h
  refine aw_pc (pc' := 4) rfl ?_
  refine aw_aload_n dX2_emit_4 rfl rfl (aw_pc (pc' := 5) rfl ?_)
  refine ar_gR fl_RX2_22 dX2_emit_5 h ?_
  clear h
  intro x2 h
  refine aw_pc (pc' := 8) rfl ?_
  refine ar_aN dX2_emit_8 h ?_
  clear h
  intro x3 h
  refine aw_pc (pc' := 9) rfl ?_
  refine ac_ge rfl rfl dX2_emit_9 rfl (fun c => ?_) (fun c => ?_)
  · replace h := h.1 c
    refine aw_aload_n dX2_emit_12 rfl rfl (aw_pc (pc' := 13) rfl ?_)
    refine ar_gR fl_RX2_22 dX2_emit_13 h ?_
    clear h
    intro x4 h
    refine aw_pc (pc' := 16) rfl ?_
    refine aw_aload_n dX2_emit_16 rfl rfl (aw_pc (pc' := 17) rfl ?_)
    refine ar_gI fl_RX2_53 dX2_emit_17 h ?_
    clear h
    intro x5 h
    refine aw_pc (pc' := 20) rfl ?_
    refine aw_iload_n dX2_emit_20 rfl rfl (aw_pc (pc' := 21) rfl ?_)
    refine ar_sI dX2_emit_21 h ?_
    clear h
    intro F6 h
    refine aw_pc (pc' := 22) rfl ?_
    refine aw_aload_n dX2_emit_22 rfl rfl (aw_pc (pc' := 23) rfl ?_)
    refine aw_dup dX2_emit_23 trivial (aw_pc (pc' := 24) rfl ?_)
    refine ar_gI fl_RX2_53 dX2_emit_24 h ?_
    clear h
    intro x7 h
    refine aw_pc (pc' := 27) rfl ?_
    refine aw_iconst dX2_emit_27 (aw_pc (pc' := 28) rfl ?_)
    refine aw_iadd dX2_emit_28 (aw_pc (pc' := 29) rfl ?_)
    refine ar_pF fl_RX2_53 ft_X2_12 (okI _) dX2_emit_29 h ?_
    clear h
    intro F8 h
    refine aw_pc (pc' := 32) rfl ?_
    exact aw_vret rfl dX2_emit_32 ⟨rfl, h⟩
  · replace h := h.2 c
    exact aw_vret rfl dX2_emit_32 ⟨rfl, h⟩
def mX2_readName_J26 (Q : hp → Prop) (o : Nat) (a1 : Int) (s0 : Int) (F : hp) : Prop := (w32 s0 = 0 → rcv F (some o) 2 (fun o2 => mX2_emit o2 (10000 + a1) F (fun F1 => rcv F1 (some o) 2 (fun o4 => mX2_nextToken o4 F1 (fun F3 => Q F3))))) ∧ (¬ w32 s0 = 0 → rcv F (some o) 2 (fun o6 => mX2_fail o6 5 F (fun F5 => Q F5)))
set_option maxHeartbeats 4000000 in
theorem tX2_readName_J26 {d : Nat} {Q : hp → Prop} {o : Nat} {a1 : Int} {s0 : Int} {F : hp} (h : mX2_readName_J26 Q o a1 s0 F) : aw nX2_readName (d + 1) 0 0 26 [some (vr (some o)), some (vi a1), none] [vi s0] F (qV Q) := by
  unfold mX2_readName_J26 at h
  refine aw_istore_n dX2_readName_26 rfl (by decide) (aw_pc (pc' := 27) rfl ?_)
  refine aw_iload_n dX2_readName_27 rfl rfl (aw_pc (pc' := 28) rfl ?_)
  refine aw_if_eq dX2_readName_28 rfl (fun c => ?_) (fun c => ?_)
  · replace h := h.1 c
    refine aw_aload_n dX2_readName_39 rfl rfl (aw_pc (pc' := 40) rfl ?_)
    refine aw_sipush dX2_readName_40 (by decide) (aw_pc (pc' := 43) rfl ?_)
    refine aw_iload_n dX2_readName_43 rfl rfl (aw_pc (pc' := 44) rfl ?_)
    refine aw_iadd dX2_readName_44 (aw_pc (pc' := 45) rfl ?_)
    have h0 := rcv_inv h
    clear h
    obtain ⟨o2, fs_o2, hr_o2, he_o2, h⟩ := h0
    obtain rfl : o = o2 := Option.some.inj hr_o2
    refine ar_VV (kc' := 0) (ks' := 0) (kc := 0) (ks := 0) (a := o) (ci := 2) (as := [vi (10000 + a1)]) (st := []) (tX2_emit h) mt_X2_emit rfl qM_RX2_170 qI_X2_emit qV_X2_emit he_o2 rfl (Nat.le_of_ble_eq_true rfl) dX2_readName_45 ?_
    clear h
    intro F1 h
    refine aw_pc (pc' := 48) rfl ?_
    refine aw_aload_n dX2_readName_48 rfl rfl (aw_pc (pc' := 49) rfl ?_)
    have h0 := rcv_inv h
    clear h
    obtain ⟨o4, fs_o4, hr_o4, he_o4, h⟩ := h0
    obtain rfl : o = o4 := Option.some.inj hr_o4
    refine ar_VV (kc' := 0) (ks' := 0) (kc := 0) (ks := 0) (a := o) (ci := 2) (as := []) (st := []) (tX2_nextToken h) mt_X2_nextToken rfl qM_RX2_137 qI_X2_nextToken qV_X2_nextToken he_o4 rfl (Nat.le_of_ble_eq_true rfl) dX2_readName_49 ?_
    clear h
    intro F3 h
    refine aw_pc (pc' := 52) rfl ?_
    exact aw_vret rfl dX2_readName_52 ⟨rfl, h⟩
  · replace h := h.2 c
    refine aw_aload_n dX2_readName_31 rfl rfl (aw_pc (pc' := 32) rfl ?_)
    refine aw_iconst dX2_readName_32 (aw_pc (pc' := 33) rfl ?_)
    have h0 := rcv_inv h
    clear h
    obtain ⟨o6, fs_o6, hr_o6, he_o6, h⟩ := h0
    obtain rfl : o = o6 := Option.some.inj hr_o6
    refine ar_VV (kc' := 0) (ks' := 0) (kc := 0) (ks := 0) (a := o) (ci := 2) (as := [vi 5]) (st := []) (tX2_fail h) mt_X2_fail rfl qM_RX2_140 qI_X2_fail qV_X2_fail he_o6 rfl (Nat.le_of_ble_eq_true rfl) dX2_readName_33 ?_
    clear h
    intro F5 h
    refine aw_pc (pc' := 36) rfl ?_
    refine aw_goto (tgt := 52) dX2_readName_36 rfl ?_
    exact aw_vret rfl dX2_readName_52 ⟨rfl, h⟩
def mX2_readName (o : Nat) (a1 : Int) (F : hp) (Q : hp → Prop) : Prop := gI F (some o) 2 14 (fun x1 => (w32 x1 = 0 → mX11_within a1 6 8 F (fun x3 F2 => mX2_readName_J26 Q o a1 x3 F2)) ∧ (¬ w32 x1 = 0 → mX11_within a1 9 10 F (fun x5 F4 => mX2_readName_J26 Q o a1 x5 F4)))
set_option maxHeartbeats 4000000 in
theorem tX2_readName {d : Nat} {o : Nat} {a1 : Int} {F : hp} {Q : hp → Prop} (h : mX2_readName o a1 F Q) : am nX2_readName (d + 1) 0 0 [vr (some o), vi a1] F (qV Q) := by
  refine am_of (by decide +kernel) (Nat.le_of_ble_eq_true rfl) ?_
  show aw nX2_readName (d + 1) 0 0 0 [some (vr (some o)), some (vi a1), none] [] F (qV Q)
  unfold mX2_readName at h
  refine aw_aload_n dX2_readName_0 rfl rfl (aw_pc (pc' := 1) rfl ?_)
  refine ar_gI fl_RX2_153 dX2_readName_1 h ?_
  clear h
  intro x1 h
  refine aw_pc (pc' := 4) rfl ?_
  refine aw_if_eq dX2_readName_4 rfl (fun c => ?_) (fun c => ?_)
  · replace h := h.1 c
    refine aw_iload_n dX2_readName_18 rfl rfl (aw_pc (pc' := 19) rfl ?_)
    refine aw_bipush dX2_readName_19 (by decide) (aw_pc (pc' := 21) rfl ?_)
    refine aw_bipush dX2_readName_21 (by decide) (aw_pc (pc' := 23) rfl ?_)
    refine ar_SNI (kc' := 0) (ks' := 0) (kc := 0) (ks := 0) (as := [vi a1, vi 6, vi 8]) (st := []) (tX11_within h) mt_X11_within qN_RX2_114 qS_X11_within rfl (Nat.le_of_ble_eq_true rfl) dX2_readName_23 ?_
    clear h
    intro x3 F2 h
    refine aw_pc (pc' := 26) rfl ?_
    exact aw_mask [true, true, false] (tX2_readName_J26 h)
  · replace h := h.2 c
    refine aw_iload_n dX2_readName_7 rfl rfl (aw_pc (pc' := 8) rfl ?_)
    refine aw_bipush dX2_readName_8 (by decide) (aw_pc (pc' := 10) rfl ?_)
    refine aw_bipush dX2_readName_10 (by decide) (aw_pc (pc' := 12) rfl ?_)
    refine ar_SNI (kc' := 0) (ks' := 0) (kc := 0) (ks := 0) (as := [vi a1, vi 9, vi 10]) (st := []) (tX11_within h) mt_X11_within qN_RX2_114 qS_X11_within rfl (Nat.le_of_ble_eq_true rfl) dX2_readName_12 ?_
    clear h
    intro x5 F4 h
    refine aw_pc (pc' := 15) rfl ?_
    refine aw_goto (tgt := 26) dX2_readName_15 rfl ?_
    exact aw_mask [true, true, false] (tX2_readName_J26 h)
def mX2_opens (o : Nat) (F : hp) (Q : Int → hp → Prop) : Prop := gI F (some o) 2 11 (fun x1 => (w32 x1 < 8 → gI F (some o) 2 11 (fun x2 => pF F (some o) 2 11 (vi (x2 + 1)) (fun F3 => rcv F3 (some o) 2 (fun o5 => mX2_nextToken o5 F3 (fun F4 => Q 1 F4))))) ∧ (¬ w32 x1 < 8 → rcv F (some o) 2 (fun o7 => mX2_fail o7 3 F (fun F6 => Q 0 F6))))
set_option maxHeartbeats 4000000 in
theorem tX2_opens {d : Nat} {o : Nat} {F : hp} {Q : Int → hp → Prop} (h : mX2_opens o F Q) : am nX2_opens (d + 1) 0 0 [vr (some o)] F (qI Q) := by
  refine am_of (by decide +kernel) (Nat.le_of_ble_eq_true rfl) ?_
  show aw nX2_opens (d + 1) 0 0 0 [some (vr (some o))] [] F (qI Q)
  unfold mX2_opens at h
  refine aw_aload_n dX2_opens_0 rfl rfl (aw_pc (pc' := 1) rfl ?_)
  refine ar_gI fl_RX2_50 dX2_opens_1 h ?_
  clear h
  intro x1 h
  refine aw_pc (pc' := 4) rfl ?_
  refine aw_bipush dX2_opens_4 (by decide) (aw_pc (pc' := 6) rfl ?_)
  refine ac_lt rfl wl_8 dX2_opens_6 rfl (fun c => ?_) (fun c => ?_)
  · replace h := h.1 c
    refine aw_aload_n dX2_opens_16 rfl rfl (aw_pc (pc' := 17) rfl ?_)
    refine aw_dup dX2_opens_17 trivial (aw_pc (pc' := 18) rfl ?_)
    refine ar_gI fl_RX2_50 dX2_opens_18 h ?_
    clear h
    intro x2 h
    refine aw_pc (pc' := 21) rfl ?_
    refine aw_iconst dX2_opens_21 (aw_pc (pc' := 22) rfl ?_)
    refine aw_iadd dX2_opens_22 (aw_pc (pc' := 23) rfl ?_)
    refine ar_pF fl_RX2_50 ft_X2_11 (okI _) dX2_opens_23 h ?_
    clear h
    intro F3 h
    refine aw_pc (pc' := 26) rfl ?_
    refine aw_aload_n dX2_opens_26 rfl rfl (aw_pc (pc' := 27) rfl ?_)
    have h0 := rcv_inv h
    clear h
    obtain ⟨o5, fs_o5, hr_o5, he_o5, h⟩ := h0
    obtain rfl : o = o5 := Option.some.inj hr_o5
    refine ar_VV (kc' := 0) (ks' := 0) (kc := 0) (ks := 0) (a := o) (ci := 2) (as := []) (st := []) (tX2_nextToken h) mt_X2_nextToken rfl qM_RX2_137 qI_X2_nextToken qV_X2_nextToken he_o5 rfl (Nat.le_of_ble_eq_true rfl) dX2_opens_27 ?_
    clear h
    intro F4 h
    refine aw_pc (pc' := 30) rfl ?_
    refine aw_iconst dX2_opens_30 (aw_pc (pc' := 31) rfl ?_)
    exact aw_zret rfl (by decide) dX2_opens_31 ⟨_, rfl, h⟩
  · replace h := h.2 c
    refine aw_aload_n dX2_opens_9 rfl rfl (aw_pc (pc' := 10) rfl ?_)
    refine aw_iconst dX2_opens_10 (aw_pc (pc' := 11) rfl ?_)
    have h0 := rcv_inv h
    clear h
    obtain ⟨o7, fs_o7, hr_o7, he_o7, h⟩ := h0
    obtain rfl : o = o7 := Option.some.inj hr_o7
    refine ar_VV (kc' := 0) (ks' := 0) (kc := 0) (ks := 0) (a := o) (ci := 2) (as := [vi 3]) (st := []) (tX2_fail h) mt_X2_fail rfl qM_RX2_140 qI_X2_fail qV_X2_fail he_o7 rfl (Nat.le_of_ble_eq_true rfl) dX2_opens_11 ?_
    clear h
    intro F6 h
    refine aw_pc (pc' := 14) rfl ?_
    refine aw_iconst dX2_opens_14 (aw_pc (pc' := 15) rfl ?_)
    exact aw_zret rfl (by decide) dX2_opens_15 ⟨_, rfl, h⟩
def mX2_expect (o : Nat) (a1 : Int) (F : hp) (Q : hp → Prop) : Prop := gI F (some o) 2 10 (fun x1 => (w32 x1 = w32 a1 → rcv F (some o) 2 (fun o3 => mX2_nextToken o3 F (fun F2 => Q F2))) ∧ (¬ w32 x1 = w32 a1 → rcv F (some o) 2 (fun o5 => mX2_fail o5 1 F (fun F4 => Q F4))))
set_option maxHeartbeats 4000000 in
theorem tX2_expect {d : Nat} {o : Nat} {a1 : Int} {F : hp} {Q : hp → Prop} (h : mX2_expect o a1 F Q) : am nX2_expect (d + 1) 0 0 [vr (some o), vi a1] F (qV Q) := by
  refine am_of (by decide +kernel) (Nat.le_of_ble_eq_true rfl) ?_
  show aw nX2_expect (d + 1) 0 0 0 [some (vr (some o)), some (vi a1)] [] F (qV Q)
  unfold mX2_expect at h
  refine aw_aload_n dX2_expect_0 rfl rfl (aw_pc (pc' := 1) rfl ?_)
  refine ar_gI fl_RX2_47 dX2_expect_1 h ?_
  clear h
  intro x1 h
  refine aw_pc (pc' := 4) rfl ?_
  refine aw_iload_n dX2_expect_4 rfl rfl (aw_pc (pc' := 5) rfl ?_)
  refine ac_ne rfl rfl dX2_expect_5 rfl (fun c => ?_) (fun c => ?_)
  · replace h := h.1 c
    refine aw_aload_n dX2_expect_8 rfl rfl (aw_pc (pc' := 9) rfl ?_)
    have h0 := rcv_inv h
    clear h
    obtain ⟨o3, fs_o3, hr_o3, he_o3, h⟩ := h0
    obtain rfl : o = o3 := Option.some.inj hr_o3
    refine ar_VV (kc' := 0) (ks' := 0) (kc := 0) (ks := 0) (a := o) (ci := 2) (as := []) (st := []) (tX2_nextToken h) mt_X2_nextToken rfl qM_RX2_137 qI_X2_nextToken qV_X2_nextToken he_o3 rfl (Nat.le_of_ble_eq_true rfl) dX2_expect_9 ?_
    clear h
    intro F2 h
    refine aw_pc (pc' := 12) rfl ?_
    refine aw_goto (tgt := 20) dX2_expect_12 rfl ?_
    exact aw_vret rfl dX2_expect_20 ⟨rfl, h⟩
  · replace h := h.2 c
    refine aw_aload_n dX2_expect_15 rfl rfl (aw_pc (pc' := 16) rfl ?_)
    refine aw_iconst dX2_expect_16 (aw_pc (pc' := 17) rfl ?_)
    have h0 := rcv_inv h
    clear h
    obtain ⟨o5, fs_o5, hr_o5, he_o5, h⟩ := h0
    obtain rfl : o = o5 := Option.some.inj hr_o5
    refine ar_VV (kc' := 0) (ks' := 0) (kc := 0) (ks := 0) (a := o) (ci := 2) (as := [vi 1]) (st := []) (tX2_fail h) mt_X2_fail rfl qM_RX2_140 qI_X2_fail qV_X2_fail he_o5 rfl (Nat.le_of_ble_eq_true rfl) dX2_expect_17 ?_
    clear h
    intro F4 h
    refine aw_pc (pc' := 20) rfl ?_
    exact aw_vret rfl dX2_expect_20 ⟨rfl, h⟩
def oX2_readAsk_J70 (c_readAsk : Nat → hp → (hp → Prop) → Prop) (c_readSum : Nat → hp → (hp → Prop) → Prop) (Q : hp → Prop) (o : Nat) (a1 : Int) (F : hp) : Prop := rcv F (some o) 2 (fun o2 => mX2_nextToken o2 F (fun F1 => rcv F1 (some o) 2 (fun o4 => c_readSum o4 F1 (fun F3 => rcv F3 (some o) 2 (fun o6 => mX2_emit o6 (20000 + a1) F3 (fun F5 => Q F5))))))
set_option maxHeartbeats 4000000 in
theorem tX2_readAsk_J70 {d : Nat} {c_readAsk : Nat → hp → (hp → Prop) → Prop} {c_readSum : Nat → hp → (hp → Prop) → Prop} (H_readAsk : ∀ (o : Nat) (F : hp) (Q : hp → Prop), c_readAsk o F Q → am nX2_readAsk (d + 3) 0 0 [vr (some o)] F (qV Q)) (H_readSum : ∀ (o : Nat) (F : hp) (Q : hp → Prop), c_readSum o F Q → am nX2_readSum (d + 3) 0 0 [vr (some o)] F (qV Q)) {Q : hp → Prop} {o : Nat} {a1 : Int} {F : hp} (h : oX2_readAsk_J70 c_readAsk c_readSum Q o a1 F) : aw nX2_readAsk (d + 4) 0 0 70 [some (vr (some o)), some (vi a1)] [] F (qV Q) := by
  unfold oX2_readAsk_J70 at h
  refine aw_aload_n dX2_readAsk_70 rfl rfl (aw_pc (pc' := 71) rfl ?_)
  have h0 := rcv_inv h
  clear h
  obtain ⟨o2, fs_o2, hr_o2, he_o2, h⟩ := h0
  obtain rfl : o = o2 := Option.some.inj hr_o2
  refine ar_VV (kc' := 0) (ks' := 0) (kc := 0) (ks := 0) (a := o) (ci := 2) (as := []) (st := []) (tX2_nextToken h) mt_X2_nextToken rfl qM_RX2_137 qI_X2_nextToken qV_X2_nextToken he_o2 rfl (Nat.le_of_ble_eq_true rfl) dX2_readAsk_71 ?_
  clear h
  intro F1 h
  refine aw_pc (pc' := 74) rfl ?_
  refine aw_aload_n dX2_readAsk_74 rfl rfl (aw_pc (pc' := 75) rfl ?_)
  have h0 := rcv_inv h
  clear h
  obtain ⟨o4, fs_o4, hr_o4, he_o4, h⟩ := h0
  obtain rfl : o = o4 := Option.some.inj hr_o4
  refine ar_VV (kc' := 0) (ks' := 0) (kc := 0) (ks := 0) (a := o) (ci := 2) (as := []) (st := []) (H_readSum _ _ _ h) mt_X2_readSum rfl qM_RX2_157 qI_X2_readSum qV_X2_readSum he_o4 rfl (Nat.le_of_ble_eq_true rfl) dX2_readAsk_75 ?_
  clear h
  intro F3 h
  refine aw_pc (pc' := 78) rfl ?_
  refine aw_aload_n dX2_readAsk_78 rfl rfl (aw_pc (pc' := 79) rfl ?_)
  refine aw_sipush dX2_readAsk_79 (by decide) (aw_pc (pc' := 82) rfl ?_)
  refine aw_iload_n dX2_readAsk_82 rfl rfl (aw_pc (pc' := 83) rfl ?_)
  refine aw_iadd dX2_readAsk_83 (aw_pc (pc' := 84) rfl ?_)
  have h0 := rcv_inv h
  clear h
  obtain ⟨o6, fs_o6, hr_o6, he_o6, h⟩ := h0
  obtain rfl : o = o6 := Option.some.inj hr_o6
  refine ar_VV (kc' := 0) (ks' := 0) (kc := 0) (ks := 0) (a := o) (ci := 2) (as := [vi (20000 + a1)]) (st := []) (tX2_emit h) mt_X2_emit rfl qM_RX2_170 qI_X2_emit qV_X2_emit he_o6 rfl (Nat.le_of_ble_eq_true rfl) dX2_readAsk_84 ?_
  clear h
  intro F5 h
  refine aw_pc (pc' := 87) rfl ?_
  refine aw_goto (tgt := 95) dX2_readAsk_87 rfl ?_
  exact aw_vret rfl dX2_readAsk_95 ⟨rfl, h⟩
def oX2_readAsk (c_readAsk : Nat → hp → (hp → Prop) → Prop) (c_readSum : Nat → hp → (hp → Prop) → Prop) (o : Nat) (F : hp) (Q : hp → Prop) : Prop := gI F (some o) 2 10 (fun x1 => (w32 x1 = 28 → rcv F (some o) 2 (fun o4 => mX2_opens o4 F (fun x3 F2 => (w32 x3 = 0 → Q F2) ∧ (¬ w32 x3 = 0 → rcv F2 (some o) 2 (fun o6 => c_readAsk o6 F2 (fun F5 => rcv F5 (some o) 2 (fun o8 => mX2_emit o8 20028 F5 (fun F7 => gI F7 (some o) 2 11 (fun x9 => pF F7 (some o) 2 11 (vi (x9 - 1)) (fun F10 => Q F10)))))))))) ∧ (¬ w32 x1 = 28 → rcv F (some o) 2 (fun o12 => c_readSum o12 F (fun F11 => gI F11 (some o) 2 10 (fun x13 => mX11_within x13 30 33 F11 (fun x15 F14 => (w32 x15 = 0 → (w32 x13 = 41 → oX2_readAsk_J70 c_readAsk c_readSum Q o x13 F14) ∧ (¬ w32 x13 = 41 → (w32 x13 = 42 → oX2_readAsk_J70 c_readAsk c_readSum Q o x13 F14) ∧ (¬ w32 x13 = 42 → rcv F14 (some o) 2 (fun o17 => mX2_fail o17 1 F14 (fun F16 => Q F16))))) ∧ (¬ w32 x15 = 0 → oX2_readAsk_J70 c_readAsk c_readSum Q o x13 F14)))))))
set_option maxHeartbeats 4000000 in
theorem toX2_readAsk {d : Nat} {c_readAsk : Nat → hp → (hp → Prop) → Prop} {c_readSum : Nat → hp → (hp → Prop) → Prop} (H_readAsk : ∀ (o : Nat) (F : hp) (Q : hp → Prop), c_readAsk o F Q → am nX2_readAsk (d + 3) 0 0 [vr (some o)] F (qV Q)) (H_readSum : ∀ (o : Nat) (F : hp) (Q : hp → Prop), c_readSum o F Q → am nX2_readSum (d + 3) 0 0 [vr (some o)] F (qV Q)) {o : Nat} {F : hp} {Q : hp → Prop} (h : oX2_readAsk c_readAsk c_readSum o F Q) : am nX2_readAsk (d + 4) 0 0 [vr (some o)] F (qV Q) := by
  refine am_of (by decide +kernel) (Nat.le_of_ble_eq_true rfl) ?_
  show aw nX2_readAsk (d + 4) 0 0 0 [some (vr (some o)), none] [] F (qV Q)
  unfold oX2_readAsk at h
  refine aw_aload_n dX2_readAsk_0 rfl rfl (aw_pc (pc' := 1) rfl ?_)
  refine ar_gI fl_RX2_47 dX2_readAsk_1 h ?_
  clear h
  intro x1 h
  refine aw_pc (pc' := 4) rfl ?_
  refine aw_bipush dX2_readAsk_4 (by decide) (aw_pc (pc' := 6) rfl ?_)
  refine ac_ne rfl wl_28 dX2_readAsk_6 rfl (fun c => ?_) (fun c => ?_)
  · replace h := h.1 c
    refine aw_aload_n dX2_readAsk_9 rfl rfl (aw_pc (pc' := 10) rfl ?_)
    have h0 := rcv_inv h
    clear h
    obtain ⟨o4, fs_o4, hr_o4, he_o4, h⟩ := h0
    obtain rfl : o = o4 := Option.some.inj hr_o4
    refine ar_VI (kc' := 0) (ks' := 0) (kc := 0) (ks := 0) (a := o) (ci := 2) (as := []) (st := []) (tX2_opens h) mt_X2_opens rfl qM_RX2_179 qI_X2_opens qV_X2_opens he_o4 rfl (Nat.le_of_ble_eq_true rfl) dX2_readAsk_10 ?_
    clear h
    intro x3 F2 h
    refine aw_pc (pc' := 13) rfl ?_
    refine aw_if_eq dX2_readAsk_13 rfl (fun c => ?_) (fun c => ?_)
    · replace h := h.1 c
      exact aw_vret rfl dX2_readAsk_37 ⟨rfl, h⟩
    · replace h := h.2 c
      refine aw_aload_n dX2_readAsk_16 rfl rfl (aw_pc (pc' := 17) rfl ?_)
      have h0 := rcv_inv h
      clear h
      obtain ⟨o6, fs_o6, hr_o6, he_o6, h⟩ := h0
      obtain rfl : o = o6 := Option.some.inj hr_o6
      refine ar_VV (kc' := 0) (ks' := 0) (kc := 0) (ks := 0) (a := o) (ci := 2) (as := []) (st := []) (H_readAsk _ _ _ h) mt_X2_readAsk rfl qM_RX2_192 qI_X2_readAsk qV_X2_readAsk he_o6 rfl (Nat.le_of_ble_eq_true rfl) dX2_readAsk_17 ?_
      clear h
      intro F5 h
      refine aw_pc (pc' := 20) rfl ?_
      refine aw_aload_n dX2_readAsk_20 rfl rfl (aw_pc (pc' := 21) rfl ?_)
      refine aw_sipush dX2_readAsk_21 (by decide) (aw_pc (pc' := 24) rfl ?_)
      have h0 := rcv_inv h
      clear h
      obtain ⟨o8, fs_o8, hr_o8, he_o8, h⟩ := h0
      obtain rfl : o = o8 := Option.some.inj hr_o8
      refine ar_VV (kc' := 0) (ks' := 0) (kc := 0) (ks := 0) (a := o) (ci := 2) (as := [vi 20028]) (st := []) (tX2_emit h) mt_X2_emit rfl qM_RX2_170 qI_X2_emit qV_X2_emit he_o8 rfl (Nat.le_of_ble_eq_true rfl) dX2_readAsk_24 ?_
      clear h
      intro F7 h
      refine aw_pc (pc' := 27) rfl ?_
      refine aw_aload_n dX2_readAsk_27 rfl rfl (aw_pc (pc' := 28) rfl ?_)
      refine aw_dup dX2_readAsk_28 trivial (aw_pc (pc' := 29) rfl ?_)
      refine ar_gI fl_RX2_50 dX2_readAsk_29 h ?_
      clear h
      intro x9 h
      refine aw_pc (pc' := 32) rfl ?_
      refine aw_iconst dX2_readAsk_32 (aw_pc (pc' := 33) rfl ?_)
      refine aw_isub dX2_readAsk_33 (aw_pc (pc' := 34) rfl ?_)
      refine ar_pF fl_RX2_50 ft_X2_11 (okI _) dX2_readAsk_34 h ?_
      clear h
      intro F10 h
      refine aw_pc (pc' := 37) rfl ?_
      exact aw_vret rfl dX2_readAsk_37 ⟨rfl, h⟩
  · replace h := h.2 c
    refine aw_aload_n dX2_readAsk_38 rfl rfl (aw_pc (pc' := 39) rfl ?_)
    have h0 := rcv_inv h
    clear h
    obtain ⟨o12, fs_o12, hr_o12, he_o12, h⟩ := h0
    obtain rfl : o = o12 := Option.some.inj hr_o12
    refine ar_VV (kc' := 0) (ks' := 0) (kc := 0) (ks := 0) (a := o) (ci := 2) (as := []) (st := []) (H_readSum _ _ _ h) mt_X2_readSum rfl qM_RX2_157 qI_X2_readSum qV_X2_readSum he_o12 rfl (Nat.le_of_ble_eq_true rfl) dX2_readAsk_39 ?_
    clear h
    intro F11 h
    refine aw_pc (pc' := 42) rfl ?_
    refine aw_aload_n dX2_readAsk_42 rfl rfl (aw_pc (pc' := 43) rfl ?_)
    refine ar_gI fl_RX2_47 dX2_readAsk_43 h ?_
    clear h
    intro x13 h
    refine aw_pc (pc' := 46) rfl ?_
    refine aw_istore_n dX2_readAsk_46 rfl (by decide) (aw_pc (pc' := 47) rfl ?_)
    refine aw_iload_n dX2_readAsk_47 rfl rfl (aw_pc (pc' := 48) rfl ?_)
    refine aw_bipush dX2_readAsk_48 (by decide) (aw_pc (pc' := 50) rfl ?_)
    refine aw_bipush dX2_readAsk_50 (by decide) (aw_pc (pc' := 52) rfl ?_)
    refine ar_SNI (kc' := 0) (ks' := 0) (kc := 0) (ks := 0) (as := [vi x13, vi 30, vi 33]) (st := []) (tX11_within h) mt_X11_within qN_RX2_114 qS_X11_within rfl (Nat.le_of_ble_eq_true rfl) dX2_readAsk_52 ?_
    clear h
    intro x15 F14 h
    refine aw_pc (pc' := 55) rfl ?_
    refine aw_if_ne dX2_readAsk_55 rfl (fun c => ?_) (fun c => ?_)
    · replace h := h.1 c
      refine aw_iload_n dX2_readAsk_58 rfl rfl (aw_pc (pc' := 59) rfl ?_)
      refine aw_bipush dX2_readAsk_59 (by decide) (aw_pc (pc' := 61) rfl ?_)
      refine ac_eq rfl wl_41 dX2_readAsk_61 rfl (fun c => ?_) (fun c => ?_)
      · replace h := h.1 c
        exact aw_mask [true, true] (tX2_readAsk_J70 H_readAsk H_readSum h)
      · replace h := h.2 c
        refine aw_iload_n dX2_readAsk_64 rfl rfl (aw_pc (pc' := 65) rfl ?_)
        refine aw_bipush dX2_readAsk_65 (by decide) (aw_pc (pc' := 67) rfl ?_)
        refine ac_ne rfl wl_42 dX2_readAsk_67 rfl (fun c => ?_) (fun c => ?_)
        · replace h := h.1 c
          exact aw_mask [true, true] (tX2_readAsk_J70 H_readAsk H_readSum h)
        · replace h := h.2 c
          refine aw_aload_n dX2_readAsk_90 rfl rfl (aw_pc (pc' := 91) rfl ?_)
          refine aw_iconst dX2_readAsk_91 (aw_pc (pc' := 92) rfl ?_)
          have h0 := rcv_inv h
          clear h
          obtain ⟨o17, fs_o17, hr_o17, he_o17, h⟩ := h0
          obtain rfl : o = o17 := Option.some.inj hr_o17
          refine ar_VV (kc' := 0) (ks' := 0) (kc := 0) (ks := 0) (a := o) (ci := 2) (as := [vi 1]) (st := []) (tX2_fail h) mt_X2_fail rfl qM_RX2_140 qI_X2_fail qV_X2_fail he_o17 rfl (Nat.le_of_ble_eq_true rfl) dX2_readAsk_92 ?_
          clear h
          intro F16 h
          refine aw_pc (pc' := 95) rfl ?_
          exact aw_vret rfl dX2_readAsk_95 ⟨rfl, h⟩
    · replace h := h.2 c
      exact aw_mask [true, true] (tX2_readAsk_J70 H_readAsk H_readSum h)
def oX2_readBoth_L6 (c_readAsk : Nat → hp → (hp → Prop) → Prop) (Q : hp → Prop) : Nat → Nat → Int → hp → Prop
  | 0, _, _, _ => False
  | k + 1, o, a1, F => (w32 a1 < 300 → gI F (some o) 2 10 (fun x1 => (w32 x1 = 27 → rcv F (some o) 2 (fun o3 => mX2_nextToken o3 F (fun F2 => rcv F2 (some o) 2 (fun o5 => c_readAsk o5 F2 (fun F4 => rcv F4 (some o) 2 (fun o7 => mX2_emit o7 20027 F4 (fun F6 => oX2_readBoth_L6 c_readAsk Q k o (a1 + 1) F6))))))) ∧ (¬ w32 x1 = 27 → Q F))) ∧ (¬ w32 a1 < 300 → Q F)
set_option maxHeartbeats 4000000 in
theorem tX2_readBoth_L6 {d : Nat} {c_readAsk : Nat → hp → (hp → Prop) → Prop} (H_readAsk : ∀ (o : Nat) (F : hp) (Q : hp → Prop), c_readAsk o F Q → am nX2_readAsk (d + 3) 0 0 [vr (some o)] F (qV Q)) {Q : hp → Prop} : ∀ (k : Nat) (o : Nat) (a1 : Int) (F : hp), oX2_readBoth_L6 c_readAsk Q k o a1 F → aw nX2_readBoth (d + 4) 0 0 6 [some (vr (some o)), some (vi a1)] [] F (qV Q) := by
  intro k
  induction k with
  | zero => intro o a1 F h; exact h.elim
  | succ k ih =>
    intro o a1 F h
    simp only [oX2_readBoth_L6] at h
    refine aw_iload_n dX2_readBoth_6 rfl rfl (aw_pc (pc' := 7) rfl ?_)
    refine aw_sipush dX2_readBoth_7 (by decide) (aw_pc (pc' := 10) rfl ?_)
    refine ac_ge rfl wl_300 dX2_readBoth_10 rfl (fun c => ?_) (fun c => ?_)
    · replace h := h.1 c
      refine aw_aload_n dX2_readBoth_13 rfl rfl (aw_pc (pc' := 14) rfl ?_)
      refine ar_gI fl_RX2_47 dX2_readBoth_14 h ?_
      clear h
      intro x1 h
      refine aw_pc (pc' := 17) rfl ?_
      refine aw_bipush dX2_readBoth_17 (by decide) (aw_pc (pc' := 19) rfl ?_)
      refine ac_ne rfl wl_27 dX2_readBoth_19 rfl (fun c => ?_) (fun c => ?_)
      · replace h := h.1 c
        refine aw_aload_n dX2_readBoth_22 rfl rfl (aw_pc (pc' := 23) rfl ?_)
        have h0 := rcv_inv h
        clear h
        obtain ⟨o3, fs_o3, hr_o3, he_o3, h⟩ := h0
        obtain rfl : o = o3 := Option.some.inj hr_o3
        refine ar_VV (kc' := 0) (ks' := 0) (kc := 0) (ks := 0) (a := o) (ci := 2) (as := []) (st := []) (tX2_nextToken h) mt_X2_nextToken rfl qM_RX2_137 qI_X2_nextToken qV_X2_nextToken he_o3 rfl (Nat.le_of_ble_eq_true rfl) dX2_readBoth_23 ?_
        clear h
        intro F2 h
        refine aw_pc (pc' := 26) rfl ?_
        refine aw_aload_n dX2_readBoth_26 rfl rfl (aw_pc (pc' := 27) rfl ?_)
        have h0 := rcv_inv h
        clear h
        obtain ⟨o5, fs_o5, hr_o5, he_o5, h⟩ := h0
        obtain rfl : o = o5 := Option.some.inj hr_o5
        refine ar_VV (kc' := 0) (ks' := 0) (kc := 0) (ks := 0) (a := o) (ci := 2) (as := []) (st := []) (H_readAsk _ _ _ h) mt_X2_readAsk rfl qM_RX2_192 qI_X2_readAsk qV_X2_readAsk he_o5 rfl (Nat.le_of_ble_eq_true rfl) dX2_readBoth_27 ?_
        clear h
        intro F4 h
        refine aw_pc (pc' := 30) rfl ?_
        refine aw_aload_n dX2_readBoth_30 rfl rfl (aw_pc (pc' := 31) rfl ?_)
        refine aw_sipush dX2_readBoth_31 (by decide) (aw_pc (pc' := 34) rfl ?_)
        have h0 := rcv_inv h
        clear h
        obtain ⟨o7, fs_o7, hr_o7, he_o7, h⟩ := h0
        obtain rfl : o = o7 := Option.some.inj hr_o7
        refine ar_VV (kc' := 0) (ks' := 0) (kc := 0) (ks := 0) (a := o) (ci := 2) (as := [vi 20027]) (st := []) (tX2_emit h) mt_X2_emit rfl qM_RX2_170 qI_X2_emit qV_X2_emit he_o7 rfl (Nat.le_of_ble_eq_true rfl) dX2_readBoth_34 ?_
        clear h
        intro F6 h
        refine aw_pc (pc' := 37) rfl ?_
        refine aw_iinc dX2_readBoth_37 rfl (by decide) (aw_pc (pc' := 40) rfl ?_)
        refine aw_goto (tgt := 6) dX2_readBoth_40 rfl ?_
        exact aw_mask [true, true] (ih _ _ _ h)
      · replace h := h.2 c
        exact aw_vret rfl dX2_readBoth_43 ⟨rfl, h⟩
    · replace h := h.2 c
      exact aw_vret rfl dX2_readBoth_43 ⟨rfl, h⟩
def oX2_readBoth (c_readAsk : Nat → hp → (hp → Prop) → Prop) (o : Nat) (F : hp) (Q : hp → Prop) : Prop := rcv F (some o) 2 (fun o2 => c_readAsk o2 F (fun F1 => (∃ k3, oX2_readBoth_L6 c_readAsk Q k3 o 0 F1)))
set_option maxHeartbeats 4000000 in
theorem toX2_readBoth {d : Nat} {c_readAsk : Nat → hp → (hp → Prop) → Prop} (H_readAsk : ∀ (o : Nat) (F : hp) (Q : hp → Prop), c_readAsk o F Q → am nX2_readAsk (d + 3) 0 0 [vr (some o)] F (qV Q)) {o : Nat} {F : hp} {Q : hp → Prop} (h : oX2_readBoth c_readAsk o F Q) : am nX2_readBoth (d + 4) 0 0 [vr (some o)] F (qV Q) := by
  refine am_of (by decide +kernel) (Nat.le_of_ble_eq_true rfl) ?_
  show aw nX2_readBoth (d + 4) 0 0 0 [some (vr (some o)), none] [] F (qV Q)
  unfold oX2_readBoth at h
  refine aw_aload_n dX2_readBoth_0 rfl rfl (aw_pc (pc' := 1) rfl ?_)
  have h0 := rcv_inv h
  clear h
  obtain ⟨o2, fs_o2, hr_o2, he_o2, h⟩ := h0
  obtain rfl : o = o2 := Option.some.inj hr_o2
  refine ar_VV (kc' := 0) (ks' := 0) (kc := 0) (ks := 0) (a := o) (ci := 2) (as := []) (st := []) (H_readAsk _ _ _ h) mt_X2_readAsk rfl qM_RX2_192 qI_X2_readAsk qV_X2_readAsk he_o2 rfl (Nat.le_of_ble_eq_true rfl) dX2_readBoth_1 ?_
  clear h
  intro F1 h
  refine aw_pc (pc' := 4) rfl ?_
  refine aw_iconst dX2_readBoth_4 (aw_pc (pc' := 5) rfl ?_)
  refine aw_istore_n dX2_readBoth_5 rfl (by decide) (aw_pc (pc' := 6) rfl ?_)
  obtain ⟨k3, h⟩ := h
  exact aw_mask [true, true] (tX2_readBoth_L6 H_readAsk k3 _ _ _ h)
def oX2_readEither_L6 (c_readBoth : Nat → hp → (hp → Prop) → Prop) (Q : hp → Prop) : Nat → Nat → Int → hp → Prop
  | 0, _, _, _ => False
  | k + 1, o, a1, F => (w32 a1 < 300 → gI F (some o) 2 10 (fun x1 => (w32 x1 = 26 → rcv F (some o) 2 (fun o3 => mX2_nextToken o3 F (fun F2 => rcv F2 (some o) 2 (fun o5 => c_readBoth o5 F2 (fun F4 => rcv F4 (some o) 2 (fun o7 => mX2_emit o7 20026 F4 (fun F6 => oX2_readEither_L6 c_readBoth Q k o (a1 + 1) F6))))))) ∧ (¬ w32 x1 = 26 → Q F))) ∧ (¬ w32 a1 < 300 → Q F)
set_option maxHeartbeats 4000000 in
theorem tX2_readEither_L6 {d : Nat} {c_readBoth : Nat → hp → (hp → Prop) → Prop} (H_readBoth : ∀ (o : Nat) (F : hp) (Q : hp → Prop), c_readBoth o F Q → am nX2_readBoth (d + 3) 0 0 [vr (some o)] F (qV Q)) {Q : hp → Prop} : ∀ (k : Nat) (o : Nat) (a1 : Int) (F : hp), oX2_readEither_L6 c_readBoth Q k o a1 F → aw nX2_readEither (d + 4) 0 0 6 [some (vr (some o)), some (vi a1)] [] F (qV Q) := by
  intro k
  induction k with
  | zero => intro o a1 F h; exact h.elim
  | succ k ih =>
    intro o a1 F h
    simp only [oX2_readEither_L6] at h
    refine aw_iload_n dX2_readEither_6 rfl rfl (aw_pc (pc' := 7) rfl ?_)
    refine aw_sipush dX2_readEither_7 (by decide) (aw_pc (pc' := 10) rfl ?_)
    refine ac_ge rfl wl_300 dX2_readEither_10 rfl (fun c => ?_) (fun c => ?_)
    · replace h := h.1 c
      refine aw_aload_n dX2_readEither_13 rfl rfl (aw_pc (pc' := 14) rfl ?_)
      refine ar_gI fl_RX2_47 dX2_readEither_14 h ?_
      clear h
      intro x1 h
      refine aw_pc (pc' := 17) rfl ?_
      refine aw_bipush dX2_readEither_17 (by decide) (aw_pc (pc' := 19) rfl ?_)
      refine ac_ne rfl wl_26 dX2_readEither_19 rfl (fun c => ?_) (fun c => ?_)
      · replace h := h.1 c
        refine aw_aload_n dX2_readEither_22 rfl rfl (aw_pc (pc' := 23) rfl ?_)
        have h0 := rcv_inv h
        clear h
        obtain ⟨o3, fs_o3, hr_o3, he_o3, h⟩ := h0
        obtain rfl : o = o3 := Option.some.inj hr_o3
        refine ar_VV (kc' := 0) (ks' := 0) (kc := 0) (ks := 0) (a := o) (ci := 2) (as := []) (st := []) (tX2_nextToken h) mt_X2_nextToken rfl qM_RX2_137 qI_X2_nextToken qV_X2_nextToken he_o3 rfl (Nat.le_of_ble_eq_true rfl) dX2_readEither_23 ?_
        clear h
        intro F2 h
        refine aw_pc (pc' := 26) rfl ?_
        refine aw_aload_n dX2_readEither_26 rfl rfl (aw_pc (pc' := 27) rfl ?_)
        have h0 := rcv_inv h
        clear h
        obtain ⟨o5, fs_o5, hr_o5, he_o5, h⟩ := h0
        obtain rfl : o = o5 := Option.some.inj hr_o5
        refine ar_VV (kc' := 0) (ks' := 0) (kc := 0) (ks := 0) (a := o) (ci := 2) (as := []) (st := []) (H_readBoth _ _ _ h) mt_X2_readBoth rfl qM_RX2_189 qI_X2_readBoth qV_X2_readBoth he_o5 rfl (Nat.le_of_ble_eq_true rfl) dX2_readEither_27 ?_
        clear h
        intro F4 h
        refine aw_pc (pc' := 30) rfl ?_
        refine aw_aload_n dX2_readEither_30 rfl rfl (aw_pc (pc' := 31) rfl ?_)
        refine aw_sipush dX2_readEither_31 (by decide) (aw_pc (pc' := 34) rfl ?_)
        have h0 := rcv_inv h
        clear h
        obtain ⟨o7, fs_o7, hr_o7, he_o7, h⟩ := h0
        obtain rfl : o = o7 := Option.some.inj hr_o7
        refine ar_VV (kc' := 0) (ks' := 0) (kc := 0) (ks := 0) (a := o) (ci := 2) (as := [vi 20026]) (st := []) (tX2_emit h) mt_X2_emit rfl qM_RX2_170 qI_X2_emit qV_X2_emit he_o7 rfl (Nat.le_of_ble_eq_true rfl) dX2_readEither_34 ?_
        clear h
        intro F6 h
        refine aw_pc (pc' := 37) rfl ?_
        refine aw_iinc dX2_readEither_37 rfl (by decide) (aw_pc (pc' := 40) rfl ?_)
        refine aw_goto (tgt := 6) dX2_readEither_40 rfl ?_
        exact aw_mask [true, true] (ih _ _ _ h)
      · replace h := h.2 c
        exact aw_vret rfl dX2_readEither_43 ⟨rfl, h⟩
    · replace h := h.2 c
      exact aw_vret rfl dX2_readEither_43 ⟨rfl, h⟩
def oX2_readEither (c_readBoth : Nat → hp → (hp → Prop) → Prop) (o : Nat) (F : hp) (Q : hp → Prop) : Prop := rcv F (some o) 2 (fun o2 => c_readBoth o2 F (fun F1 => (∃ k3, oX2_readEither_L6 c_readBoth Q k3 o 0 F1)))
set_option maxHeartbeats 4000000 in
theorem toX2_readEither {d : Nat} {c_readBoth : Nat → hp → (hp → Prop) → Prop} (H_readBoth : ∀ (o : Nat) (F : hp) (Q : hp → Prop), c_readBoth o F Q → am nX2_readBoth (d + 3) 0 0 [vr (some o)] F (qV Q)) {o : Nat} {F : hp} {Q : hp → Prop} (h : oX2_readEither c_readBoth o F Q) : am nX2_readEither (d + 4) 0 0 [vr (some o)] F (qV Q) := by
  refine am_of (by decide +kernel) (Nat.le_of_ble_eq_true rfl) ?_
  show aw nX2_readEither (d + 4) 0 0 0 [some (vr (some o)), none] [] F (qV Q)
  unfold oX2_readEither at h
  refine aw_aload_n dX2_readEither_0 rfl rfl (aw_pc (pc' := 1) rfl ?_)
  have h0 := rcv_inv h
  clear h
  obtain ⟨o2, fs_o2, hr_o2, he_o2, h⟩ := h0
  obtain rfl : o = o2 := Option.some.inj hr_o2
  refine ar_VV (kc' := 0) (ks' := 0) (kc := 0) (ks := 0) (a := o) (ci := 2) (as := []) (st := []) (H_readBoth _ _ _ h) mt_X2_readBoth rfl qM_RX2_189 qI_X2_readBoth qV_X2_readBoth he_o2 rfl (Nat.le_of_ble_eq_true rfl) dX2_readEither_1 ?_
  clear h
  intro F1 h
  refine aw_pc (pc' := 4) rfl ?_
  refine aw_iconst dX2_readEither_4 (aw_pc (pc' := 5) rfl ?_)
  refine aw_istore_n dX2_readEither_5 rfl (by decide) (aw_pc (pc' := 6) rfl ?_)
  obtain ⟨k3, h⟩ := h
  exact aw_mask [true, true] (tX2_readEither_L6 H_readBoth k3 _ _ _ h)
def oX2_readChoice (c_readEither : Nat → hp → (hp → Prop) → Prop) (c_readSum : Nat → hp → (hp → Prop) → Prop) (o : Nat) (F : hp) (Q : hp → Prop) : Prop := rcv F (some o) 2 (fun o2 => c_readEither o2 F (fun F1 => rcv F1 (some o) 2 (fun o4 => mX2_expect o4 23 F1 (fun F3 => rcv F3 (some o) 2 (fun o6 => c_readSum o6 F3 (fun F5 => rcv F5 (some o) 2 (fun o8 => mX2_expect o8 24 F5 (fun F7 => rcv F7 (some o) 2 (fun o10 => c_readSum o10 F7 (fun F9 => rcv F9 (some o) 2 (fun o12 => mX2_expect o12 25 F9 (fun F11 => rcv F11 (some o) 2 (fun o14 => mX2_emit o14 20022 F11 (fun F13 => Q F13))))))))))))))
set_option maxHeartbeats 4000000 in
theorem toX2_readChoice {d : Nat} {c_readEither : Nat → hp → (hp → Prop) → Prop} {c_readSum : Nat → hp → (hp → Prop) → Prop} (H_readEither : ∀ (o : Nat) (F : hp) (Q : hp → Prop), c_readEither o F Q → am nX2_readEither (d + 3) 0 0 [vr (some o)] F (qV Q)) (H_readSum : ∀ (o : Nat) (F : hp) (Q : hp → Prop), c_readSum o F Q → am nX2_readSum (d + 3) 0 0 [vr (some o)] F (qV Q)) {o : Nat} {F : hp} {Q : hp → Prop} (h : oX2_readChoice c_readEither c_readSum o F Q) : am nX2_readChoice (d + 4) 0 0 [vr (some o)] F (qV Q) := by
  refine am_of (by decide +kernel) (Nat.le_of_ble_eq_true rfl) ?_
  show aw nX2_readChoice (d + 4) 0 0 0 [some (vr (some o))] [] F (qV Q)
  unfold oX2_readChoice at h
  refine aw_aload_n dX2_readChoice_0 rfl rfl (aw_pc (pc' := 1) rfl ?_)
  have h0 := rcv_inv h
  clear h
  obtain ⟨o2, fs_o2, hr_o2, he_o2, h⟩ := h0
  obtain rfl : o = o2 := Option.some.inj hr_o2
  refine ar_VV (kc' := 0) (ks' := 0) (kc := 0) (ks := 0) (a := o) (ci := 2) (as := []) (st := []) (H_readEither _ _ _ h) mt_X2_readEither rfl qM_RX2_186 qI_X2_readEither qV_X2_readEither he_o2 rfl (Nat.le_of_ble_eq_true rfl) dX2_readChoice_1 ?_
  clear h
  intro F1 h
  refine aw_pc (pc' := 4) rfl ?_
  refine aw_aload_n dX2_readChoice_4 rfl rfl (aw_pc (pc' := 5) rfl ?_)
  refine aw_bipush dX2_readChoice_5 (by decide) (aw_pc (pc' := 7) rfl ?_)
  have h0 := rcv_inv h
  clear h
  obtain ⟨o4, fs_o4, hr_o4, he_o4, h⟩ := h0
  obtain rfl : o = o4 := Option.some.inj hr_o4
  refine ar_VV (kc' := 0) (ks' := 0) (kc := 0) (ks := 0) (a := o) (ci := 2) (as := [vi 23]) (st := []) (tX2_expect h) mt_X2_expect rfl qM_RX2_150 qI_X2_expect qV_X2_expect he_o4 rfl (Nat.le_of_ble_eq_true rfl) dX2_readChoice_7 ?_
  clear h
  intro F3 h
  refine aw_pc (pc' := 10) rfl ?_
  refine aw_aload_n dX2_readChoice_10 rfl rfl (aw_pc (pc' := 11) rfl ?_)
  have h0 := rcv_inv h
  clear h
  obtain ⟨o6, fs_o6, hr_o6, he_o6, h⟩ := h0
  obtain rfl : o = o6 := Option.some.inj hr_o6
  refine ar_VV (kc' := 0) (ks' := 0) (kc := 0) (ks := 0) (a := o) (ci := 2) (as := []) (st := []) (H_readSum _ _ _ h) mt_X2_readSum rfl qM_RX2_157 qI_X2_readSum qV_X2_readSum he_o6 rfl (Nat.le_of_ble_eq_true rfl) dX2_readChoice_11 ?_
  clear h
  intro F5 h
  refine aw_pc (pc' := 14) rfl ?_
  refine aw_aload_n dX2_readChoice_14 rfl rfl (aw_pc (pc' := 15) rfl ?_)
  refine aw_bipush dX2_readChoice_15 (by decide) (aw_pc (pc' := 17) rfl ?_)
  have h0 := rcv_inv h
  clear h
  obtain ⟨o8, fs_o8, hr_o8, he_o8, h⟩ := h0
  obtain rfl : o = o8 := Option.some.inj hr_o8
  refine ar_VV (kc' := 0) (ks' := 0) (kc := 0) (ks := 0) (a := o) (ci := 2) (as := [vi 24]) (st := []) (tX2_expect h) mt_X2_expect rfl qM_RX2_150 qI_X2_expect qV_X2_expect he_o8 rfl (Nat.le_of_ble_eq_true rfl) dX2_readChoice_17 ?_
  clear h
  intro F7 h
  refine aw_pc (pc' := 20) rfl ?_
  refine aw_aload_n dX2_readChoice_20 rfl rfl (aw_pc (pc' := 21) rfl ?_)
  have h0 := rcv_inv h
  clear h
  obtain ⟨o10, fs_o10, hr_o10, he_o10, h⟩ := h0
  obtain rfl : o = o10 := Option.some.inj hr_o10
  refine ar_VV (kc' := 0) (ks' := 0) (kc := 0) (ks := 0) (a := o) (ci := 2) (as := []) (st := []) (H_readSum _ _ _ h) mt_X2_readSum rfl qM_RX2_157 qI_X2_readSum qV_X2_readSum he_o10 rfl (Nat.le_of_ble_eq_true rfl) dX2_readChoice_21 ?_
  clear h
  intro F9 h
  refine aw_pc (pc' := 24) rfl ?_
  refine aw_aload_n dX2_readChoice_24 rfl rfl (aw_pc (pc' := 25) rfl ?_)
  refine aw_bipush dX2_readChoice_25 (by decide) (aw_pc (pc' := 27) rfl ?_)
  have h0 := rcv_inv h
  clear h
  obtain ⟨o12, fs_o12, hr_o12, he_o12, h⟩ := h0
  obtain rfl : o = o12 := Option.some.inj hr_o12
  refine ar_VV (kc' := 0) (ks' := 0) (kc := 0) (ks := 0) (a := o) (ci := 2) (as := [vi 25]) (st := []) (tX2_expect h) mt_X2_expect rfl qM_RX2_150 qI_X2_expect qV_X2_expect he_o12 rfl (Nat.le_of_ble_eq_true rfl) dX2_readChoice_27 ?_
  clear h
  intro F11 h
  refine aw_pc (pc' := 30) rfl ?_
  refine aw_aload_n dX2_readChoice_30 rfl rfl (aw_pc (pc' := 31) rfl ?_)
  refine aw_sipush dX2_readChoice_31 (by decide) (aw_pc (pc' := 34) rfl ?_)
  have h0 := rcv_inv h
  clear h
  obtain ⟨o14, fs_o14, hr_o14, he_o14, h⟩ := h0
  obtain rfl : o = o14 := Option.some.inj hr_o14
  refine ar_VV (kc' := 0) (ks' := 0) (kc := 0) (ks := 0) (a := o) (ci := 2) (as := [vi 20022]) (st := []) (tX2_emit h) mt_X2_emit rfl qM_RX2_170 qI_X2_emit qV_X2_emit he_o14 rfl (Nat.le_of_ble_eq_true rfl) dX2_readChoice_34 ?_
  clear h
  intro F13 h
  refine aw_pc (pc' := 37) rfl ?_
  exact aw_vret rfl dX2_readChoice_37 ⟨rfl, h⟩
def oX2_readOne_J145 (c_readSum : Nat → hp → (hp → Prop) → Prop) (c_readChoice : Nat → hp → (hp → Prop) → Prop) (c_readOne : Nat → hp → (hp → Prop) → Prop) (Q : hp → Prop) (o : Nat) (F : hp) : Prop := gI F (some o) 2 11 (fun x1 => pF F (some o) 2 11 (vi (x1 - 1)) (fun F2 => Q F2))
set_option maxHeartbeats 4000000 in
theorem tX2_readOne_J145 {d : Nat} {c_readSum : Nat → hp → (hp → Prop) → Prop} {c_readChoice : Nat → hp → (hp → Prop) → Prop} {c_readOne : Nat → hp → (hp → Prop) → Prop} (H_readSum : ∀ (o : Nat) (F : hp) (Q : hp → Prop), c_readSum o F Q → am nX2_readSum (d + 3) 0 0 [vr (some o)] F (qV Q)) (H_readChoice : ∀ (o : Nat) (F : hp) (Q : hp → Prop), c_readChoice o F Q → am nX2_readChoice (d + 3) 0 0 [vr (some o)] F (qV Q)) (H_readOne : ∀ (o : Nat) (F : hp) (Q : hp → Prop), c_readOne o F Q → am nX2_readOne (d + 3) 0 0 [vr (some o)] F (qV Q)) {Q : hp → Prop} {o : Nat} {F : hp} (h : oX2_readOne_J145 c_readSum c_readChoice c_readOne Q o F) : aw nX2_readOne (d + 4) 0 0 145 [some (vr (some o)), none] [] F (qV Q) := by
  unfold oX2_readOne_J145 at h
  refine aw_aload_n dX2_readOne_145 rfl rfl (aw_pc (pc' := 146) rfl ?_)
  refine aw_dup dX2_readOne_146 trivial (aw_pc (pc' := 147) rfl ?_)
  refine ar_gI fl_RX2_50 dX2_readOne_147 h ?_
  clear h
  intro x1 h
  refine aw_pc (pc' := 150) rfl ?_
  refine aw_iconst dX2_readOne_150 (aw_pc (pc' := 151) rfl ?_)
  refine aw_isub dX2_readOne_151 (aw_pc (pc' := 152) rfl ?_)
  refine ar_pF fl_RX2_50 ft_X2_11 (okI _) dX2_readOne_152 h ?_
  clear h
  intro F2 h
  refine aw_pc (pc' := 155) rfl ?_
  exact aw_vret rfl dX2_readOne_155 ⟨rfl, h⟩
def oX2_readOne_J141 (c_readSum : Nat → hp → (hp → Prop) → Prop) (c_readChoice : Nat → hp → (hp → Prop) → Prop) (c_readOne : Nat → hp → (hp → Prop) → Prop) (Q : hp → Prop) (o : Nat) (s0 : Option Nat) (s1 : Int) (s2 : Int) (F : hp) : Prop := rcv F s0 2 (fun o2 => mX2_emit o2 (s1 + s2) F (fun F1 => oX2_readOne_J145 c_readSum c_readChoice c_readOne Q o F1))
set_option maxHeartbeats 4000000 in
theorem tX2_readOne_J141 {d : Nat} {c_readSum : Nat → hp → (hp → Prop) → Prop} {c_readChoice : Nat → hp → (hp → Prop) → Prop} {c_readOne : Nat → hp → (hp → Prop) → Prop} (H_readSum : ∀ (o : Nat) (F : hp) (Q : hp → Prop), c_readSum o F Q → am nX2_readSum (d + 3) 0 0 [vr (some o)] F (qV Q)) (H_readChoice : ∀ (o : Nat) (F : hp) (Q : hp → Prop), c_readChoice o F Q → am nX2_readChoice (d + 3) 0 0 [vr (some o)] F (qV Q)) (H_readOne : ∀ (o : Nat) (F : hp) (Q : hp → Prop), c_readOne o F Q → am nX2_readOne (d + 3) 0 0 [vr (some o)] F (qV Q)) {Q : hp → Prop} {o : Nat} {s0 : Option Nat} {s1 : Int} {s2 : Int} {F : hp} (h : oX2_readOne_J141 c_readSum c_readChoice c_readOne Q o s0 s1 s2 F) : aw nX2_readOne (d + 4) 0 0 141 [some (vr (some o)), none] [vi s2, vi s1, vr s0] F (qV Q) := by
  unfold oX2_readOne_J141 at h
  refine aw_iadd dX2_readOne_141 (aw_pc (pc' := 142) rfl ?_)
  have h0 := rcv_inv h
  clear h
  obtain ⟨o2, fs_o2, hr_o2, he_o2, h⟩ := h0
  subst hr_o2
  refine ar_VV (kc' := 0) (ks' := 0) (kc := 0) (ks := 0) (a := o2) (ci := 2) (as := [vi (s1 + s2)]) (st := []) (tX2_emit h) mt_X2_emit rfl qM_RX2_170 qI_X2_emit qV_X2_emit he_o2 rfl (Nat.le_of_ble_eq_true rfl) dX2_readOne_142 ?_
  clear h
  intro F1 h
  refine aw_pc (pc' := 145) rfl ?_
  exact aw_mask [true, false] (tX2_readOne_J145 H_readSum H_readChoice H_readOne h)
def oX2_readOne_J82 (c_readSum : Nat → hp → (hp → Prop) → Prop) (c_readChoice : Nat → hp → (hp → Prop) → Prop) (c_readOne : Nat → hp → (hp → Prop) → Prop) (Q : hp → Prop) (o : Nat) (a1 : Int) (F : hp) : Prop := rcv F (some o) 2 (fun o3 => mX2_opens o3 F (fun x2 F1 => (w32 x2 = 0 → Q F1) ∧ (¬ w32 x2 = 0 → (w32 a1 = 38 → rcv F1 (some o) 2 (fun o5 => c_readSum o5 F1 (fun F4 => rcv F4 (some o) 2 (fun o7 => mX2_expect o7 39 F4 (fun F6 => oX2_readOne_J145 c_readSum c_readChoice c_readOne Q o F6))))) ∧ (¬ w32 a1 = 38 → (w32 a1 = 22 → rcv F1 (some o) 2 (fun o9 => c_readChoice o9 F1 (fun F8 => oX2_readOne_J145 c_readSum c_readChoice c_readOne Q o F8))) ∧ (¬ w32 a1 = 22 → rcv F1 (some o) 2 (fun o11 => c_readOne o11 F1 (fun F10 => (w32 a1 = 35 → oX2_readOne_J141 c_readSum c_readChoice c_readOne Q o (some o) 20000 43 F10) ∧ (¬ w32 a1 = 35 → oX2_readOne_J141 c_readSum c_readChoice c_readOne Q o (some o) 20000 a1 F10))))))))
set_option maxHeartbeats 4000000 in
theorem tX2_readOne_J82 {d : Nat} {c_readSum : Nat → hp → (hp → Prop) → Prop} {c_readChoice : Nat → hp → (hp → Prop) → Prop} {c_readOne : Nat → hp → (hp → Prop) → Prop} (H_readSum : ∀ (o : Nat) (F : hp) (Q : hp → Prop), c_readSum o F Q → am nX2_readSum (d + 3) 0 0 [vr (some o)] F (qV Q)) (H_readChoice : ∀ (o : Nat) (F : hp) (Q : hp → Prop), c_readChoice o F Q → am nX2_readChoice (d + 3) 0 0 [vr (some o)] F (qV Q)) (H_readOne : ∀ (o : Nat) (F : hp) (Q : hp → Prop), c_readOne o F Q → am nX2_readOne (d + 3) 0 0 [vr (some o)] F (qV Q)) {Q : hp → Prop} {o : Nat} {a1 : Int} {F : hp} (h : oX2_readOne_J82 c_readSum c_readChoice c_readOne Q o a1 F) : aw nX2_readOne (d + 4) 0 0 82 [some (vr (some o)), some (vi a1)] [] F (qV Q) := by
  unfold oX2_readOne_J82 at h
  refine aw_aload_n dX2_readOne_82 rfl rfl (aw_pc (pc' := 83) rfl ?_)
  have h0 := rcv_inv h
  clear h
  obtain ⟨o3, fs_o3, hr_o3, he_o3, h⟩ := h0
  obtain rfl : o = o3 := Option.some.inj hr_o3
  refine ar_VI (kc' := 0) (ks' := 0) (kc := 0) (ks := 0) (a := o) (ci := 2) (as := []) (st := []) (tX2_opens h) mt_X2_opens rfl qM_RX2_179 qI_X2_opens qV_X2_opens he_o3 rfl (Nat.le_of_ble_eq_true rfl) dX2_readOne_83 ?_
  clear h
  intro x2 F1 h
  refine aw_pc (pc' := 86) rfl ?_
  refine aw_if_eq dX2_readOne_86 rfl (fun c => ?_) (fun c => ?_)
  · replace h := h.1 c
    exact aw_vret rfl dX2_readOne_155 ⟨rfl, h⟩
  · replace h := h.2 c
    refine aw_iload_n dX2_readOne_89 rfl rfl (aw_pc (pc' := 90) rfl ?_)
    refine aw_bipush dX2_readOne_90 (by decide) (aw_pc (pc' := 92) rfl ?_)
    refine ac_ne rfl wl_38 dX2_readOne_92 rfl (fun c => ?_) (fun c => ?_)
    · replace h := h.1 c
      refine aw_aload_n dX2_readOne_95 rfl rfl (aw_pc (pc' := 96) rfl ?_)
      have h0 := rcv_inv h
      clear h
      obtain ⟨o5, fs_o5, hr_o5, he_o5, h⟩ := h0
      obtain rfl : o = o5 := Option.some.inj hr_o5
      refine ar_VV (kc' := 0) (ks' := 0) (kc := 0) (ks := 0) (a := o) (ci := 2) (as := []) (st := []) (H_readSum _ _ _ h) mt_X2_readSum rfl qM_RX2_157 qI_X2_readSum qV_X2_readSum he_o5 rfl (Nat.le_of_ble_eq_true rfl) dX2_readOne_96 ?_
      clear h
      intro F4 h
      refine aw_pc (pc' := 99) rfl ?_
      refine aw_aload_n dX2_readOne_99 rfl rfl (aw_pc (pc' := 100) rfl ?_)
      refine aw_bipush dX2_readOne_100 (by decide) (aw_pc (pc' := 102) rfl ?_)
      have h0 := rcv_inv h
      clear h
      obtain ⟨o7, fs_o7, hr_o7, he_o7, h⟩ := h0
      obtain rfl : o = o7 := Option.some.inj hr_o7
      refine ar_VV (kc' := 0) (ks' := 0) (kc := 0) (ks := 0) (a := o) (ci := 2) (as := [vi 39]) (st := []) (tX2_expect h) mt_X2_expect rfl qM_RX2_150 qI_X2_expect qV_X2_expect he_o7 rfl (Nat.le_of_ble_eq_true rfl) dX2_readOne_102 ?_
      clear h
      intro F6 h
      refine aw_pc (pc' := 105) rfl ?_
      refine aw_goto (tgt := 145) dX2_readOne_105 rfl ?_
      exact aw_mask [true, false] (tX2_readOne_J145 H_readSum H_readChoice H_readOne h)
    · replace h := h.2 c
      refine aw_iload_n dX2_readOne_108 rfl rfl (aw_pc (pc' := 109) rfl ?_)
      refine aw_bipush dX2_readOne_109 (by decide) (aw_pc (pc' := 111) rfl ?_)
      refine ac_ne rfl wl_22 dX2_readOne_111 rfl (fun c => ?_) (fun c => ?_)
      · replace h := h.1 c
        refine aw_aload_n dX2_readOne_114 rfl rfl (aw_pc (pc' := 115) rfl ?_)
        have h0 := rcv_inv h
        clear h
        obtain ⟨o9, fs_o9, hr_o9, he_o9, h⟩ := h0
        obtain rfl : o = o9 := Option.some.inj hr_o9
        refine ar_VV (kc' := 0) (ks' := 0) (kc := 0) (ks := 0) (a := o) (ci := 2) (as := []) (st := []) (H_readChoice _ _ _ h) mt_X2_readChoice rfl qM_RX2_183 qI_X2_readChoice qV_X2_readChoice he_o9 rfl (Nat.le_of_ble_eq_true rfl) dX2_readOne_115 ?_
        clear h
        intro F8 h
        refine aw_pc (pc' := 118) rfl ?_
        refine aw_goto (tgt := 145) dX2_readOne_118 rfl ?_
        exact aw_mask [true, false] (tX2_readOne_J145 H_readSum H_readChoice H_readOne h)
      · replace h := h.2 c
        refine aw_aload_n dX2_readOne_121 rfl rfl (aw_pc (pc' := 122) rfl ?_)
        have h0 := rcv_inv h
        clear h
        obtain ⟨o11, fs_o11, hr_o11, he_o11, h⟩ := h0
        obtain rfl : o = o11 := Option.some.inj hr_o11
        refine ar_VV (kc' := 0) (ks' := 0) (kc := 0) (ks := 0) (a := o) (ci := 2) (as := []) (st := []) (H_readOne _ _ _ h) mt_X2_readOne rfl qM_RX2_173 qI_X2_readOne qV_X2_readOne he_o11 rfl (Nat.le_of_ble_eq_true rfl) dX2_readOne_122 ?_
        clear h
        intro F10 h
        refine aw_pc (pc' := 125) rfl ?_
        refine aw_aload_n dX2_readOne_125 rfl rfl (aw_pc (pc' := 126) rfl ?_)
        refine aw_sipush dX2_readOne_126 (by decide) (aw_pc (pc' := 129) rfl ?_)
        refine aw_iload_n dX2_readOne_129 rfl rfl (aw_pc (pc' := 130) rfl ?_)
        refine aw_bipush dX2_readOne_130 (by decide) (aw_pc (pc' := 132) rfl ?_)
        refine ac_ne rfl wl_35 dX2_readOne_132 rfl (fun c => ?_) (fun c => ?_)
        · replace h := h.1 c
          refine aw_bipush dX2_readOne_135 (by decide) (aw_pc (pc' := 137) rfl ?_)
          refine aw_goto (tgt := 141) dX2_readOne_137 rfl ?_
          exact aw_mask [true, false] (tX2_readOne_J141 H_readSum H_readChoice H_readOne h)
        · replace h := h.2 c
          refine aw_iload_n dX2_readOne_140 rfl rfl (aw_pc (pc' := 141) rfl ?_)
          exact aw_mask [true, false] (tX2_readOne_J141 H_readSum H_readChoice H_readOne h)
def oX2_readOne (c_readSum : Nat → hp → (hp → Prop) → Prop) (c_readChoice : Nat → hp → (hp → Prop) → Prop) (c_readOne : Nat → hp → (hp → Prop) → Prop) (o : Nat) (F : hp) (Q : hp → Prop) : Prop := gI F (some o) 2 10 (fun x1 => (w32 x1 < 100 → mX11_within x1 0 10 F (fun x3 F2 => (w32 x3 = 0 → (w32 x1 = 38 → oX2_readOne_J82 c_readSum c_readChoice c_readOne Q o x1 F2) ∧ (¬ w32 x1 = 38 → (w32 x1 = 35 → oX2_readOne_J82 c_readSum c_readChoice c_readOne Q o x1 F2) ∧ (¬ w32 x1 = 35 → (w32 x1 = 20 → oX2_readOne_J82 c_readSum c_readChoice c_readOne Q o x1 F2) ∧ (¬ w32 x1 = 20 → (w32 x1 = 21 → oX2_readOne_J82 c_readSum c_readChoice c_readOne Q o x1 F2) ∧ (¬ w32 x1 = 21 → (w32 x1 = 22 → oX2_readOne_J82 c_readSum c_readChoice c_readOne Q o x1 F2) ∧ (¬ w32 x1 = 22 → rcv F2 (some o) 2 (fun o5 => mX2_fail o5 1 F2 (fun F4 => Q F4)))))))) ∧ (¬ w32 x3 = 0 → rcv F2 (some o) 2 (fun o7 => mX2_readName o7 x1 F2 (fun F6 => Q F6))))) ∧ (¬ w32 x1 < 100 → rcv F (some o) 2 (fun o10 => mX2_expectNumber o10 0 9999 F (fun x9 F8 => rcv F8 (some o) 2 (fun o12 => mX2_emit o12 x9 F8 (fun F11 => Q F11))))))
set_option maxHeartbeats 4000000 in
theorem toX2_readOne {d : Nat} {c_readSum : Nat → hp → (hp → Prop) → Prop} {c_readChoice : Nat → hp → (hp → Prop) → Prop} {c_readOne : Nat → hp → (hp → Prop) → Prop} (H_readSum : ∀ (o : Nat) (F : hp) (Q : hp → Prop), c_readSum o F Q → am nX2_readSum (d + 3) 0 0 [vr (some o)] F (qV Q)) (H_readChoice : ∀ (o : Nat) (F : hp) (Q : hp → Prop), c_readChoice o F Q → am nX2_readChoice (d + 3) 0 0 [vr (some o)] F (qV Q)) (H_readOne : ∀ (o : Nat) (F : hp) (Q : hp → Prop), c_readOne o F Q → am nX2_readOne (d + 3) 0 0 [vr (some o)] F (qV Q)) {o : Nat} {F : hp} {Q : hp → Prop} (h : oX2_readOne c_readSum c_readChoice c_readOne o F Q) : am nX2_readOne (d + 4) 0 0 [vr (some o)] F (qV Q) := by
  refine am_of (by decide +kernel) (Nat.le_of_ble_eq_true rfl) ?_
  show aw nX2_readOne (d + 4) 0 0 0 [some (vr (some o)), none] [] F (qV Q)
  unfold oX2_readOne at h
  refine aw_aload_n dX2_readOne_0 rfl rfl (aw_pc (pc' := 1) rfl ?_)
  refine ar_gI fl_RX2_47 dX2_readOne_1 h ?_
  clear h
  intro x1 h
  refine aw_pc (pc' := 4) rfl ?_
  refine aw_istore_n dX2_readOne_4 rfl (by decide) (aw_pc (pc' := 5) rfl ?_)
  refine aw_iload_n dX2_readOne_5 rfl rfl (aw_pc (pc' := 6) rfl ?_)
  refine aw_bipush dX2_readOne_6 (by decide) (aw_pc (pc' := 8) rfl ?_)
  refine ac_lt rfl wl_100 dX2_readOne_8 rfl (fun c => ?_) (fun c => ?_)
  · replace h := h.1 c
    refine aw_iload_n dX2_readOne_26 rfl rfl (aw_pc (pc' := 27) rfl ?_)
    refine aw_iconst dX2_readOne_27 (aw_pc (pc' := 28) rfl ?_)
    refine aw_bipush dX2_readOne_28 (by decide) (aw_pc (pc' := 30) rfl ?_)
    refine ar_SNI (kc' := 0) (ks' := 0) (kc := 0) (ks := 0) (as := [vi x1, vi 0, vi 10]) (st := []) (tX11_within h) mt_X11_within qN_RX2_114 qS_X11_within rfl (Nat.le_of_ble_eq_true rfl) dX2_readOne_30 ?_
    clear h
    intro x3 F2 h
    refine aw_pc (pc' := 33) rfl ?_
    refine aw_if_eq dX2_readOne_33 rfl (fun c => ?_) (fun c => ?_)
    · replace h := h.1 c
      refine aw_iload_n dX2_readOne_44 rfl rfl (aw_pc (pc' := 45) rfl ?_)
      refine aw_bipush dX2_readOne_45 (by decide) (aw_pc (pc' := 47) rfl ?_)
      refine ac_eq rfl wl_38 dX2_readOne_47 rfl (fun c => ?_) (fun c => ?_)
      · replace h := h.1 c
        exact aw_mask [true, true] (tX2_readOne_J82 H_readSum H_readChoice H_readOne h)
      · replace h := h.2 c
        refine aw_iload_n dX2_readOne_50 rfl rfl (aw_pc (pc' := 51) rfl ?_)
        refine aw_bipush dX2_readOne_51 (by decide) (aw_pc (pc' := 53) rfl ?_)
        refine ac_eq rfl wl_35 dX2_readOne_53 rfl (fun c => ?_) (fun c => ?_)
        · replace h := h.1 c
          exact aw_mask [true, true] (tX2_readOne_J82 H_readSum H_readChoice H_readOne h)
        · replace h := h.2 c
          refine aw_iload_n dX2_readOne_56 rfl rfl (aw_pc (pc' := 57) rfl ?_)
          refine aw_bipush dX2_readOne_57 (by decide) (aw_pc (pc' := 59) rfl ?_)
          refine ac_eq rfl wl_20 dX2_readOne_59 rfl (fun c => ?_) (fun c => ?_)
          · replace h := h.1 c
            exact aw_mask [true, true] (tX2_readOne_J82 H_readSum H_readChoice H_readOne h)
          · replace h := h.2 c
            refine aw_iload_n dX2_readOne_62 rfl rfl (aw_pc (pc' := 63) rfl ?_)
            refine aw_bipush dX2_readOne_63 (by decide) (aw_pc (pc' := 65) rfl ?_)
            refine ac_eq rfl wl_21 dX2_readOne_65 rfl (fun c => ?_) (fun c => ?_)
            · replace h := h.1 c
              exact aw_mask [true, true] (tX2_readOne_J82 H_readSum H_readChoice H_readOne h)
            · replace h := h.2 c
              refine aw_iload_n dX2_readOne_68 rfl rfl (aw_pc (pc' := 69) rfl ?_)
              refine aw_bipush dX2_readOne_69 (by decide) (aw_pc (pc' := 71) rfl ?_)
              refine ac_eq rfl wl_22 dX2_readOne_71 rfl (fun c => ?_) (fun c => ?_)
              · replace h := h.1 c
                exact aw_mask [true, true] (tX2_readOne_J82 H_readSum H_readChoice H_readOne h)
              · replace h := h.2 c
                refine aw_aload_n dX2_readOne_74 rfl rfl (aw_pc (pc' := 75) rfl ?_)
                refine aw_iconst dX2_readOne_75 (aw_pc (pc' := 76) rfl ?_)
                have h0 := rcv_inv h
                clear h
                obtain ⟨o5, fs_o5, hr_o5, he_o5, h⟩ := h0
                obtain rfl : o = o5 := Option.some.inj hr_o5
                refine ar_VV (kc' := 0) (ks' := 0) (kc := 0) (ks := 0) (a := o) (ci := 2) (as := [vi 1]) (st := []) (tX2_fail h) mt_X2_fail rfl qM_RX2_140 qI_X2_fail qV_X2_fail he_o5 rfl (Nat.le_of_ble_eq_true rfl) dX2_readOne_76 ?_
                clear h
                intro F4 h
                refine aw_pc (pc' := 79) rfl ?_
                refine aw_goto (tgt := 155) dX2_readOne_79 rfl ?_
                exact aw_vret rfl dX2_readOne_155 ⟨rfl, h⟩
    · replace h := h.2 c
      refine aw_aload_n dX2_readOne_36 rfl rfl (aw_pc (pc' := 37) rfl ?_)
      refine aw_iload_n dX2_readOne_37 rfl rfl (aw_pc (pc' := 38) rfl ?_)
      have h0 := rcv_inv h
      clear h
      obtain ⟨o7, fs_o7, hr_o7, he_o7, h⟩ := h0
      obtain rfl : o = o7 := Option.some.inj hr_o7
      refine ar_VV (kc' := 0) (ks' := 0) (kc := 0) (ks := 0) (a := o) (ci := 2) (as := [vi x1]) (st := []) (tX2_readName h) mt_X2_readName rfl qM_RX2_176 qI_X2_readName qV_X2_readName he_o7 rfl (Nat.le_of_ble_eq_true rfl) dX2_readOne_38 ?_
      clear h
      intro F6 h
      refine aw_pc (pc' := 41) rfl ?_
      refine aw_goto (tgt := 155) dX2_readOne_41 rfl ?_
      exact aw_vret rfl dX2_readOne_155 ⟨rfl, h⟩
  · replace h := h.2 c
    refine aw_aload_n dX2_readOne_11 rfl rfl (aw_pc (pc' := 12) rfl ?_)
    refine aw_aload_n dX2_readOne_12 rfl rfl (aw_pc (pc' := 13) rfl ?_)
    refine aw_iconst dX2_readOne_13 (aw_pc (pc' := 14) rfl ?_)
    refine aw_sipush dX2_readOne_14 (by decide) (aw_pc (pc' := 17) rfl ?_)
    have h0 := rcv_inv h
    clear h
    obtain ⟨o10, fs_o10, hr_o10, he_o10, h⟩ := h0
    obtain rfl : o = o10 := Option.some.inj hr_o10
    refine ar_VI (kc' := 0) (ks' := 0) (kc := 0) (ks := 0) (a := o) (ci := 2) (as := [vi 0, vi 9999]) (st := [vr (some o)]) (tX2_expectNumber h) mt_X2_expectNumber rfl qM_RX2_164 qI_X2_expectNumber qV_X2_expectNumber he_o10 rfl (Nat.le_of_ble_eq_true rfl) dX2_readOne_17 ?_
    clear h
    intro x9 F8 h
    refine aw_pc (pc' := 20) rfl ?_
    have h0 := rcv_inv h
    clear h
    obtain ⟨o12, fs_o12, hr_o12, he_o12, h⟩ := h0
    obtain rfl : o = o12 := Option.some.inj hr_o12
    refine ar_VV (kc' := 0) (ks' := 0) (kc := 0) (ks := 0) (a := o) (ci := 2) (as := [vi x9]) (st := []) (tX2_emit h) mt_X2_emit rfl qM_RX2_170 qI_X2_emit qV_X2_emit he_o12 rfl (Nat.le_of_ble_eq_true rfl) dX2_readOne_20 ?_
    clear h
    intro F11 h
    refine aw_pc (pc' := 23) rfl ?_
    refine aw_goto (tgt := 155) dX2_readOne_23 rfl ?_
    exact aw_vret rfl dX2_readOne_155 ⟨rfl, h⟩
def oX2_readProduct_J31 (c_readOne : Nat → hp → (hp → Prop) → Prop) (X6 : Nat → Int → hp → Prop) (Q : hp → Prop) (o : Nat) (a1 : Int) (F : hp) : Prop := gI F (some o) 2 10 (fun x1 => rcv F (some o) 2 (fun o3 => mX2_nextToken o3 F (fun F2 => rcv F2 (some o) 2 (fun o5 => c_readOne o5 F2 (fun F4 => rcv F4 (some o) 2 (fun o7 => mX2_emit o7 (20000 + x1) F4 (fun F6 => X6 o (a1 + 1) F6)))))))
set_option maxHeartbeats 4000000 in
theorem tX2_readProduct_J31 {d : Nat} {c_readOne : Nat → hp → (hp → Prop) → Prop} (H_readOne : ∀ (o : Nat) (F : hp) (Q : hp → Prop), c_readOne o F Q → am nX2_readOne (d + 3) 0 0 [vr (some o)] F (qV Q)) {X6 : Nat → Int → hp → Prop} {Q : hp → Prop} (hX6 : ∀ (o : Nat) (a1 : Int) (F : hp), X6 o a1 F → aw nX2_readProduct (d + 4) 0 0 6 [some (vr (some o)), some (vi a1), none] [] F (qV Q)) {o : Nat} {a1 : Int} {F : hp} (h : oX2_readProduct_J31 c_readOne X6 Q o a1 F) : aw nX2_readProduct (d + 4) 0 0 31 [some (vr (some o)), some (vi a1), none] [] F (qV Q) := by
  unfold oX2_readProduct_J31 at h
  refine aw_aload_n dX2_readProduct_31 rfl rfl (aw_pc (pc' := 32) rfl ?_)
  refine ar_gI fl_RX2_47 dX2_readProduct_32 h ?_
  clear h
  intro x1 h
  refine aw_pc (pc' := 35) rfl ?_
  refine aw_istore_n dX2_readProduct_35 rfl (by decide) (aw_pc (pc' := 36) rfl ?_)
  refine aw_aload_n dX2_readProduct_36 rfl rfl (aw_pc (pc' := 37) rfl ?_)
  have h0 := rcv_inv h
  clear h
  obtain ⟨o3, fs_o3, hr_o3, he_o3, h⟩ := h0
  obtain rfl : o = o3 := Option.some.inj hr_o3
  refine ar_VV (kc' := 0) (ks' := 0) (kc := 0) (ks := 0) (a := o) (ci := 2) (as := []) (st := []) (tX2_nextToken h) mt_X2_nextToken rfl qM_RX2_137 qI_X2_nextToken qV_X2_nextToken he_o3 rfl (Nat.le_of_ble_eq_true rfl) dX2_readProduct_37 ?_
  clear h
  intro F2 h
  refine aw_pc (pc' := 40) rfl ?_
  refine aw_aload_n dX2_readProduct_40 rfl rfl (aw_pc (pc' := 41) rfl ?_)
  have h0 := rcv_inv h
  clear h
  obtain ⟨o5, fs_o5, hr_o5, he_o5, h⟩ := h0
  obtain rfl : o = o5 := Option.some.inj hr_o5
  refine ar_VV (kc' := 0) (ks' := 0) (kc := 0) (ks := 0) (a := o) (ci := 2) (as := []) (st := []) (H_readOne _ _ _ h) mt_X2_readOne rfl qM_RX2_173 qI_X2_readOne qV_X2_readOne he_o5 rfl (Nat.le_of_ble_eq_true rfl) dX2_readProduct_41 ?_
  clear h
  intro F4 h
  refine aw_pc (pc' := 44) rfl ?_
  refine aw_aload_n dX2_readProduct_44 rfl rfl (aw_pc (pc' := 45) rfl ?_)
  refine aw_sipush dX2_readProduct_45 (by decide) (aw_pc (pc' := 48) rfl ?_)
  refine aw_iload_n dX2_readProduct_48 rfl rfl (aw_pc (pc' := 49) rfl ?_)
  refine aw_iadd dX2_readProduct_49 (aw_pc (pc' := 50) rfl ?_)
  have h0 := rcv_inv h
  clear h
  obtain ⟨o7, fs_o7, hr_o7, he_o7, h⟩ := h0
  obtain rfl : o = o7 := Option.some.inj hr_o7
  refine ar_VV (kc' := 0) (ks' := 0) (kc := 0) (ks := 0) (a := o) (ci := 2) (as := [vi (20000 + x1)]) (st := []) (tX2_emit h) mt_X2_emit rfl qM_RX2_170 qI_X2_emit qV_X2_emit he_o7 rfl (Nat.le_of_ble_eq_true rfl) dX2_readProduct_50 ?_
  clear h
  intro F6 h
  refine aw_pc (pc' := 53) rfl ?_
  refine aw_iinc dX2_readProduct_53 rfl (by decide) (aw_pc (pc' := 56) rfl ?_)
  refine aw_goto (tgt := 6) dX2_readProduct_56 rfl ?_
  exact aw_mask [true, true, false] (hX6 _ _ _ h)
def oX2_readProduct_L6 (c_readOne : Nat → hp → (hp → Prop) → Prop) (Q : hp → Prop) : Nat → Nat → Int → hp → Prop
  | 0, _, _, _ => False
  | k + 1, o, a1, F => (w32 a1 < 300 → gI F (some o) 2 10 (fun x1 => (w32 x1 = 36 → oX2_readProduct_J31 c_readOne (fun o' a1' F' => oX2_readProduct_L6 c_readOne Q k o' a1' F') Q o a1 F) ∧ (¬ w32 x1 = 36 → gI F (some o) 2 10 (fun x2 => (w32 x2 = 37 → oX2_readProduct_J31 c_readOne (fun o' a1' F' => oX2_readProduct_L6 c_readOne Q k o' a1' F') Q o a1 F) ∧ (¬ w32 x2 = 37 → Q F))))) ∧ (¬ w32 a1 < 300 → Q F)
set_option maxHeartbeats 4000000 in
theorem tX2_readProduct_L6 {d : Nat} {c_readOne : Nat → hp → (hp → Prop) → Prop} (H_readOne : ∀ (o : Nat) (F : hp) (Q : hp → Prop), c_readOne o F Q → am nX2_readOne (d + 3) 0 0 [vr (some o)] F (qV Q)) {Q : hp → Prop} : ∀ (k : Nat) (o : Nat) (a1 : Int) (F : hp), oX2_readProduct_L6 c_readOne Q k o a1 F → aw nX2_readProduct (d + 4) 0 0 6 [some (vr (some o)), some (vi a1), none] [] F (qV Q) := by
  intro k
  induction k with
  | zero => intro o a1 F h; exact h.elim
  | succ k ih =>
    intro o a1 F h
    simp only [oX2_readProduct_L6] at h
    refine aw_iload_n dX2_readProduct_6 rfl rfl (aw_pc (pc' := 7) rfl ?_)
    refine aw_sipush dX2_readProduct_7 (by decide) (aw_pc (pc' := 10) rfl ?_)
    refine ac_ge rfl wl_300 dX2_readProduct_10 rfl (fun c => ?_) (fun c => ?_)
    · replace h := h.1 c
      refine aw_aload_n dX2_readProduct_13 rfl rfl (aw_pc (pc' := 14) rfl ?_)
      refine ar_gI fl_RX2_47 dX2_readProduct_14 h ?_
      clear h
      intro x1 h
      refine aw_pc (pc' := 17) rfl ?_
      refine aw_bipush dX2_readProduct_17 (by decide) (aw_pc (pc' := 19) rfl ?_)
      refine ac_eq rfl wl_36 dX2_readProduct_19 rfl (fun c => ?_) (fun c => ?_)
      · replace h := h.1 c
        exact aw_mask [true, true, false] (tX2_readProduct_J31 H_readOne (fun o' a1' F' h' => ih o' a1' F' h') h)
      · replace h := h.2 c
        refine aw_aload_n dX2_readProduct_22 rfl rfl (aw_pc (pc' := 23) rfl ?_)
        refine ar_gI fl_RX2_47 dX2_readProduct_23 h ?_
        clear h
        intro x2 h
        refine aw_pc (pc' := 26) rfl ?_
        refine aw_bipush dX2_readProduct_26 (by decide) (aw_pc (pc' := 28) rfl ?_)
        refine ac_ne rfl wl_37 dX2_readProduct_28 rfl (fun c => ?_) (fun c => ?_)
        · replace h := h.1 c
          exact aw_mask [true, true, false] (tX2_readProduct_J31 H_readOne (fun o' a1' F' h' => ih o' a1' F' h') h)
        · replace h := h.2 c
          exact aw_vret rfl dX2_readProduct_59 ⟨rfl, h⟩
    · replace h := h.2 c
      exact aw_vret rfl dX2_readProduct_59 ⟨rfl, h⟩
def oX2_readProduct (c_readOne : Nat → hp → (hp → Prop) → Prop) (o : Nat) (F : hp) (Q : hp → Prop) : Prop := rcv F (some o) 2 (fun o2 => c_readOne o2 F (fun F1 => (∃ k3, oX2_readProduct_L6 c_readOne Q k3 o 0 F1)))
set_option maxHeartbeats 4000000 in
theorem toX2_readProduct {d : Nat} {c_readOne : Nat → hp → (hp → Prop) → Prop} (H_readOne : ∀ (o : Nat) (F : hp) (Q : hp → Prop), c_readOne o F Q → am nX2_readOne (d + 3) 0 0 [vr (some o)] F (qV Q)) {o : Nat} {F : hp} {Q : hp → Prop} (h : oX2_readProduct c_readOne o F Q) : am nX2_readProduct (d + 4) 0 0 [vr (some o)] F (qV Q) := by
  refine am_of (by decide +kernel) (Nat.le_of_ble_eq_true rfl) ?_
  show aw nX2_readProduct (d + 4) 0 0 0 [some (vr (some o)), none, none] [] F (qV Q)
  unfold oX2_readProduct at h
  refine aw_aload_n dX2_readProduct_0 rfl rfl (aw_pc (pc' := 1) rfl ?_)
  have h0 := rcv_inv h
  clear h
  obtain ⟨o2, fs_o2, hr_o2, he_o2, h⟩ := h0
  obtain rfl : o = o2 := Option.some.inj hr_o2
  refine ar_VV (kc' := 0) (ks' := 0) (kc := 0) (ks := 0) (a := o) (ci := 2) (as := []) (st := []) (H_readOne _ _ _ h) mt_X2_readOne rfl qM_RX2_173 qI_X2_readOne qV_X2_readOne he_o2 rfl (Nat.le_of_ble_eq_true rfl) dX2_readProduct_1 ?_
  clear h
  intro F1 h
  refine aw_pc (pc' := 4) rfl ?_
  refine aw_iconst dX2_readProduct_4 (aw_pc (pc' := 5) rfl ?_)
  refine aw_istore_n dX2_readProduct_5 rfl (by decide) (aw_pc (pc' := 6) rfl ?_)
  obtain ⟨k3, h⟩ := h
  exact aw_mask [true, true, false] (tX2_readProduct_L6 H_readOne k3 _ _ _ h)
def oX2_readSum_J31 (c_readProduct : Nat → hp → (hp → Prop) → Prop) (X6 : Nat → Int → hp → Prop) (Q : hp → Prop) (o : Nat) (a1 : Int) (F : hp) : Prop := gI F (some o) 2 10 (fun x1 => rcv F (some o) 2 (fun o3 => mX2_nextToken o3 F (fun F2 => rcv F2 (some o) 2 (fun o5 => c_readProduct o5 F2 (fun F4 => rcv F4 (some o) 2 (fun o7 => mX2_emit o7 (20000 + x1) F4 (fun F6 => X6 o (a1 + 1) F6)))))))
set_option maxHeartbeats 4000000 in
theorem tX2_readSum_J31 {d : Nat} {c_readProduct : Nat → hp → (hp → Prop) → Prop} (H_readProduct : ∀ (o : Nat) (F : hp) (Q : hp → Prop), c_readProduct o F Q → am nX2_readProduct (d + 3) 0 0 [vr (some o)] F (qV Q)) {X6 : Nat → Int → hp → Prop} {Q : hp → Prop} (hX6 : ∀ (o : Nat) (a1 : Int) (F : hp), X6 o a1 F → aw nX2_readSum (d + 4) 0 0 6 [some (vr (some o)), some (vi a1), none] [] F (qV Q)) {o : Nat} {a1 : Int} {F : hp} (h : oX2_readSum_J31 c_readProduct X6 Q o a1 F) : aw nX2_readSum (d + 4) 0 0 31 [some (vr (some o)), some (vi a1), none] [] F (qV Q) := by
  unfold oX2_readSum_J31 at h
  refine aw_aload_n dX2_readSum_31 rfl rfl (aw_pc (pc' := 32) rfl ?_)
  refine ar_gI fl_RX2_47 dX2_readSum_32 h ?_
  clear h
  intro x1 h
  refine aw_pc (pc' := 35) rfl ?_
  refine aw_istore_n dX2_readSum_35 rfl (by decide) (aw_pc (pc' := 36) rfl ?_)
  refine aw_aload_n dX2_readSum_36 rfl rfl (aw_pc (pc' := 37) rfl ?_)
  have h0 := rcv_inv h
  clear h
  obtain ⟨o3, fs_o3, hr_o3, he_o3, h⟩ := h0
  obtain rfl : o = o3 := Option.some.inj hr_o3
  refine ar_VV (kc' := 0) (ks' := 0) (kc := 0) (ks := 0) (a := o) (ci := 2) (as := []) (st := []) (tX2_nextToken h) mt_X2_nextToken rfl qM_RX2_137 qI_X2_nextToken qV_X2_nextToken he_o3 rfl (Nat.le_of_ble_eq_true rfl) dX2_readSum_37 ?_
  clear h
  intro F2 h
  refine aw_pc (pc' := 40) rfl ?_
  refine aw_aload_n dX2_readSum_40 rfl rfl (aw_pc (pc' := 41) rfl ?_)
  have h0 := rcv_inv h
  clear h
  obtain ⟨o5, fs_o5, hr_o5, he_o5, h⟩ := h0
  obtain rfl : o = o5 := Option.some.inj hr_o5
  refine ar_VV (kc' := 0) (ks' := 0) (kc := 0) (ks := 0) (a := o) (ci := 2) (as := []) (st := []) (H_readProduct _ _ _ h) mt_X2_readProduct rfl qM_RX2_167 qI_X2_readProduct qV_X2_readProduct he_o5 rfl (Nat.le_of_ble_eq_true rfl) dX2_readSum_41 ?_
  clear h
  intro F4 h
  refine aw_pc (pc' := 44) rfl ?_
  refine aw_aload_n dX2_readSum_44 rfl rfl (aw_pc (pc' := 45) rfl ?_)
  refine aw_sipush dX2_readSum_45 (by decide) (aw_pc (pc' := 48) rfl ?_)
  refine aw_iload_n dX2_readSum_48 rfl rfl (aw_pc (pc' := 49) rfl ?_)
  refine aw_iadd dX2_readSum_49 (aw_pc (pc' := 50) rfl ?_)
  have h0 := rcv_inv h
  clear h
  obtain ⟨o7, fs_o7, hr_o7, he_o7, h⟩ := h0
  obtain rfl : o = o7 := Option.some.inj hr_o7
  refine ar_VV (kc' := 0) (ks' := 0) (kc := 0) (ks := 0) (a := o) (ci := 2) (as := [vi (20000 + x1)]) (st := []) (tX2_emit h) mt_X2_emit rfl qM_RX2_170 qI_X2_emit qV_X2_emit he_o7 rfl (Nat.le_of_ble_eq_true rfl) dX2_readSum_50 ?_
  clear h
  intro F6 h
  refine aw_pc (pc' := 53) rfl ?_
  refine aw_iinc dX2_readSum_53 rfl (by decide) (aw_pc (pc' := 56) rfl ?_)
  refine aw_goto (tgt := 6) dX2_readSum_56 rfl ?_
  exact aw_mask [true, true, false] (hX6 _ _ _ h)
def oX2_readSum_L6 (c_readProduct : Nat → hp → (hp → Prop) → Prop) (Q : hp → Prop) : Nat → Nat → Int → hp → Prop
  | 0, _, _, _ => False
  | k + 1, o, a1, F => (w32 a1 < 300 → gI F (some o) 2 10 (fun x1 => (w32 x1 = 34 → oX2_readSum_J31 c_readProduct (fun o' a1' F' => oX2_readSum_L6 c_readProduct Q k o' a1' F') Q o a1 F) ∧ (¬ w32 x1 = 34 → gI F (some o) 2 10 (fun x2 => (w32 x2 = 35 → oX2_readSum_J31 c_readProduct (fun o' a1' F' => oX2_readSum_L6 c_readProduct Q k o' a1' F') Q o a1 F) ∧ (¬ w32 x2 = 35 → Q F))))) ∧ (¬ w32 a1 < 300 → Q F)
set_option maxHeartbeats 4000000 in
theorem tX2_readSum_L6 {d : Nat} {c_readProduct : Nat → hp → (hp → Prop) → Prop} (H_readProduct : ∀ (o : Nat) (F : hp) (Q : hp → Prop), c_readProduct o F Q → am nX2_readProduct (d + 3) 0 0 [vr (some o)] F (qV Q)) {Q : hp → Prop} : ∀ (k : Nat) (o : Nat) (a1 : Int) (F : hp), oX2_readSum_L6 c_readProduct Q k o a1 F → aw nX2_readSum (d + 4) 0 0 6 [some (vr (some o)), some (vi a1), none] [] F (qV Q) := by
  intro k
  induction k with
  | zero => intro o a1 F h; exact h.elim
  | succ k ih =>
    intro o a1 F h
    simp only [oX2_readSum_L6] at h
    refine aw_iload_n dX2_readSum_6 rfl rfl (aw_pc (pc' := 7) rfl ?_)
    refine aw_sipush dX2_readSum_7 (by decide) (aw_pc (pc' := 10) rfl ?_)
    refine ac_ge rfl wl_300 dX2_readSum_10 rfl (fun c => ?_) (fun c => ?_)
    · replace h := h.1 c
      refine aw_aload_n dX2_readSum_13 rfl rfl (aw_pc (pc' := 14) rfl ?_)
      refine ar_gI fl_RX2_47 dX2_readSum_14 h ?_
      clear h
      intro x1 h
      refine aw_pc (pc' := 17) rfl ?_
      refine aw_bipush dX2_readSum_17 (by decide) (aw_pc (pc' := 19) rfl ?_)
      refine ac_eq rfl wl_34 dX2_readSum_19 rfl (fun c => ?_) (fun c => ?_)
      · replace h := h.1 c
        exact aw_mask [true, true, false] (tX2_readSum_J31 H_readProduct (fun o' a1' F' h' => ih o' a1' F' h') h)
      · replace h := h.2 c
        refine aw_aload_n dX2_readSum_22 rfl rfl (aw_pc (pc' := 23) rfl ?_)
        refine ar_gI fl_RX2_47 dX2_readSum_23 h ?_
        clear h
        intro x2 h
        refine aw_pc (pc' := 26) rfl ?_
        refine aw_bipush dX2_readSum_26 (by decide) (aw_pc (pc' := 28) rfl ?_)
        refine ac_ne rfl wl_35 dX2_readSum_28 rfl (fun c => ?_) (fun c => ?_)
        · replace h := h.1 c
          exact aw_mask [true, true, false] (tX2_readSum_J31 H_readProduct (fun o' a1' F' h' => ih o' a1' F' h') h)
        · replace h := h.2 c
          exact aw_vret rfl dX2_readSum_59 ⟨rfl, h⟩
    · replace h := h.2 c
      exact aw_vret rfl dX2_readSum_59 ⟨rfl, h⟩
def oX2_readSum (c_readProduct : Nat → hp → (hp → Prop) → Prop) (o : Nat) (F : hp) (Q : hp → Prop) : Prop := rcv F (some o) 2 (fun o2 => c_readProduct o2 F (fun F1 => (∃ k3, oX2_readSum_L6 c_readProduct Q k3 o 0 F1)))
set_option maxHeartbeats 4000000 in
theorem toX2_readSum {d : Nat} {c_readProduct : Nat → hp → (hp → Prop) → Prop} (H_readProduct : ∀ (o : Nat) (F : hp) (Q : hp → Prop), c_readProduct o F Q → am nX2_readProduct (d + 3) 0 0 [vr (some o)] F (qV Q)) {o : Nat} {F : hp} {Q : hp → Prop} (h : oX2_readSum c_readProduct o F Q) : am nX2_readSum (d + 4) 0 0 [vr (some o)] F (qV Q) := by
  refine am_of (by decide +kernel) (Nat.le_of_ble_eq_true rfl) ?_
  show aw nX2_readSum (d + 4) 0 0 0 [some (vr (some o)), none, none] [] F (qV Q)
  unfold oX2_readSum at h
  refine aw_aload_n dX2_readSum_0 rfl rfl (aw_pc (pc' := 1) rfl ?_)
  have h0 := rcv_inv h
  clear h
  obtain ⟨o2, fs_o2, hr_o2, he_o2, h⟩ := h0
  obtain rfl : o = o2 := Option.some.inj hr_o2
  refine ar_VV (kc' := 0) (ks' := 0) (kc := 0) (ks := 0) (a := o) (ci := 2) (as := []) (st := []) (H_readProduct _ _ _ h) mt_X2_readProduct rfl qM_RX2_167 qI_X2_readProduct qV_X2_readProduct he_o2 rfl (Nat.le_of_ble_eq_true rfl) dX2_readSum_1 ?_
  clear h
  intro F1 h
  refine aw_pc (pc' := 4) rfl ?_
  refine aw_iconst dX2_readSum_4 (aw_pc (pc' := 5) rfl ?_)
  refine aw_istore_n dX2_readSum_5 rfl (by decide) (aw_pc (pc' := 6) rfl ?_)
  obtain ⟨k3, h⟩ := h
  exact aw_mask [true, true, false] (tX2_readSum_L6 H_readProduct k3 _ _ _ h)
def gRd : Nat → Nat → Nat → hp → (hp → Prop) → Prop
  | 0, _ => fun _ _ _ => False
  | f + 1, 0 => oX2_readSum (gRd f 1)
  | f + 1, 1 => oX2_readProduct (gRd f 2)
  | f + 1, 2 => oX2_readOne (gRd f 0) (gRd f 3) (gRd f 2)
  | f + 1, 3 => oX2_readChoice (gRd f 4) (gRd f 0)
  | f + 1, 4 => oX2_readEither (gRd f 5)
  | f + 1, 5 => oX2_readBoth (gRd f 6)
  | f + 1, 6 => oX2_readAsk (gRd f 6) (gRd f 0)
  | _ + 1, _ => fun _ _ _ => False
theorem tRd {d : Nat} : ∀ f : Nat, (∀ (o : Nat) (F : hp) (Q : hp → Prop), gRd f 0 o F Q → am nX2_readSum (d + f + 3) 0 0 [vr (some o)] F (qV Q)) ∧ (∀ (o : Nat) (F : hp) (Q : hp → Prop), gRd f 1 o F Q → am nX2_readProduct (d + f + 3) 0 0 [vr (some o)] F (qV Q)) ∧ (∀ (o : Nat) (F : hp) (Q : hp → Prop), gRd f 2 o F Q → am nX2_readOne (d + f + 3) 0 0 [vr (some o)] F (qV Q)) ∧ (∀ (o : Nat) (F : hp) (Q : hp → Prop), gRd f 3 o F Q → am nX2_readChoice (d + f + 3) 0 0 [vr (some o)] F (qV Q)) ∧ (∀ (o : Nat) (F : hp) (Q : hp → Prop), gRd f 4 o F Q → am nX2_readEither (d + f + 3) 0 0 [vr (some o)] F (qV Q)) ∧ (∀ (o : Nat) (F : hp) (Q : hp → Prop), gRd f 5 o F Q → am nX2_readBoth (d + f + 3) 0 0 [vr (some o)] F (qV Q)) ∧ (∀ (o : Nat) (F : hp) (Q : hp → Prop), gRd f 6 o F Q → am nX2_readAsk (d + f + 3) 0 0 [vr (some o)] F (qV Q)) := by
  intro f
  induction f with
  | zero => exact ⟨fun _ _ _ h => h.elim, fun _ _ _ h => h.elim, fun _ _ _ h => h.elim, fun _ _ _ h => h.elim, fun _ _ _ h => h.elim, fun _ _ _ h => h.elim, fun _ _ _ h => h.elim⟩
  | succ f ih =>
    obtain ⟨h0, h1, h2, h3, h4, h5, h6⟩ := ih
    refine ⟨?_, ?_, ?_, ?_, ?_, ?_, ?_⟩
    · intro o F Q h
      exact toX2_readSum (d := d + f) h1 h
    · intro o F Q h
      exact toX2_readProduct (d := d + f) h2 h
    · intro o F Q h
      exact toX2_readOne (d := d + f) h0 h3 h2 h
    · intro o F Q h
      exact toX2_readChoice (d := d + f) h4 h0 h
    · intro o F Q h
      exact toX2_readEither (d := d + f) h5 h
    · intro o F Q h
      exact toX2_readBoth (d := d + f) h6 h
    · intro o F Q h
      exact toX2_readAsk (d := d + f) h6 h0 h
def mX2_readSum (o : Nat) (F : hp) (Q : hp → Prop) : Prop := gRd 100 0 o F Q
theorem tX2_readSum {d : Nat} {o : Nat} {F : hp} {Q : hp → Prop} (h : mX2_readSum o F Q) : am nX2_readSum (d + 103) 0 0 [vr (some o)] F (qV Q) := (tRd (d := d) 100).1 o F Q h
def mX2_readProduct (o : Nat) (F : hp) (Q : hp → Prop) : Prop := gRd 100 1 o F Q
theorem tX2_readProduct {d : Nat} {o : Nat} {F : hp} {Q : hp → Prop} (h : mX2_readProduct o F Q) : am nX2_readProduct (d + 103) 0 0 [vr (some o)] F (qV Q) := (tRd (d := d) 100).2.1 o F Q h
def mX2_readOne (o : Nat) (F : hp) (Q : hp → Prop) : Prop := gRd 100 2 o F Q
theorem tX2_readOne {d : Nat} {o : Nat} {F : hp} {Q : hp → Prop} (h : mX2_readOne o F Q) : am nX2_readOne (d + 103) 0 0 [vr (some o)] F (qV Q) := (tRd (d := d) 100).2.2.1 o F Q h
def mX2_readChoice (o : Nat) (F : hp) (Q : hp → Prop) : Prop := gRd 100 3 o F Q
theorem tX2_readChoice {d : Nat} {o : Nat} {F : hp} {Q : hp → Prop} (h : mX2_readChoice o F Q) : am nX2_readChoice (d + 103) 0 0 [vr (some o)] F (qV Q) := (tRd (d := d) 100).2.2.2.1 o F Q h
def mX2_readEither (o : Nat) (F : hp) (Q : hp → Prop) : Prop := gRd 100 4 o F Q
theorem tX2_readEither {d : Nat} {o : Nat} {F : hp} {Q : hp → Prop} (h : mX2_readEither o F Q) : am nX2_readEither (d + 103) 0 0 [vr (some o)] F (qV Q) := (tRd (d := d) 100).2.2.2.2.1 o F Q h
def mX2_readBoth (o : Nat) (F : hp) (Q : hp → Prop) : Prop := gRd 100 5 o F Q
theorem tX2_readBoth {d : Nat} {o : Nat} {F : hp} {Q : hp → Prop} (h : mX2_readBoth o F Q) : am nX2_readBoth (d + 103) 0 0 [vr (some o)] F (qV Q) := (tRd (d := d) 100).2.2.2.2.2.1 o F Q h
def mX2_readAsk (o : Nat) (F : hp) (Q : hp → Prop) : Prop := gRd 100 6 o F Q
theorem tX2_readAsk {d : Nat} {o : Nat} {F : hp} {Q : hp → Prop} (h : mX2_readAsk o F Q) : am nX2_readAsk (d + 103) 0 0 [vr (some o)] F (qV Q) := (tRd (d := d) 100).2.2.2.2.2.2 o F Q h
def mX2_addClause (o : Nat) (a1 : Int) (a2 : Int) (a3 : Int) (F : hp) (Q : hp → Prop) : Prop := gI F (some o) 2 13 (fun x1 => (w32 x1 < 24 → gR F (some o) 2 4 (fun x2 => gI F (some o) 2 13 (fun x3 => sI F x2 0 (3 * x3) a1 (fun F4 => gR F4 (some o) 2 4 (fun x5 => gI F4 (some o) 2 13 (fun x6 => sI F4 x5 0 ((3 * x6) + 1) a2 (fun F7 => gR F7 (some o) 2 4 (fun x8 => gI F7 (some o) 2 13 (fun x9 => sI F7 x8 0 ((3 * x9) + 2) a3 (fun F10 => gI F10 (some o) 2 13 (fun x11 => pF F10 (some o) 2 13 (vi (x11 + 1)) (fun F12 => Q F12)))))))))))) ∧ (¬ w32 x1 < 24 → Q F))
set_option maxHeartbeats 4000000 in
theorem tX2_addClause {d : Nat} {o : Nat} {a1 : Int} {a2 : Int} {a3 : Int} {F : hp} {Q : hp → Prop} (h : mX2_addClause o a1 a2 a3 F Q) : am nX2_addClause d 0 0 [vr (some o), vi a1, vi a2, vi a3] F (qV Q) := by
  refine am_of (by decide +kernel) (Nat.le_of_ble_eq_true rfl) ?_
  show aw nX2_addClause d 0 0 0 [some (vr (some o)), some (vi a1), some (vi a2), some (vi a3)] [] F (qV Q)
  unfold mX2_addClause at h
  refine aw_aload_n dX2_addClause_0 rfl rfl (aw_pc (pc' := 1) rfl ?_)
  refine ar_gI fl_RX2_56 dX2_addClause_1 h ?_
  clear h
  intro x1 h
  refine aw_pc (pc' := 4) rfl ?_
  refine aw_bipush dX2_addClause_4 (by decide) (aw_pc (pc' := 6) rfl ?_)
  refine ac_ge rfl wl_24 dX2_addClause_6 rfl (fun c => ?_) (fun c => ?_)
  · replace h := h.1 c
    refine aw_aload_n dX2_addClause_9 rfl rfl (aw_pc (pc' := 10) rfl ?_)
    refine ar_gR fl_RX2_25 dX2_addClause_10 h ?_
    clear h
    intro x2 h
    refine aw_pc (pc' := 13) rfl ?_
    refine aw_iconst dX2_addClause_13 (aw_pc (pc' := 14) rfl ?_)
    refine aw_aload_n dX2_addClause_14 rfl rfl (aw_pc (pc' := 15) rfl ?_)
    refine ar_gI fl_RX2_56 dX2_addClause_15 h ?_
    clear h
    intro x3 h
    refine aw_pc (pc' := 18) rfl ?_
    refine aw_imul dX2_addClause_18 (aw_pc (pc' := 19) rfl ?_)
    refine aw_iload_n dX2_addClause_19 rfl rfl (aw_pc (pc' := 20) rfl ?_)
    refine ar_sI dX2_addClause_20 h ?_
    clear h
    intro F4 h
    refine aw_pc (pc' := 21) rfl ?_
    refine aw_aload_n dX2_addClause_21 rfl rfl (aw_pc (pc' := 22) rfl ?_)
    refine ar_gR fl_RX2_25 dX2_addClause_22 h ?_
    clear h
    intro x5 h
    refine aw_pc (pc' := 25) rfl ?_
    refine aw_iconst dX2_addClause_25 (aw_pc (pc' := 26) rfl ?_)
    refine aw_aload_n dX2_addClause_26 rfl rfl (aw_pc (pc' := 27) rfl ?_)
    refine ar_gI fl_RX2_56 dX2_addClause_27 h ?_
    clear h
    intro x6 h
    refine aw_pc (pc' := 30) rfl ?_
    refine aw_imul dX2_addClause_30 (aw_pc (pc' := 31) rfl ?_)
    refine aw_iconst dX2_addClause_31 (aw_pc (pc' := 32) rfl ?_)
    refine aw_iadd dX2_addClause_32 (aw_pc (pc' := 33) rfl ?_)
    refine aw_iload_n dX2_addClause_33 rfl rfl (aw_pc (pc' := 34) rfl ?_)
    refine ar_sI dX2_addClause_34 h ?_
    clear h
    intro F7 h
    refine aw_pc (pc' := 35) rfl ?_
    refine aw_aload_n dX2_addClause_35 rfl rfl (aw_pc (pc' := 36) rfl ?_)
    refine ar_gR fl_RX2_25 dX2_addClause_36 h ?_
    clear h
    intro x8 h
    refine aw_pc (pc' := 39) rfl ?_
    refine aw_iconst dX2_addClause_39 (aw_pc (pc' := 40) rfl ?_)
    refine aw_aload_n dX2_addClause_40 rfl rfl (aw_pc (pc' := 41) rfl ?_)
    refine ar_gI fl_RX2_56 dX2_addClause_41 h ?_
    clear h
    intro x9 h
    refine aw_pc (pc' := 44) rfl ?_
    refine aw_imul dX2_addClause_44 (aw_pc (pc' := 45) rfl ?_)
    refine aw_iconst dX2_addClause_45 (aw_pc (pc' := 46) rfl ?_)
    refine aw_iadd dX2_addClause_46 (aw_pc (pc' := 47) rfl ?_)
    refine aw_iload_n dX2_addClause_47 rfl rfl (aw_pc (pc' := 48) rfl ?_)
    refine ar_sI dX2_addClause_48 h ?_
    clear h
    intro F10 h
    refine aw_pc (pc' := 49) rfl ?_
    refine aw_aload_n dX2_addClause_49 rfl rfl (aw_pc (pc' := 50) rfl ?_)
    refine aw_dup dX2_addClause_50 trivial (aw_pc (pc' := 51) rfl ?_)
    refine ar_gI fl_RX2_56 dX2_addClause_51 h ?_
    clear h
    intro x11 h
    refine aw_pc (pc' := 54) rfl ?_
    refine aw_iconst dX2_addClause_54 (aw_pc (pc' := 55) rfl ?_)
    refine aw_iadd dX2_addClause_55 (aw_pc (pc' := 56) rfl ?_)
    refine ar_pF fl_RX2_56 ft_X2_13 (okI _) dX2_addClause_56 h ?_
    clear h
    intro F12 h
    refine aw_pc (pc' := 59) rfl ?_
    exact aw_vret rfl dX2_addClause_59 ⟨rfl, h⟩
  · replace h := h.2 c
    exact aw_vret rfl dX2_addClause_59 ⟨rfl, h⟩
def mX2_readLaw_J27 (Q : hp → Prop) (o : Nat) (a1 : Int) (s0 : Int) (F : hp) : Prop := gR F (some o) 2 5 (fun x1 => gI F (some o) 2 12 (fun x2 => sI F x1 0 s0 x2 (fun F3 => rcv F3 (some o) 2 (fun o5 => mX2_readSum o5 F3 (fun F4 => gR F4 (some o) 2 5 (fun x6 => gI F4 (some o) 2 12 (fun x7 => sI F4 x6 0 (s0 + 1) x7 (fun F8 => rcv F8 (some o) 2 (fun o10 => mX2_addClause o10 a1 0 0 F8 (fun F9 => Q F9))))))))))
set_option maxHeartbeats 4000000 in
theorem tX2_readLaw_J27 {d : Nat} {Q : hp → Prop} {o : Nat} {a1 : Int} {s0 : Int} {F : hp} (h : mX2_readLaw_J27 Q o a1 s0 F) : aw nX2_readLaw (d + 104) 0 0 27 [some (vr (some o)), some (vi a1), none] [vi s0] F (qV Q) := by
  unfold mX2_readLaw_J27 at h
  refine aw_istore_n dX2_readLaw_27 rfl (by decide) (aw_pc (pc' := 28) rfl ?_)
  refine aw_aload_n dX2_readLaw_28 rfl rfl (aw_pc (pc' := 29) rfl ?_)
  refine ar_gR fl_RX2_28 dX2_readLaw_29 h ?_
  clear h
  intro x1 h
  refine aw_pc (pc' := 32) rfl ?_
  refine aw_iload_n dX2_readLaw_32 rfl rfl (aw_pc (pc' := 33) rfl ?_)
  refine aw_aload_n dX2_readLaw_33 rfl rfl (aw_pc (pc' := 34) rfl ?_)
  refine ar_gI fl_RX2_53 dX2_readLaw_34 h ?_
  clear h
  intro x2 h
  refine aw_pc (pc' := 37) rfl ?_
  refine ar_sI dX2_readLaw_37 h ?_
  clear h
  intro F3 h
  refine aw_pc (pc' := 38) rfl ?_
  refine aw_aload_n dX2_readLaw_38 rfl rfl (aw_pc (pc' := 39) rfl ?_)
  have h0 := rcv_inv h
  clear h
  obtain ⟨o5, fs_o5, hr_o5, he_o5, h⟩ := h0
  obtain rfl : o = o5 := Option.some.inj hr_o5
  refine ar_VV (kc' := 0) (ks' := 0) (kc := 0) (ks := 0) (a := o) (ci := 2) (as := []) (st := []) (tX2_readSum h) mt_X2_readSum rfl qM_RX2_157 qI_X2_readSum qV_X2_readSum he_o5 rfl (Nat.le_of_ble_eq_true rfl) dX2_readLaw_39 ?_
  clear h
  intro F4 h
  refine aw_pc (pc' := 42) rfl ?_
  refine aw_aload_n dX2_readLaw_42 rfl rfl (aw_pc (pc' := 43) rfl ?_)
  refine ar_gR fl_RX2_28 dX2_readLaw_43 h ?_
  clear h
  intro x6 h
  refine aw_pc (pc' := 46) rfl ?_
  refine aw_iload_n dX2_readLaw_46 rfl rfl (aw_pc (pc' := 47) rfl ?_)
  refine aw_iconst dX2_readLaw_47 (aw_pc (pc' := 48) rfl ?_)
  refine aw_iadd dX2_readLaw_48 (aw_pc (pc' := 49) rfl ?_)
  refine aw_aload_n dX2_readLaw_49 rfl rfl (aw_pc (pc' := 50) rfl ?_)
  refine ar_gI fl_RX2_53 dX2_readLaw_50 h ?_
  clear h
  intro x7 h
  refine aw_pc (pc' := 53) rfl ?_
  refine ar_sI dX2_readLaw_53 h ?_
  clear h
  intro F8 h
  refine aw_pc (pc' := 54) rfl ?_
  refine aw_aload_n dX2_readLaw_54 rfl rfl (aw_pc (pc' := 55) rfl ?_)
  refine aw_iload_n dX2_readLaw_55 rfl rfl (aw_pc (pc' := 56) rfl ?_)
  refine aw_iconst dX2_readLaw_56 (aw_pc (pc' := 57) rfl ?_)
  refine aw_iconst dX2_readLaw_57 (aw_pc (pc' := 58) rfl ?_)
  have h0 := rcv_inv h
  clear h
  obtain ⟨o10, fs_o10, hr_o10, he_o10, h⟩ := h0
  obtain rfl : o = o10 := Option.some.inj hr_o10
  refine ar_VV (kc' := 0) (ks' := 0) (kc := 0) (ks := 0) (a := o) (ci := 2) (as := [vi a1, vi 0, vi 0]) (st := []) (tX2_addClause h) mt_X2_addClause rfl qM_RX2_160 qI_X2_addClause qV_X2_addClause he_o10 rfl (Nat.le_of_ble_eq_true rfl) dX2_readLaw_58 ?_
  clear h
  intro F9 h
  refine aw_pc (pc' := 61) rfl ?_
  exact aw_vret rfl dX2_readLaw_61 ⟨rfl, h⟩
def mX2_readLaw_J12 (Q : hp → Prop) (o : Nat) (a1 : Int) (s0 : Option Nat) (s1 : Int) (F : hp) : Prop := ((s1 : Int) = 0 ∨ (s1 : Int) = 1) ∧ pF F s0 2 14 (vi s1) (fun F1 => gI F1 (some o) 2 14 (fun x2 => (w32 x2 = 0 → mX2_readLaw_J27 Q o a1 2 F1) ∧ (¬ w32 x2 = 0 → mX2_readLaw_J27 Q o a1 0 F1)))
set_option maxHeartbeats 4000000 in
theorem tX2_readLaw_J12 {d : Nat} {Q : hp → Prop} {o : Nat} {a1 : Int} {s0 : Option Nat} {s1 : Int} {F : hp} (h : mX2_readLaw_J12 Q o a1 s0 s1 F) : aw nX2_readLaw (d + 104) 0 0 12 [some (vr (some o)), some (vi a1), none] [vi s1, vr s0] F (qV Q) := by
  unfold mX2_readLaw_J12 at h
  have hz := h.1
  replace h := h.2
  refine ar_pF fl_RX2_153 ft_X2_14 (okZ hz) dX2_readLaw_12 h ?_
  clear h
  intro F1 h
  refine aw_pc (pc' := 15) rfl ?_
  refine aw_aload_n dX2_readLaw_15 rfl rfl (aw_pc (pc' := 16) rfl ?_)
  refine ar_gI fl_RX2_153 dX2_readLaw_16 h ?_
  clear h
  intro x2 h
  refine aw_pc (pc' := 19) rfl ?_
  refine aw_if_eq dX2_readLaw_19 rfl (fun c => ?_) (fun c => ?_)
  · replace h := h.1 c
    refine aw_iconst dX2_readLaw_26 (aw_pc (pc' := 27) rfl ?_)
    exact aw_mask [true, true, false] (tX2_readLaw_J27 h)
  · replace h := h.2 c
    refine aw_iconst dX2_readLaw_22 (aw_pc (pc' := 23) rfl ?_)
    refine aw_goto (tgt := 27) dX2_readLaw_23 rfl ?_
    exact aw_mask [true, true, false] (tX2_readLaw_J27 h)
def mX2_readLaw (o : Nat) (a1 : Int) (F : hp) (Q : hp → Prop) : Prop := (w32 a1 = 11 → mX2_readLaw_J12 Q o a1 (some o) 1 F) ∧ (¬ w32 a1 = 11 → mX2_readLaw_J12 Q o a1 (some o) 0 F)
set_option maxHeartbeats 4000000 in
theorem tX2_readLaw {d : Nat} {o : Nat} {a1 : Int} {F : hp} {Q : hp → Prop} (h : mX2_readLaw o a1 F Q) : am nX2_readLaw (d + 104) 0 0 [vr (some o), vi a1] F (qV Q) := by
  refine am_of (by decide +kernel) (Nat.le_of_ble_eq_true rfl) ?_
  show aw nX2_readLaw (d + 104) 0 0 0 [some (vr (some o)), some (vi a1), none] [] F (qV Q)
  unfold mX2_readLaw at h
  refine aw_aload_n dX2_readLaw_0 rfl rfl (aw_pc (pc' := 1) rfl ?_)
  refine aw_iload_n dX2_readLaw_1 rfl rfl (aw_pc (pc' := 2) rfl ?_)
  refine aw_bipush dX2_readLaw_2 (by decide) (aw_pc (pc' := 4) rfl ?_)
  refine ac_ne rfl wl_11 dX2_readLaw_4 rfl (fun c => ?_) (fun c => ?_)
  · replace h := h.1 c
    refine aw_iconst dX2_readLaw_7 (aw_pc (pc' := 8) rfl ?_)
    refine aw_goto (tgt := 12) dX2_readLaw_8 rfl ?_
    exact aw_mask [true, true, false] (tX2_readLaw_J12 h)
  · replace h := h.2 c
    refine aw_iconst dX2_readLaw_11 (aw_pc (pc' := 12) rfl ?_)
    exact aw_mask [true, true, false] (tX2_readLaw_J12 h)
def mX2_readDeed_J160 (Q : hp → Prop) (o : Nat) (a1 : Int) (a2 : Int) (a3 : Int) (F : hp) : Prop := rcv F (some o) 2 (fun o2 => mX2_addClause o2 a1 a2 a3 F (fun F1 => Q F1))
set_option maxHeartbeats 4000000 in
theorem tX2_readDeed_J160 {d : Nat} {Q : hp → Prop} {o : Nat} {a1 : Int} {a2 : Int} {a3 : Int} {F : hp} (h : mX2_readDeed_J160 Q o a1 a2 a3 F) : aw nX2_readDeed (d + 2) 0 0 160 [some (vr (some o)), some (vi a1), some (vi a2), some (vi a3)] [] F (qV Q) := by
  unfold mX2_readDeed_J160 at h
  refine aw_aload_n dX2_readDeed_160 rfl rfl (aw_pc (pc' := 161) rfl ?_)
  refine aw_iload_n dX2_readDeed_161 rfl rfl (aw_pc (pc' := 162) rfl ?_)
  refine aw_iload_n dX2_readDeed_162 rfl rfl (aw_pc (pc' := 163) rfl ?_)
  refine aw_iload_n dX2_readDeed_163 rfl rfl (aw_pc (pc' := 164) rfl ?_)
  have h0 := rcv_inv h
  clear h
  obtain ⟨o2, fs_o2, hr_o2, he_o2, h⟩ := h0
  obtain rfl : o = o2 := Option.some.inj hr_o2
  refine ar_VV (kc' := 0) (ks' := 0) (kc := 0) (ks := 0) (a := o) (ci := 2) (as := [vi a1, vi a2, vi a3]) (st := []) (tX2_addClause h) mt_X2_addClause rfl qM_RX2_160 qI_X2_addClause qV_X2_addClause he_o2 rfl (Nat.le_of_ble_eq_true rfl) dX2_readDeed_164 ?_
  clear h
  intro F1 h
  refine aw_pc (pc' := 167) rfl ?_
  exact aw_vret rfl dX2_readDeed_167 ⟨rfl, h⟩
def mX2_readDeed (o : Nat) (a1 : Int) (F : hp) (Q : hp → Prop) : Prop := (w32 a1 = 0 → rcv F (some o) 2 (fun o3 => mX2_expectNumber o3 1 60 F (fun x2 F1 => mX2_readDeed_J160 Q o a1 x2 0 F1))) ∧ (w32 a1 = 13 → rcv F (some o) 2 (fun o6 => mX2_expectNumber o6 0 3 F (fun x5 F4 => rcv F4 (some o) 2 (fun o8 => mX2_expect o8 2 F4 (fun F7 => rcv F7 (some o) 2 (fun o11 => mX2_expectNumber o11 1 9 F7 (fun x10 F9 => mX2_readDeed_J160 Q o a1 x5 x10 F9))))))) ∧ (w32 a1 = 14 → rcv F (some o) 2 (fun o14 => mX2_expectNumber o14 0 3 F (fun x13 F12 => rcv F12 (some o) 2 (fun o16 => mX2_expect o16 18 F12 (fun F15 => rcv F15 (some o) 2 (fun o19 => mX2_expectNumber o19 0 3 F15 (fun x18 F17 => mX2_readDeed_J160 Q o a1 x13 x18 F17))))))) ∧ (w32 a1 = 15 → rcv F (some o) 2 (fun o22 => mX2_expectNumber o22 0 2 F (fun x21 F20 => rcv F20 (some o) 2 (fun o24 => mX2_expect o24 7 F20 (fun F23 => rcv F23 (some o) 2 (fun o27 => mX2_expectNumber o27 0 2 F23 (fun x26 F25 => mX2_readDeed_J160 Q o a1 x21 x26 F25))))))) ∧ (w32 a1 = 17 → rcv F (some o) 2 (fun o30 => mX2_expectNumber o30 1 9 F (fun x29 F28 => rcv F28 (some o) 2 (fun o32 => mX2_expect o32 19 F28 (fun F31 => rcv F31 (some o) 2 (fun o35 => mX2_expectNumber o35 0 1 F31 (fun x34 F33 => mX2_readDeed_J160 Q o a1 x29 x34 F33))))))) ∧ (¬ w32 a1 = 0 → ¬ w32 a1 = 13 → ¬ w32 a1 = 14 → ¬ w32 a1 = 15 → ¬ w32 a1 = 17 → mX2_readDeed_J160 Q o a1 0 0 F)
set_option maxHeartbeats 4000000 in
theorem tX2_readDeed {d : Nat} {o : Nat} {a1 : Int} {F : hp} {Q : hp → Prop} (h : mX2_readDeed o a1 F Q) : am nX2_readDeed (d + 2) 0 0 [vr (some o), vi a1] F (qV Q) := by
  refine am_of (by decide +kernel) (Nat.le_of_ble_eq_true rfl) ?_
  show aw nX2_readDeed (d + 2) 0 0 0 [some (vr (some o)), some (vi a1), none, none] [] F (qV Q)
  unfold mX2_readDeed at h
  refine aw_iconst dX2_readDeed_0 (aw_pc (pc' := 1) rfl ?_)
  refine aw_istore_n dX2_readDeed_1 rfl (by decide) (aw_pc (pc' := 2) rfl ?_)
  refine aw_iconst dX2_readDeed_2 (aw_pc (pc' := 3) rfl ?_)
  refine aw_istore_n dX2_readDeed_3 rfl (by decide) (aw_pc (pc' := 4) rfl ?_)
  refine aw_iload_n dX2_readDeed_4 rfl rfl (aw_pc (pc' := 5) rfl ?_)
  by_cases c0 : w32 a1 = 0
  · replace h := h.1 c0
    refine aw_lookup dX2_readDeed_5 (by decide) (tgt := 149) (by rw [c0]; decide) ?_
    refine aw_aload_n dX2_readDeed_149 rfl rfl (aw_pc (pc' := 150) rfl ?_)
    refine aw_iconst dX2_readDeed_150 (aw_pc (pc' := 151) rfl ?_)
    refine aw_bipush dX2_readDeed_151 (by decide) (aw_pc (pc' := 153) rfl ?_)
    have h0 := rcv_inv h
    clear h
    obtain ⟨o3, fs_o3, hr_o3, he_o3, h⟩ := h0
    obtain rfl : o = o3 := Option.some.inj hr_o3
    refine ar_VI (kc' := 0) (ks' := 0) (kc := 0) (ks := 0) (a := o) (ci := 2) (as := [vi 1, vi 60]) (st := []) (tX2_expectNumber h) mt_X2_expectNumber rfl qM_RX2_164 qI_X2_expectNumber qV_X2_expectNumber he_o3 rfl (Nat.le_of_ble_eq_true rfl) dX2_readDeed_153 ?_
    clear h
    intro x2 F1 h
    refine aw_pc (pc' := 156) rfl ?_
    refine aw_istore_n dX2_readDeed_156 rfl (by decide) (aw_pc (pc' := 157) rfl ?_)
    refine aw_goto (tgt := 160) dX2_readDeed_157 rfl ?_
    exact aw_mask [true, true, true, true] (tX2_readDeed_J160 h)
  · skip
    by_cases c1 : w32 a1 = 13
    · replace h := h.2.1 c1
      refine aw_lookup dX2_readDeed_5 (by decide) (tgt := 56) (by rw [c1]; decide) ?_
      refine aw_aload_n dX2_readDeed_56 rfl rfl (aw_pc (pc' := 57) rfl ?_)
      refine aw_iconst dX2_readDeed_57 (aw_pc (pc' := 58) rfl ?_)
      refine aw_iconst dX2_readDeed_58 (aw_pc (pc' := 59) rfl ?_)
      have h0 := rcv_inv h
      clear h
      obtain ⟨o6, fs_o6, hr_o6, he_o6, h⟩ := h0
      obtain rfl : o = o6 := Option.some.inj hr_o6
      refine ar_VI (kc' := 0) (ks' := 0) (kc := 0) (ks := 0) (a := o) (ci := 2) (as := [vi 0, vi 3]) (st := []) (tX2_expectNumber h) mt_X2_expectNumber rfl qM_RX2_164 qI_X2_expectNumber qV_X2_expectNumber he_o6 rfl (Nat.le_of_ble_eq_true rfl) dX2_readDeed_59 ?_
      clear h
      intro x5 F4 h
      refine aw_pc (pc' := 62) rfl ?_
      refine aw_istore_n dX2_readDeed_62 rfl (by decide) (aw_pc (pc' := 63) rfl ?_)
      refine aw_aload_n dX2_readDeed_63 rfl rfl (aw_pc (pc' := 64) rfl ?_)
      refine aw_iconst dX2_readDeed_64 (aw_pc (pc' := 65) rfl ?_)
      have h0 := rcv_inv h
      clear h
      obtain ⟨o8, fs_o8, hr_o8, he_o8, h⟩ := h0
      obtain rfl : o = o8 := Option.some.inj hr_o8
      refine ar_VV (kc' := 0) (ks' := 0) (kc := 0) (ks := 0) (a := o) (ci := 2) (as := [vi 2]) (st := []) (tX2_expect h) mt_X2_expect rfl qM_RX2_150 qI_X2_expect qV_X2_expect he_o8 rfl (Nat.le_of_ble_eq_true rfl) dX2_readDeed_65 ?_
      clear h
      intro F7 h
      refine aw_pc (pc' := 68) rfl ?_
      refine aw_aload_n dX2_readDeed_68 rfl rfl (aw_pc (pc' := 69) rfl ?_)
      refine aw_iconst dX2_readDeed_69 (aw_pc (pc' := 70) rfl ?_)
      refine aw_bipush dX2_readDeed_70 (by decide) (aw_pc (pc' := 72) rfl ?_)
      have h0 := rcv_inv h
      clear h
      obtain ⟨o11, fs_o11, hr_o11, he_o11, h⟩ := h0
      obtain rfl : o = o11 := Option.some.inj hr_o11
      refine ar_VI (kc' := 0) (ks' := 0) (kc := 0) (ks := 0) (a := o) (ci := 2) (as := [vi 1, vi 9]) (st := []) (tX2_expectNumber h) mt_X2_expectNumber rfl qM_RX2_164 qI_X2_expectNumber qV_X2_expectNumber he_o11 rfl (Nat.le_of_ble_eq_true rfl) dX2_readDeed_72 ?_
      clear h
      intro x10 F9 h
      refine aw_pc (pc' := 75) rfl ?_
      refine aw_istore_n dX2_readDeed_75 rfl (by decide) (aw_pc (pc' := 76) rfl ?_)
      refine aw_goto (tgt := 160) dX2_readDeed_76 rfl ?_
      exact aw_mask [true, true, true, true] (tX2_readDeed_J160 h)
    · skip
      by_cases c2 : w32 a1 = 14
      · replace h := h.2.2.1 c2
        refine aw_lookup dX2_readDeed_5 (by decide) (tgt := 79) (by rw [c2]; decide) ?_
        refine aw_aload_n dX2_readDeed_79 rfl rfl (aw_pc (pc' := 80) rfl ?_)
        refine aw_iconst dX2_readDeed_80 (aw_pc (pc' := 81) rfl ?_)
        refine aw_iconst dX2_readDeed_81 (aw_pc (pc' := 82) rfl ?_)
        have h0 := rcv_inv h
        clear h
        obtain ⟨o14, fs_o14, hr_o14, he_o14, h⟩ := h0
        obtain rfl : o = o14 := Option.some.inj hr_o14
        refine ar_VI (kc' := 0) (ks' := 0) (kc := 0) (ks := 0) (a := o) (ci := 2) (as := [vi 0, vi 3]) (st := []) (tX2_expectNumber h) mt_X2_expectNumber rfl qM_RX2_164 qI_X2_expectNumber qV_X2_expectNumber he_o14 rfl (Nat.le_of_ble_eq_true rfl) dX2_readDeed_82 ?_
        clear h
        intro x13 F12 h
        refine aw_pc (pc' := 85) rfl ?_
        refine aw_istore_n dX2_readDeed_85 rfl (by decide) (aw_pc (pc' := 86) rfl ?_)
        refine aw_aload_n dX2_readDeed_86 rfl rfl (aw_pc (pc' := 87) rfl ?_)
        refine aw_bipush dX2_readDeed_87 (by decide) (aw_pc (pc' := 89) rfl ?_)
        have h0 := rcv_inv h
        clear h
        obtain ⟨o16, fs_o16, hr_o16, he_o16, h⟩ := h0
        obtain rfl : o = o16 := Option.some.inj hr_o16
        refine ar_VV (kc' := 0) (ks' := 0) (kc := 0) (ks := 0) (a := o) (ci := 2) (as := [vi 18]) (st := []) (tX2_expect h) mt_X2_expect rfl qM_RX2_150 qI_X2_expect qV_X2_expect he_o16 rfl (Nat.le_of_ble_eq_true rfl) dX2_readDeed_89 ?_
        clear h
        intro F15 h
        refine aw_pc (pc' := 92) rfl ?_
        refine aw_aload_n dX2_readDeed_92 rfl rfl (aw_pc (pc' := 93) rfl ?_)
        refine aw_iconst dX2_readDeed_93 (aw_pc (pc' := 94) rfl ?_)
        refine aw_iconst dX2_readDeed_94 (aw_pc (pc' := 95) rfl ?_)
        have h0 := rcv_inv h
        clear h
        obtain ⟨o19, fs_o19, hr_o19, he_o19, h⟩ := h0
        obtain rfl : o = o19 := Option.some.inj hr_o19
        refine ar_VI (kc' := 0) (ks' := 0) (kc := 0) (ks := 0) (a := o) (ci := 2) (as := [vi 0, vi 3]) (st := []) (tX2_expectNumber h) mt_X2_expectNumber rfl qM_RX2_164 qI_X2_expectNumber qV_X2_expectNumber he_o19 rfl (Nat.le_of_ble_eq_true rfl) dX2_readDeed_95 ?_
        clear h
        intro x18 F17 h
        refine aw_pc (pc' := 98) rfl ?_
        refine aw_istore_n dX2_readDeed_98 rfl (by decide) (aw_pc (pc' := 99) rfl ?_)
        refine aw_goto (tgt := 160) dX2_readDeed_99 rfl ?_
        exact aw_mask [true, true, true, true] (tX2_readDeed_J160 h)
      · skip
        by_cases c3 : w32 a1 = 15
        · replace h := h.2.2.2.1 c3
          refine aw_lookup dX2_readDeed_5 (by decide) (tgt := 102) (by rw [c3]; decide) ?_
          refine aw_aload_n dX2_readDeed_102 rfl rfl (aw_pc (pc' := 103) rfl ?_)
          refine aw_iconst dX2_readDeed_103 (aw_pc (pc' := 104) rfl ?_)
          refine aw_iconst dX2_readDeed_104 (aw_pc (pc' := 105) rfl ?_)
          have h0 := rcv_inv h
          clear h
          obtain ⟨o22, fs_o22, hr_o22, he_o22, h⟩ := h0
          obtain rfl : o = o22 := Option.some.inj hr_o22
          refine ar_VI (kc' := 0) (ks' := 0) (kc := 0) (ks := 0) (a := o) (ci := 2) (as := [vi 0, vi 2]) (st := []) (tX2_expectNumber h) mt_X2_expectNumber rfl qM_RX2_164 qI_X2_expectNumber qV_X2_expectNumber he_o22 rfl (Nat.le_of_ble_eq_true rfl) dX2_readDeed_105 ?_
          clear h
          intro x21 F20 h
          refine aw_pc (pc' := 108) rfl ?_
          refine aw_istore_n dX2_readDeed_108 rfl (by decide) (aw_pc (pc' := 109) rfl ?_)
          refine aw_aload_n dX2_readDeed_109 rfl rfl (aw_pc (pc' := 110) rfl ?_)
          refine aw_bipush dX2_readDeed_110 (by decide) (aw_pc (pc' := 112) rfl ?_)
          have h0 := rcv_inv h
          clear h
          obtain ⟨o24, fs_o24, hr_o24, he_o24, h⟩ := h0
          obtain rfl : o = o24 := Option.some.inj hr_o24
          refine ar_VV (kc' := 0) (ks' := 0) (kc := 0) (ks := 0) (a := o) (ci := 2) (as := [vi 7]) (st := []) (tX2_expect h) mt_X2_expect rfl qM_RX2_150 qI_X2_expect qV_X2_expect he_o24 rfl (Nat.le_of_ble_eq_true rfl) dX2_readDeed_112 ?_
          clear h
          intro F23 h
          refine aw_pc (pc' := 115) rfl ?_
          refine aw_aload_n dX2_readDeed_115 rfl rfl (aw_pc (pc' := 116) rfl ?_)
          refine aw_iconst dX2_readDeed_116 (aw_pc (pc' := 117) rfl ?_)
          refine aw_iconst dX2_readDeed_117 (aw_pc (pc' := 118) rfl ?_)
          have h0 := rcv_inv h
          clear h
          obtain ⟨o27, fs_o27, hr_o27, he_o27, h⟩ := h0
          obtain rfl : o = o27 := Option.some.inj hr_o27
          refine ar_VI (kc' := 0) (ks' := 0) (kc := 0) (ks := 0) (a := o) (ci := 2) (as := [vi 0, vi 2]) (st := []) (tX2_expectNumber h) mt_X2_expectNumber rfl qM_RX2_164 qI_X2_expectNumber qV_X2_expectNumber he_o27 rfl (Nat.le_of_ble_eq_true rfl) dX2_readDeed_118 ?_
          clear h
          intro x26 F25 h
          refine aw_pc (pc' := 121) rfl ?_
          refine aw_istore_n dX2_readDeed_121 rfl (by decide) (aw_pc (pc' := 122) rfl ?_)
          refine aw_goto (tgt := 160) dX2_readDeed_122 rfl ?_
          exact aw_mask [true, true, true, true] (tX2_readDeed_J160 h)
        · skip
          by_cases c4 : w32 a1 = 17
          · replace h := h.2.2.2.2.1 c4
            refine aw_lookup dX2_readDeed_5 (by decide) (tgt := 125) (by rw [c4]; decide) ?_
            refine aw_aload_n dX2_readDeed_125 rfl rfl (aw_pc (pc' := 126) rfl ?_)
            refine aw_iconst dX2_readDeed_126 (aw_pc (pc' := 127) rfl ?_)
            refine aw_bipush dX2_readDeed_127 (by decide) (aw_pc (pc' := 129) rfl ?_)
            have h0 := rcv_inv h
            clear h
            obtain ⟨o30, fs_o30, hr_o30, he_o30, h⟩ := h0
            obtain rfl : o = o30 := Option.some.inj hr_o30
            refine ar_VI (kc' := 0) (ks' := 0) (kc := 0) (ks := 0) (a := o) (ci := 2) (as := [vi 1, vi 9]) (st := []) (tX2_expectNumber h) mt_X2_expectNumber rfl qM_RX2_164 qI_X2_expectNumber qV_X2_expectNumber he_o30 rfl (Nat.le_of_ble_eq_true rfl) dX2_readDeed_129 ?_
            clear h
            intro x29 F28 h
            refine aw_pc (pc' := 132) rfl ?_
            refine aw_istore_n dX2_readDeed_132 rfl (by decide) (aw_pc (pc' := 133) rfl ?_)
            refine aw_aload_n dX2_readDeed_133 rfl rfl (aw_pc (pc' := 134) rfl ?_)
            refine aw_bipush dX2_readDeed_134 (by decide) (aw_pc (pc' := 136) rfl ?_)
            have h0 := rcv_inv h
            clear h
            obtain ⟨o32, fs_o32, hr_o32, he_o32, h⟩ := h0
            obtain rfl : o = o32 := Option.some.inj hr_o32
            refine ar_VV (kc' := 0) (ks' := 0) (kc := 0) (ks := 0) (a := o) (ci := 2) (as := [vi 19]) (st := []) (tX2_expect h) mt_X2_expect rfl qM_RX2_150 qI_X2_expect qV_X2_expect he_o32 rfl (Nat.le_of_ble_eq_true rfl) dX2_readDeed_136 ?_
            clear h
            intro F31 h
            refine aw_pc (pc' := 139) rfl ?_
            refine aw_aload_n dX2_readDeed_139 rfl rfl (aw_pc (pc' := 140) rfl ?_)
            refine aw_iconst dX2_readDeed_140 (aw_pc (pc' := 141) rfl ?_)
            refine aw_iconst dX2_readDeed_141 (aw_pc (pc' := 142) rfl ?_)
            have h0 := rcv_inv h
            clear h
            obtain ⟨o35, fs_o35, hr_o35, he_o35, h⟩ := h0
            obtain rfl : o = o35 := Option.some.inj hr_o35
            refine ar_VI (kc' := 0) (ks' := 0) (kc := 0) (ks := 0) (a := o) (ci := 2) (as := [vi 0, vi 1]) (st := []) (tX2_expectNumber h) mt_X2_expectNumber rfl qM_RX2_164 qI_X2_expectNumber qV_X2_expectNumber he_o35 rfl (Nat.le_of_ble_eq_true rfl) dX2_readDeed_142 ?_
            clear h
            intro x34 F33 h
            refine aw_pc (pc' := 145) rfl ?_
            refine aw_istore_n dX2_readDeed_145 rfl (by decide) (aw_pc (pc' := 146) rfl ?_)
            refine aw_goto (tgt := 160) dX2_readDeed_146 rfl ?_
            exact aw_mask [true, true, true, true] (tX2_readDeed_J160 h)
          · skip
            replace h := h.2.2.2.2.2 c0 c1 c2 c3 c4
            refine aw_lookup dX2_readDeed_5 (by decide) (tgt := 160) (by simp [Op.lookupswitch.offset, show ¬ (0 : Int) = w32 a1 from fun q => c0 q.symm, show ¬ (13 : Int) = w32 a1 from fun q => c1 q.symm, show ¬ (14 : Int) = w32 a1 from fun q => c2 q.symm, show ¬ (15 : Int) = w32 a1 from fun q => c3 q.symm, show ¬ (17 : Int) = w32 a1 from fun q => c4 q.symm]) ?_
            exact aw_mask [true, true, true, true] (tX2_readDeed_J160 h)
def mX2_readClause_J115 (Q : hp → Prop) (o : Nat) (F : hp) : Prop := rcv F (some o) 2 (fun o2 => mX2_expect o2 40 F (fun F1 => Q F1))
set_option maxHeartbeats 4000000 in
theorem tX2_readClause_J115 {d : Nat} {Q : hp → Prop} {o : Nat} {F : hp} (h : mX2_readClause_J115 Q o F) : aw nX2_readClause (d + 105) 0 0 115 [some (vr (some o)), none] [] F (qV Q) := by
  unfold mX2_readClause_J115 at h
  refine aw_aload_n dX2_readClause_115 rfl rfl (aw_pc (pc' := 116) rfl ?_)
  refine aw_bipush dX2_readClause_116 (by decide) (aw_pc (pc' := 118) rfl ?_)
  have h0 := rcv_inv h
  clear h
  obtain ⟨o2, fs_o2, hr_o2, he_o2, h⟩ := h0
  obtain rfl : o = o2 := Option.some.inj hr_o2
  refine ar_VV (kc' := 0) (ks' := 0) (kc := 0) (ks := 0) (a := o) (ci := 2) (as := [vi 40]) (st := []) (tX2_expect h) mt_X2_expect rfl qM_RX2_150 qI_X2_expect qV_X2_expect he_o2 rfl (Nat.le_of_ble_eq_true rfl) dX2_readClause_118 ?_
  clear h
  intro F1 h
  refine aw_pc (pc' := 121) rfl ?_
  exact aw_vret rfl dX2_readClause_121 ⟨rfl, h⟩
def mX2_readClause_J102 (Q : hp → Prop) (o : Nat) (a1 : Int) (F : hp) : Prop := rcv F (some o) 2 (fun o2 => mX2_readLaw o2 a1 F (fun F1 => mX2_readClause_J115 Q o F1))
set_option maxHeartbeats 4000000 in
theorem tX2_readClause_J102 {d : Nat} {Q : hp → Prop} {o : Nat} {a1 : Int} {F : hp} (h : mX2_readClause_J102 Q o a1 F) : aw nX2_readClause (d + 105) 0 0 102 [some (vr (some o)), some (vi a1)] [] F (qV Q) := by
  unfold mX2_readClause_J102 at h
  refine aw_aload_n dX2_readClause_102 rfl rfl (aw_pc (pc' := 103) rfl ?_)
  refine aw_iload_n dX2_readClause_103 rfl rfl (aw_pc (pc' := 104) rfl ?_)
  have h0 := rcv_inv h
  clear h
  obtain ⟨o2, fs_o2, hr_o2, he_o2, h⟩ := h0
  obtain rfl : o = o2 := Option.some.inj hr_o2
  refine ar_VV (kc' := 0) (ks' := 0) (kc := 0) (ks := 0) (a := o) (ci := 2) (as := [vi a1]) (st := []) (tX2_readLaw h) mt_X2_readLaw rfl qM_RX2_144 qI_X2_readLaw qV_X2_readLaw he_o2 rfl (Nat.le_of_ble_eq_true rfl) dX2_readClause_104 ?_
  clear h
  intro F1 h
  refine aw_pc (pc' := 107) rfl ?_
  refine aw_goto (tgt := 115) dX2_readClause_107 rfl ?_
  exact aw_mask [true, false] (tX2_readClause_J115 h)
def mX2_readClause_J68 (Q : hp → Prop) (o : Nat) (a1 : Int) (F : hp) : Prop := gI F (some o) 2 13 (fun x1 => (w32 x1 < 24 → rcv F (some o) 2 (fun o3 => mX2_nextToken o3 F (fun F2 => (w32 a1 = 11 → mX2_readClause_J102 Q o a1 F2) ∧ (¬ w32 a1 = 11 → (w32 a1 = 12 → mX2_readClause_J102 Q o a1 F2) ∧ (¬ w32 a1 = 12 → rcv F2 (some o) 2 (fun o5 => mX2_readDeed o5 a1 F2 (fun F4 => mX2_readClause_J115 Q o F4))))))) ∧ (¬ w32 x1 < 24 → rcv F (some o) 2 (fun o7 => mX2_fail o7 6 F (fun F6 => Q F6))))
set_option maxHeartbeats 4000000 in
theorem tX2_readClause_J68 {d : Nat} {Q : hp → Prop} {o : Nat} {a1 : Int} {F : hp} (h : mX2_readClause_J68 Q o a1 F) : aw nX2_readClause (d + 105) 0 0 68 [some (vr (some o)), some (vi a1)] [] F (qV Q) := by
  unfold mX2_readClause_J68 at h
  refine aw_aload_n dX2_readClause_68 rfl rfl (aw_pc (pc' := 69) rfl ?_)
  refine ar_gI fl_RX2_56 dX2_readClause_69 h ?_
  clear h
  intro x1 h
  refine aw_pc (pc' := 72) rfl ?_
  refine aw_bipush dX2_readClause_72 (by decide) (aw_pc (pc' := 74) rfl ?_)
  refine ac_lt rfl wl_24 dX2_readClause_74 rfl (fun c => ?_) (fun c => ?_)
  · replace h := h.1 c
    refine aw_aload_n dX2_readClause_86 rfl rfl (aw_pc (pc' := 87) rfl ?_)
    have h0 := rcv_inv h
    clear h
    obtain ⟨o3, fs_o3, hr_o3, he_o3, h⟩ := h0
    obtain rfl : o = o3 := Option.some.inj hr_o3
    refine ar_VV (kc' := 0) (ks' := 0) (kc := 0) (ks := 0) (a := o) (ci := 2) (as := []) (st := []) (tX2_nextToken h) mt_X2_nextToken rfl qM_RX2_137 qI_X2_nextToken qV_X2_nextToken he_o3 rfl (Nat.le_of_ble_eq_true rfl) dX2_readClause_87 ?_
    clear h
    intro F2 h
    refine aw_pc (pc' := 90) rfl ?_
    refine aw_iload_n dX2_readClause_90 rfl rfl (aw_pc (pc' := 91) rfl ?_)
    refine aw_bipush dX2_readClause_91 (by decide) (aw_pc (pc' := 93) rfl ?_)
    refine ac_eq rfl wl_11 dX2_readClause_93 rfl (fun c => ?_) (fun c => ?_)
    · replace h := h.1 c
      exact aw_mask [true, true] (tX2_readClause_J102 h)
    · replace h := h.2 c
      refine aw_iload_n dX2_readClause_96 rfl rfl (aw_pc (pc' := 97) rfl ?_)
      refine aw_bipush dX2_readClause_97 (by decide) (aw_pc (pc' := 99) rfl ?_)
      refine ac_ne rfl wl_12 dX2_readClause_99 rfl (fun c => ?_) (fun c => ?_)
      · replace h := h.1 c
        exact aw_mask [true, true] (tX2_readClause_J102 h)
      · replace h := h.2 c
        refine aw_aload_n dX2_readClause_110 rfl rfl (aw_pc (pc' := 111) rfl ?_)
        refine aw_iload_n dX2_readClause_111 rfl rfl (aw_pc (pc' := 112) rfl ?_)
        have h0 := rcv_inv h
        clear h
        obtain ⟨o5, fs_o5, hr_o5, he_o5, h⟩ := h0
        obtain rfl : o = o5 := Option.some.inj hr_o5
        refine ar_VV (kc' := 0) (ks' := 0) (kc := 0) (ks := 0) (a := o) (ci := 2) (as := [vi a1]) (st := []) (tX2_readDeed h) mt_X2_readDeed rfl qM_RX2_147 qI_X2_readDeed qV_X2_readDeed he_o5 rfl (Nat.le_of_ble_eq_true rfl) dX2_readClause_112 ?_
        clear h
        intro F4 h
        refine aw_pc (pc' := 115) rfl ?_
        exact aw_mask [true, false] (tX2_readClause_J115 h)
  · replace h := h.2 c
    refine aw_aload_n dX2_readClause_77 rfl rfl (aw_pc (pc' := 78) rfl ?_)
    refine aw_bipush dX2_readClause_78 (by decide) (aw_pc (pc' := 80) rfl ?_)
    have h0 := rcv_inv h
    clear h
    obtain ⟨o7, fs_o7, hr_o7, he_o7, h⟩ := h0
    obtain rfl : o = o7 := Option.some.inj hr_o7
    refine ar_VV (kc' := 0) (ks' := 0) (kc := 0) (ks := 0) (a := o) (ci := 2) (as := [vi 6]) (st := []) (tX2_fail h) mt_X2_fail rfl qM_RX2_140 qI_X2_fail qV_X2_fail he_o7 rfl (Nat.le_of_ble_eq_true rfl) dX2_readClause_80 ?_
    clear h
    intro F6 h
    refine aw_pc (pc' := 83) rfl ?_
    refine aw_goto (tgt := 121) dX2_readClause_83 rfl ?_
    exact aw_vret rfl dX2_readClause_121 ⟨rfl, h⟩
def mX2_readClause_J60 (Q : hp → Prop) (o : Nat) (F : hp) : Prop := rcv F (some o) 2 (fun o2 => mX2_fail o2 4 F (fun F1 => Q F1))
set_option maxHeartbeats 4000000 in
theorem tX2_readClause_J60 {d : Nat} {Q : hp → Prop} {o : Nat} {F : hp} (h : mX2_readClause_J60 Q o F) : aw nX2_readClause (d + 105) 0 0 60 [some (vr (some o)), none] [] F (qV Q) := by
  unfold mX2_readClause_J60 at h
  refine aw_aload_n dX2_readClause_60 rfl rfl (aw_pc (pc' := 61) rfl ?_)
  refine aw_iconst dX2_readClause_61 (aw_pc (pc' := 62) rfl ?_)
  have h0 := rcv_inv h
  clear h
  obtain ⟨o2, fs_o2, hr_o2, he_o2, h⟩ := h0
  obtain rfl : o = o2 := Option.some.inj hr_o2
  refine ar_VV (kc' := 0) (ks' := 0) (kc := 0) (ks := 0) (a := o) (ci := 2) (as := [vi 4]) (st := []) (tX2_fail h) mt_X2_fail rfl qM_RX2_140 qI_X2_fail qV_X2_fail he_o2 rfl (Nat.le_of_ble_eq_true rfl) dX2_readClause_62 ?_
  clear h
  intro F1 h
  refine aw_pc (pc' := 65) rfl ?_
  refine aw_goto (tgt := 121) dX2_readClause_65 rfl ?_
  exact aw_vret rfl dX2_readClause_121 ⟨rfl, h⟩
def mX2_readClause_J44 (Q : hp → Prop) (o : Nat) (a1 : Int) (F : hp) : Prop := (w32 a1 = 12 → gR F (some o) 2 5 (fun x1 => aI F x1 0 2 (fun x2 => (w32 x2 = (-1) → mX2_readClause_J68 Q o a1 F) ∧ (¬ w32 x2 = (-1) → mX2_readClause_J60 Q o F)))) ∧ (¬ w32 a1 = 12 → mX2_readClause_J68 Q o a1 F)
set_option maxHeartbeats 4000000 in
theorem tX2_readClause_J44 {d : Nat} {Q : hp → Prop} {o : Nat} {a1 : Int} {F : hp} (h : mX2_readClause_J44 Q o a1 F) : aw nX2_readClause (d + 105) 0 0 44 [some (vr (some o)), some (vi a1)] [] F (qV Q) := by
  unfold mX2_readClause_J44 at h
  refine aw_iload_n dX2_readClause_44 rfl rfl (aw_pc (pc' := 45) rfl ?_)
  refine aw_bipush dX2_readClause_45 (by decide) (aw_pc (pc' := 47) rfl ?_)
  refine ac_ne rfl wl_12 dX2_readClause_47 rfl (fun c => ?_) (fun c => ?_)
  · replace h := h.1 c
    refine aw_aload_n dX2_readClause_50 rfl rfl (aw_pc (pc' := 51) rfl ?_)
    refine ar_gR fl_RX2_28 dX2_readClause_51 h ?_
    clear h
    intro x1 h
    refine aw_pc (pc' := 54) rfl ?_
    refine aw_iconst dX2_readClause_54 (aw_pc (pc' := 55) rfl ?_)
    refine ar_aI dX2_readClause_55 h ?_
    clear h
    intro x2 h
    refine aw_pc (pc' := 56) rfl ?_
    refine aw_iconst dX2_readClause_56 (aw_pc (pc' := 57) rfl ?_)
    refine ac_eq rfl wl_m1 dX2_readClause_57 rfl (fun c => ?_) (fun c => ?_)
    · replace h := h.1 c
      exact aw_mask [true, true] (tX2_readClause_J68 h)
    · replace h := h.2 c
      exact aw_mask [true, false] (tX2_readClause_J60 h)
  · replace h := h.2 c
    exact aw_mask [true, true] (tX2_readClause_J68 h)
def mX2_readClause_J28 (Q : hp → Prop) (o : Nat) (a1 : Int) (F : hp) : Prop := (w32 a1 = 11 → gR F (some o) 2 5 (fun x1 => aI F x1 0 0 (fun x2 => (w32 x2 = (-1) → mX2_readClause_J44 Q o a1 F) ∧ (¬ w32 x2 = (-1) → mX2_readClause_J60 Q o F)))) ∧ (¬ w32 a1 = 11 → mX2_readClause_J44 Q o a1 F)
set_option maxHeartbeats 4000000 in
theorem tX2_readClause_J28 {d : Nat} {Q : hp → Prop} {o : Nat} {a1 : Int} {F : hp} (h : mX2_readClause_J28 Q o a1 F) : aw nX2_readClause (d + 105) 0 0 28 [some (vr (some o)), some (vi a1)] [] F (qV Q) := by
  unfold mX2_readClause_J28 at h
  refine aw_iload_n dX2_readClause_28 rfl rfl (aw_pc (pc' := 29) rfl ?_)
  refine aw_bipush dX2_readClause_29 (by decide) (aw_pc (pc' := 31) rfl ?_)
  refine ac_ne rfl wl_11 dX2_readClause_31 rfl (fun c => ?_) (fun c => ?_)
  · replace h := h.1 c
    refine aw_aload_n dX2_readClause_34 rfl rfl (aw_pc (pc' := 35) rfl ?_)
    refine ar_gR fl_RX2_28 dX2_readClause_35 h ?_
    clear h
    intro x1 h
    refine aw_pc (pc' := 38) rfl ?_
    refine aw_iconst dX2_readClause_38 (aw_pc (pc' := 39) rfl ?_)
    refine ar_aI dX2_readClause_39 h ?_
    clear h
    intro x2 h
    refine aw_pc (pc' := 40) rfl ?_
    refine aw_iconst dX2_readClause_40 (aw_pc (pc' := 41) rfl ?_)
    refine ac_ne rfl wl_m1 dX2_readClause_41 rfl (fun c => ?_) (fun c => ?_)
    · replace h := h.1 c
      exact aw_mask [true, true] (tX2_readClause_J44 h)
    · replace h := h.2 c
      exact aw_mask [true, false] (tX2_readClause_J60 h)
  · replace h := h.2 c
    exact aw_mask [true, true] (tX2_readClause_J44 h)
def mX2_readClause (o : Nat) (F : hp) (Q : hp → Prop) : Prop := gI F (some o) 2 10 (fun x1 => mX11_within x1 11 17 F (fun x3 F2 => (w32 x3 = 0 → (w32 x1 = 0 → mX2_readClause_J28 Q o x1 F2) ∧ (¬ w32 x1 = 0 → rcv F2 (some o) 2 (fun o5 => mX2_fail o5 1 F2 (fun F4 => Q F4)))) ∧ (¬ w32 x3 = 0 → mX2_readClause_J28 Q o x1 F2)))
set_option maxHeartbeats 4000000 in
theorem tX2_readClause {d : Nat} {o : Nat} {F : hp} {Q : hp → Prop} (h : mX2_readClause o F Q) : am nX2_readClause (d + 105) 0 0 [vr (some o)] F (qV Q) := by
  refine am_of (by decide +kernel) (Nat.le_of_ble_eq_true rfl) ?_
  show aw nX2_readClause (d + 105) 0 0 0 [some (vr (some o)), none] [] F (qV Q)
  unfold mX2_readClause at h
  refine aw_aload_n dX2_readClause_0 rfl rfl (aw_pc (pc' := 1) rfl ?_)
  refine ar_gI fl_RX2_47 dX2_readClause_1 h ?_
  clear h
  intro x1 h
  refine aw_pc (pc' := 4) rfl ?_
  refine aw_istore_n dX2_readClause_4 rfl (by decide) (aw_pc (pc' := 5) rfl ?_)
  refine aw_iload_n dX2_readClause_5 rfl rfl (aw_pc (pc' := 6) rfl ?_)
  refine aw_bipush dX2_readClause_6 (by decide) (aw_pc (pc' := 8) rfl ?_)
  refine aw_bipush dX2_readClause_8 (by decide) (aw_pc (pc' := 10) rfl ?_)
  refine ar_SNI (kc' := 0) (ks' := 0) (kc := 0) (ks := 0) (as := [vi x1, vi 11, vi 17]) (st := []) (tX11_within h) mt_X11_within qN_RX2_114 qS_X11_within rfl (Nat.le_of_ble_eq_true rfl) dX2_readClause_10 ?_
  clear h
  intro x3 F2 h
  refine aw_pc (pc' := 13) rfl ?_
  refine aw_if_ne dX2_readClause_13 rfl (fun c => ?_) (fun c => ?_)
  · replace h := h.1 c
    refine aw_iload_n dX2_readClause_16 rfl rfl (aw_pc (pc' := 17) rfl ?_)
    refine aw_if_eq dX2_readClause_17 rfl (fun c => ?_) (fun c => ?_)
    · replace h := h.1 c
      exact aw_mask [true, true] (tX2_readClause_J28 h)
    · replace h := h.2 c
      refine aw_aload_n dX2_readClause_20 rfl rfl (aw_pc (pc' := 21) rfl ?_)
      refine aw_iconst dX2_readClause_21 (aw_pc (pc' := 22) rfl ?_)
      have h0 := rcv_inv h
      clear h
      obtain ⟨o5, fs_o5, hr_o5, he_o5, h⟩ := h0
      obtain rfl : o = o5 := Option.some.inj hr_o5
      refine ar_VV (kc' := 0) (ks' := 0) (kc := 0) (ks := 0) (a := o) (ci := 2) (as := [vi 1]) (st := []) (tX2_fail h) mt_X2_fail rfl qM_RX2_140 qI_X2_fail qV_X2_fail he_o5 rfl (Nat.le_of_ble_eq_true rfl) dX2_readClause_22 ?_
      clear h
      intro F4 h
      refine aw_pc (pc' := 25) rfl ?_
      refine aw_goto (tgt := 121) dX2_readClause_25 rfl ?_
      exact aw_vret rfl dX2_readClause_121 ⟨rfl, h⟩
  · replace h := h.2 c
    exact aw_mask [true, true] (tX2_readClause_J28 h)
def mX2_readTape_J86 (Q : Option Nat → hp → Prop) (o : Nat) (F : hp) : Prop := gI F (some o) 2 7 (fun x1 => (w32 x1 = 0 → nwc F (cO 8 [vr none, vr none, vr none]) (fun n2 F3 => gR F3 (some o) 2 4 (fun x4 => gI F3 (some o) 2 13 (fun x5 => mJ7_copyOf_59c91 72 x4 (3 * x5) F3 (fun x7 F6 => gR F6 (some o) 2 3 (fun x8 => gI F6 (some o) 2 12 (fun x9 => mJ7_copyOf_59c91 300 x8 x9 F6 (fun x11 F10 => gR F10 (some o) 2 5 (fun x12 => clI F10 x12 4 (fun n13 F14 => (∃ a n f, (some n13) = some a ∧ F14 a = some (cA 0 n f)) ∧ mX8_init n2 x7 x11 (some n13) F14 (fun F15 => Q (some n2) F15))))))))))) ∧ (¬ w32 x1 = 0 → Q none F))
set_option maxHeartbeats 4000000 in
theorem tX2_readTape_J86 {d : Nat} {Q : Option Nat → hp → Prop} {o : Nat} {F : hp} (h : mX2_readTape_J86 Q o F) : aw nX2_readTape (d + 106) 4 379 86 [some (vr (some o)), none] [] F (qR Q) := by
  unfold mX2_readTape_J86 at h
  refine aw_aload_n dX2_readTape_86 rfl rfl (aw_pc (pc' := 87) rfl ?_)
  refine ar_gI fl_RX2_31 dX2_readTape_87 h ?_
  clear h
  intro x1 h
  refine aw_pc (pc' := 90) rfl ?_
  refine aw_if_eq dX2_readTape_90 rfl (fun c => ?_) (fun c => ?_)
  · replace h := h.1 c
    refine ar_new (kc := 3) (ks := 376) nl_RX2_68 3 rfl dX2_readTape_95 h ?_
    clear h
    intro n2 F3 h
    refine aw_pc (pc' := 98) rfl ?_
    refine aw_dup dX2_readTape_98 trivial (aw_pc (pc' := 99) rfl ?_)
    refine aw_aload_n dX2_readTape_99 rfl rfl (aw_pc (pc' := 100) rfl ?_)
    refine ar_gR fl_RX2_25 dX2_readTape_100 h ?_
    clear h
    intro x4 h
    refine aw_pc (pc' := 103) rfl ?_
    refine aw_iconst dX2_readTape_103 (aw_pc (pc' := 104) rfl ?_)
    refine aw_aload_n dX2_readTape_104 rfl rfl (aw_pc (pc' := 105) rfl ?_)
    refine ar_gI fl_RX2_56 dX2_readTape_105 h ?_
    clear h
    intro x5 h
    refine aw_pc (pc' := 108) rfl ?_
    refine aw_imul dX2_readTape_108 (aw_pc (pc' := 109) rfl ?_)
    refine ar_SR (kc' := 1) (ks' := 72) (kc := 2) (ks := 304) (as := [vr x4, vi (3 * x5)]) (st := [vr (some n2), vr (some n2)]) (tJ7_copyOf_59c91 (ms := 72) h) mt_J7_copyOf_59c91 qM_RX2_70 qS_J7_copyOf_59c91 rfl (Nat.le_of_ble_eq_true rfl) dX2_readTape_109 ?_
    clear h
    intro x7 F6 h
    refine aw_pc (pc' := 112) rfl ?_
    refine aw_aload_n dX2_readTape_112 rfl rfl (aw_pc (pc' := 113) rfl ?_)
    refine ar_gR fl_RX2_22 dX2_readTape_113 h ?_
    clear h
    intro x8 h
    refine aw_pc (pc' := 116) rfl ?_
    refine aw_aload_n dX2_readTape_116 rfl rfl (aw_pc (pc' := 117) rfl ?_)
    refine ar_gI fl_RX2_53 dX2_readTape_117 h ?_
    clear h
    intro x9 h
    refine aw_pc (pc' := 120) rfl ?_
    refine ar_SR (kc' := 1) (ks' := 300) (kc := 1) (ks := 4) (as := [vr x8, vi x9]) (st := [vr x7, vr (some n2), vr (some n2)]) (tJ7_copyOf_59c91 (ms := 300) h) mt_J7_copyOf_59c91 qM_RX2_70 qS_J7_copyOf_59c91 rfl (Nat.le_of_ble_eq_true rfl) dX2_readTape_120 ?_
    clear h
    intro x11 F10 h
    refine aw_pc (pc' := 123) rfl ?_
    refine aw_aload_n dX2_readTape_123 rfl rfl (aw_pc (pc' := 124) rfl ?_)
    refine ar_gR fl_RX2_28 dX2_readTape_124 h ?_
    clear h
    intro x12 h
    refine aw_pc (pc' := 127) rfl ?_
    refine ar_clone (kc := 0) (ks := 0) (ms := 4) qM_RX2_74 mw_clone (Nat.le_of_ble_eq_true rfl) dX2_readTape_127 h ?_
    clear h
    intro n13 F14 h
    refine aw_pc (pc' := 130) rfl ?_
    refine ar_castI qC_RX2_75 dX2_readTape_130 h ?_
    clear h
    intro h
    refine aw_pc (pc' := 133) rfl ?_
    refine ar_IV (kc' := 0) (ks' := 0) (kc := 0) (ks := 0) (a := n2) (as := [vr x7, vr x11, vr (some n13)]) (st := [vr (some n2)]) (tX8_init h) mt_X8_init rfl rfl qM_RX2_79 qI_X8_init rfl (Nat.le_of_ble_eq_true rfl) dX2_readTape_133 ?_
    clear h
    intro F15 h
    refine aw_pc (pc' := 136) rfl ?_
    exact aw_aret rfl (Or.inl ⟨_, rfl⟩) dX2_readTape_136 ⟨_, rfl, h⟩
  · replace h := h.2 c
    refine aw_null dX2_readTape_93 (aw_pc (pc' := 94) rfl ?_)
    exact aw_aret rfl (Or.inl ⟨_, rfl⟩) dX2_readTape_94 ⟨_, rfl, h⟩
def mX2_readTape_L54 (Q : Option Nat → hp → Prop) : Nat → Nat → Int → hp → Prop
  | 0, _, _, _ => False
  | k + 1, o, a1, F => (24 < w32 a1 → mX2_readTape_J86 Q o F) ∧ (¬ 24 < w32 a1 → gI F (some o) 2 10 (fun x1 => (w32 x1 = 44 → mX2_readTape_J86 Q o F) ∧ (¬ w32 x1 = 44 → gI F (some o) 2 7 (fun x2 => (w32 x2 = 0 → rcv F (some o) 2 (fun o4 => mX2_readClause o4 F (fun F3 => mX2_readTape_L54 Q k o (a1 + 1) F3))) ∧ (¬ w32 x2 = 0 → mX2_readTape_J86 Q o F)))))
set_option maxHeartbeats 4000000 in
theorem tX2_readTape_L54 {d : Nat} {Q : Option Nat → hp → Prop} : ∀ (k : Nat) (o : Nat) (a1 : Int) (F : hp), mX2_readTape_L54 Q k o a1 F → aw nX2_readTape (d + 106) 4 379 54 [some (vr (some o)), some (vi a1)] [] F (qR Q) := by
  intro k
  induction k with
  | zero => intro o a1 F h; exact h.elim
  | succ k ih =>
    intro o a1 F h
    simp only [mX2_readTape_L54] at h
    refine aw_iload_n dX2_readTape_54 rfl rfl (aw_pc (pc' := 55) rfl ?_)
    refine aw_bipush dX2_readTape_55 (by decide) (aw_pc (pc' := 57) rfl ?_)
    refine ac_gt rfl wl_24 dX2_readTape_57 rfl (fun c => ?_) (fun c => ?_)
    · replace h := h.1 c
      exact aw_mask [true, false] (tX2_readTape_J86 h)
    · replace h := h.2 c
      refine aw_aload_n dX2_readTape_60 rfl rfl (aw_pc (pc' := 61) rfl ?_)
      refine ar_gI fl_RX2_47 dX2_readTape_61 h ?_
      clear h
      intro x1 h
      refine aw_pc (pc' := 64) rfl ?_
      refine aw_bipush dX2_readTape_64 (by decide) (aw_pc (pc' := 66) rfl ?_)
      refine ac_eq rfl wl_44 dX2_readTape_66 rfl (fun c => ?_) (fun c => ?_)
      · replace h := h.1 c
        exact aw_mask [true, false] (tX2_readTape_J86 h)
      · replace h := h.2 c
        refine aw_aload_n dX2_readTape_69 rfl rfl (aw_pc (pc' := 70) rfl ?_)
        refine ar_gI fl_RX2_31 dX2_readTape_70 h ?_
        clear h
        intro x2 h
        refine aw_pc (pc' := 73) rfl ?_
        refine aw_if_ne dX2_readTape_73 rfl (fun c => ?_) (fun c => ?_)
        · replace h := h.1 c
          refine aw_aload_n dX2_readTape_76 rfl rfl (aw_pc (pc' := 77) rfl ?_)
          have h0 := rcv_inv h
          clear h
          obtain ⟨o4, fs_o4, hr_o4, he_o4, h⟩ := h0
          obtain rfl : o = o4 := Option.some.inj hr_o4
          refine ar_VV (kc' := 0) (ks' := 0) (kc := 4) (ks := 379) (a := o) (ci := 2) (as := []) (st := []) (tX2_readClause h) mt_X2_readClause rfl qM_RX2_65 qI_X2_readClause qV_X2_readClause he_o4 rfl (Nat.le_of_ble_eq_true rfl) dX2_readTape_77 ?_
          clear h
          intro F3 h
          refine aw_pc (pc' := 80) rfl ?_
          refine aw_iinc dX2_readTape_80 rfl (by decide) (aw_pc (pc' := 83) rfl ?_)
          refine aw_goto (tgt := 54) dX2_readTape_83 rfl ?_
          exact aw_mask [true, true] (ih _ _ _ h)
        · replace h := h.2 c
          exact aw_mask [true, false] (tX2_readTape_J86 h)
def mX2_readTape (o : Nat) (F : hp) (Q : Option Nat → hp → Prop) : Prop := rcv F (some o) 2 (fun o2 => mX2_splitTape o2 F (fun F1 => pF F1 (some o) 2 7 (vi 0) (fun F3 => pF F3 (some o) 2 8 (vi (-1)) (fun F4 => pF F4 (some o) 2 9 (vi 0) (fun F5 => gR F5 (some o) 2 1 (fun x6 => aI F5 x6 0 0 (fun x7 => pF F5 (some o) 2 10 (vi x7) (fun F8 => pF F8 (some o) 2 11 (vi 0) (fun F9 => pF F9 (some o) 2 12 (vi 0) (fun F10 => pF F10 (some o) 2 13 (vi 0) (fun F11 => gR F11 (some o) 2 5 (fun x12 => mJ7_fill_53178 x12 (-1) F11 (fun F13 => (∃ k14, mX2_readTape_L54 Q k14 o 0 F13))))))))))))))
set_option maxHeartbeats 4000000 in
theorem tX2_readTape {d : Nat} {o : Nat} {F : hp} {Q : Option Nat → hp → Prop} (h : mX2_readTape o F Q) : am nX2_readTape (d + 106) 4 379 [vr (some o)] F (qR Q) := by
  refine am_of (by decide +kernel) (Nat.le_of_ble_eq_true rfl) ?_
  show aw nX2_readTape (d + 106) 4 379 0 [some (vr (some o)), none] [] F (qR Q)
  unfold mX2_readTape at h
  refine aw_aload_n dX2_readTape_0 rfl rfl (aw_pc (pc' := 1) rfl ?_)
  have h0 := rcv_inv h
  clear h
  obtain ⟨o2, fs_o2, hr_o2, he_o2, h⟩ := h0
  obtain rfl : o = o2 := Option.some.inj hr_o2
  refine ar_VV (kc' := 0) (ks' := 0) (kc := 4) (ks := 379) (a := o) (ci := 2) (as := []) (st := []) (tX2_splitTape h) mt_X2_splitTape rfl qM_RX2_41 qI_X2_splitTape qV_X2_splitTape he_o2 rfl (Nat.le_of_ble_eq_true rfl) dX2_readTape_1 ?_
  clear h
  intro F1 h
  refine aw_pc (pc' := 4) rfl ?_
  refine aw_aload_n dX2_readTape_4 rfl rfl (aw_pc (pc' := 5) rfl ?_)
  refine aw_iconst dX2_readTape_5 (aw_pc (pc' := 6) rfl ?_)
  refine ar_pF fl_RX2_31 ft_X2_7 (okI _) dX2_readTape_6 h ?_
  clear h
  intro F3 h
  refine aw_pc (pc' := 9) rfl ?_
  refine aw_aload_n dX2_readTape_9 rfl rfl (aw_pc (pc' := 10) rfl ?_)
  refine aw_iconst dX2_readTape_10 (aw_pc (pc' := 11) rfl ?_)
  refine ar_pF fl_RX2_35 ft_X2_8 (okI _) dX2_readTape_11 h ?_
  clear h
  intro F4 h
  refine aw_pc (pc' := 14) rfl ?_
  refine aw_aload_n dX2_readTape_14 rfl rfl (aw_pc (pc' := 15) rfl ?_)
  refine aw_iconst dX2_readTape_15 (aw_pc (pc' := 16) rfl ?_)
  refine ar_pF fl_RX2_44 ft_X2_9 (okI _) dX2_readTape_16 h ?_
  clear h
  intro F5 h
  refine aw_pc (pc' := 19) rfl ?_
  refine aw_aload_n dX2_readTape_19 rfl rfl (aw_pc (pc' := 20) rfl ?_)
  refine aw_aload_n dX2_readTape_20 rfl rfl (aw_pc (pc' := 21) rfl ?_)
  refine ar_gR fl_RX2_15 dX2_readTape_21 h ?_
  clear h
  intro x6 h
  refine aw_pc (pc' := 24) rfl ?_
  refine aw_iconst dX2_readTape_24 (aw_pc (pc' := 25) rfl ?_)
  refine ar_aI dX2_readTape_25 h ?_
  clear h
  intro x7 h
  refine aw_pc (pc' := 26) rfl ?_
  refine ar_pF fl_RX2_47 ft_X2_10 (okI _) dX2_readTape_26 h ?_
  clear h
  intro F8 h
  refine aw_pc (pc' := 29) rfl ?_
  refine aw_aload_n dX2_readTape_29 rfl rfl (aw_pc (pc' := 30) rfl ?_)
  refine aw_iconst dX2_readTape_30 (aw_pc (pc' := 31) rfl ?_)
  refine ar_pF fl_RX2_50 ft_X2_11 (okI _) dX2_readTape_31 h ?_
  clear h
  intro F9 h
  refine aw_pc (pc' := 34) rfl ?_
  refine aw_aload_n dX2_readTape_34 rfl rfl (aw_pc (pc' := 35) rfl ?_)
  refine aw_iconst dX2_readTape_35 (aw_pc (pc' := 36) rfl ?_)
  refine ar_pF fl_RX2_53 ft_X2_12 (okI _) dX2_readTape_36 h ?_
  clear h
  intro F10 h
  refine aw_pc (pc' := 39) rfl ?_
  refine aw_aload_n dX2_readTape_39 rfl rfl (aw_pc (pc' := 40) rfl ?_)
  refine aw_iconst dX2_readTape_40 (aw_pc (pc' := 41) rfl ?_)
  refine ar_pF fl_RX2_56 ft_X2_13 (okI _) dX2_readTape_41 h ?_
  clear h
  intro F11 h
  refine aw_pc (pc' := 44) rfl ?_
  refine aw_aload_n dX2_readTape_44 rfl rfl (aw_pc (pc' := 45) rfl ?_)
  refine ar_gR fl_RX2_28 dX2_readTape_45 h ?_
  clear h
  intro x12 h
  refine aw_pc (pc' := 48) rfl ?_
  refine aw_iconst dX2_readTape_48 (aw_pc (pc' := 49) rfl ?_)
  refine ar_SV (kc' := 0) (ks' := 0) (kc := 4) (ks := 379) (as := [vr x12, vi (-1)]) (st := []) (tJ7_fill_53178 h) mt_J7_fill_53178 qM_RX2_59 qS_J7_fill_53178 rfl (Nat.le_of_ble_eq_true rfl) dX2_readTape_49 ?_
  clear h
  intro F13 h
  refine aw_pc (pc' := 52) rfl ?_
  refine aw_iconst dX2_readTape_52 (aw_pc (pc' := 53) rfl ?_)
  refine aw_istore_n dX2_readTape_53 rfl (by decide) (aw_pc (pc' := 54) rfl ?_)
  obtain ⟨k14, h⟩ := h
  exact aw_mask [true, true] (tX2_readTape_L54 k14 _ _ _ h)
