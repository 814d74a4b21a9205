def mX2_init (o : Nat) (F : hp) (Q : hp → Prop) : Prop := nwc F (cA 1 300 (fun _ => 0)) (fun n1 F2 => pF F2 (some o) 2 0 (vr (some n1)) (fun F3 => nwc F3 (cA 0 301 (fun _ => 0)) (fun n4 F5 => pF F5 (some o) 2 1 (vr (some n4)) (fun F6 => nwc F6 (cA 0 301 (fun _ => 0)) (fun n7 F8 => pF F8 (some o) 2 2 (vr (some n7)) (fun F9 => nwc F9 (cA 0 300 (fun _ => 0)) (fun n10 F11 => pF F11 (some o) 2 3 (vr (some n10)) (fun F12 => nwc F12 (cA 0 72 (fun _ => 0)) (fun n13 F14 => pF F14 (some o) 2 4 (vr (some n13)) (fun F15 => nwc F15 (cA 0 4 (fun _ => 0)) (fun n16 F17 => pF F17 (some o) 2 5 (vr (some n16)) (fun F18 => pF F18 (some o) 2 7 (vi (-1)) (fun F19 => pF F19 (some o) 2 8 (vi (-1)) (fun F20 => Q F20))))))))))))))
set_option maxHeartbeats 4000000 in
theorem tX2_init {d : Nat} {o : Nat} {F : hp} {Q : hp → Prop} (h : mX2_init o F Q) : am nX2_init (d + 1) 6 1278 [vr (some o)] F (qV Q) := by
  refine am_of (by decide +kernel) (Nat.le_of_ble_eq_true rfl) ?_
  show aw nX2_init (d + 1) 6 1278 0 [some (vr (some o))] [] F (qV Q)
  unfold mX2_init at h
  refine aw_aload_n dX2_init_0 rfl rfl (aw_pc (pc' := 1) rfl ?_)
  refine aw_obj qM_RX2_3 mw_obj (Nat.le_of_ble_eq_true rfl) dX2_init_1 (aw_pc (pc' := 4) rfl ?_)
  refine aw_aload_n dX2_init_4 rfl rfl (aw_pc (pc' := 5) rfl ?_)
  refine aw_sipush dX2_init_5 (by decide) (aw_pc (pc' := 8) rfl ?_)
  refine ar_newarr (k := 1) (kc := 5) (ks := 978) (ms := 300) (Or.inr (Or.inl rfl)) rfl qY_byte (by decide) dX2_init_8 h ?_
  clear h
  intro n1 F2 h
  refine aw_pc (pc' := 10) rfl ?_
  refine ar_pFF fl_RX2_9 ft_X2_0 rfl rfl (okA _ _) dX2_init_10 h ?_
  clear h
  intro F3 h
  refine aw_pc (pc' := 13) rfl ?_
  refine aw_aload_n dX2_init_13 rfl rfl (aw_pc (pc' := 14) rfl ?_)
  refine aw_sipush dX2_init_14 (by decide) (aw_pc (pc' := 17) rfl ?_)
  refine ar_newarr (k := 0) (kc := 4) (ks := 677) (ms := 301) (Or.inl rfl) rfl qY_int (by decide) dX2_init_17 h ?_
  clear h
  intro n4 F5 h
  refine aw_pc (pc' := 19) rfl ?_
  refine ar_pFF fl_RX2_15 ft_X2_1 rfl rfl (okA _ _) dX2_init_19 h ?_
  clear h
  intro F6 h
  refine aw_pc (pc' := 22) rfl ?_
  refine aw_aload_n dX2_init_22 rfl rfl (aw_pc (pc' := 23) rfl ?_)
  refine aw_sipush dX2_init_23 (by decide) (aw_pc (pc' := 26) rfl ?_)
  refine ar_newarr (k := 0) (kc := 3) (ks := 376) (ms := 301) (Or.inl rfl) rfl qY_int (by decide) dX2_init_26 h ?_
  clear h
  intro n7 F8 h
  refine aw_pc (pc' := 28) rfl ?_
  refine ar_pFF fl_RX2_19 ft_X2_2 rfl rfl (okA _ _) dX2_init_28 h ?_
  clear h
  intro F9 h
  refine aw_pc (pc' := 31) rfl ?_
  refine aw_aload_n dX2_init_31 rfl rfl (aw_pc (pc' := 32) rfl ?_)
  refine aw_sipush dX2_init_32 (by decide) (aw_pc (pc' := 35) rfl ?_)
  refine ar_newarr (k := 0) (kc := 2) (ks := 76) (ms := 300) (Or.inl rfl) rfl qY_int (by decide) dX2_init_35 h ?_
  clear h
  intro n10 F11 h
  refine aw_pc (pc' := 37) rfl ?_
  refine ar_pFF fl_RX2_22 ft_X2_3 rfl rfl (okA _ _) dX2_init_37 h ?_
  clear h
  intro F12 h
  refine aw_pc (pc' := 40) rfl ?_
  refine aw_aload_n dX2_init_40 rfl rfl (aw_pc (pc' := 41) rfl ?_)
  refine aw_bipush dX2_init_41 (by decide) (aw_pc (pc' := 43) rfl ?_)
  refine ar_newarr (k := 0) (kc := 1) (ks := 4) (ms := 72) (Or.inl rfl) rfl qY_int (by decide) dX2_init_43 h ?_
  clear h
  intro n13 F14 h
  refine aw_pc (pc' := 45) rfl ?_
  refine ar_pFF fl_RX2_25 ft_X2_4 rfl rfl (okA _ _) dX2_init_45 h ?_
  clear h
  intro F15 h
  refine aw_pc (pc' := 48) rfl ?_
  refine aw_aload_n dX2_init_48 rfl rfl (aw_pc (pc' := 49) rfl ?_)
  refine aw_iconst dX2_init_49 (aw_pc (pc' := 50) rfl ?_)
  refine ar_newarr (k := 0) (kc := 0) (ks := 0) (ms := 4) (Or.inl rfl) rfl qY_int (by decide) dX2_init_50 h ?_
  clear h
  intro n16 F17 h
  refine aw_pc (pc' := 52) rfl ?_
  refine ar_pFF fl_RX2_28 ft_X2_5 rfl rfl (okA _ _) dX2_init_52 h ?_
  clear h
  intro F18 h
  refine aw_pc (pc' := 55) rfl ?_
  refine aw_aload_n dX2_init_55 rfl rfl (aw_pc (pc' := 56) rfl ?_)
  refine aw_iconst dX2_init_56 (aw_pc (pc' := 57) rfl ?_)
  refine ar_pF fl_RX2_31 ft_X2_7 (okI _) dX2_init_57 h ?_
  clear h
  intro F19 h
  refine aw_pc (pc' := 60) rfl ?_
  refine aw_aload_n dX2_init_60 rfl rfl (aw_pc (pc' := 61) rfl ?_)
  refine aw_iconst dX2_init_61 (aw_pc (pc' := 62) rfl ?_)
  refine ar_pF fl_RX2_35 ft_X2_8 (okI _) dX2_init_62 h ?_
  clear h
  intro F20 h
  refine aw_pc (pc' := 65) rfl ?_
  exact aw_vret rfl dX2_init_65 ⟨rfl, h⟩
def mX2_takeFour_L3 (Q : hp → Prop) : Nat → Nat → Int → Int → hp → Prop
  | 0, _, _, _, _ => False
  | k + 1, o, a1, a2, F => (w32 a2 < 0 → Q F) ∧ (¬ w32 a2 < 0 → gI F (some o) 2 6 (fun x1 => (w32 x1 < 300 → gR F (some o) 2 0 (fun x2 => gI F (some o) 2 6 (fun x3 => sI F x2 1 x3 (iB (iB (iShr a1 a2))) (fun F4 => gI F4 (some o) 2 6 (fun x5 => pF F4 (some o) 2 6 (vi (x5 + 1)) (fun F6 => mX2_takeFour_L3 Q k o a1 (a2 + (-8)) F6)))))) ∧ (¬ w32 x1 < 300 → Q F)))
set_option maxHeartbeats 4000000 in
theorem tX2_takeFour_L3 {d : Nat} {Q : hp → Prop} : ∀ (k : Nat) (o : Nat) (a1 : Int) (a2 : Int) (F : hp), mX2_takeFour_L3 Q k o a1 a2 F → aw nX2_takeFour d 0 0 3 [some (vr (some o)), some (vi a1), some (vi a2)] [] F (qV Q) := by
  intro k
  induction k with
  | zero => intro o a1 a2 F h; exact h.elim
  | succ k ih =>
    intro o a1 a2 F h
    simp only [mX2_takeFour_L3] at h
    refine aw_iload_n dX2_takeFour_3 rfl rfl (aw_pc (pc' := 4) rfl ?_)
    refine aw_if_lt dX2_takeFour_4 rfl (fun c => ?_) (fun c => ?_)
    · replace h := h.1 c
      exact aw_vret rfl dX2_takeFour_46 ⟨rfl, h⟩
    · replace h := h.2 c
      refine aw_aload_n dX2_takeFour_7 rfl rfl (aw_pc (pc' := 8) rfl ?_)
      refine ar_gI fl_RX2_38 dX2_takeFour_8 h ?_
      clear h
      intro x1 h
      refine aw_pc (pc' := 11) rfl ?_
      refine aw_sipush dX2_takeFour_11 (by decide) (aw_pc (pc' := 14) rfl ?_)
      refine ac_ge rfl wl_300 dX2_takeFour_14 rfl (fun c => ?_) (fun c => ?_)
      · replace h := h.1 c
        refine aw_aload_n dX2_takeFour_17 rfl rfl (aw_pc (pc' := 18) rfl ?_)
        refine ar_gR fl_RX2_9 dX2_takeFour_18 h ?_
        clear h
        intro x2 h
        refine aw_pc (pc' := 21) rfl ?_
        refine aw_aload_n dX2_takeFour_21 rfl rfl (aw_pc (pc' := 22) rfl ?_)
        refine ar_gI fl_RX2_38 dX2_takeFour_22 h ?_
        clear h
        intro x3 h
        refine aw_pc (pc' := 25) rfl ?_
        refine aw_iload_n dX2_takeFour_25 rfl rfl (aw_pc (pc' := 26) rfl ?_)
        refine aw_iload_n dX2_takeFour_26 rfl rfl (aw_pc (pc' := 27) rfl ?_)
        refine aw_ishr dX2_takeFour_27 (aw_pc (pc' := 28) rfl ?_)
        refine aw_i2b dX2_takeFour_28 (aw_pc (pc' := 29) rfl ?_)
        refine ar_sB dX2_takeFour_29 h ?_
        clear h
        intro F4 h
        refine aw_pc (pc' := 30) rfl ?_
        refine aw_aload_n dX2_takeFour_30 rfl rfl (aw_pc (pc' := 31) rfl ?_)
        refine aw_dup dX2_takeFour_31 trivial (aw_pc (pc' := 32) rfl ?_)
        refine ar_gI fl_RX2_38 dX2_takeFour_32 h ?_
        clear h
        intro x5 h
        refine aw_pc (pc' := 35) rfl ?_
        refine aw_iconst dX2_takeFour_35 (aw_pc (pc' := 36) rfl ?_)
        refine aw_iadd dX2_takeFour_36 (aw_pc (pc' := 37) rfl ?_)
        refine ar_pF fl_RX2_38 ft_X2_6 (okI _) dX2_takeFour_37 h ?_
        clear h
        intro F6 h
        refine aw_pc (pc' := 40) rfl ?_
        refine aw_iinc dX2_takeFour_40 rfl (by decide) (aw_pc (pc' := 43) rfl ?_)
        refine aw_goto (tgt := 3) dX2_takeFour_43 rfl ?_
        exact aw_mask [true, true, true] (ih _ _ _ _ h)
      · replace h := h.2 c
        exact aw_vret rfl dX2_takeFour_46 ⟨rfl, h⟩
def mX2_takeFour (o : Nat) (a1 : Int) (F : hp) (Q : hp → Prop) : Prop := (∃ k1, mX2_takeFour_L3 Q k1 o a1 24 F)
set_option maxHeartbeats 4000000 in
theorem tX2_takeFour {d : Nat} {o : Nat} {a1 : Int} {F : hp} {Q : hp → Prop} (h : mX2_takeFour o a1 F Q) : am nX2_takeFour d 0 0 [vr (some o), vi a1] F (qV Q) := by
  refine am_of (by decide +kernel) (Nat.le_of_ble_eq_true rfl) ?_
  show aw nX2_takeFour d 0 0 0 [some (vr (some o)), some (vi a1), none] [] F (qV Q)
  unfold mX2_takeFour at h
  refine aw_bipush dX2_takeFour_0 (by decide) (aw_pc (pc' := 2) rfl ?_)
  refine aw_istore_n dX2_takeFour_2 rfl (by decide) (aw_pc (pc' := 3) rfl ?_)
  obtain ⟨k1, h⟩ := h
  exact aw_mask [true, true, true] (tX2_takeFour_L3 k1 _ _ _ _ h)
def mX2_isLetter_J22 (Q : Int → hp → Prop) (F : hp) : Prop := Q 1 F
set_option maxHeartbeats 4000000 in
theorem tX2_isLetter_J22 {d : Nat} {Q : Int → hp → Prop} {F : hp} (h : mX2_isLetter_J22 Q F) : aw nX2_isLetter (d + 1) 0 0 22 [none] [] F (qI Q) := by
  unfold mX2_isLetter_J22 at h
  refine aw_iconst dX2_isLetter_22 (aw_pc (pc' := 23) rfl ?_)
  refine aw_goto (tgt := 27) dX2_isLetter_23 rfl ?_
  exact aw_zret rfl (by decide) dX2_isLetter_27 ⟨_, rfl, h⟩
def mX2_isLetter (a0 : Int) (F : hp) (Q : Int → hp → Prop) : Prop := mX11_within a0 97 122 F (fun x2 F1 => (w32 x2 = 0 → mX11_within a0 65 90 F1 (fun x4 F3 => (w32 x4 = 0 → Q 0 F3) ∧ (¬ w32 x4 = 0 → mX2_isLetter_J22 Q F3))) ∧ (¬ w32 x2 = 0 → mX2_isLetter_J22 Q F1))
set_option maxHeartbeats 4000000 in
theorem tX2_isLetter {d : Nat} {a0 : Int} {F : hp} {Q : Int → hp → Prop} (h : mX2_isLetter a0 F Q) : am nX2_isLetter (d + 1) 0 0 [vi a0] F (qI Q) := by
  refine am_of (by decide +kernel) (Nat.le_of_ble_eq_true rfl) ?_
  show aw nX2_isLetter (d + 1) 0 0 0 [some (vi a0)] [] F (qI Q)
  unfold mX2_isLetter at h
  refine aw_iload_n dX2_isLetter_0 rfl rfl (aw_pc (pc' := 1) rfl ?_)
  refine aw_bipush dX2_isLetter_1 (by decide) (aw_pc (pc' := 3) rfl ?_)
  refine aw_bipush dX2_isLetter_3 (by decide) (aw_pc (pc' := 5) rfl ?_)
  refine ar_SNI (kc' := 0) (ks' := 0) (kc := 0) (ks := 0) (as := [vi a0, vi 97, vi 122]) (st := []) (tX11_within h) mt_X11_within qN_RX2_109 qS_X11_within rfl (Nat.le_of_ble_eq_true rfl) dX2_isLetter_5 ?_
  clear h
  intro x2 F1 h
  refine aw_pc (pc' := 8) rfl ?_
  refine aw_if_ne dX2_isLetter_8 rfl (fun c => ?_) (fun c => ?_)
  · replace h := h.1 c
    refine aw_iload_n dX2_isLetter_11 rfl rfl (aw_pc (pc' := 12) rfl ?_)
    refine aw_bipush dX2_isLetter_12 (by decide) (aw_pc (pc' := 14) rfl ?_)
    refine aw_bipush dX2_isLetter_14 (by decide) (aw_pc (pc' := 16) rfl ?_)
    refine ar_SNI (kc' := 0) (ks' := 0) (kc := 0) (ks := 0) (as := [vi a0, vi 65, vi 90]) (st := []) (tX11_within h) mt_X11_within qN_RX2_109 qS_X11_within rfl (Nat.le_of_ble_eq_true rfl) dX2_isLetter_16 ?_
    clear h
    intro x4 F3 h
    refine aw_pc (pc' := 19) rfl ?_
    refine aw_if_eq dX2_isLetter_19 rfl (fun c => ?_) (fun c => ?_)
    · replace h := h.1 c
      refine aw_iconst dX2_isLetter_26 (aw_pc (pc' := 27) rfl ?_)
      exact aw_zret rfl (by decide) dX2_isLetter_27 ⟨_, rfl, h⟩
    · replace h := h.2 c
      exact aw_mask [false] (tX2_isLetter_J22 h)
  · replace h := h.2 c
    exact aw_mask [false] (tX2_isLetter_J22 h)
def mX2_isDigit (a0 : Int) (F : hp) (Q : Int → hp → Prop) : Prop := mX11_within a0 48 57 F (fun x2 F1 => ((x2 = 0 ∨ x2 = 1) ∧ Q x2 F1))
set_option maxHeartbeats 4000000 in
theorem tX2_isDigit {d : Nat} {a0 : Int} {F : hp} {Q : Int → hp → Prop} (h : mX2_isDigit a0 F Q) : am nX2_isDigit (d + 1) 0 0 [vi a0] F (qI Q) := by
  refine am_of (by decide +kernel) (Nat.le_of_ble_eq_true rfl) ?_
  show aw nX2_isDigit (d + 1) 0 0 0 [some (vi a0)] [] F (qI Q)
  unfold mX2_isDigit at h
  refine aw_iload_n dX2_isDigit_0 rfl rfl (aw_pc (pc' := 1) rfl ?_)
  refine aw_bipush dX2_isDigit_1 (by decide) (aw_pc (pc' := 3) rfl ?_)
  refine aw_bipush dX2_isDigit_3 (by decide) (aw_pc (pc' := 5) rfl ?_)
  refine ar_SNI (kc' := 0) (ks' := 0) (kc := 0) (ks := 0) (as := [vi a0, vi 48, vi 57]) (st := []) (tX11_within h) mt_X11_within qN_RX2_109 qS_X11_within rfl (Nat.le_of_ble_eq_true rfl) dX2_isDigit_5 ?_
  clear h
  intro x2 F1 h
  refine aw_pc (pc' := 8) rfl ?_
  exact aw_zret rfl (nz h.1) dX2_isDigit_8 ⟨_, rfl, h.2⟩
def mX2_behindWord_L2 (Q : Int → hp → Prop) : Nat → Nat → Int → hp → Prop
  | 0, _, _, _ => False
  | k + 1, o, a2, F => gI F (some o) 2 6 (fun x1 => (w32 a2 < w32 x1 → gR F (some o) 2 0 (fun x2 => aI F x2 1 a2 (fun x3 => mX2_isLetter x3 F (fun x5 F4 => (w32 x5 = 0 → Q a2 F4) ∧ (¬ w32 x5 = 0 → mX2_behindWord_L2 Q k o (a2 + 1) F4))))) ∧ (¬ w32 a2 < w32 x1 → Q a2 F))
set_option maxHeartbeats 4000000 in
theorem tX2_behindWord_L2 {d : Nat} {Q : Int → hp → Prop} : ∀ (k : Nat) (o : Nat) (a2 : Int) (F : hp), mX2_behindWord_L2 Q k o a2 F → aw nX2_behindWord (d + 2) 0 0 2 [some (vr (some o)), none, some (vi a2)] [] F (qI Q) := by
  intro k
  induction k with
  | zero => intro o a2 F h; exact h.elim
  | succ k ih =>
    intro o a2 F h
    simp only [mX2_behindWord_L2] at h
    refine aw_iload_n dX2_behindWord_2 rfl rfl (aw_pc (pc' := 3) rfl ?_)
    refine aw_aload_n dX2_behindWord_3 rfl rfl (aw_pc (pc' := 4) rfl ?_)
    refine ar_gI fl_RX2_38 dX2_behindWord_4 h ?_
    clear h
    intro x1 h
    refine aw_pc (pc' := 7) rfl ?_
    refine ac_ge rfl rfl dX2_behindWord_7 rfl (fun c => ?_) (fun c => ?_)
    · replace h := h.1 c
      refine aw_aload_n dX2_behindWord_10 rfl rfl (aw_pc (pc' := 11) rfl ?_)
      refine ar_gR fl_RX2_9 dX2_behindWord_11 h ?_
      clear h
      intro x2 h
      refine aw_pc (pc' := 14) rfl ?_
      refine aw_iload_n dX2_behindWord_14 rfl rfl (aw_pc (pc' := 15) rfl ?_)
      refine ar_aB dX2_behindWord_15 h ?_
      clear h
      intro x3 h
      refine aw_pc (pc' := 16) rfl ?_
      refine ar_SI (kc' := 0) (ks' := 0) (kc := 0) (ks := 0) (as := [vi x3]) (st := []) (tX2_isLetter h) mt_X2_isLetter qM_RX2_82 qS_X2_isLetter rfl (Nat.le_of_ble_eq_true rfl) dX2_behindWord_16 ?_
      clear h
      intro x5 F4 h
      refine aw_pc (pc' := 19) rfl ?_
      refine aw_if_eq dX2_behindWord_19 rfl (fun c => ?_) (fun c => ?_)
      · replace h := h.1 c
        refine aw_iload_n dX2_behindWord_28 rfl rfl (aw_pc (pc' := 29) rfl ?_)
        exact aw_iret rfl dX2_behindWord_29 ⟨_, rfl, h⟩
      · replace h := h.2 c
        refine aw_iinc dX2_behindWord_22 rfl (by decide) (aw_pc (pc' := 25) rfl ?_)
        refine aw_goto (tgt := 2) dX2_behindWord_25 rfl ?_
        exact aw_mask [true, false, true] (ih _ _ _ h)
    · replace h := h.2 c
      refine aw_iload_n dX2_behindWord_28 rfl rfl (aw_pc (pc' := 29) rfl ?_)
      exact aw_iret rfl dX2_behindWord_29 ⟨_, rfl, h⟩
def mX2_behindWord (o : Nat) (a1 : Int) (F : hp) (Q : Int → hp → Prop) : Prop := (∃ k1, mX2_behindWord_L2 Q k1 o a1 F)
set_option maxHeartbeats 4000000 in
theorem tX2_behindWord {d : Nat} {o : Nat} {a1 : Int} {F : hp} {Q : Int → hp → Prop} (h : mX2_behindWord o a1 F Q) : am nX2_behindWord (d + 2) 0 0 [vr (some o), vi a1] F (qI Q) := by
  refine am_of (by decide +kernel) (Nat.le_of_ble_eq_true rfl) ?_
  show aw nX2_behindWord (d + 2) 0 0 0 [some (vr (some o)), some (vi a1), none] [] F (qI Q)
  unfold mX2_behindWord at h
  refine aw_iload_n dX2_behindWord_0 rfl rfl (aw_pc (pc' := 1) rfl ?_)
  refine aw_istore_n dX2_behindWord_1 rfl (by decide) (aw_pc (pc' := 2) rfl ?_)
  obtain ⟨k1, h⟩ := h
  exact aw_mask [true, false, true] (tX2_behindWord_L2 k1 _ _ _ h)
def mX2_behindNumber_L2 (Q : Int → hp → Prop) : Nat → Nat → Int → hp → Prop
  | 0, _, _, _ => False
  | k + 1, o, a2, F => gI F (some o) 2 6 (fun x1 => (w32 a2 < w32 x1 → gR F (some o) 2 0 (fun x2 => aI F x2 1 a2 (fun x3 => mX2_isDigit x3 F (fun x5 F4 => (w32 x5 = 0 → Q a2 F4) ∧ (¬ w32 x5 = 0 → mX2_behindNumber_L2 Q k o (a2 + 1) F4))))) ∧ (¬ w32 a2 < w32 x1 → Q a2 F))
set_option maxHeartbeats 4000000 in
theorem tX2_behindNumber_L2 {d : Nat} {Q : Int → hp → Prop} : ∀ (k : Nat) (o : Nat) (a2 : Int) (F : hp), mX2_behindNumber_L2 Q k o a2 F → aw nX2_behindNumber (d + 2) 0 0 2 [some (vr (some o)), none, some (vi a2)] [] F (qI Q) := by
  intro k
  induction k with
  | zero => intro o a2 F h; exact h.elim
  | succ k ih =>
    intro o a2 F h
    simp only [mX2_behindNumber_L2] at h
    refine aw_iload_n dX2_behindNumber_2 rfl rfl (aw_pc (pc' := 3) rfl ?_)
    refine aw_aload_n dX2_behindNumber_3 rfl rfl (aw_pc (pc' := 4) rfl ?_)
    refine ar_gI fl_RX2_38 dX2_behindNumber_4 h ?_
    clear h
    intro x1 h
    refine aw_pc (pc' := 7) rfl ?_
    refine ac_ge rfl rfl dX2_behindNumber_7 rfl (fun c => ?_) (fun c => ?_)
    · replace h := h.1 c
      refine aw_aload_n dX2_behindNumber_10 rfl rfl (aw_pc (pc' := 11) rfl ?_)
      refine ar_gR fl_RX2_9 dX2_behindNumber_11 h ?_
      clear h
      intro x2 h
      refine aw_pc (pc' := 14) rfl ?_
      refine aw_iload_n dX2_behindNumber_14 rfl rfl (aw_pc (pc' := 15) rfl ?_)
      refine ar_aB dX2_behindNumber_15 h ?_
      clear h
      intro x3 h
      refine aw_pc (pc' := 16) rfl ?_
      refine ar_SI (kc' := 0) (ks' := 0) (kc := 0) (ks := 0) (as := [vi x3]) (st := []) (tX2_isDigit h) mt_X2_isDigit qM_RX2_94 qS_X2_isDigit rfl (Nat.le_of_ble_eq_true rfl) dX2_behindNumber_16 ?_
      clear h
      intro x5 F4 h
      refine aw_pc (pc' := 19) rfl ?_
      refine aw_if_eq dX2_behindNumber_19 rfl (fun c => ?_) (fun c => ?_)
      · replace h := h.1 c
        refine aw_iload_n dX2_behindNumber_28 rfl rfl (aw_pc (pc' := 29) rfl ?_)
        exact aw_iret rfl dX2_behindNumber_29 ⟨_, rfl, h⟩
      · replace h := h.2 c
        refine aw_iinc dX2_behindNumber_22 rfl (by decide) (aw_pc (pc' := 25) rfl ?_)
        refine aw_goto (tgt := 2) dX2_behindNumber_25 rfl ?_
        exact aw_mask [true, false, true] (ih _ _ _ h)
    · replace h := h.2 c
      refine aw_iload_n dX2_behindNumber_28 rfl rfl (aw_pc (pc' := 29) rfl ?_)
      exact aw_iret rfl dX2_behindNumber_29 ⟨_, rfl, h⟩
def mX2_behindNumber (o : Nat) (a1 : Int) (F : hp) (Q : Int → hp → Prop) : Prop := (∃ k1, mX2_behindNumber_L2 Q k1 o a1 F)
set_option maxHeartbeats 4000000 in
theorem tX2_behindNumber {d : Nat} {o : Nat} {a1 : Int} {F : hp} {Q : Int → hp → Prop} (h : mX2_behindNumber o a1 F Q) : am nX2_behindNumber (d + 2) 0 0 [vr (some o), vi a1] F (qI Q) := by
  refine am_of (by decide +kernel) (Nat.le_of_ble_eq_true rfl) ?_
  show aw nX2_behindNumber (d + 2) 0 0 0 [some (vr (some o)), some (vi a1), none] [] F (qI Q)
  unfold mX2_behindNumber at h
  refine aw_iload_n dX2_behindNumber_0 rfl rfl (aw_pc (pc' := 1) rfl ?_)
  refine aw_istore_n dX2_behindNumber_1 rfl (by decide) (aw_pc (pc' := 2) rfl ?_)
  obtain ⟨k1, h⟩ := h
  exact aw_mask [true, false, true] (tX2_behindNumber_L2 k1 _ _ _ h)
def mX2_numberAt_L5 (Q : Int → hp → Prop) : Nat → Nat → Int → Int → Int → hp → Prop
  | 0, _, _, _, _, _ => False
  | k + 1, o, a2, a3, a4, F => (w32 a4 < w32 a2 → gR F (some o) 2 0 (fun x1 => aI F x1 1 a4 (fun x2 => ∀ v3 : Int, v3 = (iMin 10000 (((a3 * 10) + x2) - 48)) → mX2_numberAt_L5 Q k o a2 v3 (a4 + 1) F))) ∧ (¬ w32 a4 < w32 a2 → Q a3 F)
set_option maxHeartbeats 4000000 in
theorem tX2_numberAt_L5 {d : Nat} {Q : Int → hp → Prop} : ∀ (k : Nat) (o : Nat) (a2 : Int) (a3 : Int) (a4 : Int) (F : hp), mX2_numberAt_L5 Q k o a2 a3 a4 F → aw nX2_numberAt (d + 1) 0 0 5 [some (vr (some o)), none, some (vi a2), some (vi a3), some (vi a4)] [] F (qI Q) := by
  intro k
  induction k with
  | zero => intro o a2 a3 a4 F h; exact h.elim
  | succ k ih =>
    intro o a2 a3 a4 F h
    simp only [mX2_numberAt_L5] at h
    refine aw_iload dX2_numberAt_5 rfl (aw_pc (pc' := 7) rfl ?_)
    refine aw_iload_n dX2_numberAt_7 rfl rfl (aw_pc (pc' := 8) rfl ?_)
    refine ac_ge rfl rfl dX2_numberAt_8 rfl (fun c => ?_) (fun c => ?_)
    · replace h := h.1 c
      refine aw_sipush dX2_numberAt_11 (by decide) (aw_pc (pc' := 14) rfl ?_)
      refine aw_iload_n dX2_numberAt_14 rfl rfl (aw_pc (pc' := 15) rfl ?_)
      refine aw_bipush dX2_numberAt_15 (by decide) (aw_pc (pc' := 17) rfl ?_)
      refine aw_imul dX2_numberAt_17 (aw_pc (pc' := 18) rfl ?_)
      refine aw_aload_n dX2_numberAt_18 rfl rfl (aw_pc (pc' := 19) rfl ?_)
      refine ar_gR fl_RX2_9 dX2_numberAt_19 h ?_
      clear h
      intro x1 h
      refine aw_pc (pc' := 22) rfl ?_
      refine aw_iload dX2_numberAt_22 rfl (aw_pc (pc' := 24) rfl ?_)
      refine ar_aB dX2_numberAt_24 h ?_
      clear h
      intro x2 h
      refine aw_pc (pc' := 25) rfl ?_
      refine aw_iadd dX2_numberAt_25 (aw_pc (pc' := 26) rfl ?_)
      refine aw_bipush dX2_numberAt_26 (by decide) (aw_pc (pc' := 28) rfl ?_)
      refine aw_isub dX2_numberAt_28 (aw_pc (pc' := 29) rfl ?_)
      refine aw_min qM_RX2_124 mw_min (Nat.le_of_ble_eq_true rfl) dX2_numberAt_29 (aw_pc (pc' := 32) rfl ?_)
      generalize hv_v3 : (iMin 10000 (((a3 * 10) + x2) - 48)) = v3
      replace h := h v3 hv_v3.symm
      refine aw_istore_n dX2_numberAt_32 rfl (by decide) (aw_pc (pc' := 33) rfl ?_)
      refine aw_iinc dX2_numberAt_33 rfl (by decide) (aw_pc (pc' := 36) rfl ?_)
      refine aw_goto (tgt := 5) dX2_numberAt_36 rfl ?_
      exact aw_mask [true, false, true, true, true] (ih _ _ _ _ _ h)
    · replace h := h.2 c
      refine aw_iload_n dX2_numberAt_39 rfl rfl (aw_pc (pc' := 40) rfl ?_)
      exact aw_iret rfl dX2_numberAt_40 ⟨_, rfl, h⟩
def mX2_numberAt (o : Nat) (a1 : Int) (a2 : Int) (F : hp) (Q : Int → hp → Prop) : Prop := (∃ k1, mX2_numberAt_L5 Q k1 o a2 0 a1 F)
set_option maxHeartbeats 4000000 in
theorem tX2_numberAt {d : Nat} {o : Nat} {a1 : Int} {a2 : Int} {F : hp} {Q : Int → hp → Prop} (h : mX2_numberAt o a1 a2 F Q) : am nX2_numberAt (d + 1) 0 0 [vr (some o), vi a1, vi a2] F (qI Q) := by
  refine am_of (by decide +kernel) (Nat.le_of_ble_eq_true rfl) ?_
  show aw nX2_numberAt (d + 1) 0 0 0 [some (vr (some o)), some (vi a1), some (vi a2), none, none] [] F (qI Q)
  unfold mX2_numberAt at h
  refine aw_iconst dX2_numberAt_0 (aw_pc (pc' := 1) rfl ?_)
  refine aw_istore_n dX2_numberAt_1 rfl (by decide) (aw_pc (pc' := 2) rfl ?_)
  refine aw_iload_n dX2_numberAt_2 rfl rfl (aw_pc (pc' := 3) rfl ?_)
  refine aw_istore dX2_numberAt_3 (by decide) (aw_pc (pc' := 5) rfl ?_)
  obtain ⟨k1, h⟩ := h
  exact aw_mask [true, false, true, true, true] (tX2_numberAt_L5 k1 _ _ _ _ _ h)
def mX2_startsDouble_J22 (Q : Int → hp → Prop) (o : Nat) (a1 : Int) (F : hp) : Prop := gI F (some o) 2 6 (fun x1 => (w32 (a1 + 1) < w32 x1 → gR F (some o) 2 0 (fun x2 => aI F x2 1 (a1 + 1) (fun x3 => (w32 x3 = 61 → Q 1 F) ∧ (¬ w32 x3 = 61 → Q 0 F)))) ∧ (¬ w32 (a1 + 1) < w32 x1 → Q 0 F))
set_option maxHeartbeats 4000000 in
theorem tX2_startsDouble_J22 {d : Nat} {Q : Int → hp → Prop} {o : Nat} {a1 : Int} {F : hp} (h : mX2_startsDouble_J22 Q o a1 F) : aw nX2_startsDouble d 0 0 22 [some (vr (some o)), some (vi a1)] [] F (qI Q) := by
  unfold mX2_startsDouble_J22 at h
  refine aw_iload_n dX2_startsDouble_22 rfl rfl (aw_pc (pc' := 23) rfl ?_)
  refine aw_iconst dX2_startsDouble_23 (aw_pc (pc' := 24) rfl ?_)
  refine aw_iadd dX2_startsDouble_24 (aw_pc (pc' := 25) rfl ?_)
  refine aw_aload_n dX2_startsDouble_25 rfl rfl (aw_pc (pc' := 26) rfl ?_)
  refine ar_gI fl_RX2_38 dX2_startsDouble_26 h ?_
  clear h
  intro x1 h
  refine aw_pc (pc' := 29) rfl ?_
  refine ac_ge rfl rfl dX2_startsDouble_29 rfl (fun c => ?_) (fun c => ?_)
  · replace h := h.1 c
    refine aw_aload_n dX2_startsDouble_32 rfl rfl (aw_pc (pc' := 33) rfl ?_)
    refine ar_gR fl_RX2_9 dX2_startsDouble_33 h ?_
    clear h
    intro x2 h
    refine aw_pc (pc' := 36) rfl ?_
    refine aw_iload_n dX2_startsDouble_36 rfl rfl (aw_pc (pc' := 37) rfl ?_)
    refine aw_iconst dX2_startsDouble_37 (aw_pc (pc' := 38) rfl ?_)
    refine aw_iadd dX2_startsDouble_38 (aw_pc (pc' := 39) rfl ?_)
    refine ar_aB dX2_startsDouble_39 h ?_
    clear h
    intro x3 h
    refine aw_pc (pc' := 40) rfl ?_
    refine aw_bipush dX2_startsDouble_40 (by decide) (aw_pc (pc' := 42) rfl ?_)
    refine ac_ne rfl wl_61 dX2_startsDouble_42 rfl (fun c => ?_) (fun c => ?_)
    · replace h := h.1 c
      refine aw_iconst dX2_startsDouble_45 (aw_pc (pc' := 46) rfl ?_)
      refine aw_goto (tgt := 50) dX2_startsDouble_46 rfl ?_
      exact aw_zret rfl (by decide) dX2_startsDouble_50 ⟨_, rfl, h⟩
    · replace h := h.2 c
      refine aw_iconst dX2_startsDouble_49 (aw_pc (pc' := 50) rfl ?_)
      exact aw_zret rfl (by decide) dX2_startsDouble_50 ⟨_, rfl, h⟩
  · replace h := h.2 c
    refine aw_iconst dX2_startsDouble_49 (aw_pc (pc' := 50) rfl ?_)
    exact aw_zret rfl (by decide) dX2_startsDouble_50 ⟨_, rfl, h⟩
def mX2_startsDouble (o : Nat) (a1 : Int) (F : hp) (Q : Int → hp → Prop) : Prop := gR F (some o) 2 0 (fun x1 => aI F x1 1 a1 (fun x2 => (w32 x2 = 60 → mX2_startsDouble_J22 Q o a1 F) ∧ (¬ w32 x2 = 60 → gR F (some o) 2 0 (fun x3 => aI F x3 1 a1 (fun x4 => (w32 x4 = 62 → mX2_startsDouble_J22 Q o a1 F) ∧ (¬ w32 x4 = 62 → Q 0 F))))))
set_option maxHeartbeats 4000000 in
theorem tX2_startsDouble {d : Nat} {o : Nat} {a1 : Int} {F : hp} {Q : Int → hp → Prop} (h : mX2_startsDouble o a1 F Q) : am nX2_startsDouble d 0 0 [vr (some o), vi a1] F (qI Q) := by
  refine am_of (by decide +kernel) (Nat.le_of_ble_eq_true rfl) ?_
  show aw nX2_startsDouble d 0 0 0 [some (vr (some o)), some (vi a1)] [] F (qI Q)
  unfold mX2_startsDouble at h
  refine aw_aload_n dX2_startsDouble_0 rfl rfl (aw_pc (pc' := 1) rfl ?_)
  refine ar_gR fl_RX2_9 dX2_startsDouble_1 h ?_
  clear h
  intro x1 h
  refine aw_pc (pc' := 4) rfl ?_
  refine aw_iload_n dX2_startsDouble_4 rfl rfl (aw_pc (pc' := 5) rfl ?_)
  refine ar_aB dX2_startsDouble_5 h ?_
  clear h
  intro x2 h
  refine aw_pc (pc' := 6) rfl ?_
  refine aw_bipush dX2_startsDouble_6 (by decide) (aw_pc (pc' := 8) rfl ?_)
  refine ac_eq rfl wl_60 dX2_startsDouble_8 rfl (fun c => ?_) (fun c => ?_)
  · replace h := h.1 c
    exact aw_mask [true, true] (tX2_startsDouble_J22 h)
  · replace h := h.2 c
    refine aw_aload_n dX2_startsDouble_11 rfl rfl (aw_pc (pc' := 12) rfl ?_)
    refine ar_gR fl_RX2_9 dX2_startsDouble_12 h ?_
    clear h
    intro x3 h
    refine aw_pc (pc' := 15) rfl ?_
    refine aw_iload_n dX2_startsDouble_15 rfl rfl (aw_pc (pc' := 16) rfl ?_)
    refine ar_aB dX2_startsDouble_16 h ?_
    clear h
    intro x4 h
    refine aw_pc (pc' := 17) rfl ?_
    refine aw_bipush dX2_startsDouble_17 (by decide) (aw_pc (pc' := 19) rfl ?_)
    refine ac_ne rfl wl_62 dX2_startsDouble_19 rfl (fun c => ?_) (fun c => ?_)
    · replace h := h.1 c
      exact aw_mask [true, true] (tX2_startsDouble_J22 h)
    · replace h := h.2 c
      refine aw_iconst dX2_startsDouble_49 (aw_pc (pc' := 50) rfl ?_)
      exact aw_zret rfl (by decide) dX2_startsDouble_50 ⟨_, rfl, h⟩
def mX2_fail_J25 (Q : hp → Prop) (o : Nat) (F : hp) : Prop := pF F (some o) 2 10 (vi 45) (fun F1 => Q F1)
set_option maxHeartbeats 4000000 in
theorem tX2_fail_J25 {d : Nat} {Q : hp → Prop} {o : Nat} {F : hp} (h : mX2_fail_J25 Q o F) : aw nX2_fail d 0 0 25 [some (vr (some o)), none] [] F (qV Q) := by
  unfold mX2_fail_J25 at h
  refine aw_aload_n dX2_fail_25 rfl rfl (aw_pc (pc' := 26) rfl ?_)
  refine aw_bipush dX2_fail_26 (by decide) (aw_pc (pc' := 28) rfl ?_)
  refine ar_pF fl_RX2_47 ft_X2_10 (okI _) dX2_fail_28 h ?_
  clear h
  intro F1 h
  refine aw_pc (pc' := 31) rfl ?_
  exact aw_vret rfl dX2_fail_31 ⟨rfl, h⟩
def mX2_fail (o : Nat) (a1 : Int) (F : hp) (Q : hp → Prop) : Prop := gI F (some o) 2 7 (fun x1 => (w32 x1 = 0 → pF F (some o) 2 7 (vi a1) (fun F2 => gR F2 (some o) 2 2 (fun x3 => gI F2 (some o) 2 9 (fun x4 => aI F2 x3 0 x4 (fun x5 => pF F2 (some o) 2 8 (vi x5) (fun F6 => mX2_fail_J25 Q o F6)))))) ∧ (¬ w32 x1 = 0 → mX2_fail_J25 Q o F))
set_option maxHeartbeats 4000000 in
theorem tX2_fail {d : Nat} {o : Nat} {a1 : Int} {F : hp} {Q : hp → Prop} (h : mX2_fail o a1 F Q) : am nX2_fail d 0 0 [vr (some o), vi a1] F (qV Q) := by
  refine am_of (by decide +kernel) (Nat.le_of_ble_eq_true rfl) ?_
  show aw nX2_fail d 0 0 0 [some (vr (some o)), some (vi a1)] [] F (qV Q)
  unfold mX2_fail at h
  refine aw_aload_n dX2_fail_0 rfl rfl (aw_pc (pc' := 1) rfl ?_)
  refine ar_gI fl_RX2_31 dX2_fail_1 h ?_
  clear h
  intro x1 h
  refine aw_pc (pc' := 4) rfl ?_
  refine aw_if_ne dX2_fail_4 rfl (fun c => ?_) (fun c => ?_)
  · replace h := h.1 c
    refine aw_aload_n dX2_fail_7 rfl rfl (aw_pc (pc' := 8) rfl ?_)
    refine aw_iload_n dX2_fail_8 rfl rfl (aw_pc (pc' := 9) rfl ?_)
    refine ar_pF fl_RX2_31 ft_X2_7 (okI _) dX2_fail_9 h ?_
    clear h
    intro F2 h
    refine aw_pc (pc' := 12) rfl ?_
    refine aw_aload_n dX2_fail_12 rfl rfl (aw_pc (pc' := 13) rfl ?_)
    refine aw_aload_n dX2_fail_13 rfl rfl (aw_pc (pc' := 14) rfl ?_)
    refine ar_gR fl_RX2_19 dX2_fail_14 h ?_
    clear h
    intro x3 h
    refine aw_pc (pc' := 17) rfl ?_
    refine aw_aload_n dX2_fail_17 rfl rfl (aw_pc (pc' := 18) rfl ?_)
    refine ar_gI fl_RX2_44 dX2_fail_18 h ?_
    clear h
    intro x4 h
    refine aw_pc (pc' := 21) rfl ?_
    refine ar_aI dX2_fail_21 h ?_
    clear h
    intro x5 h
    refine aw_pc (pc' := 22) rfl ?_
    refine ar_pF fl_RX2_35 ft_X2_8 (okI _) dX2_fail_22 h ?_
    clear h
    intro F6 h
    refine aw_pc (pc' := 25) rfl ?_
    exact aw_mask [true, false] (tX2_fail_J25 h)
  · replace h := h.2 c
    exact aw_mask [true, false] (tX2_fail_J25 h)
def mX2_nextToken (o : Nat) (F : hp) (Q : hp → Prop) : Prop := gI F (some o) 2 7 (fun x1 => (w32 x1 = 0 → gI F (some o) 2 10 (fun x2 => (w32 x2 = 44 → Q F) ∧ (¬ w32 x2 = 44 → gI F (some o) 2 9 (fun x3 => gR F (some o) 2 1 (fun x4 => aN F x4 (fun x5 => (w32 (x3 + 1) < w32 x5 → gI F (some o) 2 9 (fun x6 => pF F (some o) 2 9 (vi (x6 + 1)) (fun F7 => gR F7 (some o) 2 1 (fun x8 => gI F7 (some o) 2 9 (fun x9 => aI F7 x8 0 x9 (fun x10 => pF F7 (some o) 2 10 (vi x10) (fun F11 => Q F11))))))) ∧ (¬ w32 (x3 + 1) < w32 x5 → Q F))))))) ∧ (¬ w32 x1 = 0 → Q F))
set_option maxHeartbeats 4000000 in
theorem tX2_nextToken {d : Nat} {o : Nat} {F : hp} {Q : hp → Prop} (h : mX2_nextToken o F Q) : am nX2_nextToken d 0 0 [vr (some o)] F (qV Q) := by
  refine am_of (by decide +kernel) (Nat.le_of_ble_eq_true rfl) ?_
  show aw nX2_nextToken d 0 0 0 [some (vr (some o))] [] F (qV Q)
  unfold mX2_nextToken at h
  refine aw_aload_n dX2_nextToken_0 rfl rfl (aw_pc (pc' := 1) rfl ?_)
  refine ar_gI fl_RX2_31 dX2_nextToken_1 h ?_
  clear h
  intro x1 h
  refine aw_pc (pc' := 4) rfl ?_
  refine aw_if_ne dX2_nextToken_4 rfl (fun c => ?_) (fun c => ?_)
  · replace h := h.1 c
    refine aw_aload_n dX2_nextToken_7 rfl rfl (aw_pc (pc' := 8) rfl ?_)
    refine ar_gI fl_RX2_47 dX2_nextToken_8 h ?_
    clear h
    intro x2 h
    refine aw_pc (pc' := 11) rfl ?_
    refine aw_bipush dX2_nextToken_11 (by decide) (aw_pc (pc' := 13) rfl ?_)
    refine ac_eq rfl wl_44 dX2_nextToken_13 rfl (fun c => ?_) (fun c => ?_)
    · replace h := h.1 c
      exact aw_vret rfl dX2_nextToken_53 ⟨rfl, h⟩
    · replace h := h.2 c
      refine aw_aload_n dX2_nextToken_16 rfl rfl (aw_pc (pc' := 17) rfl ?_)
      refine ar_gI fl_RX2_44 dX2_nextToken_17 h ?_
      clear h
      intro x3 h
      refine aw_pc (pc' := 20) rfl ?_
      refine aw_iconst dX2_nextToken_20 (aw_pc (pc' := 21) rfl ?_)
      refine aw_iadd dX2_nextToken_21 (aw_pc (pc' := 22) rfl ?_)
      refine aw_aload_n dX2_nextToken_22 rfl rfl (aw_pc (pc' := 23) rfl ?_)
      refine ar_gR fl_RX2_15 dX2_nextToken_23 h ?_
      clear h
      intro x4 h
      refine aw_pc (pc' := 26) rfl ?_
      refine ar_aN dX2_nextToken_26 h ?_
      clear h
      intro x5 h
      refine aw_pc (pc' := 27) rfl ?_
      refine ac_ge rfl rfl dX2_nextToken_27 rfl (fun c => ?_) (fun c => ?_)
      · replace h := h.1 c
        refine aw_aload_n dX2_nextToken_30 rfl rfl (aw_pc (pc' := 31) rfl ?_)
        refine aw_dup dX2_nextToken_31 trivial (aw_pc (pc' := 32) rfl ?_)
        refine ar_gI fl_RX2_44 dX2_nextToken_32 h ?_
        clear h
        intro x6 h
        refine aw_pc (pc' := 35) rfl ?_
        refine aw_iconst dX2_nextToken_35 (aw_pc (pc' := 36) rfl ?_)
        refine aw_iadd dX2_nextToken_36 (aw_pc (pc' := 37) rfl ?_)
        refine ar_pF fl_RX2_44 ft_X2_9 (okI _) dX2_nextToken_37 h ?_
        clear h
        intro F7 h
        refine aw_pc (pc' := 40) rfl ?_
        refine aw_aload_n dX2_nextToken_40 rfl rfl (aw_pc (pc' := 41) rfl ?_)
        refine aw_aload_n dX2_nextToken_41 rfl rfl (aw_pc (pc' := 42) rfl ?_)
        refine ar_gR fl_RX2_15 dX2_nextToken_42 h ?_
        clear h
        intro x8 h
        refine aw_pc (pc' := 45) rfl ?_
        refine aw_aload_n dX2_nextToken_45 rfl rfl (aw_pc (pc' := 46) rfl ?_)
        refine ar_gI fl_RX2_44 dX2_nextToken_46 h ?_
        clear h
        intro x9 h
        refine aw_pc (pc' := 49) rfl ?_
        refine ar_aI dX2_nextToken_49 h ?_
        clear h
        intro x10 h
        refine aw_pc (pc' := 50) rfl ?_
        refine ar_pF fl_RX2_47 ft_X2_10 (okI _) dX2_nextToken_50 h ?_
        clear h
        intro F11 h
        refine aw_pc (pc' := 53) rfl ?_
        exact aw_vret rfl dX2_nextToken_53 ⟨rfl, h⟩
      · replace h := h.2 c
        exact aw_vret rfl dX2_nextToken_53 ⟨rfl, h⟩
  · replace h := h.2 c
    exact aw_vret rfl dX2_nextToken_53 ⟨rfl, h⟩
def mX2_expect (o : Nat) (a1 : Int) (F : hp) (Q : hp → Prop) : Prop := gI F (some o) 2 10 (fun x1 => (w32 x1 = w32 a1 → rcv F (some o) 2 (fun o3 => mX2_nextToken o3 F (fun F2 => Q F2))) ∧ (¬ w32 x1 = w32 a1 → rcv F (some o) 2 (fun o5 => mX2_fail o5 1 F (fun F4 => Q F4))))
set_option maxHeartbeats 4000000 in
theorem tX2_expect {d : Nat} {o : Nat} {a1 : Int} {F : hp} {Q : hp → Prop} (h : mX2_expect o a1 F Q) : am nX2_expect (d + 1) 0 0 [vr (some o), vi a1] F (qV Q) := by
  refine am_of (by decide +kernel) (Nat.le_of_ble_eq_true rfl) ?_
  show aw nX2_expect (d + 1) 0 0 0 [some (vr (some o)), some (vi a1)] [] F (qV Q)
  unfold mX2_expect at h
  refine aw_aload_n dX2_expect_0 rfl rfl (aw_pc (pc' := 1) rfl ?_)
  refine ar_gI fl_RX2_47 dX2_expect_1 h ?_
  clear h
  intro x1 h
  refine aw_pc (pc' := 4) rfl ?_
  refine aw_iload_n dX2_expect_4 rfl rfl (aw_pc (pc' := 5) rfl ?_)
  refine ac_ne rfl rfl dX2_expect_5 rfl (fun c => ?_) (fun c => ?_)
  · replace h := h.1 c
    refine aw_aload_n dX2_expect_8 rfl rfl (aw_pc (pc' := 9) rfl ?_)
    have h0 := rcv_inv h
    clear h
    obtain ⟨o3, fs_o3, hr_o3, he_o3, h⟩ := h0
    obtain rfl : o = o3 := Option.some.inj hr_o3
    refine ar_VV (kc' := 0) (ks' := 0) (kc := 0) (ks := 0) (a := o) (ci := 2) (as := []) (st := []) (tX2_nextToken h) mt_X2_nextToken rfl qM_RX2_134 qI_X2_nextToken qV_X2_nextToken he_o3 rfl (Nat.le_of_ble_eq_true rfl) dX2_expect_9 ?_
    clear h
    intro F2 h
    refine aw_pc (pc' := 12) rfl ?_
    refine aw_goto (tgt := 20) dX2_expect_12 rfl ?_
    exact aw_vret rfl dX2_expect_20 ⟨rfl, h⟩
  · replace h := h.2 c
    refine aw_aload_n dX2_expect_15 rfl rfl (aw_pc (pc' := 16) rfl ?_)
    refine aw_iconst dX2_expect_16 (aw_pc (pc' := 17) rfl ?_)
    have h0 := rcv_inv h
    clear h
    obtain ⟨o5, fs_o5, hr_o5, he_o5, h⟩ := h0
    obtain rfl : o = o5 := Option.some.inj hr_o5
    refine ar_VV (kc' := 0) (ks' := 0) (kc := 0) (ks := 0) (a := o) (ci := 2) (as := [vi 1]) (st := []) (tX2_fail h) mt_X2_fail rfl qM_RX2_137 qI_X2_fail qV_X2_fail he_o5 rfl (Nat.le_of_ble_eq_true rfl) dX2_expect_17 ?_
    clear h
    intro F4 h
    refine aw_pc (pc' := 20) rfl ?_
    exact aw_vret rfl dX2_expect_20 ⟨rfl, h⟩
def mX2_expectNumber (o : Nat) (a1 : Int) (a2 : Int) (F : hp) (Q : Int → hp → Prop) : Prop := gI F (some o) 2 10 (fun x1 => ∀ v2 : Int, v2 = (x1 - 100) → (w32 v2 < 0 → rcv F (some o) 2 (fun o4 => mX2_fail o4 1 F (fun F3 => Q 0 F3))) ∧ (¬ w32 v2 < 0 → mX11_within v2 a1 a2 F (fun x6 F5 => (w32 x6 = 0 → rcv F5 (some o) 2 (fun o8 => mX2_fail o8 2 F5 (fun F7 => Q 0 F7))) ∧ (¬ w32 x6 = 0 → rcv F5 (some o) 2 (fun o10 => mX2_nextToken o10 F5 (fun F9 => Q v2 F9))))))
set_option maxHeartbeats 4000000 in
theorem tX2_expectNumber {d : Nat} {o : Nat} {a1 : Int} {a2 : Int} {F : hp} {Q : Int → hp → Prop} (h : mX2_expectNumber o a1 a2 F Q) : am nX2_expectNumber (d + 1) 0 0 [vr (some o), vi a1, vi a2] F (qI Q) := by
  refine am_of (by decide +kernel) (Nat.le_of_ble_eq_true rfl) ?_
  show aw nX2_expectNumber (d + 1) 0 0 0 [some (vr (some o)), some (vi a1), some (vi a2), none] [] F (qI Q)
  unfold mX2_expectNumber at h
  refine aw_aload_n dX2_expectNumber_0 rfl rfl (aw_pc (pc' := 1) rfl ?_)
  refine ar_gI fl_RX2_47 dX2_expectNumber_1 h ?_
  clear h
  intro x1 h
  refine aw_pc (pc' := 4) rfl ?_
  refine aw_bipush dX2_expectNumber_4 (by decide) (aw_pc (pc' := 6) rfl ?_)
  refine aw_isub dX2_expectNumber_6 (aw_pc (pc' := 7) rfl ?_)
  generalize hv_v2 : (x1 - 100) = v2
  replace h := h v2 hv_v2.symm
  refine aw_istore_n dX2_expectNumber_7 rfl (by decide) (aw_pc (pc' := 8) rfl ?_)
  refine aw_iload_n dX2_expectNumber_8 rfl rfl (aw_pc (pc' := 9) rfl ?_)
  refine aw_if_ge dX2_expectNumber_9 rfl (fun c => ?_) (fun c => ?_)
  · replace h := h.1 c
    refine aw_aload_n dX2_expectNumber_12 rfl rfl (aw_pc (pc' := 13) rfl ?_)
    refine aw_iconst dX2_expectNumber_13 (aw_pc (pc' := 14) rfl ?_)
    have h0 := rcv_inv h
    clear h
    obtain ⟨o4, fs_o4, hr_o4, he_o4, h⟩ := h0
    obtain rfl : o = o4 := Option.some.inj hr_o4
    refine ar_VV (kc' := 0) (ks' := 0) (kc := 0) (ks := 0) (a := o) (ci := 2) (as := [vi 1]) (st := []) (tX2_fail h) mt_X2_fail rfl qM_RX2_137 qI_X2_fail qV_X2_fail he_o4 rfl (Nat.le_of_ble_eq_true rfl) dX2_expectNumber_14 ?_
    clear h
    intro F3 h
    refine aw_pc (pc' := 17) rfl ?_
    refine aw_iconst dX2_expectNumber_17 (aw_pc (pc' := 18) rfl ?_)
    exact aw_iret rfl dX2_expectNumber_18 ⟨_, rfl, h⟩
  · replace h := h.2 c
    refine aw_iload_n dX2_expectNumber_19 rfl rfl (aw_pc (pc' := 20) rfl ?_)
    refine aw_iload_n dX2_expectNumber_20 rfl rfl (aw_pc (pc' := 21) rfl ?_)
    refine aw_iload_n dX2_expectNumber_21 rfl rfl (aw_pc (pc' := 22) rfl ?_)
    refine ar_SNI (kc' := 0) (ks' := 0) (kc := 0) (ks := 0) (as := [vi v2, vi a1, vi a2]) (st := []) (tX11_within h) mt_X11_within qN_RX2_109 qS_X11_within rfl (Nat.le_of_ble_eq_true rfl) dX2_expectNumber_22 ?_
    clear h
    intro x6 F5 h
    refine aw_pc (pc' := 25) rfl ?_
    refine aw_if_ne dX2_expectNumber_25 rfl (fun c => ?_) (fun c => ?_)
    · replace h := h.1 c
      refine aw_aload_n dX2_expectNumber_28 rfl rfl (aw_pc (pc' := 29) rfl ?_)
      refine aw_iconst dX2_expectNumber_29 (aw_pc (pc' := 30) rfl ?_)
      have h0 := rcv_inv h
      clear h
      obtain ⟨o8, fs_o8, hr_o8, he_o8, h⟩ := h0
      obtain rfl : o = o8 := Option.some.inj hr_o8
      refine ar_VV (kc' := 0) (ks' := 0) (kc := 0) (ks := 0) (a := o) (ci := 2) (as := [vi 2]) (st := []) (tX2_fail h) mt_X2_fail rfl qM_RX2_137 qI_X2_fail qV_X2_fail he_o8 rfl (Nat.le_of_ble_eq_true rfl) dX2_expectNumber_30 ?_
      clear h
      intro F7 h
      refine aw_pc (pc' := 33) rfl ?_
      refine aw_iconst dX2_expectNumber_33 (aw_pc (pc' := 34) rfl ?_)
      exact aw_iret rfl dX2_expectNumber_34 ⟨_, rfl, h⟩
    · replace h := h.2 c
      refine aw_aload_n dX2_expectNumber_35 rfl rfl (aw_pc (pc' := 36) rfl ?_)
      have h0 := rcv_inv h
      clear h
      obtain ⟨o10, fs_o10, hr_o10, he_o10, h⟩ := h0
      obtain rfl : o = o10 := Option.some.inj hr_o10
      refine ar_VV (kc' := 0) (ks' := 0) (kc := 0) (ks := 0) (a := o) (ci := 2) (as := []) (st := []) (tX2_nextToken h) mt_X2_nextToken rfl qM_RX2_134 qI_X2_nextToken qV_X2_nextToken he_o10 rfl (Nat.le_of_ble_eq_true rfl) dX2_expectNumber_36 ?_
      clear h
      intro F9 h
      refine aw_pc (pc' := 39) rfl ?_
      refine aw_iload_n dX2_expectNumber_39 rfl rfl (aw_pc (pc' := 40) rfl ?_)
      exact aw_iret rfl dX2_expectNumber_40 ⟨_, rfl, h⟩
def mX2_addClause (o : Nat) (a1 : Int) (a2 : Int) (a3 : Int) (F : hp) (Q : hp → Prop) : Prop := gI F (some o) 2 13 (fun x1 => (w32 x1 < 24 → gR F (some o) 2 4 (fun x2 => gI F (some o) 2 13 (fun x3 => sI F x2 0 (3 * x3) a1 (fun F4 => gR F4 (some o) 2 4 (fun x5 => gI F4 (some o) 2 13 (fun x6 => sI F4 x5 0 ((3 * x6) + 1) a2 (fun F7 => gR F7 (some o) 2 4 (fun x8 => gI F7 (some o) 2 13 (fun x9 => sI F7 x8 0 ((3 * x9) + 2) a3 (fun F10 => gI F10 (some o) 2 13 (fun x11 => pF F10 (some o) 2 13 (vi (x11 + 1)) (fun F12 => Q F12)))))))))))) ∧ (¬ w32 x1 < 24 → Q F))
set_option maxHeartbeats 4000000 in
theorem tX2_addClause {d : Nat} {o : Nat} {a1 : Int} {a2 : Int} {a3 : Int} {F : hp} {Q : hp → Prop} (h : mX2_addClause o a1 a2 a3 F Q) : am nX2_addClause d 0 0 [vr (some o), vi a1, vi a2, vi a3] F (qV Q) := by
  refine am_of (by decide +kernel) (Nat.le_of_ble_eq_true rfl) ?_
  show aw nX2_addClause d 0 0 0 [some (vr (some o)), some (vi a1), some (vi a2), some (vi a3)] [] F (qV Q)
  unfold mX2_addClause at h
  refine aw_aload_n dX2_addClause_0 rfl rfl (aw_pc (pc' := 1) rfl ?_)
  refine ar_gI fl_RX2_56 dX2_addClause_1 h ?_
  clear h
  intro x1 h
  refine aw_pc (pc' := 4) rfl ?_
  refine aw_bipush dX2_addClause_4 (by decide) (aw_pc (pc' := 6) rfl ?_)
  refine ac_ge rfl wl_24 dX2_addClause_6 rfl (fun c => ?_) (fun c => ?_)
  · replace h := h.1 c
    refine aw_aload_n dX2_addClause_9 rfl rfl (aw_pc (pc' := 10) rfl ?_)
    refine ar_gR fl_RX2_25 dX2_addClause_10 h ?_
    clear h
    intro x2 h
    refine aw_pc (pc' := 13) rfl ?_
    refine aw_iconst dX2_addClause_13 (aw_pc (pc' := 14) rfl ?_)
    refine aw_aload_n dX2_addClause_14 rfl rfl (aw_pc (pc' := 15) rfl ?_)
    refine ar_gI fl_RX2_56 dX2_addClause_15 h ?_
    clear h
    intro x3 h
    refine aw_pc (pc' := 18) rfl ?_
    refine aw_imul dX2_addClause_18 (aw_pc (pc' := 19) rfl ?_)
    refine aw_iload_n dX2_addClause_19 rfl rfl (aw_pc (pc' := 20) rfl ?_)
    refine ar_sI dX2_addClause_20 h ?_
    clear h
    intro F4 h
    refine aw_pc (pc' := 21) rfl ?_
    refine aw_aload_n dX2_addClause_21 rfl rfl (aw_pc (pc' := 22) rfl ?_)
    refine ar_gR fl_RX2_25 dX2_addClause_22 h ?_
    clear h
    intro x5 h
    refine aw_pc (pc' := 25) rfl ?_
    refine aw_iconst dX2_addClause_25 (aw_pc (pc' := 26) rfl ?_)
    refine aw_aload_n dX2_addClause_26 rfl rfl (aw_pc (pc' := 27) rfl ?_)
    refine ar_gI fl_RX2_56 dX2_addClause_27 h ?_
    clear h
    intro x6 h
    refine aw_pc (pc' := 30) rfl ?_
    refine aw_imul dX2_addClause_30 (aw_pc (pc' := 31) rfl ?_)
    refine aw_iconst dX2_addClause_31 (aw_pc (pc' := 32) rfl ?_)
    refine aw_iadd dX2_addClause_32 (aw_pc (pc' := 33) rfl ?_)
    refine aw_iload_n dX2_addClause_33 rfl rfl (aw_pc (pc' := 34) rfl ?_)
    refine ar_sI dX2_addClause_34 h ?_
    clear h
    intro F7 h
    refine aw_pc (pc' := 35) rfl ?_
    refine aw_aload_n dX2_addClause_35 rfl rfl (aw_pc (pc' := 36) rfl ?_)
    refine ar_gR fl_RX2_25 dX2_addClause_36 h ?_
    clear h
    intro x8 h
    refine aw_pc (pc' := 39) rfl ?_
    refine aw_iconst dX2_addClause_39 (aw_pc (pc' := 40) rfl ?_)
    refine aw_aload_n dX2_addClause_40 rfl rfl (aw_pc (pc' := 41) rfl ?_)
    refine ar_gI fl_RX2_56 dX2_addClause_41 h ?_
    clear h
    intro x9 h
    refine aw_pc (pc' := 44) rfl ?_
    refine aw_imul dX2_addClause_44 (aw_pc (pc' := 45) rfl ?_)
    refine aw_iconst dX2_addClause_45 (aw_pc (pc' := 46) rfl ?_)
    refine aw_iadd dX2_addClause_46 (aw_pc (pc' := 47) rfl ?_)
    refine aw_iload_n dX2_addClause_47 rfl rfl (aw_pc (pc' := 48) rfl ?_)
    refine ar_sI dX2_addClause_48 h ?_
    clear h
    intro F10 h
    refine aw_pc (pc' := 49) rfl ?_
    refine aw_aload_n dX2_addClause_49 rfl rfl (aw_pc (pc' := 50) rfl ?_)
    refine aw_dup dX2_addClause_50 trivial (aw_pc (pc' := 51) rfl ?_)
    refine ar_gI fl_RX2_56 dX2_addClause_51 h ?_
    clear h
    intro x11 h
    refine aw_pc (pc' := 54) rfl ?_
    refine aw_iconst dX2_addClause_54 (aw_pc (pc' := 55) rfl ?_)
    refine aw_iadd dX2_addClause_55 (aw_pc (pc' := 56) rfl ?_)
    refine ar_pF fl_RX2_56 ft_X2_13 (okI _) dX2_addClause_56 h ?_
    clear h
    intro F12 h
    refine aw_pc (pc' := 59) rfl ?_
    exact aw_vret rfl dX2_addClause_59 ⟨rfl, h⟩
  · replace h := h.2 c
    exact aw_vret rfl dX2_addClause_59 ⟨rfl, h⟩
def mX2_readDeed_J160 (Q : hp → Prop) (o : Nat) (a1 : Int) (a2 : Int) (a3 : Int) (F : hp) : Prop := rcv F (some o) 2 (fun o2 => mX2_addClause o2 a1 a2 a3 F (fun F1 => Q F1))
set_option maxHeartbeats 4000000 in
theorem tX2_readDeed_J160 {d : Nat} {Q : hp → Prop} {o : Nat} {a1 : Int} {a2 : Int} {a3 : Int} {F : hp} (h : mX2_readDeed_J160 Q o a1 a2 a3 F) : aw nX2_readDeed (d + 2) 0 0 160 [some (vr (some o)), some (vi a1), some (vi a2), some (vi a3)] [] F (qV Q) := by
  unfold mX2_readDeed_J160 at h
  refine aw_aload_n dX2_readDeed_160 rfl rfl (aw_pc (pc' := 161) rfl ?_)
  refine aw_iload_n dX2_readDeed_161 rfl rfl (aw_pc (pc' := 162) rfl ?_)
  refine aw_iload_n dX2_readDeed_162 rfl rfl (aw_pc (pc' := 163) rfl ?_)
  refine aw_iload_n dX2_readDeed_163 rfl rfl (aw_pc (pc' := 164) rfl ?_)
  have h0 := rcv_inv h
  clear h
  obtain ⟨o2, fs_o2, hr_o2, he_o2, h⟩ := h0
  obtain rfl : o = o2 := Option.some.inj hr_o2
  refine ar_VV (kc' := 0) (ks' := 0) (kc := 0) (ks := 0) (a := o) (ci := 2) (as := [vi a1, vi a2, vi a3]) (st := []) (tX2_addClause h) mt_X2_addClause rfl qM_RX2_157 qI_X2_addClause qV_X2_addClause he_o2 rfl (Nat.le_of_ble_eq_true rfl) dX2_readDeed_164 ?_
  clear h
  intro F1 h
  refine aw_pc (pc' := 167) rfl ?_
  exact aw_vret rfl dX2_readDeed_167 ⟨rfl, h⟩
def mX2_readDeed (o : Nat) (a1 : Int) (F : hp) (Q : hp → Prop) : Prop := (w32 a1 = 0 → rcv F (some o) 2 (fun o3 => mX2_expectNumber o3 1 60 F (fun x2 F1 => mX2_readDeed_J160 Q o a1 x2 0 F1))) ∧ (w32 a1 = 13 → rcv F (some o) 2 (fun o6 => mX2_expectNumber o6 0 3 F (fun x5 F4 => rcv F4 (some o) 2 (fun o8 => mX2_expect o8 2 F4 (fun F7 => rcv F7 (some o) 2 (fun o11 => mX2_expectNumber o11 1 9 F7 (fun x10 F9 => mX2_readDeed_J160 Q o a1 x5 x10 F9))))))) ∧ (w32 a1 = 14 → rcv F (some o) 2 (fun o14 => mX2_expectNumber o14 0 3 F (fun x13 F12 => rcv F12 (some o) 2 (fun o16 => mX2_expect o16 18 F12 (fun F15 => rcv F15 (some o) 2 (fun o19 => mX2_expectNumber o19 0 3 F15 (fun x18 F17 => mX2_readDeed_J160 Q o a1 x13 x18 F17))))))) ∧ (w32 a1 = 15 → rcv F (some o) 2 (fun o22 => mX2_expectNumber o22 0 2 F (fun x21 F20 => rcv F20 (some o) 2 (fun o24 => mX2_expect o24 7 F20 (fun F23 => rcv F23 (some o) 2 (fun o27 => mX2_expectNumber o27 0 2 F23 (fun x26 F25 => mX2_readDeed_J160 Q o a1 x21 x26 F25))))))) ∧ (w32 a1 = 17 → rcv F (some o) 2 (fun o30 => mX2_expectNumber o30 1 9 F (fun x29 F28 => rcv F28 (some o) 2 (fun o32 => mX2_expect o32 19 F28 (fun F31 => rcv F31 (some o) 2 (fun o35 => mX2_expectNumber o35 0 1 F31 (fun x34 F33 => mX2_readDeed_J160 Q o a1 x29 x34 F33))))))) ∧ (¬ w32 a1 = 0 → ¬ w32 a1 = 13 → ¬ w32 a1 = 14 → ¬ w32 a1 = 15 → ¬ w32 a1 = 17 → mX2_readDeed_J160 Q o a1 0 0 F)
set_option maxHeartbeats 4000000 in
theorem tX2_readDeed {d : Nat} {o : Nat} {a1 : Int} {F : hp} {Q : hp → Prop} (h : mX2_readDeed o a1 F Q) : am nX2_readDeed (d + 2) 0 0 [vr (some o), vi a1] F (qV Q) := by
  refine am_of (by decide +kernel) (Nat.le_of_ble_eq_true rfl) ?_
  show aw nX2_readDeed (d + 2) 0 0 0 [some (vr (some o)), some (vi a1), none, none] [] F (qV Q)
  unfold mX2_readDeed at h
  refine aw_iconst dX2_readDeed_0 (aw_pc (pc' := 1) rfl ?_)
  refine aw_istore_n dX2_readDeed_1 rfl (by decide) (aw_pc (pc' := 2) rfl ?_)
  refine aw_iconst dX2_readDeed_2 (aw_pc (pc' := 3) rfl ?_)
  refine aw_istore_n dX2_readDeed_3 rfl (by decide) (aw_pc (pc' := 4) rfl ?_)
  refine aw_iload_n dX2_readDeed_4 rfl rfl (aw_pc (pc' := 5) rfl ?_)
  by_cases c0 : w32 a1 = 0
  · replace h := h.1 c0
    refine aw_lookup dX2_readDeed_5 (by decide) (tgt := 149) (by rw [c0]; decide) ?_
    refine aw_aload_n dX2_readDeed_149 rfl rfl (aw_pc (pc' := 150) rfl ?_)
    refine aw_iconst dX2_readDeed_150 (aw_pc (pc' := 151) rfl ?_)
    refine aw_bipush dX2_readDeed_151 (by decide) (aw_pc (pc' := 153) rfl ?_)
    have h0 := rcv_inv h
    clear h
    obtain ⟨o3, fs_o3, hr_o3, he_o3, h⟩ := h0
    obtain rfl : o = o3 := Option.some.inj hr_o3
    refine ar_VI (kc' := 0) (ks' := 0) (kc := 0) (ks := 0) (a := o) (ci := 2) (as := [vi 1, vi 60]) (st := []) (tX2_expectNumber h) mt_X2_expectNumber rfl qM_RX2_161 qI_X2_expectNumber qV_X2_expectNumber he_o3 rfl (Nat.le_of_ble_eq_true rfl) dX2_readDeed_153 ?_
    clear h
    intro x2 F1 h
    refine aw_pc (pc' := 156) rfl ?_
    refine aw_istore_n dX2_readDeed_156 rfl (by decide) (aw_pc (pc' := 157) rfl ?_)
    refine aw_goto (tgt := 160) dX2_readDeed_157 rfl ?_
    exact aw_mask [true, true, true, true] (tX2_readDeed_J160 h)
  · skip
    by_cases c1 : w32 a1 = 13
    · replace h := h.2.1 c1
      refine aw_lookup dX2_readDeed_5 (by decide) (tgt := 56) (by rw [c1]; decide) ?_
      refine aw_aload_n dX2_readDeed_56 rfl rfl (aw_pc (pc' := 57) rfl ?_)
      refine aw_iconst dX2_readDeed_57 (aw_pc (pc' := 58) rfl ?_)
      refine aw_iconst dX2_readDeed_58 (aw_pc (pc' := 59) rfl ?_)
      have h0 := rcv_inv h
      clear h
      obtain ⟨o6, fs_o6, hr_o6, he_o6, h⟩ := h0
      obtain rfl : o = o6 := Option.some.inj hr_o6
      refine ar_VI (kc' := 0) (ks' := 0) (kc := 0) (ks := 0) (a := o) (ci := 2) (as := [vi 0, vi 3]) (st := []) (tX2_expectNumber h) mt_X2_expectNumber rfl qM_RX2_161 qI_X2_expectNumber qV_X2_expectNumber he_o6 rfl (Nat.le_of_ble_eq_true rfl) dX2_readDeed_59 ?_
      clear h
      intro x5 F4 h
      refine aw_pc (pc' := 62) rfl ?_
      refine aw_istore_n dX2_readDeed_62 rfl (by decide) (aw_pc (pc' := 63) rfl ?_)
      refine aw_aload_n dX2_readDeed_63 rfl rfl (aw_pc (pc' := 64) rfl ?_)
      refine aw_iconst dX2_readDeed_64 (aw_pc (pc' := 65) rfl ?_)
      have h0 := rcv_inv h
      clear h
      obtain ⟨o8, fs_o8, hr_o8, he_o8, h⟩ := h0
      obtain rfl : o = o8 := Option.some.inj hr_o8
      refine ar_VV (kc' := 0) (ks' := 0) (kc := 0) (ks := 0) (a := o) (ci := 2) (as := [vi 2]) (st := []) (tX2_expect h) mt_X2_expect rfl qM_RX2_147 qI_X2_expect qV_X2_expect he_o8 rfl (Nat.le_of_ble_eq_true rfl) dX2_readDeed_65 ?_
      clear h
      intro F7 h
      refine aw_pc (pc' := 68) rfl ?_
      refine aw_aload_n dX2_readDeed_68 rfl rfl (aw_pc (pc' := 69) rfl ?_)
      refine aw_iconst dX2_readDeed_69 (aw_pc (pc' := 70) rfl ?_)
      refine aw_bipush dX2_readDeed_70 (by decide) (aw_pc (pc' := 72) rfl ?_)
      have h0 := rcv_inv h
      clear h
      obtain ⟨o11, fs_o11, hr_o11, he_o11, h⟩ := h0
      obtain rfl : o = o11 := Option.some.inj hr_o11
      refine ar_VI (kc' := 0) (ks' := 0) (kc := 0) (ks := 0) (a := o) (ci := 2) (as := [vi 1, vi 9]) (st := []) (tX2_expectNumber h) mt_X2_expectNumber rfl qM_RX2_161 qI_X2_expectNumber qV_X2_expectNumber he_o11 rfl (Nat.le_of_ble_eq_true rfl) dX2_readDeed_72 ?_
      clear h
      intro x10 F9 h
      refine aw_pc (pc' := 75) rfl ?_
      refine aw_istore_n dX2_readDeed_75 rfl (by decide) (aw_pc (pc' := 76) rfl ?_)
      refine aw_goto (tgt := 160) dX2_readDeed_76 rfl ?_
      exact aw_mask [true, true, true, true] (tX2_readDeed_J160 h)
    · skip
      by_cases c2 : w32 a1 = 14
      · replace h := h.2.2.1 c2
        refine aw_lookup dX2_readDeed_5 (by decide) (tgt := 79) (by rw [c2]; decide) ?_
        refine aw_aload_n dX2_readDeed_79 rfl rfl (aw_pc (pc' := 80) rfl ?_)
        refine aw_iconst dX2_readDeed_80 (aw_pc (pc' := 81) rfl ?_)
        refine aw_iconst dX2_readDeed_81 (aw_pc (pc' := 82) rfl ?_)
        have h0 := rcv_inv h
        clear h
        obtain ⟨o14, fs_o14, hr_o14, he_o14, h⟩ := h0
        obtain rfl : o = o14 := Option.some.inj hr_o14
        refine ar_VI (kc' := 0) (ks' := 0) (kc := 0) (ks := 0) (a := o) (ci := 2) (as := [vi 0, vi 3]) (st := []) (tX2_expectNumber h) mt_X2_expectNumber rfl qM_RX2_161 qI_X2_expectNumber qV_X2_expectNumber he_o14 rfl (Nat.le_of_ble_eq_true rfl) dX2_readDeed_82 ?_
        clear h
        intro x13 F12 h
        refine aw_pc (pc' := 85) rfl ?_
        refine aw_istore_n dX2_readDeed_85 rfl (by decide) (aw_pc (pc' := 86) rfl ?_)
        refine aw_aload_n dX2_readDeed_86 rfl rfl (aw_pc (pc' := 87) rfl ?_)
        refine aw_bipush dX2_readDeed_87 (by decide) (aw_pc (pc' := 89) rfl ?_)
        have h0 := rcv_inv h
        clear h
        obtain ⟨o16, fs_o16, hr_o16, he_o16, h⟩ := h0
        obtain rfl : o = o16 := Option.some.inj hr_o16
        refine ar_VV (kc' := 0) (ks' := 0) (kc := 0) (ks := 0) (a := o) (ci := 2) (as := [vi 18]) (st := []) (tX2_expect h) mt_X2_expect rfl qM_RX2_147 qI_X2_expect qV_X2_expect he_o16 rfl (Nat.le_of_ble_eq_true rfl) dX2_readDeed_89 ?_
        clear h
        intro F15 h
        refine aw_pc (pc' := 92) rfl ?_
        refine aw_aload_n dX2_readDeed_92 rfl rfl (aw_pc (pc' := 93) rfl ?_)
        refine aw_iconst dX2_readDeed_93 (aw_pc (pc' := 94) rfl ?_)
        refine aw_iconst dX2_readDeed_94 (aw_pc (pc' := 95) rfl ?_)
        have h0 := rcv_inv h
        clear h
        obtain ⟨o19, fs_o19, hr_o19, he_o19, h⟩ := h0
        obtain rfl : o = o19 := Option.some.inj hr_o19
        refine ar_VI (kc' := 0) (ks' := 0) (kc := 0) (ks := 0) (a := o) (ci := 2) (as := [vi 0, vi 3]) (st := []) (tX2_expectNumber h) mt_X2_expectNumber rfl qM_RX2_161 qI_X2_expectNumber qV_X2_expectNumber he_o19 rfl (Nat.le_of_ble_eq_true rfl) dX2_readDeed_95 ?_
        clear h
        intro x18 F17 h
        refine aw_pc (pc' := 98) rfl ?_
        refine aw_istore_n dX2_readDeed_98 rfl (by decide) (aw_pc (pc' := 99) rfl ?_)
        refine aw_goto (tgt := 160) dX2_readDeed_99 rfl ?_
        exact aw_mask [true, true, true, true] (tX2_readDeed_J160 h)
      · skip
        by_cases c3 : w32 a1 = 15
        · replace h := h.2.2.2.1 c3
          refine aw_lookup dX2_readDeed_5 (by decide) (tgt := 102) (by rw [c3]; decide) ?_
          refine aw_aload_n dX2_readDeed_102 rfl rfl (aw_pc (pc' := 103) rfl ?_)
          refine aw_iconst dX2_readDeed_103 (aw_pc (pc' := 104) rfl ?_)
          refine aw_iconst dX2_readDeed_104 (aw_pc (pc' := 105) rfl ?_)
          have h0 := rcv_inv h
          clear h
          obtain ⟨o22, fs_o22, hr_o22, he_o22, h⟩ := h0
          obtain rfl : o = o22 := Option.some.inj hr_o22
          refine ar_VI (kc' := 0) (ks' := 0) (kc := 0) (ks := 0) (a := o) (ci := 2) (as := [vi 0, vi 2]) (st := []) (tX2_expectNumber h) mt_X2_expectNumber rfl qM_RX2_161 qI_X2_expectNumber qV_X2_expectNumber he_o22 rfl (Nat.le_of_ble_eq_true rfl) dX2_readDeed_105 ?_
          clear h
          intro x21 F20 h
          refine aw_pc (pc' := 108) rfl ?_
          refine aw_istore_n dX2_readDeed_108 rfl (by decide) (aw_pc (pc' := 109) rfl ?_)
          refine aw_aload_n dX2_readDeed_109 rfl rfl (aw_pc (pc' := 110) rfl ?_)
          refine aw_bipush dX2_readDeed_110 (by decide) (aw_pc (pc' := 112) rfl ?_)
          have h0 := rcv_inv h
          clear h
          obtain ⟨o24, fs_o24, hr_o24, he_o24, h⟩ := h0
          obtain rfl : o = o24 := Option.some.inj hr_o24
          refine ar_VV (kc' := 0) (ks' := 0) (kc := 0) (ks := 0) (a := o) (ci := 2) (as := [vi 7]) (st := []) (tX2_expect h) mt_X2_expect rfl qM_RX2_147 qI_X2_expect qV_X2_expect he_o24 rfl (Nat.le_of_ble_eq_true rfl) dX2_readDeed_112 ?_
          clear h
          intro F23 h
          refine aw_pc (pc' := 115) rfl ?_
          refine aw_aload_n dX2_readDeed_115 rfl rfl (aw_pc (pc' := 116) rfl ?_)
          refine aw_iconst dX2_readDeed_116 (aw_pc (pc' := 117) rfl ?_)
          refine aw_iconst dX2_readDeed_117 (aw_pc (pc' := 118) rfl ?_)
          have h0 := rcv_inv h
          clear h
          obtain ⟨o27, fs_o27, hr_o27, he_o27, h⟩ := h0
          obtain rfl : o = o27 := Option.some.inj hr_o27
          refine ar_VI (kc' := 0) (ks' := 0) (kc := 0) (ks := 0) (a := o) (ci := 2) (as := [vi 0, vi 2]) (st := []) (tX2_expectNumber h) mt_X2_expectNumber rfl qM_RX2_161 qI_X2_expectNumber qV_X2_expectNumber he_o27 rfl (Nat.le_of_ble_eq_true rfl) dX2_readDeed_118 ?_
          clear h
          intro x26 F25 h
          refine aw_pc (pc' := 121) rfl ?_
          refine aw_istore_n dX2_readDeed_121 rfl (by decide) (aw_pc (pc' := 122) rfl ?_)
          refine aw_goto (tgt := 160) dX2_readDeed_122 rfl ?_
          exact aw_mask [true, true, true, true] (tX2_readDeed_J160 h)
        · skip
          by_cases c4 : w32 a1 = 17
          · replace h := h.2.2.2.2.1 c4
            refine aw_lookup dX2_readDeed_5 (by decide) (tgt := 125) (by rw [c4]; decide) ?_
            refine aw_aload_n dX2_readDeed_125 rfl rfl (aw_pc (pc' := 126) rfl ?_)
            refine aw_iconst dX2_readDeed_126 (aw_pc (pc' := 127) rfl ?_)
            refine aw_bipush dX2_readDeed_127 (by decide) (aw_pc (pc' := 129) rfl ?_)
            have h0 := rcv_inv h
            clear h
            obtain ⟨o30, fs_o30, hr_o30, he_o30, h⟩ := h0
            obtain rfl : o = o30 := Option.some.inj hr_o30
            refine ar_VI (kc' := 0) (ks' := 0) (kc := 0) (ks := 0) (a := o) (ci := 2) (as := [vi 1, vi 9]) (st := []) (tX2_expectNumber h) mt_X2_expectNumber rfl qM_RX2_161 qI_X2_expectNumber qV_X2_expectNumber he_o30 rfl (Nat.le_of_ble_eq_true rfl) dX2_readDeed_129 ?_
            clear h
            intro x29 F28 h
            refine aw_pc (pc' := 132) rfl ?_
            refine aw_istore_n dX2_readDeed_132 rfl (by decide) (aw_pc (pc' := 133) rfl ?_)
            refine aw_aload_n dX2_readDeed_133 rfl rfl (aw_pc (pc' := 134) rfl ?_)
            refine aw_bipush dX2_readDeed_134 (by decide) (aw_pc (pc' := 136) rfl ?_)
            have h0 := rcv_inv h
            clear h
            obtain ⟨o32, fs_o32, hr_o32, he_o32, h⟩ := h0
            obtain rfl : o = o32 := Option.some.inj hr_o32
            refine ar_VV (kc' := 0) (ks' := 0) (kc := 0) (ks := 0) (a := o) (ci := 2) (as := [vi 19]) (st := []) (tX2_expect h) mt_X2_expect rfl qM_RX2_147 qI_X2_expect qV_X2_expect he_o32 rfl (Nat.le_of_ble_eq_true rfl) dX2_readDeed_136 ?_
            clear h
            intro F31 h
            refine aw_pc (pc' := 139) rfl ?_
            refine aw_aload_n dX2_readDeed_139 rfl rfl (aw_pc (pc' := 140) rfl ?_)
            refine aw_iconst dX2_readDeed_140 (aw_pc (pc' := 141) rfl ?_)
            refine aw_iconst dX2_readDeed_141 (aw_pc (pc' := 142) rfl ?_)
            have h0 := rcv_inv h
            clear h
            obtain ⟨o35, fs_o35, hr_o35, he_o35, h⟩ := h0
            obtain rfl : o = o35 := Option.some.inj hr_o35
            refine ar_VI (kc' := 0) (ks' := 0) (kc := 0) (ks := 0) (a := o) (ci := 2) (as := [vi 0, vi 1]) (st := []) (tX2_expectNumber h) mt_X2_expectNumber rfl qM_RX2_161 qI_X2_expectNumber qV_X2_expectNumber he_o35 rfl (Nat.le_of_ble_eq_true rfl) dX2_readDeed_142 ?_
            clear h
            intro x34 F33 h
            refine aw_pc (pc' := 145) rfl ?_
            refine aw_istore_n dX2_readDeed_145 rfl (by decide) (aw_pc (pc' := 146) rfl ?_)
            refine aw_goto (tgt := 160) dX2_readDeed_146 rfl ?_
            exact aw_mask [true, true, true, true] (tX2_readDeed_J160 h)
          · skip
            replace h := h.2.2.2.2.2 c0 c1 c2 c3 c4
            refine aw_lookup dX2_readDeed_5 (by decide) (tgt := 160) (by simp [Op.lookupswitch.offset, show ¬ (0 : Int) = w32 a1 from fun q => c0 q.symm, show ¬ (13 : Int) = w32 a1 from fun q => c1 q.symm, show ¬ (14 : Int) = w32 a1 from fun q => c2 q.symm, show ¬ (15 : Int) = w32 a1 from fun q => c3 q.symm, show ¬ (17 : Int) = w32 a1 from fun q => c4 q.symm]) ?_
            exact aw_mask [true, true, true, true] (tX2_readDeed_J160 h)
def mX2_emit (o : Nat) (a1 : Int) (F : hp) (Q : hp → Prop) : Prop := gI F (some o) 2 12 (fun x1 => gR F (some o) 2 3 (fun x2 => aN F x2 (fun x3 => (w32 x1 < w32 x3 → gR F (some o) 2 3 (fun x4 => gI F (some o) 2 12 (fun x5 => sI F x4 0 x5 a1 (fun F6 => gI F6 (some o) 2 12 (fun x7 => pF F6 (some o) 2 12 (vi (x7 + 1)) (fun F8 => Q F8)))))) ∧ (¬ w32 x1 < w32 x3 → Q F))))
set_option maxHeartbeats 4000000 in
theorem tX2_emit {d : Nat} {o : Nat} {a1 : Int} {F : hp} {Q : hp → Prop} (h : mX2_emit o a1 F Q) : am nX2_emit d 0 0 [vr (some o), vi a1] F (qV Q) := by
  refine am_of (by decide +kernel) (Nat.le_of_ble_eq_true rfl) ?_
  show aw nX2_emit d 0 0 0 [some (vr (some o)), some (vi a1)] [] F (qV Q)
  unfold mX2_emit at h
  refine aw_aload_n dX2_emit_0 rfl rfl (aw_pc (pc' := 1) rfl ?_)
  refine ar_gI fl_RX2_53 dX2_emit_1 h ?_
  clear h
  intro x1 h
  refine aw_pc (pc' := 4) rfl ?_
  refine aw_aload_n dX2_emit_4 rfl rfl (aw_pc (pc' := 5) rfl ?_)
  refine ar_gR fl_RX2_22 dX2_emit_5 h ?_
  clear h
  intro x2 h
  refine aw_pc (pc' := 8) rfl ?_
  refine ar_aN dX2_emit_8 h ?_
  clear h
  intro x3 h
  refine aw_pc (pc' := 9) rfl ?_
  refine ac_ge rfl rfl dX2_emit_9 rfl (fun c => ?_) (fun c => ?_)
  · replace h := h.1 c
    refine aw_aload_n dX2_emit_12 rfl rfl (aw_pc (pc' := 13) rfl ?_)
    refine ar_gR fl_RX2_22 dX2_emit_13 h ?_
    clear h
    intro x4 h
    refine aw_pc (pc' := 16) rfl ?_
    refine aw_aload_n dX2_emit_16 rfl rfl (aw_pc (pc' := 17) rfl ?_)
    refine ar_gI fl_RX2_53 dX2_emit_17 h ?_
    clear h
    intro x5 h
    refine aw_pc (pc' := 20) rfl ?_
    refine aw_iload_n dX2_emit_20 rfl rfl (aw_pc (pc' := 21) rfl ?_)
    refine ar_sI dX2_emit_21 h ?_
    clear h
    intro F6 h
    refine aw_pc (pc' := 22) rfl ?_
    refine aw_aload_n dX2_emit_22 rfl rfl (aw_pc (pc' := 23) rfl ?_)
    refine aw_dup dX2_emit_23 trivial (aw_pc (pc' := 24) rfl ?_)
    refine ar_gI fl_RX2_53 dX2_emit_24 h ?_
    clear h
    intro x7 h
    refine aw_pc (pc' := 27) rfl ?_
    refine aw_iconst dX2_emit_27 (aw_pc (pc' := 28) rfl ?_)
    refine aw_iadd dX2_emit_28 (aw_pc (pc' := 29) rfl ?_)
    refine ar_pF fl_RX2_53 ft_X2_12 (okI _) dX2_emit_29 h ?_
    clear h
    intro F8 h
    refine aw_pc (pc' := 32) rfl ?_
    exact aw_vret rfl dX2_emit_32 ⟨rfl, h⟩
  · replace h := h.2 c
    exact aw_vret rfl dX2_emit_32 ⟨rfl, h⟩
def mX2_opens (o : Nat) (F : hp) (Q : Int → hp → Prop) : Prop := gI F (some o) 2 11 (fun x1 => (w32 x1 < 8 → gI F (some o) 2 11 (fun x2 => pF F (some o) 2 11 (vi (x2 + 1)) (fun F3 => rcv F3 (some o) 2 (fun o5 => mX2_nextToken o5 F3 (fun F4 => Q 1 F4))))) ∧ (¬ w32 x1 < 8 → rcv F (some o) 2 (fun o7 => mX2_fail o7 3 F (fun F6 => Q 0 F6))))
set_option maxHeartbeats 4000000 in
theorem tX2_opens {d : Nat} {o : Nat} {F : hp} {Q : Int → hp → Prop} (h : mX2_opens o F Q) : am nX2_opens (d + 1) 0 0 [vr (some o)] F (qI Q) := by
  refine am_of (by decide +kernel) (Nat.le_of_ble_eq_true rfl) ?_
  show aw nX2_opens (d + 1) 0 0 0 [some (vr (some o))] [] F (qI Q)
  unfold mX2_opens at h
  refine aw_aload_n dX2_opens_0 rfl rfl (aw_pc (pc' := 1) rfl ?_)
  refine ar_gI fl_RX2_50 dX2_opens_1 h ?_
  clear h
  intro x1 h
  refine aw_pc (pc' := 4) rfl ?_
  refine aw_bipush dX2_opens_4 (by decide) (aw_pc (pc' := 6) rfl ?_)
  refine ac_lt rfl wl_8 dX2_opens_6 rfl (fun c => ?_) (fun c => ?_)
  · replace h := h.1 c
    refine aw_aload_n dX2_opens_16 rfl rfl (aw_pc (pc' := 17) rfl ?_)
    refine aw_dup dX2_opens_17 trivial (aw_pc (pc' := 18) rfl ?_)
    refine ar_gI fl_RX2_50 dX2_opens_18 h ?_
    clear h
    intro x2 h
    refine aw_pc (pc' := 21) rfl ?_
    refine aw_iconst dX2_opens_21 (aw_pc (pc' := 22) rfl ?_)
    refine aw_iadd dX2_opens_22 (aw_pc (pc' := 23) rfl ?_)
    refine ar_pF fl_RX2_50 ft_X2_11 (okI _) dX2_opens_23 h ?_
    clear h
    intro F3 h
    refine aw_pc (pc' := 26) rfl ?_
    refine aw_aload_n dX2_opens_26 rfl rfl (aw_pc (pc' := 27) rfl ?_)
    have h0 := rcv_inv h
    clear h
    obtain ⟨o5, fs_o5, hr_o5, he_o5, h⟩ := h0
    obtain rfl : o = o5 := Option.some.inj hr_o5
    refine ar_VV (kc' := 0) (ks' := 0) (kc := 0) (ks := 0) (a := o) (ci := 2) (as := []) (st := []) (tX2_nextToken h) mt_X2_nextToken rfl qM_RX2_134 qI_X2_nextToken qV_X2_nextToken he_o5 rfl (Nat.le_of_ble_eq_true rfl) dX2_opens_27 ?_
    clear h
    intro F4 h
    refine aw_pc (pc' := 30) rfl ?_
    refine aw_iconst dX2_opens_30 (aw_pc (pc' := 31) rfl ?_)
    exact aw_zret rfl (by decide) dX2_opens_31 ⟨_, rfl, h⟩
  · replace h := h.2 c
    refine aw_aload_n dX2_opens_9 rfl rfl (aw_pc (pc' := 10) rfl ?_)
    refine aw_iconst dX2_opens_10 (aw_pc (pc' := 11) rfl ?_)
    have h0 := rcv_inv h
    clear h
    obtain ⟨o7, fs_o7, hr_o7, he_o7, h⟩ := h0
    obtain rfl : o = o7 := Option.some.inj hr_o7
    refine ar_VV (kc' := 0) (ks' := 0) (kc := 0) (ks := 0) (a := o) (ci := 2) (as := [vi 3]) (st := []) (tX2_fail h) mt_X2_fail rfl qM_RX2_137 qI_X2_fail qV_X2_fail he_o7 rfl (Nat.le_of_ble_eq_true rfl) dX2_opens_11 ?_
    clear h
    intro F6 h
    refine aw_pc (pc' := 14) rfl ?_
    refine aw_iconst dX2_opens_14 (aw_pc (pc' := 15) rfl ?_)
    exact aw_zret rfl (by decide) dX2_opens_15 ⟨_, rfl, h⟩
def mX2_readName_J26 (Q : hp → Prop) (o : Nat) (a1 : Int) (s0 : Int) (F : hp) : Prop := (w32 s0 = 0 → rcv F (some o) 2 (fun o2 => mX2_emit o2 (10000 + a1) F (fun F1 => rcv F1 (some o) 2 (fun o4 => mX2_nextToken o4 F1 (fun F3 => Q F3))))) ∧ (¬ w32 s0 = 0 → rcv F (some o) 2 (fun o6 => mX2_fail o6 5 F (fun F5 => Q F5)))
set_option maxHeartbeats 4000000 in
theorem tX2_readName_J26 {d : Nat} {Q : hp → Prop} {o : Nat} {a1 : Int} {s0 : Int} {F : hp} (h : mX2_readName_J26 Q o a1 s0 F) : aw nX2_readName (d + 1) 0 0 26 [some (vr (some o)), some (vi a1), none] [vi s0] F (qV Q) := by
  unfold mX2_readName_J26 at h
  refine aw_istore_n dX2_readName_26 rfl (by decide) (aw_pc (pc' := 27) rfl ?_)
  refine aw_iload_n dX2_readName_27 rfl rfl (aw_pc (pc' := 28) rfl ?_)
  refine aw_if_eq dX2_readName_28 rfl (fun c => ?_) (fun c => ?_)
  · replace h := h.1 c
    refine aw_aload_n dX2_readName_39 rfl rfl (aw_pc (pc' := 40) rfl ?_)
    refine aw_sipush dX2_readName_40 (by decide) (aw_pc (pc' := 43) rfl ?_)
    refine aw_iload_n dX2_readName_43 rfl rfl (aw_pc (pc' := 44) rfl ?_)
    refine aw_iadd dX2_readName_44 (aw_pc (pc' := 45) rfl ?_)
    have h0 := rcv_inv h
    clear h
    obtain ⟨o2, fs_o2, hr_o2, he_o2, h⟩ := h0
    obtain rfl : o = o2 := Option.some.inj hr_o2
    refine ar_VV (kc' := 0) (ks' := 0) (kc := 0) (ks := 0) (a := o) (ci := 2) (as := [vi (10000 + a1)]) (st := []) (tX2_emit h) mt_X2_emit rfl qM_RX2_167 qI_X2_emit qV_X2_emit he_o2 rfl (Nat.le_of_ble_eq_true rfl) dX2_readName_45 ?_
    clear h
    intro F1 h
    refine aw_pc (pc' := 48) rfl ?_
    refine aw_aload_n dX2_readName_48 rfl rfl (aw_pc (pc' := 49) rfl ?_)
    have h0 := rcv_inv h
    clear h
    obtain ⟨o4, fs_o4, hr_o4, he_o4, h⟩ := h0
    obtain rfl : o = o4 := Option.some.inj hr_o4
    refine ar_VV (kc' := 0) (ks' := 0) (kc := 0) (ks := 0) (a := o) (ci := 2) (as := []) (st := []) (tX2_nextToken h) mt_X2_nextToken rfl qM_RX2_134 qI_X2_nextToken qV_X2_nextToken he_o4 rfl (Nat.le_of_ble_eq_true rfl) dX2_readName_49 ?_
    clear h
    intro F3 h
    refine aw_pc (pc' := 52) rfl ?_
    exact aw_vret rfl dX2_readName_52 ⟨rfl, h⟩
  · replace h := h.2 c
    refine aw_aload_n dX2_readName_31 rfl rfl (aw_pc (pc' := 32) rfl ?_)
    refine aw_iconst dX2_readName_32 (aw_pc (pc' := 33) rfl ?_)
    have h0 := rcv_inv h
    clear h
    obtain ⟨o6, fs_o6, hr_o6, he_o6, h⟩ := h0
    obtain rfl : o = o6 := Option.some.inj hr_o6
    refine ar_VV (kc' := 0) (ks' := 0) (kc := 0) (ks := 0) (a := o) (ci := 2) (as := [vi 5]) (st := []) (tX2_fail h) mt_X2_fail rfl qM_RX2_137 qI_X2_fail qV_X2_fail he_o6 rfl (Nat.le_of_ble_eq_true rfl) dX2_readName_33 ?_
    clear h
    intro F5 h
    refine aw_pc (pc' := 36) rfl ?_
    refine aw_goto (tgt := 52) dX2_readName_36 rfl ?_
    exact aw_vret rfl dX2_readName_52 ⟨rfl, h⟩
def mX2_readName (o : Nat) (a1 : Int) (F : hp) (Q : hp → Prop) : Prop := gI F (some o) 2 14 (fun x1 => (w32 x1 = 0 → mX11_within a1 6 8 F (fun x3 F2 => mX2_readName_J26 Q o a1 x3 F2)) ∧ (¬ w32 x1 = 0 → mX11_within a1 9 10 F (fun x5 F4 => mX2_readName_J26 Q o a1 x5 F4)))
set_option maxHeartbeats 4000000 in
theorem tX2_readName {d : Nat} {o : Nat} {a1 : Int} {F : hp} {Q : hp → Prop} (h : mX2_readName o a1 F Q) : am nX2_readName (d + 1) 0 0 [vr (some o), vi a1] F (qV Q) := by
  refine am_of (by decide +kernel) (Nat.le_of_ble_eq_true rfl) ?_
  show aw nX2_readName (d + 1) 0 0 0 [some (vr (some o)), some (vi a1), none] [] F (qV Q)
  unfold mX2_readName at h
  refine aw_aload_n dX2_readName_0 rfl rfl (aw_pc (pc' := 1) rfl ?_)
  refine ar_gI fl_RX2_150 dX2_readName_1 h ?_
  clear h
  intro x1 h
  refine aw_pc (pc' := 4) rfl ?_
  refine aw_if_eq dX2_readName_4 rfl (fun c => ?_) (fun c => ?_)
  · replace h := h.1 c
    refine aw_iload_n dX2_readName_18 rfl rfl (aw_pc (pc' := 19) rfl ?_)
    refine aw_bipush dX2_readName_19 (by decide) (aw_pc (pc' := 21) rfl ?_)
    refine aw_bipush dX2_readName_21 (by decide) (aw_pc (pc' := 23) rfl ?_)
    refine ar_SNI (kc' := 0) (ks' := 0) (kc := 0) (ks := 0) (as := [vi a1, vi 6, vi 8]) (st := []) (tX11_within h) mt_X11_within qN_RX2_109 qS_X11_within rfl (Nat.le_of_ble_eq_true rfl) dX2_readName_23 ?_
    clear h
    intro x3 F2 h
    refine aw_pc (pc' := 26) rfl ?_
    exact aw_mask [true, true, false] (tX2_readName_J26 h)
  · replace h := h.2 c
    refine aw_iload_n dX2_readName_7 rfl rfl (aw_pc (pc' := 8) rfl ?_)
    refine aw_bipush dX2_readName_8 (by decide) (aw_pc (pc' := 10) rfl ?_)
    refine aw_bipush dX2_readName_10 (by decide) (aw_pc (pc' := 12) rfl ?_)
    refine ar_SNI (kc' := 0) (ks' := 0) (kc := 0) (ks := 0) (as := [vi a1, vi 9, vi 10]) (st := []) (tX11_within h) mt_X11_within qN_RX2_109 qS_X11_within rfl (Nat.le_of_ble_eq_true rfl) dX2_readName_12 ?_
    clear h
    intro x5 F4 h
    refine aw_pc (pc' := 15) rfl ?_
    refine aw_goto (tgt := 26) dX2_readName_15 rfl ?_
    exact aw_mask [true, true, false] (tX2_readName_J26 h)
