def mX11_within (a0 : Int) (a1 : Int) (a2 : Int) (F : hp) (Q : Int → hp → Prop) : Prop := (w32 a0 < w32 a1 → Q 0 F) ∧ (¬ w32 a0 < w32 a1 → (w32 a2 < w32 a0 → Q 0 F) ∧ (¬ w32 a2 < w32 a0 → Q 1 F))
set_option maxHeartbeats 4000000 in
theorem tX11_within {d : Nat} {a0 : Int} {a1 : Int} {a2 : Int} {F : hp} {Q : Int → hp → Prop} (h : mX11_within a0 a1 a2 F Q) : am nX11_within d 0 0 [vi a0, vi a1, vi a2] F (qI Q) := by
  refine am_of (by decide +kernel) (Nat.le_of_ble_eq_true rfl) ?_
  show aw nX11_within d 0 0 0 [some (vi a0), some (vi a1), some (vi a2)] [] F (qI Q)
  unfold mX11_within at h
  refine aw_iload_n dX11_within_0 rfl rfl (aw_pc (pc' := 1) rfl ?_)
  refine aw_iload_n dX11_within_1 rfl rfl (aw_pc (pc' := 2) rfl ?_)
  refine ac_lt rfl rfl dX11_within_2 rfl (fun c => ?_) (fun c => ?_)
  · replace h := h.1 c
    refine aw_iconst dX11_within_14 (aw_pc (pc' := 15) rfl ?_)
    exact aw_zret rfl (by decide) dX11_within_15 ⟨_, rfl, h⟩
  · replace h := h.2 c
    refine aw_iload_n dX11_within_5 rfl rfl (aw_pc (pc' := 6) rfl ?_)
    refine aw_iload_n dX11_within_6 rfl rfl (aw_pc (pc' := 7) rfl ?_)
    refine ac_gt rfl rfl dX11_within_7 rfl (fun c => ?_) (fun c => ?_)
    · replace h := h.1 c
      refine aw_iconst dX11_within_14 (aw_pc (pc' := 15) rfl ?_)
      exact aw_zret rfl (by decide) dX11_within_15 ⟨_, rfl, h⟩
    · replace h := h.2 c
      refine aw_iconst dX11_within_10 (aw_pc (pc' := 11) rfl ?_)
      refine aw_goto (tgt := 15) dX11_within_11 rfl ?_
      exact aw_zret rfl (by decide) dX11_within_15 ⟨_, rfl, h⟩
def mJ0_coder_7d493 (o : Nat) (F : hp) (Q : Int → hp → Prop) : Prop := (w32 1 = 0 → ((1 : Int) = 0 ∧ Q 1 F)) ∧ (¬ w32 1 = 0 → sC (some o) (((0 : Int) = 0 ∧ Q 0 F)))
set_option maxHeartbeats 4000000 in
theorem tJ0_coder_7d493 {d : Nat} {o : Nat} {F : hp} {Q : Int → hp → Prop} (h : mJ0_coder_7d493 o F Q) : am nJ0_coder_7d493 d 0 0 [vr (some o)] F (qI Q) := by
  refine am_of (by decide +kernel) (Nat.le_of_ble_eq_true rfl) ?_
  show aw nJ0_coder_7d493 d 0 0 0 [some (vr (some o))] [] F (qI Q)
  unfold mJ0_coder_7d493 at h
  refine aw_cs qF_RJ0_38 dJ0_coder_7d493_0 (aw_pc (pc' := 3) rfl ?_)
  refine aw_if_eq dJ0_coder_7d493_3 rfl (fun c => ?_) (fun c => ?_)
  · replace h := h.1 c
    refine aw_iconst dJ0_coder_7d493_13 (aw_pc (pc' := 14) rfl ?_)
    exact aw_zret rfl (nBy h.1) dJ0_coder_7d493_14 ⟨_, rfl, h.2⟩
  · replace h := h.2 c
    refine aw_aload_n dJ0_coder_7d493_6 rfl rfl (aw_pc (pc' := 7) rfl ?_)
    refine ar_sC qF_RJ0_15 dJ0_coder_7d493_7 h ?_
    clear h
    intro h
    refine aw_pc (pc' := 10) rfl ?_
    refine aw_goto (tgt := 14) dJ0_coder_7d493_10 rfl ?_
    exact aw_zret rfl (nBy h.1) dJ0_coder_7d493_14 ⟨_, rfl, h.2⟩
def mJ0_length_8abf5 (o : Nat) (F : hp) (Q : Int → hp → Prop) : Prop := sV (some o) (fun x1 => tN x1 (fun x2 => rcS (some o) (fun o5 => mJ0_coder_7d493 o5 F (fun x4 F3 => Q (iShr x2 x4) F3))))
set_option maxHeartbeats 4000000 in
theorem tJ0_length_8abf5 {d : Nat} {o : Nat} {F : hp} {Q : Int → hp → Prop} (h : mJ0_length_8abf5 o F Q) : am nJ0_length_8abf5 (d + 1) 0 0 [vr (some o)] F (qI Q) := by
  refine am_of (by decide +kernel) (Nat.le_of_ble_eq_true rfl) ?_
  show aw nJ0_length_8abf5 (d + 1) 0 0 0 [some (vr (some o))] [] F (qI Q)
  unfold mJ0_length_8abf5 at h
  refine aw_aload_n dJ0_length_8abf5_0 rfl rfl (aw_pc (pc' := 1) rfl ?_)
  refine ar_sV qF_RJ0_9 dJ0_length_8abf5_1 h ?_
  clear h
  intro x1 h
  refine aw_pc (pc' := 4) rfl ?_
  refine ar_tN dJ0_length_8abf5_4 h ?_
  clear h
  intro x2 h
  refine aw_pc (pc' := 5) rfl ?_
  refine aw_aload_n dJ0_length_8abf5_5 rfl rfl (aw_pc (pc' := 6) rfl ?_)
  have h0 := h
  clear h
  obtain ⟨o5, hr_o5, he_o5, h⟩ := h0
  obtain rfl : o = o5 := Option.some.inj hr_o5
  refine ar_TI (kc' := 0) (ks' := 0) (kc := 0) (ks := 0) (a := o) (as := []) (st := [vi x2]) (tJ0_coder_7d493 h) he_o5 mt_J0_coder_7d493 rfl qM_RJ0_335 qI_J0_coder_7d493 qV_J0_coder_7d493 rfl (Nat.le_of_ble_eq_true rfl) dJ0_length_8abf5_6 ?_
  clear h
  intro x4 F3 h
  refine aw_pc (pc' := 9) rfl ?_
  refine aw_ishr dJ0_length_8abf5_9 (aw_pc (pc' := 10) rfl ?_)
  exact aw_iret rfl dJ0_length_8abf5_10 ⟨_, rfl, h⟩
def mJ0_isLatin1_aae02 (o : Nat) (F : hp) (Q : Int → hp → Prop) : Prop := (w32 1 = 0 → Q 0 F) ∧ (¬ w32 1 = 0 → sC (some o) ((w32 0 = 0 → Q 1 F) ∧ (¬ w32 0 = 0 → Q 0 F)))
set_option maxHeartbeats 4000000 in
theorem tJ0_isLatin1_aae02 {d : Nat} {o : Nat} {F : hp} {Q : Int → hp → Prop} (h : mJ0_isLatin1_aae02 o F Q) : am nJ0_isLatin1_aae02 d 0 0 [vr (some o)] F (qI Q) := by
  refine am_of (by decide +kernel) (Nat.le_of_ble_eq_true rfl) ?_
  show aw nJ0_isLatin1_aae02 d 0 0 0 [some (vr (some o))] [] F (qI Q)
  unfold mJ0_isLatin1_aae02 at h
  refine aw_cs qF_RJ0_38 dJ0_isLatin1_aae02_0 (aw_pc (pc' := 3) rfl ?_)
  refine aw_if_eq dJ0_isLatin1_aae02_3 rfl (fun c => ?_) (fun c => ?_)
  · replace h := h.1 c
    refine aw_iconst dJ0_isLatin1_aae02_17 (aw_pc (pc' := 18) rfl ?_)
    exact aw_zret rfl (by decide) dJ0_isLatin1_aae02_18 ⟨_, rfl, h⟩
  · replace h := h.2 c
    refine aw_aload_n dJ0_isLatin1_aae02_6 rfl rfl (aw_pc (pc' := 7) rfl ?_)
    refine ar_sC qF_RJ0_15 dJ0_isLatin1_aae02_7 h ?_
    clear h
    intro h
    refine aw_pc (pc' := 10) rfl ?_
    refine aw_if_ne dJ0_isLatin1_aae02_10 rfl (fun c => ?_) (fun c => ?_)
    · replace h := h.1 c
      refine aw_iconst dJ0_isLatin1_aae02_13 (aw_pc (pc' := 14) rfl ?_)
      refine aw_goto (tgt := 18) dJ0_isLatin1_aae02_14 rfl ?_
      exact aw_zret rfl (by decide) dJ0_isLatin1_aae02_18 ⟨_, rfl, h⟩
    · replace h := h.2 c
      refine aw_iconst dJ0_isLatin1_aae02_17 (aw_pc (pc' := 18) rfl ?_)
      exact aw_zret rfl (by decide) dJ0_isLatin1_aae02_18 ⟨_, rfl, h⟩
def mJ3_checkIndex_8e157_J9 (Q : Int → hp → Prop) (a0 : Int) (a1 : Int) (a2 : Option Nat) (F : hp) : Prop := False
set_option maxHeartbeats 4000000 in
theorem tJ3_checkIndex_8e157_J9 {d : Nat} {Q : Int → hp → Prop} {a0 : Int} {a1 : Int} {a2 : Option Nat} {F : hp} (h : mJ3_checkIndex_8e157_J9 Q a0 a1 a2 F) : aw nJ3_checkIndex_8e157 d 0 0 9 [some (vi a0), some (vi a1), some (vr a2)] [] F (qI Q) := by
  unfold mJ3_checkIndex_8e157_J9 at h
  refine aw_aload_n dJ3_checkIndex_8e157_9 rfl rfl (aw_pc (pc' := 10) rfl ?_)
  refine aw_iload_n dJ3_checkIndex_8e157_10 rfl rfl (aw_pc (pc' := 11) rfl ?_)
  refine aw_iload_n dJ3_checkIndex_8e157_11 rfl rfl (aw_pc (pc' := 12) rfl ?_)
  exact h.elim
def mJ3_checkIndex_8e157 (a0 : Int) (a1 : Int) (a2 : Option Nat) (F : hp) (Q : Int → hp → Prop) : Prop := (w32 a0 < 0 → mJ3_checkIndex_8e157_J9 Q a0 a1 a2 F) ∧ (¬ w32 a0 < 0 → (w32 a0 < w32 a1 → Q a0 F) ∧ (¬ w32 a0 < w32 a1 → mJ3_checkIndex_8e157_J9 Q a0 a1 a2 F))
set_option maxHeartbeats 4000000 in
theorem tJ3_checkIndex_8e157 {d : Nat} {a0 : Int} {a1 : Int} {a2 : Option Nat} {F : hp} {Q : Int → hp → Prop} (h : mJ3_checkIndex_8e157 a0 a1 a2 F Q) : am nJ3_checkIndex_8e157 d 0 0 [vi a0, vi a1, vr a2] F (qI Q) := by
  refine am_of (by decide +kernel) (Nat.le_of_ble_eq_true rfl) ?_
  show aw nJ3_checkIndex_8e157 d 0 0 0 [some (vi a0), some (vi a1), some (vr a2)] [] F (qI Q)
  unfold mJ3_checkIndex_8e157 at h
  refine aw_iload_n dJ3_checkIndex_8e157_0 rfl rfl (aw_pc (pc' := 1) rfl ?_)
  refine aw_if_lt dJ3_checkIndex_8e157_1 rfl (fun c => ?_) (fun c => ?_)
  · replace h := h.1 c
    exact aw_mask [true, true, true] (tJ3_checkIndex_8e157_J9 h)
  · replace h := h.2 c
    refine aw_iload_n dJ3_checkIndex_8e157_4 rfl rfl (aw_pc (pc' := 5) rfl ?_)
    refine aw_iload_n dJ3_checkIndex_8e157_5 rfl rfl (aw_pc (pc' := 6) rfl ?_)
    refine ac_lt rfl rfl dJ3_checkIndex_8e157_6 rfl (fun c => ?_) (fun c => ?_)
    · replace h := h.1 c
      refine aw_iload_n dJ3_checkIndex_8e157_16 rfl rfl (aw_pc (pc' := 17) rfl ?_)
      exact aw_iret rfl dJ3_checkIndex_8e157_17 ⟨_, rfl, h⟩
    · replace h := h.2 c
      exact aw_mask [true, true, true] (tJ3_checkIndex_8e157_J9 h)
def mJ0_checkIndex_df160 (a0 : Int) (a1 : Int) (F : hp) (Q : hp → Prop) : Prop := (∀ x1 : Option Nat, mJ3_checkIndex_8e157 a0 a1 x1 F (fun x3 F2 => Q F2))
set_option maxHeartbeats 4000000 in
theorem tJ0_checkIndex_df160 {d : Nat} {a0 : Int} {a1 : Int} {F : hp} {Q : hp → Prop} (h : mJ0_checkIndex_df160 a0 a1 F Q) : am nJ0_checkIndex_df160 (d + 1) 0 0 [vi a0, vi a1] F (qV Q) := by
  refine am_of (by decide +kernel) (Nat.le_of_ble_eq_true rfl) ?_
  show aw nJ0_checkIndex_df160 (d + 1) 0 0 0 [some (vi a0), some (vi a1)] [] F (qV Q)
  unfold mJ0_checkIndex_df160 at h
  refine aw_iload_n dJ0_checkIndex_df160_0 rfl rfl (aw_pc (pc' := 1) rfl ?_)
  refine aw_iload_n dJ0_checkIndex_df160_1 rfl rfl (aw_pc (pc' := 2) rfl ?_)
  refine ar_sio qF_RJ0_1053 dJ0_checkIndex_df160_2 h ?_
  clear h
  intro x1 h
  refine aw_pc (pc' := 5) rfl ?_
  refine ar_SI (kc' := 0) (ks' := 0) (kc := 0) (ks := 0) (as := [vi a0, vi a1, vr x1]) (st := []) (tJ3_checkIndex_8e157 h) mt_J3_checkIndex_8e157 qM_RJ0_1059 qS_J3_checkIndex_8e157 rfl (Nat.le_of_ble_eq_true rfl) dJ0_checkIndex_df160_5 ?_
  clear h
  intro x3 F2 h
  refine aw_pc (pc' := 8) rfl ?_
  refine aw_pop dJ0_checkIndex_df160_8 trivial (aw_pc (pc' := 9) rfl ?_)
  exact aw_vret rfl dJ0_checkIndex_df160_9 ⟨rfl, h⟩
def mJ1_charAt_3b067 (a0 : Option Nat) (a1 : Int) (F : hp) (Q : Int → hp → Prop) : Prop := tN a0 (fun x1 => mJ0_checkIndex_df160 a1 x1 F (fun F2 => tB a0 a1 (fun x3 => ((0 ≤ ((iC (iAnd x3 255)) : Int) ∧ ((iC (iAnd x3 255)) : Int) ≤ 65535) ∧ Q (iC (iAnd x3 255)) F2))))
set_option maxHeartbeats 4000000 in
theorem tJ1_charAt_3b067 {d : Nat} {a0 : Option Nat} {a1 : Int} {F : hp} {Q : Int → hp → Prop} (h : mJ1_charAt_3b067 a0 a1 F Q) : am nJ1_charAt_3b067 (d + 2) 0 0 [vr a0, vi a1] F (qI Q) := by
  refine am_of (by decide +kernel) (Nat.le_of_ble_eq_true rfl) ?_
  show aw nJ1_charAt_3b067 (d + 2) 0 0 0 [some (vr a0), some (vi a1)] [] F (qI Q)
  unfold mJ1_charAt_3b067 at h
  refine aw_iload_n dJ1_charAt_3b067_0 rfl rfl (aw_pc (pc' := 1) rfl ?_)
  refine aw_aload_n dJ1_charAt_3b067_1 rfl rfl (aw_pc (pc' := 2) rfl ?_)
  refine ar_tN dJ1_charAt_3b067_2 h ?_
  clear h
  intro x1 h
  refine aw_pc (pc' := 3) rfl ?_
  refine ar_SV (kc' := 0) (ks' := 0) (kc := 0) (ks := 0) (as := [vi a1, vi x1]) (st := []) (tJ0_checkIndex_df160 h) mt_J0_checkIndex_df160 qM_RJ1_9 qS_J0_checkIndex_df160 rfl (Nat.le_of_ble_eq_true rfl) dJ1_charAt_3b067_3 ?_
  clear h
  intro F2 h
  refine aw_pc (pc' := 6) rfl ?_
  refine aw_aload_n dJ1_charAt_3b067_6 rfl rfl (aw_pc (pc' := 7) rfl ?_)
  refine aw_iload_n dJ1_charAt_3b067_7 rfl rfl (aw_pc (pc' := 8) rfl ?_)
  refine ar_tB dJ1_charAt_3b067_8 h ?_
  clear h
  intro x3 h
  refine aw_pc (pc' := 9) rfl ?_
  refine aw_sipush dJ1_charAt_3b067_9 (by decide) (aw_pc (pc' := 12) rfl ?_)
  refine aw_iand dJ1_charAt_3b067_12 (aw_pc (pc' := 13) rfl ?_)
  refine aw_i2c dJ1_charAt_3b067_13 (aw_pc (pc' := 14) rfl ?_)
  exact aw_zret rfl (nCh h.1) dJ1_charAt_3b067_14 ⟨_, rfl, h.2⟩
def mJ0_charAt_5068e (o : Nat) (a1 : Int) (F : hp) (Q : Int → hp → Prop) : Prop := rcS (some o) (fun o3 => mJ0_isLatin1_aae02 o3 F (fun x2 F1 => (w32 x2 = 0 → sV (some o) (fun x4 => False)) ∧ (¬ w32 x2 = 0 → sV (some o) (fun x5 => mJ1_charAt_3b067 x5 a1 F1 (fun x7 F6 => ((0 ≤ (x7 : Int) ∧ (x7 : Int) ≤ 65535) ∧ Q x7 F6))))))
set_option maxHeartbeats 4000000 in
theorem tJ0_charAt_5068e {d : Nat} {o : Nat} {a1 : Int} {F : hp} {Q : Int → hp → Prop} (h : mJ0_charAt_5068e o a1 F Q) : am nJ0_charAt_5068e (d + 3) 0 0 [vr (some o), vi a1] F (qI Q) := by
  refine am_of (by decide +kernel) (Nat.le_of_ble_eq_true rfl) ?_
  show aw nJ0_charAt_5068e (d + 3) 0 0 0 [some (vr (some o)), some (vi a1)] [] F (qI Q)
  unfold mJ0_charAt_5068e at h
  refine aw_aload_n dJ0_charAt_5068e_0 rfl rfl (aw_pc (pc' := 1) rfl ?_)
  have h0 := h
  clear h
  obtain ⟨o3, hr_o3, he_o3, h⟩ := h0
  obtain rfl : o = o3 := Option.some.inj hr_o3
  refine ar_TI (kc' := 0) (ks' := 0) (kc := 0) (ks := 0) (a := o) (as := []) (st := []) (tJ0_isLatin1_aae02 h) he_o3 mt_J0_isLatin1_aae02 rfl qM_RJ0_492 qI_J0_isLatin1_aae02 qV_J0_isLatin1_aae02 rfl (Nat.le_of_ble_eq_true rfl) dJ0_charAt_5068e_1 ?_
  clear h
  intro x2 F1 h
  refine aw_pc (pc' := 4) rfl ?_
  refine aw_if_eq dJ0_charAt_5068e_4 rfl (fun c => ?_) (fun c => ?_)
  · replace h := h.1 c
    refine aw_aload_n dJ0_charAt_5068e_16 rfl rfl (aw_pc (pc' := 17) rfl ?_)
    refine ar_sV qF_RJ0_9 dJ0_charAt_5068e_17 h ?_
    clear h
    intro x4 h
    refine aw_pc (pc' := 20) rfl ?_
    refine aw_iload_n dJ0_charAt_5068e_20 rfl rfl (aw_pc (pc' := 21) rfl ?_)
    exact h.elim
  · replace h := h.2 c
    refine aw_aload_n dJ0_charAt_5068e_7 rfl rfl (aw_pc (pc' := 8) rfl ?_)
    refine ar_sV qF_RJ0_9 dJ0_charAt_5068e_8 h ?_
    clear h
    intro x5 h
    refine aw_pc (pc' := 11) rfl ?_
    refine aw_iload_n dJ0_charAt_5068e_11 rfl rfl (aw_pc (pc' := 12) rfl ?_)
    refine ar_SI (kc' := 0) (ks' := 0) (kc := 0) (ks := 0) (as := [vr x5, vi a1]) (st := []) (tJ1_charAt_3b067 h) mt_J1_charAt_3b067 qM_RJ0_495 qS_J1_charAt_3b067 rfl (Nat.le_of_ble_eq_true rfl) dJ0_charAt_5068e_12 ?_
    clear h
    intro x7 F6 h
    refine aw_pc (pc' := 15) rfl ?_
    exact aw_zret rfl (nCh h.1) dJ0_charAt_5068e_15 ⟨_, rfl, h.2⟩
def mJ1_canEncode_9a6ad (a0 : Int) (F : hp) (Q : Int → hp → Prop) : Prop := (w32 a0 < 0 → Q 0 F) ∧ (¬ w32 a0 < 0 → (255 < w32 a0 → Q 0 F) ∧ (¬ 255 < w32 a0 → Q 1 F))
set_option maxHeartbeats 4000000 in
theorem tJ1_canEncode_9a6ad {d : Nat} {a0 : Int} {F : hp} {Q : Int → hp → Prop} (h : mJ1_canEncode_9a6ad a0 F Q) : am nJ1_canEncode_9a6ad d 0 0 [vi a0] F (qI Q) := by
  refine am_of (by decide +kernel) (Nat.le_of_ble_eq_true rfl) ?_
  show aw nJ1_canEncode_9a6ad d 0 0 0 [some (vi a0)] [] F (qI Q)
  unfold mJ1_canEncode_9a6ad at h
  refine aw_iload_n dJ1_canEncode_9a6ad_0 rfl rfl (aw_pc (pc' := 1) rfl ?_)
  refine aw_if_lt dJ1_canEncode_9a6ad_1 rfl (fun c => ?_) (fun c => ?_)
  · replace h := h.1 c
    refine aw_iconst dJ1_canEncode_9a6ad_15 (aw_pc (pc' := 16) rfl ?_)
    exact aw_zret rfl (by decide) dJ1_canEncode_9a6ad_16 ⟨_, rfl, h⟩
  · replace h := h.2 c
    refine aw_iload_n dJ1_canEncode_9a6ad_4 rfl rfl (aw_pc (pc' := 5) rfl ?_)
    refine aw_sipush dJ1_canEncode_9a6ad_5 (by decide) (aw_pc (pc' := 8) rfl ?_)
    refine ac_gt rfl wl_255 dJ1_canEncode_9a6ad_8 rfl (fun c => ?_) (fun c => ?_)
    · replace h := h.1 c
      refine aw_iconst dJ1_canEncode_9a6ad_15 (aw_pc (pc' := 16) rfl ?_)
      exact aw_zret rfl (by decide) dJ1_canEncode_9a6ad_16 ⟨_, rfl, h⟩
    · replace h := h.2 c
      refine aw_iconst dJ1_canEncode_9a6ad_11 (aw_pc (pc' := 12) rfl ?_)
      refine aw_goto (tgt := 16) dJ1_canEncode_9a6ad_12 rfl ?_
      exact aw_zret rfl (by decide) dJ1_canEncode_9a6ad_16 ⟨_, rfl, h⟩
def mJ1_indexOfChar_4cfef_L7 (Q : Int → hp → Prop) : Nat → Option Nat → Int → Int → Int → hp → Prop
  | 0, _, _, _, _, _ => False
  | k + 1, a0, a3, a4, a5, F => (w32 a5 < w32 a3 → tB a0 a5 (fun x1 => (w32 x1 = w32 a4 → Q a5 F) ∧ (¬ w32 x1 = w32 a4 → mJ1_indexOfChar_4cfef_L7 Q k a0 a3 a4 (a5 + 1) F))) ∧ (¬ w32 a5 < w32 a3 → Q (-1) F)
set_option maxHeartbeats 4000000 in
theorem tJ1_indexOfChar_4cfef_L7 {d : Nat} {Q : Int → hp → Prop} : ∀ (k : Nat) (a0 : Option Nat) (a3 : Int) (a4 : Int) (a5 : Int) (F : hp), mJ1_indexOfChar_4cfef_L7 Q k a0 a3 a4 a5 F → aw nJ1_indexOfChar_4cfef d 0 0 7 [some (vr a0), none, none, some (vi a3), some (vi a4), some (vi a5)] [] F (qI Q) := by
  intro k
  induction k with
  | zero => intro a0 a3 a4 a5 F h; exact h.elim
  | succ k ih =>
    intro a0 a3 a4 a5 F h
    simp only [mJ1_indexOfChar_4cfef_L7] at h
    refine aw_iload dJ1_indexOfChar_4cfef_7 rfl (aw_pc (pc' := 9) rfl ?_)
    refine aw_iload_n dJ1_indexOfChar_4cfef_9 rfl rfl (aw_pc (pc' := 10) rfl ?_)
    refine ac_ge rfl rfl dJ1_indexOfChar_4cfef_10 rfl (fun c => ?_) (fun c => ?_)
    · replace h := h.1 c
      refine aw_aload_n dJ1_indexOfChar_4cfef_13 rfl rfl (aw_pc (pc' := 14) rfl ?_)
      refine aw_iload dJ1_indexOfChar_4cfef_14 rfl (aw_pc (pc' := 16) rfl ?_)
      refine ar_tB dJ1_indexOfChar_4cfef_16 h ?_
      clear h
      intro x1 h
      refine aw_pc (pc' := 17) rfl ?_
      refine aw_iload dJ1_indexOfChar_4cfef_17 rfl (aw_pc (pc' := 19) rfl ?_)
      refine ac_ne rfl rfl dJ1_indexOfChar_4cfef_19 rfl (fun c => ?_) (fun c => ?_)
      · replace h := h.1 c
        refine aw_iload dJ1_indexOfChar_4cfef_22 rfl (aw_pc (pc' := 24) rfl ?_)
        exact aw_iret rfl dJ1_indexOfChar_4cfef_24 ⟨_, rfl, h⟩
      · replace h := h.2 c
        refine aw_iinc dJ1_indexOfChar_4cfef_25 rfl (by decide) (aw_pc (pc' := 28) rfl ?_)
        refine aw_goto (tgt := 7) dJ1_indexOfChar_4cfef_28 rfl ?_
        exact aw_mask [true, false, false, true, true, true] (ih _ _ _ _ _ h)
    · replace h := h.2 c
      refine aw_iconst dJ1_indexOfChar_4cfef_31 (aw_pc (pc' := 32) rfl ?_)
      exact aw_iret rfl dJ1_indexOfChar_4cfef_32 ⟨_, rfl, h⟩
def mJ1_indexOfChar_4cfef (a0 : Option Nat) (a1 : Int) (a2 : Int) (a3 : Int) (F : hp) (Q : Int → hp → Prop) : Prop := ∀ v1 : Int, v1 = (iB a1) → (∃ k2, mJ1_indexOfChar_4cfef_L7 Q k2 a0 a3 v1 a2 F)
set_option maxHeartbeats 4000000 in
theorem tJ1_indexOfChar_4cfef {d : Nat} {a0 : Option Nat} {a1 : Int} {a2 : Int} {a3 : Int} {F : hp} {Q : Int → hp → Prop} (h : mJ1_indexOfChar_4cfef a0 a1 a2 a3 F Q) : am nJ1_indexOfChar_4cfef d 0 0 [vr a0, vi a1, vi a2, vi a3] F (qI Q) := by
  refine am_of (by decide +kernel) (Nat.le_of_ble_eq_true rfl) ?_
  show aw nJ1_indexOfChar_4cfef d 0 0 0 [some (vr a0), some (vi a1), some (vi a2), some (vi a3), none, none] [] F (qI Q)
  unfold mJ1_indexOfChar_4cfef at h
  refine aw_iload_n dJ1_indexOfChar_4cfef_0 rfl rfl (aw_pc (pc' := 1) rfl ?_)
  refine aw_i2b dJ1_indexOfChar_4cfef_1 (aw_pc (pc' := 2) rfl ?_)
  generalize hv_v1 : (iB a1) = v1
  replace h := h v1 hv_v1.symm
  refine aw_istore dJ1_indexOfChar_4cfef_2 (by decide) (aw_pc (pc' := 4) rfl ?_)
  refine aw_iload_n dJ1_indexOfChar_4cfef_4 rfl rfl (aw_pc (pc' := 5) rfl ?_)
  refine aw_istore dJ1_indexOfChar_4cfef_5 (by decide) (aw_pc (pc' := 7) rfl ?_)
  obtain ⟨k2, h⟩ := h
  exact aw_mask [true, false, false, true, true, true] (tJ1_indexOfChar_4cfef_L7 k2 _ _ _ _ _ h)
def mJ1_indexOf_4cfef (a0 : Option Nat) (a1 : Int) (a2 : Int) (a3 : Int) (F : hp) (Q : Int → hp → Prop) : Prop := mJ1_canEncode_9a6ad a1 F (fun x2 F1 => (w32 x2 = 0 → Q (-1) F1) ∧ (¬ w32 x2 = 0 → ∀ v3 : Int, v3 = (iMax a2 0) → tN a0 (fun x4 => ∀ v5 : Int, v5 = (iMin a3 x4) → (w32 v3 < w32 v5 → mJ1_indexOfChar_4cfef a0 a1 v3 v5 F1 (fun x7 F6 => Q x7 F6)) ∧ (¬ w32 v3 < w32 v5 → Q (-1) F1))))
set_option maxHeartbeats 4000000 in
theorem tJ1_indexOf_4cfef {d : Nat} {a0 : Option Nat} {a1 : Int} {a2 : Int} {a3 : Int} {F : hp} {Q : Int → hp → Prop} (h : mJ1_indexOf_4cfef a0 a1 a2 a3 F Q) : am nJ1_indexOf_4cfef (d + 1) 0 0 [vr a0, vi a1, vi a2, vi a3] F (qI Q) := by
  refine am_of (by decide +kernel) (Nat.le_of_ble_eq_true rfl) ?_
  show aw nJ1_indexOf_4cfef (d + 1) 0 0 0 [some (vr a0), some (vi a1), some (vi a2), some (vi a3)] [] F (qI Q)
  unfold mJ1_indexOf_4cfef at h
  refine aw_iload_n dJ1_indexOf_4cfef_0 rfl rfl (aw_pc (pc' := 1) rfl ?_)
  refine ar_SI (kc' := 0) (ks' := 0) (kc := 0) (ks := 0) (as := [vi a1]) (st := []) (tJ1_canEncode_9a6ad h) mt_J1_canEncode_9a6ad qM_RJ1_88 qS_J1_canEncode_9a6ad rfl (Nat.le_of_ble_eq_true rfl) dJ1_indexOf_4cfef_1 ?_
  clear h
  intro x2 F1 h
  refine aw_pc (pc' := 4) rfl ?_
  refine aw_if_ne dJ1_indexOf_4cfef_4 rfl (fun c => ?_) (fun c => ?_)
  · replace h := h.1 c
    refine aw_iconst dJ1_indexOf_4cfef_7 (aw_pc (pc' := 8) rfl ?_)
    exact aw_iret rfl dJ1_indexOf_4cfef_8 ⟨_, rfl, h⟩
  · replace h := h.2 c
    refine aw_iload_n dJ1_indexOf_4cfef_9 rfl rfl (aw_pc (pc' := 10) rfl ?_)
    refine aw_iconst dJ1_indexOf_4cfef_10 (aw_pc (pc' := 11) rfl ?_)
    refine aw_max qM_RJ1_92 mw_max (Nat.le_of_ble_eq_true rfl) dJ1_indexOf_4cfef_11 (aw_pc (pc' := 14) rfl ?_)
    generalize hv_v3 : (iMax a2 0) = v3
    replace h := h v3 hv_v3.symm
    refine aw_istore_n dJ1_indexOf_4cfef_14 rfl (by decide) (aw_pc (pc' := 15) rfl ?_)
    refine aw_iload_n dJ1_indexOf_4cfef_15 rfl rfl (aw_pc (pc' := 16) rfl ?_)
    refine aw_aload_n dJ1_indexOf_4cfef_16 rfl rfl (aw_pc (pc' := 17) rfl ?_)
    refine ar_tN dJ1_indexOf_4cfef_17 h ?_
    clear h
    intro x4 h
    refine aw_pc (pc' := 18) rfl ?_
    refine aw_min qM_RJ1_38 mw_min (Nat.le_of_ble_eq_true rfl) dJ1_indexOf_4cfef_18 (aw_pc (pc' := 21) rfl ?_)
    generalize hv_v5 : (iMin a3 x4) = v5
    replace h := h v5 hv_v5.symm
    refine aw_istore_n dJ1_indexOf_4cfef_21 rfl (by decide) (aw_pc (pc' := 22) rfl ?_)
    refine aw_iload_n dJ1_indexOf_4cfef_22 rfl rfl (aw_pc (pc' := 23) rfl ?_)
    refine aw_iload_n dJ1_indexOf_4cfef_23 rfl rfl (aw_pc (pc' := 24) rfl ?_)
    refine ac_lt rfl rfl dJ1_indexOf_4cfef_24 rfl (fun c => ?_) (fun c => ?_)
    · replace h := h.1 c
      refine aw_aload_n dJ1_indexOf_4cfef_29 rfl rfl (aw_pc (pc' := 30) rfl ?_)
      refine aw_iload_n dJ1_indexOf_4cfef_30 rfl rfl (aw_pc (pc' := 31) rfl ?_)
      refine aw_iload_n dJ1_indexOf_4cfef_31 rfl rfl (aw_pc (pc' := 32) rfl ?_)
      refine aw_iload_n dJ1_indexOf_4cfef_32 rfl rfl (aw_pc (pc' := 33) rfl ?_)
      refine ar_SI (kc' := 0) (ks' := 0) (kc := 0) (ks := 0) (as := [vr a0, vi a1, vi v3, vi v5]) (st := []) (tJ1_indexOfChar_4cfef h) mt_J1_indexOfChar_4cfef qM_RJ1_95 qS_J1_indexOfChar_4cfef rfl (Nat.le_of_ble_eq_true rfl) dJ1_indexOf_4cfef_33 ?_
      clear h
      intro x7 F6 h
      refine aw_pc (pc' := 36) rfl ?_
      exact aw_iret rfl dJ1_indexOf_4cfef_36 ⟨_, rfl, h⟩
    · replace h := h.2 c
      refine aw_iconst dJ1_indexOf_4cfef_27 (aw_pc (pc' := 28) rfl ?_)
      exact aw_iret rfl dJ1_indexOf_4cfef_28 ⟨_, rfl, h⟩
def mJ0_indexOf_7cf53 (o : Nat) (a1 : Int) (a2 : Int) (F : hp) (Q : Int → hp → Prop) : Prop := rcS (some o) (fun o3 => mJ0_isLatin1_aae02 o3 F (fun x2 F1 => (w32 x2 = 0 → sV (some o) (fun x4 => rcS (some o) (fun o7 => mJ0_length_8abf5 o7 F1 (fun x6 F5 => False)))) ∧ (¬ w32 x2 = 0 → sV (some o) (fun x8 => rcS (some o) (fun o11 => mJ0_length_8abf5 o11 F1 (fun x10 F9 => mJ1_indexOf_4cfef x8 a1 a2 x10 F9 (fun x13 F12 => Q x13 F12)))))))
set_option maxHeartbeats 4000000 in
theorem tJ0_indexOf_7cf53 {d : Nat} {o : Nat} {a1 : Int} {a2 : Int} {F : hp} {Q : Int → hp → Prop} (h : mJ0_indexOf_7cf53 o a1 a2 F Q) : am nJ0_indexOf_7cf53 (d + 2) 0 0 [vr (some o), vi a1, vi a2] F (qI Q) := by
  refine am_of (by decide +kernel) (Nat.le_of_ble_eq_true rfl) ?_
  show aw nJ0_indexOf_7cf53 (d + 2) 0 0 0 [some (vr (some o)), some (vi a1), some (vi a2)] [] F (qI Q)
  unfold mJ0_indexOf_7cf53 at h
  refine aw_aload_n dJ0_indexOf_7cf53_0 rfl rfl (aw_pc (pc' := 1) rfl ?_)
  have h0 := h
  clear h
  obtain ⟨o3, hr_o3, he_o3, h⟩ := h0
  obtain rfl : o = o3 := Option.some.inj hr_o3
  refine ar_TI (kc' := 0) (ks' := 0) (kc := 0) (ks := 0) (a := o) (as := []) (st := []) (tJ0_isLatin1_aae02 h) he_o3 mt_J0_isLatin1_aae02 rfl qM_RJ0_492 qI_J0_isLatin1_aae02 qV_J0_isLatin1_aae02 rfl (Nat.le_of_ble_eq_true rfl) dJ0_indexOf_7cf53_1 ?_
  clear h
  intro x2 F1 h
  refine aw_pc (pc' := 4) rfl ?_
  refine aw_if_eq dJ0_indexOf_7cf53_4 rfl (fun c => ?_) (fun c => ?_)
  · replace h := h.1 c
    refine aw_aload_n dJ0_indexOf_7cf53_23 rfl rfl (aw_pc (pc' := 24) rfl ?_)
    refine ar_sV qF_RJ0_9 dJ0_indexOf_7cf53_24 h ?_
    clear h
    intro x4 h
    refine aw_pc (pc' := 27) rfl ?_
    refine aw_iload_n dJ0_indexOf_7cf53_27 rfl rfl (aw_pc (pc' := 28) rfl ?_)
    refine aw_iload_n dJ0_indexOf_7cf53_28 rfl rfl (aw_pc (pc' := 29) rfl ?_)
    refine aw_aload_n dJ0_indexOf_7cf53_29 rfl rfl (aw_pc (pc' := 30) rfl ?_)
    have h0 := h
    clear h
    obtain ⟨o7, hr_o7, he_o7, h⟩ := h0
    obtain rfl : o = o7 := Option.some.inj hr_o7
    refine ar_TI (kc' := 0) (ks' := 0) (kc := 0) (ks := 0) (a := o) (as := []) (st := [vi a2, vi a1, vr x4]) (tJ0_length_8abf5 h) he_o7 mt_J0_length_8abf5 rfl qM_RJ0_505 qI_J0_length_8abf5 qV_J0_length_8abf5 rfl (Nat.le_of_ble_eq_true rfl) dJ0_indexOf_7cf53_30 ?_
    clear h
    intro x6 F5 h
    refine aw_pc (pc' := 33) rfl ?_
    exact h.elim
  · replace h := h.2 c
    refine aw_aload_n dJ0_indexOf_7cf53_7 rfl rfl (aw_pc (pc' := 8) rfl ?_)
    refine ar_sV qF_RJ0_9 dJ0_indexOf_7cf53_8 h ?_
    clear h
    intro x8 h
    refine aw_pc (pc' := 11) rfl ?_
    refine aw_iload_n dJ0_indexOf_7cf53_11 rfl rfl (aw_pc (pc' := 12) rfl ?_)
    refine aw_iload_n dJ0_indexOf_7cf53_12 rfl rfl (aw_pc (pc' := 13) rfl ?_)
    refine aw_aload_n dJ0_indexOf_7cf53_13 rfl rfl (aw_pc (pc' := 14) rfl ?_)
    have h0 := h
    clear h
    obtain ⟨o11, hr_o11, he_o11, h⟩ := h0
    obtain rfl : o = o11 := Option.some.inj hr_o11
    refine ar_TI (kc' := 0) (ks' := 0) (kc := 0) (ks := 0) (a := o) (as := []) (st := [vi a2, vi a1, vr x8]) (tJ0_length_8abf5 h) he_o11 mt_J0_length_8abf5 rfl qM_RJ0_505 qI_J0_length_8abf5 qV_J0_length_8abf5 rfl (Nat.le_of_ble_eq_true rfl) dJ0_indexOf_7cf53_14 ?_
    clear h
    intro x10 F9 h
    refine aw_pc (pc' := 17) rfl ?_
    refine ar_SI (kc' := 0) (ks' := 0) (kc := 0) (ks := 0) (as := [vr x8, vi a1, vi a2, vi x10]) (st := []) (tJ1_indexOf_4cfef h) mt_J1_indexOf_4cfef qM_RJ0_637 qS_J1_indexOf_4cfef rfl (Nat.le_of_ble_eq_true rfl) dJ0_indexOf_7cf53_17 ?_
    clear h
    intro x13 F12 h
    refine aw_pc (pc' := 20) rfl ?_
    refine aw_goto (tgt := 36) dJ0_indexOf_7cf53_20 rfl ?_
    exact aw_iret rfl dJ0_indexOf_7cf53_36 ⟨_, rfl, h⟩
def mJ0_indexOf_0f7a4 (o : Nat) (a1 : Int) (F : hp) (Q : Int → hp → Prop) : Prop := rcS (some o) (fun o3 => mJ0_indexOf_7cf53 o3 a1 0 F (fun x2 F1 => Q x2 F1))
set_option maxHeartbeats 4000000 in
theorem tJ0_indexOf_0f7a4 {d : Nat} {o : Nat} {a1 : Int} {F : hp} {Q : Int → hp → Prop} (h : mJ0_indexOf_0f7a4 o a1 F Q) : am nJ0_indexOf_0f7a4 (d + 3) 0 0 [vr (some o), vi a1] F (qI Q) := by
  refine am_of (by decide +kernel) (Nat.le_of_ble_eq_true rfl) ?_
  show aw nJ0_indexOf_0f7a4 (d + 3) 0 0 0 [some (vr (some o)), some (vi a1)] [] F (qI Q)
  unfold mJ0_indexOf_0f7a4 at h
  refine aw_aload_n dJ0_indexOf_0f7a4_0 rfl rfl (aw_pc (pc' := 1) rfl ?_)
  refine aw_iload_n dJ0_indexOf_0f7a4_1 rfl rfl (aw_pc (pc' := 2) rfl ?_)
  refine aw_iconst dJ0_indexOf_0f7a4_2 (aw_pc (pc' := 3) rfl ?_)
  have h0 := h
  clear h
  obtain ⟨o3, hr_o3, he_o3, h⟩ := h0
  obtain rfl : o = o3 := Option.some.inj hr_o3
  refine ar_TI (kc' := 0) (ks' := 0) (kc := 0) (ks := 0) (a := o) (as := [vi a1, vi 0]) (st := []) (tJ0_indexOf_7cf53 h) he_o3 mt_J0_indexOf_7cf53 rfl qM_RJ0_633 qI_J0_indexOf_7cf53 qV_J0_indexOf_7cf53 rfl (Nat.le_of_ble_eq_true rfl) dJ0_indexOf_0f7a4_3 ?_
  clear h
  intro x2 F1 h
  refine aw_pc (pc' := 6) rfl ?_
  exact aw_iret rfl dJ0_indexOf_0f7a4_6 ⟨_, rfl, h⟩
def mJ7_fill_53178_L5 (Q : hp → Prop) : Nat → Option Nat → Int → Int → Int → hp → Prop
  | 0, _, _, _, _, _ => False
  | k + 1, a0, a1, a2, a3, F => (w32 a2 < w32 a3 → sI F a0 0 a2 a1 (fun F1 => mJ7_fill_53178_L5 Q k a0 a1 (a2 + 1) a3 F1)) ∧ (¬ w32 a2 < w32 a3 → Q F)
set_option maxHeartbeats 4000000 in
theorem tJ7_fill_53178_L5 {d : Nat} {Q : hp → Prop} : ∀ (k : Nat) (a0 : Option Nat) (a1 : Int) (a2 : Int) (a3 : Int) (F : hp), mJ7_fill_53178_L5 Q k a0 a1 a2 a3 F → aw nJ7_fill_53178 d 0 0 5 [some (vr a0), some (vi a1), some (vi a2), some (vi a3)] [] F (qV Q) := by
  intro k
  induction k with
  | zero => intro a0 a1 a2 a3 F h; exact h.elim
  | succ k ih =>
    intro a0 a1 a2 a3 F h
    simp only [mJ7_fill_53178_L5] at h
    refine aw_iload_n dJ7_fill_53178_5 rfl rfl (aw_pc (pc' := 6) rfl ?_)
    refine aw_iload_n dJ7_fill_53178_6 rfl rfl (aw_pc (pc' := 7) rfl ?_)
    refine ac_ge rfl rfl dJ7_fill_53178_7 rfl (fun c => ?_) (fun c => ?_)
    · replace h := h.1 c
      refine aw_aload_n dJ7_fill_53178_10 rfl rfl (aw_pc (pc' := 11) rfl ?_)
      refine aw_iload_n dJ7_fill_53178_11 rfl rfl (aw_pc (pc' := 12) rfl ?_)
      refine aw_iload_n dJ7_fill_53178_12 rfl rfl (aw_pc (pc' := 13) rfl ?_)
      refine ar_sI dJ7_fill_53178_13 h ?_
      clear h
      intro F1 h
      refine aw_pc (pc' := 14) rfl ?_
      refine aw_iinc dJ7_fill_53178_14 rfl (by decide) (aw_pc (pc' := 17) rfl ?_)
      refine aw_goto (tgt := 5) dJ7_fill_53178_17 rfl ?_
      exact aw_mask [true, true, true, true] (ih _ _ _ _ _ h)
    · replace h := h.2 c
      exact aw_vret rfl dJ7_fill_53178_20 ⟨rfl, h⟩
def mJ7_fill_53178 (a0 : Option Nat) (a1 : Int) (F : hp) (Q : hp → Prop) : Prop := aN F a0 (fun x1 => (∃ k2, mJ7_fill_53178_L5 Q k2 a0 a1 0 x1 F))
set_option maxHeartbeats 4000000 in
theorem tJ7_fill_53178 {d : Nat} {a0 : Option Nat} {a1 : Int} {F : hp} {Q : hp → Prop} (h : mJ7_fill_53178 a0 a1 F Q) : am nJ7_fill_53178 d 0 0 [vr a0, vi a1] F (qV Q) := by
  refine am_of (by decide +kernel) (Nat.le_of_ble_eq_true rfl) ?_
  show aw nJ7_fill_53178 d 0 0 0 [some (vr a0), some (vi a1), none, none] [] F (qV Q)
  unfold mJ7_fill_53178 at h
  refine aw_iconst dJ7_fill_53178_0 (aw_pc (pc' := 1) rfl ?_)
  refine aw_istore_n dJ7_fill_53178_1 rfl (by decide) (aw_pc (pc' := 2) rfl ?_)
  refine aw_aload_n dJ7_fill_53178_2 rfl rfl (aw_pc (pc' := 3) rfl ?_)
  refine ar_aN dJ7_fill_53178_3 h ?_
  clear h
  intro x1 h
  refine aw_pc (pc' := 4) rfl ?_
  refine aw_istore_n dJ7_fill_53178_4 rfl (by decide) (aw_pc (pc' := 5) rfl ?_)
  obtain ⟨k2, h⟩ := h
  exact aw_mask [true, true, true, true] (tJ7_fill_53178_L5 k2 _ _ _ _ _ h)
def mJ7_copyOf_59c91 (ms : Nat) (a0 : Option Nat) (a1 : Int) (F : hp) (Q : Option Nat → hp → Prop) : Prop := aN F a0 (fun x1 => (w32 a1 = w32 x1 → clI F a0 ms (fun n2 F3 => (∃ a n f, (some n2) = some a ∧ F3 a = some (cA 0 n f)) ∧ Q (some n2) F3)) ∧ (¬ w32 a1 = w32 x1 → (0 ≤ a1 ∧ a1 ≤ 60000000 ∧ a1.toNat ≤ ms) ∧ nwc F (cA 0 a1 (fun _ => 0)) (fun n4 F5 => aN F5 a0 (fun x6 => cpI F5 a0 0 (some n4) 0 (iMin x6 a1) (fun F7 => Q (some n4) F7)))))
set_option maxHeartbeats 4000000 in
theorem tJ7_copyOf_59c91 {d ms : Nat} {a0 : Option Nat} {a1 : Int} {F : hp} {Q : Option Nat → hp → Prop} (h : mJ7_copyOf_59c91 ms a0 a1 F Q) : am nJ7_copyOf_59c91 (d + 1) 1 (0 + ms) [vr a0, vi a1] F (qR Q) := by
  refine am_of (by decide +kernel) (Nat.le_of_ble_eq_true rfl) ?_
  show aw nJ7_copyOf_59c91 (d + 1) 1 (0 + ms) 0 [some (vr a0), some (vi a1), none] [] F (qR Q)
  unfold mJ7_copyOf_59c91 at h
  refine aw_iload_n dJ7_copyOf_59c91_0 rfl rfl (aw_pc (pc' := 1) rfl ?_)
  refine aw_aload_n dJ7_copyOf_59c91_1 rfl rfl (aw_pc (pc' := 2) rfl ?_)
  refine ar_aN dJ7_copyOf_59c91_2 h ?_
  clear h
  intro x1 h
  refine aw_pc (pc' := 3) rfl ?_
  refine ac_ne rfl rfl dJ7_copyOf_59c91_3 rfl (fun c => ?_) (fun c => ?_)
  · replace h := h.1 c
    refine aw_aload_n dJ7_copyOf_59c91_6 rfl rfl (aw_pc (pc' := 7) rfl ?_)
    refine ar_clone (kc := 0) (ks := 0) (ms := ms) qM_RJ7_316 mw_clone (Nat.le_of_ble_eq_true rfl) dJ7_copyOf_59c91_7 h ?_
    clear h
    intro n2 F3 h
    refine aw_pc (pc' := 10) rfl ?_
    refine ar_castI qC_RJ7_317 dJ7_copyOf_59c91_10 h ?_
    clear h
    intro h
    refine aw_pc (pc' := 13) rfl ?_
    exact aw_aret rfl (Or.inr ⟨_, rfl⟩) dJ7_copyOf_59c91_13 ⟨_, rfl, h⟩
  · replace h := h.2 c
    refine aw_iload_n dJ7_copyOf_59c91_14 rfl rfl (aw_pc (pc' := 15) rfl ?_)
    refine ar_newarr (k := 0) (kc := 0) (ks := 0) (ms := ms) (Or.inl rfl) rfl qY_int h.1 dJ7_copyOf_59c91_15 h.2 ?_
    clear h
    intro n4 F5 h
    refine aw_pc (pc' := 17) rfl ?_
    refine aw_astore_n dJ7_copyOf_59c91_17 rfl (by decide) (aw_pc (pc' := 18) rfl ?_)
    refine aw_aload_n dJ7_copyOf_59c91_18 rfl rfl (aw_pc (pc' := 19) rfl ?_)
    refine aw_iconst dJ7_copyOf_59c91_19 (aw_pc (pc' := 20) rfl ?_)
    refine aw_aload_n dJ7_copyOf_59c91_20 rfl rfl (aw_pc (pc' := 21) rfl ?_)
    refine aw_iconst dJ7_copyOf_59c91_21 (aw_pc (pc' := 22) rfl ?_)
    refine aw_aload_n dJ7_copyOf_59c91_22 rfl rfl (aw_pc (pc' := 23) rfl ?_)
    refine ar_aN dJ7_copyOf_59c91_23 h ?_
    clear h
    intro x6 h
    refine aw_pc (pc' := 24) rfl ?_
    refine aw_iload_n dJ7_copyOf_59c91_24 rfl rfl (aw_pc (pc' := 25) rfl ?_)
    refine aw_min qM_RJ7_304 mw_min (Nat.le_of_ble_eq_true rfl) dJ7_copyOf_59c91_25 (aw_pc (pc' := 28) rfl ?_)
    refine ar_cpI qM_RJ7_150 mw_copy (Nat.le_of_ble_eq_true rfl) dJ7_copyOf_59c91_28 h ?_
    clear h
    intro F7 h
    refine aw_pc (pc' := 31) rfl ?_
    refine aw_aload_n dJ7_copyOf_59c91_31 rfl rfl (aw_pc (pc' := 32) rfl ?_)
    exact aw_aret rfl (Or.inr ⟨_, rfl⟩) dJ7_copyOf_59c91_32 ⟨_, rfl, h⟩
def mX11_isTrack (a0 : Int) (F : hp) (Q : Int → hp → Prop) : Prop := mX11_within a0 0 2 F (fun x2 F1 => (((x2 : Int) = 0 ∨ (x2 : Int) = 1) ∧ Q x2 F1))
set_option maxHeartbeats 4000000 in
theorem tX11_isTrack {d : Nat} {a0 : Int} {F : hp} {Q : Int → hp → Prop} (h : mX11_isTrack a0 F Q) : am nX11_isTrack (d + 1) 0 0 [vi a0] F (qI Q) := by
  refine am_of (by decide +kernel) (Nat.le_of_ble_eq_true rfl) ?_
  show aw nX11_isTrack (d + 1) 0 0 0 [some (vi a0)] [] F (qI Q)
  unfold mX11_isTrack at h
  refine aw_iload_n dX11_isTrack_0 rfl rfl (aw_pc (pc' := 1) rfl ?_)
  refine aw_iconst dX11_isTrack_1 (aw_pc (pc' := 2) rfl ?_)
  refine aw_iconst dX11_isTrack_2 (aw_pc (pc' := 3) rfl ?_)
  refine ar_SI (kc' := 0) (ks' := 0) (kc := 0) (ks := 0) (as := [vi a0, vi 0, vi 2]) (st := []) (tX11_within h) mt_X11_within qM_RX11_62 qS_X11_within rfl (Nat.le_of_ble_eq_true rfl) dX11_isTrack_3 ?_
  clear h
  intro x2 F1 h
  refine aw_pc (pc' := 6) rfl ?_
  exact aw_zret rfl (nz h.1) dX11_isTrack_6 ⟨_, rfl, h.2⟩
def mX11_isRailway (a0 : Int) (F : hp) (Q : Int → hp → Prop) : Prop := mX11_within a0 0 5 F (fun x2 F1 => (((x2 : Int) = 0 ∨ (x2 : Int) = 1) ∧ Q x2 F1))
set_option maxHeartbeats 4000000 in
theorem tX11_isRailway {d : Nat} {a0 : Int} {F : hp} {Q : Int → hp → Prop} (h : mX11_isRailway a0 F Q) : am nX11_isRailway (d + 1) 0 0 [vi a0] F (qI Q) := by
  refine am_of (by decide +kernel) (Nat.le_of_ble_eq_true rfl) ?_
  show aw nX11_isRailway (d + 1) 0 0 0 [some (vi a0)] [] F (qI Q)
  unfold mX11_isRailway at h
  refine aw_iload_n dX11_isRailway_0 rfl rfl (aw_pc (pc' := 1) rfl ?_)
  refine aw_iconst dX11_isRailway_1 (aw_pc (pc' := 2) rfl ?_)
  refine aw_iconst dX11_isRailway_2 (aw_pc (pc' := 3) rfl ?_)
  refine ar_SI (kc' := 0) (ks' := 0) (kc := 0) (ks := 0) (as := [vi a0, vi 0, vi 5]) (st := []) (tX11_within h) mt_X11_within qM_RX11_62 qS_X11_within rfl (Nat.le_of_ble_eq_true rfl) dX11_isRailway_3 ?_
  clear h
  intro x2 F1 h
  refine aw_pc (pc' := 6) rfl ?_
  exact aw_zret rfl (nz h.1) dX11_isRailway_6 ⟨_, rfl, h.2⟩
def mX11_commonDivisor_L9 (Q : Int → hp → Prop) : Nat → Int → Int → Int → hp → Prop
  | 0, _, _, _, _ => False
  | k + 1, a4, a6, a8, F => (w32 a8 < 1000 → (w32 (iCmp a6 0) = 0 → Q a4 F) ∧ (¬ w32 (iCmp a6 0) = 0 → w64 a6 ≠ 0 ∧ ∀ v1 : Int, v1 = ((w64 a4).tmod (w64 a6)) → mX11_commonDivisor_L9 Q k a6 v1 (a8 + 1) F)) ∧ (¬ w32 a8 < 1000 → Q a4 F)
set_option maxHeartbeats 4000000 in
theorem tX11_commonDivisor_L9 {d : Nat} {Q : Int → hp → Prop} : ∀ (k : Nat) (a4 : Int) (a6 : Int) (a8 : Int) (F : hp), mX11_commonDivisor_L9 Q k a4 a6 a8 F → aw nX11_commonDivisor d 0 0 9 [none, none, none, none, some (vl a4), none, some (vl a6), none, some (vi a8), none, none] [] F (qL Q) := by
  intro k
  induction k with
  | zero => intro a4 a6 a8 F h; exact h.elim
  | succ k ih =>
    intro a4 a6 a8 F h
    simp only [mX11_commonDivisor_L9] at h
    refine aw_iload dX11_commonDivisor_9 rfl (aw_pc (pc' := 11) rfl ?_)
    refine aw_sipush dX11_commonDivisor_11 (by decide) (aw_pc (pc' := 14) rfl ?_)
    refine ac_ge rfl wl_1000 dX11_commonDivisor_14 rfl (fun c => ?_) (fun c => ?_)
    · replace h := h.1 c
      refine aw_lload dX11_commonDivisor_17 rfl (aw_pc (pc' := 19) rfl ?_)
      refine aw_lconst (v := 0) dX11_commonDivisor_19 (by decide) (aw_pc (pc' := 20) rfl ?_)
      refine aw_lcmp dX11_commonDivisor_20 (aw_pc (pc' := 21) rfl ?_)
      refine aw_if_eq dX11_commonDivisor_21 rfl (fun c => ?_) (fun c => ?_)
      · replace h := h.1 c
        refine aw_lload dX11_commonDivisor_45 rfl (aw_pc (pc' := 47) rfl ?_)
        exact aw_lret rfl dX11_commonDivisor_47 ⟨_, rfl, h⟩
      · replace h := h.2 c
        refine aw_lload dX11_commonDivisor_24 rfl (aw_pc (pc' := 26) rfl ?_)
        refine aw_lload dX11_commonDivisor_26 rfl (aw_pc (pc' := 28) rfl ?_)
        refine ac_lrem rfl h.1 dX11_commonDivisor_28 (aw_pc (pc' := 29) rfl ?_)
        replace h := h.2
        generalize hv_v1 : ((w64 a4).tmod (w64 a6)) = v1
        replace h := h v1 hv_v1.symm
        refine aw_lstore dX11_commonDivisor_29 (by decide) (aw_pc (pc' := 31) rfl ?_)
        refine aw_lload dX11_commonDivisor_31 rfl (aw_pc (pc' := 33) rfl ?_)
        refine aw_lstore dX11_commonDivisor_33 (by decide) (aw_pc (pc' := 35) rfl ?_)
        refine aw_lload dX11_commonDivisor_35 rfl (aw_pc (pc' := 37) rfl ?_)
        refine aw_lstore dX11_commonDivisor_37 (by decide) (aw_pc (pc' := 39) rfl ?_)
        refine aw_iinc dX11_commonDivisor_39 rfl (by decide) (aw_pc (pc' := 42) rfl ?_)
        refine aw_goto (tgt := 9) dX11_commonDivisor_42 rfl ?_
        exact aw_mask [false, false, false, false, true, false, true, false, true, false, false] (ih _ _ _ _ h)
    · replace h := h.2 c
      refine aw_lload dX11_commonDivisor_45 rfl (aw_pc (pc' := 47) rfl ?_)
      exact aw_lret rfl dX11_commonDivisor_47 ⟨_, rfl, h⟩
def mX11_commonDivisor (a0 : Int) (a2 : Int) (F : hp) (Q : Int → hp → Prop) : Prop := (∃ k1, mX11_commonDivisor_L9 Q k1 a2 a0 0 F)
set_option maxHeartbeats 4000000 in
theorem tX11_commonDivisor {d : Nat} {a0 : Int} {a2 : Int} {F : hp} {Q : Int → hp → Prop} (h : mX11_commonDivisor a0 a2 F Q) : am nX11_commonDivisor d 0 0 [vl a0, vl a2] F (qL Q) := by
  refine am_of (by decide +kernel) (Nat.le_of_ble_eq_true rfl) ?_
  show aw nX11_commonDivisor d 0 0 0 [some (vl a0), none, some (vl a2), none, none, none, none, none, none, none, none] [] F (qL Q)
  unfold mX11_commonDivisor at h
  refine aw_lload_n dX11_commonDivisor_0 rfl rfl (aw_pc (pc' := 1) rfl ?_)
  refine aw_lstore dX11_commonDivisor_1 (by decide) (aw_pc (pc' := 3) rfl ?_)
  refine aw_lload_n dX11_commonDivisor_3 rfl rfl (aw_pc (pc' := 4) rfl ?_)
  refine aw_lstore dX11_commonDivisor_4 (by decide) (aw_pc (pc' := 6) rfl ?_)
  refine aw_iconst dX11_commonDivisor_6 (aw_pc (pc' := 7) rfl ?_)
  refine aw_istore dX11_commonDivisor_7 (by decide) (aw_pc (pc' := 9) rfl ?_)
  obtain ⟨k1, h⟩ := h
  exact aw_mask [false, false, false, false, true, false, true, false, true, false, false] (tX11_commonDivisor_L9 k1 _ _ _ _ h)
