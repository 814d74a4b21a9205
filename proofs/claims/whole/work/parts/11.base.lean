def mX11_within (a0 : Int) (a1 : Int) (a2 : Int) (F : hp) (Q : Int → hp → Prop) : Prop := (w32 a0 < w32 a1 → Q 0 F) ∧ (¬ w32 a0 < w32 a1 → (w32 a2 < w32 a0 → Q 0 F) ∧ (¬ w32 a2 < w32 a0 → Q 1 F))
set_option maxHeartbeats 4000000 in
theorem tX11_within {d : Nat} {a0 : Int} {a1 : Int} {a2 : Int} {F : hp} {Q : Int → hp → Prop} (h : mX11_within a0 a1 a2 F Q) : am nX11_within d 0 0 [vi a0, vi a1, vi a2] F (qI Q) := by
  refine am_of (by decide +kernel) (Nat.le_of_ble_eq_true rfl) ?_
  show aw nX11_within d 0 0 0 [some (vi a0), some (vi a1), some (vi a2)] [] F (qI Q)
  unfold mX11_within at h
  refine aw_iload_n dX11_within_0 rfl rfl (aw_pc (pc' := 1) rfl ?_)
  refine aw_iload_n dX11_within_1 rfl rfl (aw_pc (pc' := 2) rfl ?_)
  refine ac_lt rfl rfl dX11_within_2 rfl (fun c => ?_) (fun c => ?_)
  · replace h := h.1 c
    refine aw_iconst dX11_within_14 (aw_pc (pc' := 15) rfl ?_)
    exact aw_zret rfl (by decide) dX11_within_15 ⟨_, rfl, h⟩
  · replace h := h.2 c
    refine aw_iload_n dX11_within_5 rfl rfl (aw_pc (pc' := 6) rfl ?_)
    refine aw_iload_n dX11_within_6 rfl rfl (aw_pc (pc' := 7) rfl ?_)
    refine ac_gt rfl rfl dX11_within_7 rfl (fun c => ?_) (fun c => ?_)
    · replace h := h.1 c
      refine aw_iconst dX11_within_14 (aw_pc (pc' := 15) rfl ?_)
      exact aw_zret rfl (by decide) dX11_within_15 ⟨_, rfl, h⟩
    · replace h := h.2 c
      refine aw_iconst dX11_within_10 (aw_pc (pc' := 11) rfl ?_)
      refine aw_goto (tgt := 15) dX11_within_11 rfl ?_
      exact aw_zret rfl (by decide) dX11_within_15 ⟨_, rfl, h⟩
def mJ7_fill_53178_L5 (Q : hp → Prop) : Nat → Option Nat → Int → Int → Int → hp → Prop
  | 0, _, _, _, _, _ => False
  | k + 1, a0, a1, a2, a3, F => (w32 a2 < w32 a3 → sI F a0 0 a2 a1 (fun F1 => mJ7_fill_53178_L5 Q k a0 a1 (a2 + 1) a3 F1)) ∧ (¬ w32 a2 < w32 a3 → Q F)
set_option maxHeartbeats 4000000 in
theorem tJ7_fill_53178_L5 {d : Nat} {Q : hp → Prop} : ∀ (k : Nat) (a0 : Option Nat) (a1 : Int) (a2 : Int) (a3 : Int) (F : hp), mJ7_fill_53178_L5 Q k a0 a1 a2 a3 F → aw nJ7_fill_53178 d 0 0 5 [some (vr a0), some (vi a1), some (vi a2), some (vi a3)] [] F (qV Q) := by
  intro k
  induction k with
  | zero => intro a0 a1 a2 a3 F h; exact h.elim
  | succ k ih =>
    intro a0 a1 a2 a3 F h
    simp only [mJ7_fill_53178_L5] at h
    refine aw_iload_n dJ7_fill_53178_5 rfl rfl (aw_pc (pc' := 6) rfl ?_)
    refine aw_iload_n dJ7_fill_53178_6 rfl rfl (aw_pc (pc' := 7) rfl ?_)
    refine ac_ge rfl rfl dJ7_fill_53178_7 rfl (fun c => ?_) (fun c => ?_)
    · replace h := h.1 c
      refine aw_aload_n dJ7_fill_53178_10 rfl rfl (aw_pc (pc' := 11) rfl ?_)
      refine aw_iload_n dJ7_fill_53178_11 rfl rfl (aw_pc (pc' := 12) rfl ?_)
      refine aw_iload_n dJ7_fill_53178_12 rfl rfl (aw_pc (pc' := 13) rfl ?_)
      refine ar_sI dJ7_fill_53178_13 h ?_
      clear h
      intro F1 h
      refine aw_pc (pc' := 14) rfl ?_
      refine aw_iinc dJ7_fill_53178_14 rfl (by decide) (aw_pc (pc' := 17) rfl ?_)
      refine aw_goto (tgt := 5) dJ7_fill_53178_17 rfl ?_
      exact aw_mask [true, true, true, true] (ih _ _ _ _ _ h)
    · replace h := h.2 c
      exact aw_vret rfl dJ7_fill_53178_20 ⟨rfl, h⟩
def mJ7_fill_53178 (a0 : Option Nat) (a1 : Int) (F : hp) (Q : hp → Prop) : Prop := aN F a0 (fun x1 => (∃ k2, mJ7_fill_53178_L5 Q k2 a0 a1 0 x1 F))
set_option maxHeartbeats 4000000 in
theorem tJ7_fill_53178 {d : Nat} {a0 : Option Nat} {a1 : Int} {F : hp} {Q : hp → Prop} (h : mJ7_fill_53178 a0 a1 F Q) : am nJ7_fill_53178 d 0 0 [vr a0, vi a1] F (qV Q) := by
  refine am_of (by decide +kernel) (Nat.le_of_ble_eq_true rfl) ?_
  show aw nJ7_fill_53178 d 0 0 0 [some (vr a0), some (vi a1), none, none] [] F (qV Q)
  unfold mJ7_fill_53178 at h
  refine aw_iconst dJ7_fill_53178_0 (aw_pc (pc' := 1) rfl ?_)
  refine aw_istore_n dJ7_fill_53178_1 rfl (by decide) (aw_pc (pc' := 2) rfl ?_)
  refine aw_aload_n dJ7_fill_53178_2 rfl rfl (aw_pc (pc' := 3) rfl ?_)
  refine ar_aN dJ7_fill_53178_3 h ?_
  clear h
  intro x1 h
  refine aw_pc (pc' := 4) rfl ?_
  refine aw_istore_n dJ7_fill_53178_4 rfl (by decide) (aw_pc (pc' := 5) rfl ?_)
  obtain ⟨k2, h⟩ := h
  exact aw_mask [true, true, true, true] (tJ7_fill_53178_L5 k2 _ _ _ _ _ h)
def mX11_isTrack (a0 : Int) (F : hp) (Q : Int → hp → Prop) : Prop := mX11_within a0 0 2 F (fun x2 F1 => ((x2 = 0 ∨ x2 = 1) ∧ Q x2 F1))
set_option maxHeartbeats 4000000 in
theorem tX11_isTrack {d : Nat} {a0 : Int} {F : hp} {Q : Int → hp → Prop} (h : mX11_isTrack a0 F Q) : am nX11_isTrack (d + 1) 0 0 [vi a0] F (qI Q) := by
  refine am_of (by decide +kernel) (Nat.le_of_ble_eq_true rfl) ?_
  show aw nX11_isTrack (d + 1) 0 0 0 [some (vi a0)] [] F (qI Q)
  unfold mX11_isTrack at h
  refine aw_iload_n dX11_isTrack_0 rfl rfl (aw_pc (pc' := 1) rfl ?_)
  refine aw_iconst dX11_isTrack_1 (aw_pc (pc' := 2) rfl ?_)
  refine aw_iconst dX11_isTrack_2 (aw_pc (pc' := 3) rfl ?_)
  refine ar_SI (kc' := 0) (ks' := 0) (kc := 0) (ks := 0) (as := [vi a0, vi 0, vi 2]) (st := []) (tX11_within h) mt_X11_within qM_RX11_62 qS_X11_within rfl (Nat.le_of_ble_eq_true rfl) dX11_isTrack_3 ?_
  clear h
  intro x2 F1 h
  refine aw_pc (pc' := 6) rfl ?_
  exact aw_zret rfl (nz h.1) dX11_isTrack_6 ⟨_, rfl, h.2⟩
def mX11_isRailway (a0 : Int) (F : hp) (Q : Int → hp → Prop) : Prop := mX11_within a0 0 5 F (fun x2 F1 => ((x2 = 0 ∨ x2 = 1) ∧ Q x2 F1))
set_option maxHeartbeats 4000000 in
theorem tX11_isRailway {d : Nat} {a0 : Int} {F : hp} {Q : Int → hp → Prop} (h : mX11_isRailway a0 F Q) : am nX11_isRailway (d + 1) 0 0 [vi a0] F (qI Q) := by
  refine am_of (by decide +kernel) (Nat.le_of_ble_eq_true rfl) ?_
  show aw nX11_isRailway (d + 1) 0 0 0 [some (vi a0)] [] F (qI Q)
  unfold mX11_isRailway at h
  refine aw_iload_n dX11_isRailway_0 rfl rfl (aw_pc (pc' := 1) rfl ?_)
  refine aw_iconst dX11_isRailway_1 (aw_pc (pc' := 2) rfl ?_)
  refine aw_iconst dX11_isRailway_2 (aw_pc (pc' := 3) rfl ?_)
  refine ar_SI (kc' := 0) (ks' := 0) (kc := 0) (ks := 0) (as := [vi a0, vi 0, vi 5]) (st := []) (tX11_within h) mt_X11_within qM_RX11_62 qS_X11_within rfl (Nat.le_of_ble_eq_true rfl) dX11_isRailway_3 ?_
  clear h
  intro x2 F1 h
  refine aw_pc (pc' := 6) rfl ?_
  exact aw_zret rfl (nz h.1) dX11_isRailway_6 ⟨_, rfl, h.2⟩
def mX11_commonDivisor_L9 (Q : Int → hp → Prop) : Nat → Int → Int → Int → hp → Prop
  | 0, _, _, _, _ => False
  | k + 1, a4, a6, a8, F => (w32 a8 < 1000 → (w32 (iCmp a6 0) = 0 → Q a4 F) ∧ (¬ w32 (iCmp a6 0) = 0 → w64 a6 ≠ 0 ∧ ∀ v1 : Int, v1 = ((w64 a4).tmod (w64 a6)) → mX11_commonDivisor_L9 Q k a6 v1 (a8 + 1) F)) ∧ (¬ w32 a8 < 1000 → Q a4 F)
set_option maxHeartbeats 4000000 in
theorem tX11_commonDivisor_L9 {d : Nat} {Q : Int → hp → Prop} : ∀ (k : Nat) (a4 : Int) (a6 : Int) (a8 : Int) (F : hp), mX11_commonDivisor_L9 Q k a4 a6 a8 F → aw nX11_commonDivisor d 0 0 9 [none, none, none, none, some (vl a4), none, some (vl a6), none, some (vi a8), none, none] [] F (qL Q) := by
  intro k
  induction k with
  | zero => intro a4 a6 a8 F h; exact h.elim
  | succ k ih =>
    intro a4 a6 a8 F h
    simp only [mX11_commonDivisor_L9] at h
    refine aw_iload dX11_commonDivisor_9 rfl (aw_pc (pc' := 11) rfl ?_)
    refine aw_sipush dX11_commonDivisor_11 (by decide) (aw_pc (pc' := 14) rfl ?_)
    refine ac_ge rfl wl_1000 dX11_commonDivisor_14 rfl (fun c => ?_) (fun c => ?_)
    · replace h := h.1 c
      refine aw_lload dX11_commonDivisor_17 rfl (aw_pc (pc' := 19) rfl ?_)
      refine aw_lconst (v := 0) dX11_commonDivisor_19 (by decide) (aw_pc (pc' := 20) rfl ?_)
      refine aw_lcmp dX11_commonDivisor_20 (aw_pc (pc' := 21) rfl ?_)
      refine aw_if_eq dX11_commonDivisor_21 rfl (fun c => ?_) (fun c => ?_)
      · replace h := h.1 c
        refine aw_lload dX11_commonDivisor_45 rfl (aw_pc (pc' := 47) rfl ?_)
        exact aw_lret rfl dX11_commonDivisor_47 ⟨_, rfl, h⟩
      · replace h := h.2 c
        refine aw_lload dX11_commonDivisor_24 rfl (aw_pc (pc' := 26) rfl ?_)
        refine aw_lload dX11_commonDivisor_26 rfl (aw_pc (pc' := 28) rfl ?_)
        refine ac_lrem rfl h.1 dX11_commonDivisor_28 (aw_pc (pc' := 29) rfl ?_)
        replace h := h.2
        generalize hv_v1 : ((w64 a4).tmod (w64 a6)) = v1
        replace h := h v1 hv_v1.symm
        refine aw_lstore dX11_commonDivisor_29 (by decide) (aw_pc (pc' := 31) rfl ?_)
        refine aw_lload dX11_commonDivisor_31 rfl (aw_pc (pc' := 33) rfl ?_)
        refine aw_lstore dX11_commonDivisor_33 (by decide) (aw_pc (pc' := 35) rfl ?_)
        refine aw_lload dX11_commonDivisor_35 rfl (aw_pc (pc' := 37) rfl ?_)
        refine aw_lstore dX11_commonDivisor_37 (by decide) (aw_pc (pc' := 39) rfl ?_)
        refine aw_iinc dX11_commonDivisor_39 rfl (by decide) (aw_pc (pc' := 42) rfl ?_)
        refine aw_goto (tgt := 9) dX11_commonDivisor_42 rfl ?_
        exact aw_mask [false, false, false, false, true, false, true, false, true, false, false] (ih _ _ _ _ h)
    · replace h := h.2 c
      refine aw_lload dX11_commonDivisor_45 rfl (aw_pc (pc' := 47) rfl ?_)
      exact aw_lret rfl dX11_commonDivisor_47 ⟨_, rfl, h⟩
def mX11_commonDivisor (a0 : Int) (a2 : Int) (F : hp) (Q : Int → hp → Prop) : Prop := (∃ k1, mX11_commonDivisor_L9 Q k1 a2 a0 0 F)
set_option maxHeartbeats 4000000 in
theorem tX11_commonDivisor {d : Nat} {a0 : Int} {a2 : Int} {F : hp} {Q : Int → hp → Prop} (h : mX11_commonDivisor a0 a2 F Q) : am nX11_commonDivisor d 0 0 [vl a0, vl a2] F (qL Q) := by
  refine am_of (by decide +kernel) (Nat.le_of_ble_eq_true rfl) ?_
  show aw nX11_commonDivisor d 0 0 0 [some (vl a0), none, some (vl a2), none, none, none, none, none, none, none, none] [] F (qL Q)
  unfold mX11_commonDivisor at h
  refine aw_lload_n dX11_commonDivisor_0 rfl rfl (aw_pc (pc' := 1) rfl ?_)
  refine aw_lstore dX11_commonDivisor_1 (by decide) (aw_pc (pc' := 3) rfl ?_)
  refine aw_lload_n dX11_commonDivisor_3 rfl rfl (aw_pc (pc' := 4) rfl ?_)
  refine aw_lstore dX11_commonDivisor_4 (by decide) (aw_pc (pc' := 6) rfl ?_)
  refine aw_iconst dX11_commonDivisor_6 (aw_pc (pc' := 7) rfl ?_)
  refine aw_istore dX11_commonDivisor_7 (by decide) (aw_pc (pc' := 9) rfl ?_)
  obtain ⟨k1, h⟩ := h
  exact aw_mask [false, false, false, false, true, false, true, false, true, false, false] (tX11_commonDivisor_L9 k1 _ _ _ _ h)
