def mX12_amiss_J51 (X4 : Nat → Int → Int → hp → Prop) (X11 : Nat → Int → Int → Int → hp → Prop) (Q : Int → hp → Prop) (o : Nat) (a2 : Int) (a3 : Int) (s0 : Int) (s1 : Int) (F : hp) : Prop := ∀ v1 : Int, v1 = (s0 + s1) → X11 o v1 a2 (a3 + 1) F
set_option maxHeartbeats 4000000 in
theorem tX12_amiss_J51 {d : Nat} {X4 : Nat → Int → Int → hp → Prop} {X11 : Nat → Int → Int → Int → hp → Prop} {Q : Int → hp → Prop} (hX4 : ∀ (o : Nat) (a1 : Int) (a2 : Int) (F : hp), X4 o a1 a2 F → aw nX12_amiss (d + 2) 0 0 4 [some (vr (some o)), some (vi a1), some (vi a2), none] [] F (qI Q)) (hX11 : ∀ (o : Nat) (a1 : Int) (a2 : Int) (a3 : Int) (F : hp), X11 o a1 a2 a3 F → aw nX12_amiss (d + 2) 0 0 11 [some (vr (some o)), some (vi a1), some (vi a2), some (vi a3)] [] F (qI Q)) {o : Nat} {a2 : Int} {a3 : Int} {s0 : Int} {s1 : Int} {F : hp} (h : mX12_amiss_J51 X4 X11 Q o a2 a3 s0 s1 F) : aw nX12_amiss (d + 2) 0 0 51 [some (vr (some o)), none, some (vi a2), some (vi a3)] [vi s1, vi s0] F (qI Q) := by
  unfold mX12_amiss_J51 at h
  refine aw_iadd dX12_amiss_51 (aw_pc (pc' := 52) rfl ?_)
  generalize hv_v1 : (s0 + s1) = v1
  replace h := h v1 hv_v1.symm
  refine aw_istore_n dX12_amiss_52 rfl (by decide) (aw_pc (pc' := 53) rfl ?_)
  refine aw_iinc dX12_amiss_53 rfl (by decide) (aw_pc (pc' := 56) rfl ?_)
  refine aw_goto (tgt := 11) dX12_amiss_56 rfl ?_
  exact aw_mask [true, true, true, true] (hX11 _ _ _ _ _ h)
def mX12_amiss_L11 (X4 : Nat → Int → Int → hp → Prop) (Q : Int → hp → Prop) : Nat → Nat → Int → Int → Int → hp → Prop
  | 0, _, _, _, _, _ => False
  | k + 1, o, a1, a2, a3, F => gR F (some o) 12 0 (fun x1 => aI F x1 0 (12 + a2) (fun x2 => (w32 a3 < w32 x2 → rcv F (some o) 12 (fun o5 => mX12_carOn o5 a2 (a3 - 1) F (fun x4 F3 => rcv F3 (some o) 12 (fun o8 => mX12_carOn o8 a2 a3 F3 (fun x7 F6 => rcv F6 (some o) 12 (fun o11 => mX12_isForbidden o11 x4 x7 F6 (fun x10 F9 => (w32 x10 = 0 → mX12_amiss_J51 X4 (fun o' a1' a2' a3' F' => mX12_amiss_L11 X4 Q k o' a1' a2' a3' F') Q o a2 a3 a1 0 F9) ∧ (¬ w32 x10 = 0 → mX12_amiss_J51 X4 (fun o' a1' a2' a3' F' => mX12_amiss_L11 X4 Q k o' a1' a2' a3' F') Q o a2 a3 a1 1 F9)))))))) ∧ (¬ w32 a3 < w32 x2 → X4 o a1 (a2 + 1) F)))
set_option maxHeartbeats 4000000 in
theorem tX12_amiss_L11 {d : Nat} {X4 : Nat → Int → Int → hp → Prop} {Q : Int → hp → Prop} (hX4 : ∀ (o : Nat) (a1 : Int) (a2 : Int) (F : hp), X4 o a1 a2 F → aw nX12_amiss (d + 2) 0 0 4 [some (vr (some o)), some (vi a1), some (vi a2), none] [] F (qI Q)) : ∀ (k : Nat) (o : Nat) (a1 : Int) (a2 : Int) (a3 : Int) (F : hp), mX12_amiss_L11 X4 Q k o a1 a2 a3 F → aw nX12_amiss (d + 2) 0 0 11 [some (vr (some o)), some (vi a1), some (vi a2), some (vi a3)] [] F (qI Q) := by
  intro k
  induction k with
  | zero => intro o a1 a2 a3 F h; exact h.elim
  | succ k ih =>
    intro o a1 a2 a3 F h
    simp only [mX12_amiss_L11] at h
    refine aw_iload_n dX12_amiss_11 rfl rfl (aw_pc (pc' := 12) rfl ?_)
    refine aw_aload_n dX12_amiss_12 rfl rfl (aw_pc (pc' := 13) rfl ?_)
    refine ar_gR fl_RX12_7 dX12_amiss_13 h ?_
    clear h
    intro x1 h
    refine aw_pc (pc' := 16) rfl ?_
    refine aw_bipush dX12_amiss_16 (by decide) (aw_pc (pc' := 18) rfl ?_)
    refine aw_iload_n dX12_amiss_18 rfl rfl (aw_pc (pc' := 19) rfl ?_)
    refine aw_iadd dX12_amiss_19 (aw_pc (pc' := 20) rfl ?_)
    refine ar_aI dX12_amiss_20 h ?_
    clear h
    intro x2 h
    refine aw_pc (pc' := 21) rfl ?_
    refine ac_ge rfl rfl dX12_amiss_21 rfl (fun c => ?_) (fun c => ?_)
    · replace h := h.1 c
      refine aw_iload_n dX12_amiss_24 rfl rfl (aw_pc (pc' := 25) rfl ?_)
      refine aw_aload_n dX12_amiss_25 rfl rfl (aw_pc (pc' := 26) rfl ?_)
      refine aw_aload_n dX12_amiss_26 rfl rfl (aw_pc (pc' := 27) rfl ?_)
      refine aw_iload_n dX12_amiss_27 rfl rfl (aw_pc (pc' := 28) rfl ?_)
      refine aw_iload_n dX12_amiss_28 rfl rfl (aw_pc (pc' := 29) rfl ?_)
      refine aw_iconst dX12_amiss_29 (aw_pc (pc' := 30) rfl ?_)
      refine aw_isub dX12_amiss_30 (aw_pc (pc' := 31) rfl ?_)
      have h0 := rcv_inv h
      clear h
      obtain ⟨o5, fs_o5, hr_o5, he_o5, h⟩ := h0
      obtain rfl : o = o5 := Option.some.inj hr_o5
      refine ar_VI (kc' := 0) (ks' := 0) (kc := 0) (ks := 0) (a := o) (ci := 12) (as := [vi a2, vi (a3 - 1)]) (st := [vr (some o), vi a1]) (tX12_carOn h) mt_X12_carOn rfl qM_RX12_82 qI_X12_carOn qV_X12_carOn he_o5 rfl (Nat.le_of_ble_eq_true rfl) dX12_amiss_31 ?_
      clear h
      intro x4 F3 h
      refine aw_pc (pc' := 34) rfl ?_
      refine aw_aload_n dX12_amiss_34 rfl rfl (aw_pc (pc' := 35) rfl ?_)
      refine aw_iload_n dX12_amiss_35 rfl rfl (aw_pc (pc' := 36) rfl ?_)
      refine aw_iload_n dX12_amiss_36 rfl rfl (aw_pc (pc' := 37) rfl ?_)
      have h0 := rcv_inv h
      clear h
      obtain ⟨o8, fs_o8, hr_o8, he_o8, h⟩ := h0
      obtain rfl : o = o8 := Option.some.inj hr_o8
      refine ar_VI (kc' := 0) (ks' := 0) (kc := 0) (ks := 0) (a := o) (ci := 12) (as := [vi a2, vi a3]) (st := [vi x4, vr (some o), vi a1]) (tX12_carOn h) mt_X12_carOn rfl qM_RX12_82 qI_X12_carOn qV_X12_carOn he_o8 rfl (Nat.le_of_ble_eq_true rfl) dX12_amiss_37 ?_
      clear h
      intro x7 F6 h
      refine aw_pc (pc' := 40) rfl ?_
      have h0 := rcv_inv h
      clear h
      obtain ⟨o11, fs_o11, hr_o11, he_o11, h⟩ := h0
      obtain rfl : o = o11 := Option.some.inj hr_o11
      refine ar_VI (kc' := 0) (ks' := 0) (kc := 0) (ks := 0) (a := o) (ci := 12) (as := [vi x4, vi x7]) (st := [vi a1]) (tX12_isForbidden h) mt_X12_isForbidden rfl qM_RX12_330 qI_X12_isForbidden qV_X12_isForbidden he_o11 rfl (Nat.le_of_ble_eq_true rfl) dX12_amiss_40 ?_
      clear h
      intro x10 F9 h
      refine aw_pc (pc' := 43) rfl ?_
      refine aw_if_eq dX12_amiss_43 rfl (fun c => ?_) (fun c => ?_)
      · replace h := h.1 c
        refine aw_iconst dX12_amiss_50 (aw_pc (pc' := 51) rfl ?_)
        exact aw_mask [true, false, true, true] (tX12_amiss_J51 hX4 (fun o' a1' a2' a3' F' h' => ih o' a1' a2' a3' F' h') h)
      · replace h := h.2 c
        refine aw_iconst dX12_amiss_46 (aw_pc (pc' := 47) rfl ?_)
        refine aw_goto (tgt := 51) dX12_amiss_47 rfl ?_
        exact aw_mask [true, false, true, true] (tX12_amiss_J51 hX4 (fun o' a1' a2' a3' F' h' => ih o' a1' a2' a3' F' h') h)
    · replace h := h.2 c
      refine aw_iinc dX12_amiss_59 rfl (by decide) (aw_pc (pc' := 62) rfl ?_)
      refine aw_goto (tgt := 4) dX12_amiss_62 rfl ?_
      exact aw_mask [true, true, true, false] (hX4 _ _ _ _ h)
def mX12_amiss_L4 (Q : Int → hp → Prop) : Nat → Nat → Int → Int → hp → Prop
  | 0, _, _, _, _ => False
  | k + 1, o, a1, a2, F => (w32 a2 < 3 → (∃ k1, mX12_amiss_L11 (fun o' a1' a2' F' => mX12_amiss_L4 Q k o' a1' a2' F') Q k1 o a1 a2 1 F)) ∧ (¬ w32 a2 < 3 → Q a1 F)
set_option maxHeartbeats 4000000 in
theorem tX12_amiss_L4 {d : Nat} {Q : Int → hp → Prop} : ∀ (k : Nat) (o : Nat) (a1 : Int) (a2 : Int) (F : hp), mX12_amiss_L4 Q k o a1 a2 F → aw nX12_amiss (d + 2) 0 0 4 [some (vr (some o)), some (vi a1), some (vi a2), none] [] F (qI Q) := by
  intro k
  induction k with
  | zero => intro o a1 a2 F h; exact h.elim
  | succ k ih =>
    intro o a1 a2 F h
    simp only [mX12_amiss_L4] at h
    refine aw_iload_n dX12_amiss_4 rfl rfl (aw_pc (pc' := 5) rfl ?_)
    refine aw_iconst dX12_amiss_5 (aw_pc (pc' := 6) rfl ?_)
    refine ac_ge rfl wl_3 dX12_amiss_6 rfl (fun c => ?_) (fun c => ?_)
    · replace h := h.1 c
      refine aw_iconst dX12_amiss_9 (aw_pc (pc' := 10) rfl ?_)
      refine aw_istore_n dX12_amiss_10 rfl (by decide) (aw_pc (pc' := 11) rfl ?_)
      obtain ⟨k1, h⟩ := h
      exact aw_mask [true, true, true, true] (tX12_amiss_L11 (fun o' a1' a2' F' h' => ih o' a1' a2' F' h') k1 _ _ _ _ _ h)
    · replace h := h.2 c
      refine aw_iload_n dX12_amiss_65 rfl rfl (aw_pc (pc' := 66) rfl ?_)
      exact aw_iret rfl dX12_amiss_66 ⟨_, rfl, h⟩
def mX12_amiss (o : Nat) (F : hp) (Q : Int → hp → Prop) : Prop := (∃ k1, mX12_amiss_L4 Q k1 o 0 0 F)
set_option maxHeartbeats 4000000 in
theorem tX12_amiss {d : Nat} {o : Nat} {F : hp} {Q : Int → hp → Prop} (h : mX12_amiss o F Q) : am nX12_amiss (d + 2) 0 0 [vr (some o)] F (qI Q) := by
  refine am_of (by decide +kernel) (Nat.le_of_ble_eq_true rfl) ?_
  show aw nX12_amiss (d + 2) 0 0 0 [some (vr (some o)), none, none, none] [] F (qI Q)
  unfold mX12_amiss at h
  refine aw_iconst dX12_amiss_0 (aw_pc (pc' := 1) rfl ?_)
  refine aw_istore_n dX12_amiss_1 rfl (by decide) (aw_pc (pc' := 2) rfl ?_)
  refine aw_iconst dX12_amiss_2 (aw_pc (pc' := 3) rfl ?_)
  refine aw_istore_n dX12_amiss_3 rfl (by decide) (aw_pc (pc' := 4) rfl ?_)
  obtain ⟨k1, h⟩ := h
  exact aw_mask [true, true, true, false] (tX12_amiss_L4 k1 _ _ _ _ h)
def mX12_foretold_L139 (Q : Int → hp → Prop) : Nat → Nat → Int → Int → hp → Prop
  | 0, _, _, _, _ => False
  | k + 1, o, a3, a4, F => (w32 a4 < 36 → gR F (some o) 12 0 (fun x1 => gR F (some o) 12 25 (fun x2 => aI F x2 0 a4 (fun x3 => sI F x1 0 a4 x3 (fun F4 => mX12_foretold_L139 Q k o a3 (a4 + 1) F4))))) ∧ (¬ w32 a4 < 36 → pF F (some o) 12 23 (vi 1) (fun F5 => Q a3 F5))
set_option maxHeartbeats 4000000 in
theorem tX12_foretold_L139 {d : Nat} {Q : Int → hp → Prop} : ∀ (k : Nat) (o : Nat) (a3 : Int) (a4 : Int) (F : hp), mX12_foretold_L139 Q k o a3 a4 F → aw nX12_foretold (d + 3) 0 0 139 [some (vr (some o)), none, none, some (vi a3), some (vi a4)] [] F (qI Q) := by
  intro k
  induction k with
  | zero => intro o a3 a4 F h; exact h.elim
  | succ k ih =>
    intro o a3 a4 F h
    simp only [mX12_foretold_L139] at h
    refine aw_iload dX12_foretold_139 rfl (aw_pc (pc' := 141) rfl ?_)
    refine aw_bipush dX12_foretold_141 (by decide) (aw_pc (pc' := 143) rfl ?_)
    refine ac_ge rfl wl_36 dX12_foretold_143 rfl (fun c => ?_) (fun c => ?_)
    · replace h := h.1 c
      refine aw_aload_n dX12_foretold_146 rfl rfl (aw_pc (pc' := 147) rfl ?_)
      refine ar_gR fl_RX12_7 dX12_foretold_147 h ?_
      clear h
      intro x1 h
      refine aw_pc (pc' := 150) rfl ?_
      refine aw_iload dX12_foretold_150 rfl (aw_pc (pc' := 152) rfl ?_)
      refine aw_aload_n dX12_foretold_152 rfl rfl (aw_pc (pc' := 153) rfl ?_)
      refine ar_gR fl_RX12_47 dX12_foretold_153 h ?_
      clear h
      intro x2 h
      refine aw_pc (pc' := 156) rfl ?_
      refine aw_iload dX12_foretold_156 rfl (aw_pc (pc' := 158) rfl ?_)
      refine ar_aI dX12_foretold_158 h ?_
      clear h
      intro x3 h
      refine aw_pc (pc' := 159) rfl ?_
      refine ar_sI dX12_foretold_159 h ?_
      clear h
      intro F4 h
      refine aw_pc (pc' := 160) rfl ?_
      refine aw_iinc dX12_foretold_160 rfl (by decide) (aw_pc (pc' := 163) rfl ?_)
      refine aw_goto (tgt := 139) dX12_foretold_163 rfl ?_
      exact aw_mask [true, false, false, true, true] (ih _ _ _ _ h)
    · replace h := h.2 c
      refine aw_aload_n dX12_foretold_166 rfl rfl (aw_pc (pc' := 167) rfl ?_)
      refine aw_iconst dX12_foretold_167 (aw_pc (pc' := 168) rfl ?_)
      refine ar_pF fl_RX12_43 ft_X12_23 (okZ (by decide)) dX12_foretold_168 h ?_
      clear h
      intro F5 h
      refine aw_pc (pc' := 171) rfl ?_
      refine aw_iload_n dX12_foretold_171 rfl rfl (aw_pc (pc' := 172) rfl ?_)
      exact aw_iret rfl dX12_foretold_172 ⟨_, rfl, h⟩
def mX12_foretold_J135 (Q : Int → hp → Prop) (o : Nat) (a3 : Int) (F : hp) : Prop := (∃ k1, mX12_foretold_L139 Q k1 o a3 7 F)
set_option maxHeartbeats 4000000 in
theorem tX12_foretold_J135 {d : Nat} {Q : Int → hp → Prop} {o : Nat} {a3 : Int} {F : hp} (h : mX12_foretold_J135 Q o a3 F) : aw nX12_foretold (d + 3) 0 0 135 [some (vr (some o)), none, none, some (vi a3), none] [] F (qI Q) := by
  unfold mX12_foretold_J135 at h
  refine aw_bipush dX12_foretold_135 (by decide) (aw_pc (pc' := 137) rfl ?_)
  refine aw_istore dX12_foretold_137 (by decide) (aw_pc (pc' := 139) rfl ?_)
  obtain ⟨k1, h⟩ := h
  exact aw_mask [true, false, false, true, true] (tX12_foretold_L139 k1 _ _ _ _ h)
def mX12_foretold_L105 (Q : Int → hp → Prop) : Nat → Nat → Int → Int → Int → hp → Prop
  | 0, _, _, _, _, _ => False
  | k + 1, o, a2, a3, a4, F => (w32 a4 < 5 → (w32 a2 = 2 → gR F (some o) 12 0 (fun x1 => aI F x1 0 (31 + a4) (fun x2 => ∀ v3 : Int, v3 = (a3 + x2) → mX12_foretold_L105 Q k o a2 v3 (a4 + 1) F))) ∧ (¬ w32 a2 = 2 → mX12_foretold_J135 Q o a3 F)) ∧ (¬ w32 a4 < 5 → mX12_foretold_J135 Q o a3 F)
set_option maxHeartbeats 4000000 in
theorem tX12_foretold_L105 {d : Nat} {Q : Int → hp → Prop} : ∀ (k : Nat) (o : Nat) (a2 : Int) (a3 : Int) (a4 : Int) (F : hp), mX12_foretold_L105 Q k o a2 a3 a4 F → aw nX12_foretold (d + 3) 0 0 105 [some (vr (some o)), none, some (vi a2), some (vi a3), some (vi a4)] [] F (qI Q) := by
  intro k
  induction k with
  | zero => intro o a2 a3 a4 F h; exact h.elim
  | succ k ih =>
    intro o a2 a3 a4 F h
    simp only [mX12_foretold_L105] at h
    refine aw_iload dX12_foretold_105 rfl (aw_pc (pc' := 107) rfl ?_)
    refine aw_iconst dX12_foretold_107 (aw_pc (pc' := 108) rfl ?_)
    refine ac_ge rfl wl_5 dX12_foretold_108 rfl (fun c => ?_) (fun c => ?_)
    · replace h := h.1 c
      refine aw_iload_n dX12_foretold_111 rfl rfl (aw_pc (pc' := 112) rfl ?_)
      refine aw_iconst dX12_foretold_112 (aw_pc (pc' := 113) rfl ?_)
      refine ac_ne rfl wl_2 dX12_foretold_113 rfl (fun c => ?_) (fun c => ?_)
      · replace h := h.1 c
        refine aw_iload_n dX12_foretold_116 rfl rfl (aw_pc (pc' := 117) rfl ?_)
        refine aw_aload_n dX12_foretold_117 rfl rfl (aw_pc (pc' := 118) rfl ?_)
        refine ar_gR fl_RX12_7 dX12_foretold_118 h ?_
        clear h
        intro x1 h
        refine aw_pc (pc' := 121) rfl ?_
        refine aw_bipush dX12_foretold_121 (by decide) (aw_pc (pc' := 123) rfl ?_)
        refine aw_iload dX12_foretold_123 rfl (aw_pc (pc' := 125) rfl ?_)
        refine aw_iadd dX12_foretold_125 (aw_pc (pc' := 126) rfl ?_)
        refine ar_aI dX12_foretold_126 h ?_
        clear h
        intro x2 h
        refine aw_pc (pc' := 127) rfl ?_
        refine aw_iadd dX12_foretold_127 (aw_pc (pc' := 128) rfl ?_)
        generalize hv_v3 : (a3 + x2) = v3
        replace h := h v3 hv_v3.symm
        refine aw_istore_n dX12_foretold_128 rfl (by decide) (aw_pc (pc' := 129) rfl ?_)
        refine aw_iinc dX12_foretold_129 rfl (by decide) (aw_pc (pc' := 132) rfl ?_)
        refine aw_goto (tgt := 105) dX12_foretold_132 rfl ?_
        exact aw_mask [true, false, true, true, true] (ih _ _ _ _ _ h)
      · replace h := h.2 c
        exact aw_mask [true, false, false, true, false] (tX12_foretold_J135 h)
    · replace h := h.2 c
      exact aw_mask [true, false, false, true, false] (tX12_foretold_J135 h)
def mX12_foretold_J101 (Q : Int → hp → Prop) (o : Nat) (a2 : Int) (s0 : Int) (F : hp) : Prop := (∃ k1, mX12_foretold_L105 Q k1 o a2 s0 0 F)
set_option maxHeartbeats 4000000 in
theorem tX12_foretold_J101 {d : Nat} {Q : Int → hp → Prop} {o : Nat} {a2 : Int} {s0 : Int} {F : hp} (h : mX12_foretold_J101 Q o a2 s0 F) : aw nX12_foretold (d + 3) 0 0 101 [some (vr (some o)), none, some (vi a2), none, none] [vi s0] F (qI Q) := by
  unfold mX12_foretold_J101 at h
  refine aw_istore_n dX12_foretold_101 rfl (by decide) (aw_pc (pc' := 102) rfl ?_)
  refine aw_iconst dX12_foretold_102 (aw_pc (pc' := 103) rfl ?_)
  refine aw_istore dX12_foretold_103 (by decide) (aw_pc (pc' := 105) rfl ?_)
  obtain ⟨k1, h⟩ := h
  exact aw_mask [true, false, true, true, true] (tX12_foretold_L105 k1 _ _ _ _ _ h)
def mX12_foretold_J77 (X55 : Nat → Int → Int → Int → hp → Prop) (Q : Int → hp → Prop) (o : Nat) (a1 : Int) (a2 : Int) (a3 : Int) (F : hp) : Prop := X55 o a1 a2 (a3 + 1) F
set_option maxHeartbeats 4000000 in
theorem tX12_foretold_J77 {d : Nat} {X55 : Nat → Int → Int → Int → hp → Prop} {Q : Int → hp → Prop} (hX55 : ∀ (o : Nat) (a1 : Int) (a2 : Int) (a3 : Int) (F : hp), X55 o a1 a2 a3 F → aw nX12_foretold (d + 3) 0 0 55 [some (vr (some o)), some (vi a1), some (vi a2), some (vi a3), none] [] F (qI Q)) {o : Nat} {a1 : Int} {a2 : Int} {a3 : Int} {F : hp} (h : mX12_foretold_J77 X55 Q o a1 a2 a3 F) : aw nX12_foretold (d + 3) 0 0 77 [some (vr (some o)), some (vi a1), some (vi a2), some (vi a3), none] [] F (qI Q) := by
  unfold mX12_foretold_J77 at h
  refine aw_iinc dX12_foretold_77 rfl (by decide) (aw_pc (pc' := 80) rfl ?_)
  refine aw_goto (tgt := 55) dX12_foretold_80 rfl ?_
  exact aw_mask [true, true, true, true, false] (hX55 _ _ _ _ _ h)
def mX12_foretold_L55 (Q : Int → hp → Prop) : Nat → Nat → Int → Int → Int → hp → Prop
  | 0, _, _, _, _, _ => False
  | k + 1, o, a1, a2, a3, F => (w32 a3 < w32 a1 → gR F (some o) 12 0 (fun x1 => aI F x1 0 7 (fun x2 => (w32 x2 < 9999 → rcv F (some o) 12 (fun o4 => mX12_pass o4 F (fun F3 => mX12_foretold_J77 (fun o' a1' a2' a3' F' => mX12_foretold_L55 Q k o' a1' a2' a3' F') Q o a1 a2 a3 F3))) ∧ (¬ w32 x2 < 9999 → mX12_foretold_J77 (fun o' a1' a2' a3' F' => mX12_foretold_L55 Q k o' a1' a2' a3' F') Q o a1 a2 a3 F)))) ∧ (¬ w32 a3 < w32 a1 → (w32 a2 < 2 → gR F (some o) 12 0 (fun x5 => aI F x5 0 (9 + a2) (fun x6 => mX12_foretold_J101 Q o a2 x6 F))) ∧ (¬ w32 a2 < 2 → mX12_foretold_J101 Q o a2 0 F))
set_option maxHeartbeats 4000000 in
theorem tX12_foretold_L55 {d : Nat} {Q : Int → hp → Prop} : ∀ (k : Nat) (o : Nat) (a1 : Int) (a2 : Int) (a3 : Int) (F : hp), mX12_foretold_L55 Q k o a1 a2 a3 F → aw nX12_foretold (d + 3) 0 0 55 [some (vr (some o)), some (vi a1), some (vi a2), some (vi a3), none] [] F (qI Q) := by
  intro k
  induction k with
  | zero => intro o a1 a2 a3 F h; exact h.elim
  | succ k ih =>
    intro o a1 a2 a3 F h
    simp only [mX12_foretold_L55] at h
    refine aw_iload_n dX12_foretold_55 rfl rfl (aw_pc (pc' := 56) rfl ?_)
    refine aw_iload_n dX12_foretold_56 rfl rfl (aw_pc (pc' := 57) rfl ?_)
    refine ac_ge rfl rfl dX12_foretold_57 rfl (fun c => ?_) (fun c => ?_)
    · replace h := h.1 c
      refine aw_aload_n dX12_foretold_60 rfl rfl (aw_pc (pc' := 61) rfl ?_)
      refine ar_gR fl_RX12_7 dX12_foretold_61 h ?_
      clear h
      intro x1 h
      refine aw_pc (pc' := 64) rfl ?_
      refine aw_bipush dX12_foretold_64 (by decide) (aw_pc (pc' := 66) rfl ?_)
      refine ar_aI dX12_foretold_66 h ?_
      clear h
      intro x2 h
      refine aw_pc (pc' := 67) rfl ?_
      refine aw_sipush dX12_foretold_67 (by decide) (aw_pc (pc' := 70) rfl ?_)
      refine ac_ge rfl wl_9999 dX12_foretold_70 rfl (fun c => ?_) (fun c => ?_)
      · replace h := h.1 c
        refine aw_aload_n dX12_foretold_73 rfl rfl (aw_pc (pc' := 74) rfl ?_)
        have h0 := rcv_inv h
        clear h
        obtain ⟨o4, fs_o4, hr_o4, he_o4, h⟩ := h0
        obtain rfl : o = o4 := Option.some.inj hr_o4
        refine ar_VV (kc' := 0) (ks' := 0) (kc := 0) (ks := 0) (a := o) (ci := 12) (as := []) (st := []) (tX12_pass h) mt_X12_pass rfl qM_RX12_367 qI_X12_pass qV_X12_pass he_o4 rfl (Nat.le_of_ble_eq_true rfl) dX12_foretold_74 ?_
        clear h
        intro F3 h
        refine aw_pc (pc' := 77) rfl ?_
        exact aw_mask [true, true, true, true, false] (tX12_foretold_J77 (fun o' a1' a2' a3' F' h' => ih o' a1' a2' a3' F' h') h)
      · replace h := h.2 c
        exact aw_mask [true, true, true, true, false] (tX12_foretold_J77 (fun o' a1' a2' a3' F' h' => ih o' a1' a2' a3' F' h') h)
    · replace h := h.2 c
      refine aw_iload_n dX12_foretold_83 rfl rfl (aw_pc (pc' := 84) rfl ?_)
      refine aw_iconst dX12_foretold_84 (aw_pc (pc' := 85) rfl ?_)
      refine ac_ge rfl wl_2 dX12_foretold_85 rfl (fun c => ?_) (fun c => ?_)
      · replace h := h.1 c
        refine aw_aload_n dX12_foretold_88 rfl rfl (aw_pc (pc' := 89) rfl ?_)
        refine ar_gR fl_RX12_7 dX12_foretold_89 h ?_
        clear h
        intro x5 h
        refine aw_pc (pc' := 92) rfl ?_
        refine aw_bipush dX12_foretold_92 (by decide) (aw_pc (pc' := 94) rfl ?_)
        refine aw_iload_n dX12_foretold_94 rfl rfl (aw_pc (pc' := 95) rfl ?_)
        refine aw_iadd dX12_foretold_95 (aw_pc (pc' := 96) rfl ?_)
        refine ar_aI dX12_foretold_96 h ?_
        clear h
        intro x6 h
        refine aw_pc (pc' := 97) rfl ?_
        refine aw_goto (tgt := 101) dX12_foretold_97 rfl ?_
        exact aw_mask [true, false, true, false, false] (tX12_foretold_J101 h)
      · replace h := h.2 c
        refine aw_iconst dX12_foretold_100 (aw_pc (pc' := 101) rfl ?_)
        exact aw_mask [true, false, true, false, false] (tX12_foretold_J101 h)
def mX12_foretold_L24 (Q : Int → hp → Prop) : Nat → Nat → Int → Int → Int → hp → Prop
  | 0, _, _, _, _, _ => False
  | k + 1, o, a1, a2, a3, F => (w32 a3 < 36 → gR F (some o) 12 25 (fun x1 => gR F (some o) 12 0 (fun x2 => aI F x2 0 a3 (fun x3 => sI F x1 0 a3 x3 (fun F4 => mX12_foretold_L24 Q k o a1 a2 (a3 + 1) F4))))) ∧ (¬ w32 a3 < 36 → pF F (some o) 12 23 (vi 0) (fun F5 => (∃ k6, mX12_foretold_L55 Q k6 o a1 a2 0 F5)))
set_option maxHeartbeats 4000000 in
theorem tX12_foretold_L24 {d : Nat} {Q : Int → hp → Prop} : ∀ (k : Nat) (o : Nat) (a1 : Int) (a2 : Int) (a3 : Int) (F : hp), mX12_foretold_L24 Q k o a1 a2 a3 F → aw nX12_foretold (d + 3) 0 0 24 [some (vr (some o)), some (vi a1), some (vi a2), some (vi a3), none] [] F (qI Q) := by
  intro k
  induction k with
  | zero => intro o a1 a2 a3 F h; exact h.elim
  | succ k ih =>
    intro o a1 a2 a3 F h
    simp only [mX12_foretold_L24] at h
    refine aw_iload_n dX12_foretold_24 rfl rfl (aw_pc (pc' := 25) rfl ?_)
    refine aw_bipush dX12_foretold_25 (by decide) (aw_pc (pc' := 27) rfl ?_)
    refine ac_ge rfl wl_36 dX12_foretold_27 rfl (fun c => ?_) (fun c => ?_)
    · replace h := h.1 c
      refine aw_aload_n dX12_foretold_30 rfl rfl (aw_pc (pc' := 31) rfl ?_)
      refine ar_gR fl_RX12_47 dX12_foretold_31 h ?_
      clear h
      intro x1 h
      refine aw_pc (pc' := 34) rfl ?_
      refine aw_iload_n dX12_foretold_34 rfl rfl (aw_pc (pc' := 35) rfl ?_)
      refine aw_aload_n dX12_foretold_35 rfl rfl (aw_pc (pc' := 36) rfl ?_)
      refine ar_gR fl_RX12_7 dX12_foretold_36 h ?_
      clear h
      intro x2 h
      refine aw_pc (pc' := 39) rfl ?_
      refine aw_iload_n dX12_foretold_39 rfl rfl (aw_pc (pc' := 40) rfl ?_)
      refine ar_aI dX12_foretold_40 h ?_
      clear h
      intro x3 h
      refine aw_pc (pc' := 41) rfl ?_
      refine ar_sI dX12_foretold_41 h ?_
      clear h
      intro F4 h
      refine aw_pc (pc' := 42) rfl ?_
      refine aw_iinc dX12_foretold_42 rfl (by decide) (aw_pc (pc' := 45) rfl ?_)
      refine aw_goto (tgt := 24) dX12_foretold_45 rfl ?_
      exact aw_mask [true, true, true, true, false] (ih _ _ _ _ _ h)
    · replace h := h.2 c
      refine aw_aload_n dX12_foretold_48 rfl rfl (aw_pc (pc' := 49) rfl ?_)
      refine aw_iconst dX12_foretold_49 (aw_pc (pc' := 50) rfl ?_)
      refine ar_pF fl_RX12_43 ft_X12_23 (okZ (by decide)) dX12_foretold_50 h ?_
      clear h
      intro F5 h
      refine aw_pc (pc' := 53) rfl ?_
      refine aw_iconst dX12_foretold_53 (aw_pc (pc' := 54) rfl ?_)
      refine aw_istore_n dX12_foretold_54 rfl (by decide) (aw_pc (pc' := 55) rfl ?_)
      obtain ⟨k6, h⟩ := h
      exact aw_mask [true, true, true, true, false] (tX12_foretold_L55 k6 _ _ _ _ _ h)
def mX12_foretold (o : Nat) (a1 : Int) (a2 : Int) (F : hp) (Q : Int → hp → Prop) : Prop := mX12_isIn a1 1 60 F (fun x2 F1 => (w32 x2 = 0 → Q (-1) F1) ∧ (¬ w32 x2 = 0 → mX12_isIn a2 0 2 F1 (fun x4 F3 => (w32 x4 = 0 → Q (-1) F3) ∧ (¬ w32 x4 = 0 → (∃ k5, mX12_foretold_L24 Q k5 o a1 a2 7 F3)))))
set_option maxHeartbeats 4000000 in
theorem tX12_foretold {d : Nat} {o : Nat} {a1 : Int} {a2 : Int} {F : hp} {Q : Int → hp → Prop} (h : mX12_foretold o a1 a2 F Q) : am nX12_foretold (d + 3) 0 0 [vr (some o), vi a1, vi a2] F (qI Q) := by
  refine am_of (by decide +kernel) (Nat.le_of_ble_eq_true rfl) ?_
  show aw nX12_foretold (d + 3) 0 0 0 [some (vr (some o)), some (vi a1), some (vi a2), none, none] [] F (qI Q)
  unfold mX12_foretold at h
  refine aw_iload_n dX12_foretold_0 rfl rfl (aw_pc (pc' := 1) rfl ?_)
  refine aw_iconst dX12_foretold_1 (aw_pc (pc' := 2) rfl ?_)
  refine aw_bipush dX12_foretold_2 (by decide) (aw_pc (pc' := 4) rfl ?_)
  refine ar_SI (kc' := 0) (ks' := 0) (kc := 0) (ks := 0) (as := [vi a1, vi 1, vi 60]) (st := []) (tX12_isIn h) mt_X12_isIn qM_RX12_78 qS_X12_isIn rfl (Nat.le_of_ble_eq_true rfl) dX12_foretold_4 ?_
  clear h
  intro x2 F1 h
  refine aw_pc (pc' := 7) rfl ?_
  refine aw_if_eq dX12_foretold_7 rfl (fun c => ?_) (fun c => ?_)
  · replace h := h.1 c
    refine aw_iconst dX12_foretold_19 (aw_pc (pc' := 20) rfl ?_)
    exact aw_iret rfl dX12_foretold_20 ⟨_, rfl, h⟩
  · replace h := h.2 c
    refine aw_iload_n dX12_foretold_10 rfl rfl (aw_pc (pc' := 11) rfl ?_)
    refine aw_iconst dX12_foretold_11 (aw_pc (pc' := 12) rfl ?_)
    refine aw_iconst dX12_foretold_12 (aw_pc (pc' := 13) rfl ?_)
    refine ar_SI (kc' := 0) (ks' := 0) (kc := 0) (ks := 0) (as := [vi a2, vi 0, vi 2]) (st := []) (tX12_isIn h) mt_X12_isIn qM_RX12_78 qS_X12_isIn rfl (Nat.le_of_ble_eq_true rfl) dX12_foretold_13 ?_
    clear h
    intro x4 F3 h
    refine aw_pc (pc' := 16) rfl ?_
    refine aw_if_ne dX12_foretold_16 rfl (fun c => ?_) (fun c => ?_)
    · replace h := h.1 c
      refine aw_iconst dX12_foretold_19 (aw_pc (pc' := 20) rfl ?_)
      exact aw_iret rfl dX12_foretold_20 ⟨_, rfl, h⟩
    · replace h := h.2 c
      refine aw_bipush dX12_foretold_21 (by decide) (aw_pc (pc' := 23) rfl ?_)
      refine aw_istore_n dX12_foretold_23 rfl (by decide) (aw_pc (pc' := 24) rfl ?_)
      obtain ⟨k5, h⟩ := h
      exact aw_mask [true, true, true, true, false] (tX12_foretold_L24 k5 _ _ _ _ _ h)
def mX12_factorial_L4 (Q : Int → hp → Prop) : Nat → Int → Int → Int → hp → Prop
  | 0, _, _, _, _ => False
  | k + 1, a0, a1, a2, F => (w32 a0 < w32 a2 → Q a1 F) ∧ (¬ w32 a0 < w32 a2 → ∀ v1 : Int, v1 = (a1 * a2) → mX12_factorial_L4 Q k a0 v1 (a2 + 1) F)
set_option maxHeartbeats 4000000 in
theorem tX12_factorial_L4 {d : Nat} {Q : Int → hp → Prop} : ∀ (k : Nat) (a0 : Int) (a1 : Int) (a2 : Int) (F : hp), mX12_factorial_L4 Q k a0 a1 a2 F → aw nX12_factorial d 0 0 4 [some (vi a0), some (vi a1), some (vi a2)] [] F (qI Q) := by
  intro k
  induction k with
  | zero => intro a0 a1 a2 F h; exact h.elim
  | succ k ih =>
    intro a0 a1 a2 F h
    simp only [mX12_factorial_L4] at h
    refine aw_iload_n dX12_factorial_4 rfl rfl (aw_pc (pc' := 5) rfl ?_)
    refine aw_iload_n dX12_factorial_5 rfl rfl (aw_pc (pc' := 6) rfl ?_)
    refine ac_gt rfl rfl dX12_factorial_6 rfl (fun c => ?_) (fun c => ?_)
    · replace h := h.1 c
      refine aw_iload_n dX12_factorial_19 rfl rfl (aw_pc (pc' := 20) rfl ?_)
      exact aw_iret rfl dX12_factorial_20 ⟨_, rfl, h⟩
    · replace h := h.2 c
      refine aw_iload_n dX12_factorial_9 rfl rfl (aw_pc (pc' := 10) rfl ?_)
      refine aw_iload_n dX12_factorial_10 rfl rfl (aw_pc (pc' := 11) rfl ?_)
      refine aw_imul dX12_factorial_11 (aw_pc (pc' := 12) rfl ?_)
      generalize hv_v1 : (a1 * a2) = v1
      replace h := h v1 hv_v1.symm
      refine aw_istore_n dX12_factorial_12 rfl (by decide) (aw_pc (pc' := 13) rfl ?_)
      refine aw_iinc dX12_factorial_13 rfl (by decide) (aw_pc (pc' := 16) rfl ?_)
      refine aw_goto (tgt := 4) dX12_factorial_16 rfl ?_
      exact aw_mask [true, true, true] (ih _ _ _ _ h)
def mX12_factorial (a0 : Int) (F : hp) (Q : Int → hp → Prop) : Prop := (∃ k1, mX12_factorial_L4 Q k1 a0 1 2 F)
set_option maxHeartbeats 4000000 in
theorem tX12_factorial {d : Nat} {a0 : Int} {F : hp} {Q : Int → hp → Prop} (h : mX12_factorial a0 F Q) : am nX12_factorial d 0 0 [vi a0] F (qI Q) := by
  refine am_of (by decide +kernel) (Nat.le_of_ble_eq_true rfl) ?_
  show aw nX12_factorial d 0 0 0 [some (vi a0), none, none] [] F (qI Q)
  unfold mX12_factorial at h
  refine aw_iconst dX12_factorial_0 (aw_pc (pc' := 1) rfl ?_)
  refine aw_istore_n dX12_factorial_1 rfl (by decide) (aw_pc (pc' := 2) rfl ?_)
  refine aw_iconst dX12_factorial_2 (aw_pc (pc' := 3) rfl ?_)
  refine aw_istore_n dX12_factorial_3 rfl (by decide) (aw_pc (pc' := 4) rfl ?_)
  obtain ⟨k1, h⟩ := h
  exact aw_mask [true, true, true] (tX12_factorial_L4 k1 _ _ _ _ h)
def mX12_layRow_J107 (X10 : Nat → Int → Int → Int → Int → hp → Prop) (Q : hp → Prop) (o : Nat) (a2 : Int) (a3 : Int) (a4 : Int) (a5 : Int) (F : hp) : Prop := X10 o a2 a3 a4 (a5 + (-1)) F
set_option maxHeartbeats 4000000 in
theorem tX12_layRow_J107 {d : Nat} {X10 : Nat → Int → Int → Int → Int → hp → Prop} {Q : hp → Prop} (hX10 : ∀ (o : Nat) (a2 : Int) (a3 : Int) (a4 : Int) (a5 : Int) (F : hp), X10 o a2 a3 a4 a5 F → aw nX12_layRow (d + 1) 0 0 10 [some (vr (some o)), none, some (vi a2), some (vi a3), some (vi a4), some (vi a5), none, none] [] F (qV Q)) {o : Nat} {a2 : Int} {a3 : Int} {a4 : Int} {a5 : Int} {F : hp} (h : mX12_layRow_J107 X10 Q o a2 a3 a4 a5 F) : aw nX12_layRow (d + 1) 0 0 107 [some (vr (some o)), none, some (vi a2), some (vi a3), some (vi a4), some (vi a5), none, none] [] F (qV Q) := by
  unfold mX12_layRow_J107 at h
  refine aw_iinc dX12_layRow_107 rfl (by decide) (aw_pc (pc' := 110) rfl ?_)
  refine aw_goto (tgt := 10) dX12_layRow_110 rfl ?_
  exact aw_mask [true, false, true, true, true, true, false, false] (hX10 _ _ _ _ _ _ h)
def mX12_layRow_J65 (X10 : Nat → Int → Int → Int → Int → hp → Prop) (X35 : Nat → Int → Int → Int → Int → Int → Int → hp → Prop) (Q : hp → Prop) (o : Nat) (a2 : Int) (a3 : Int) (a4 : Int) (a5 : Int) (a7 : Int) (s0 : Int) (s1 : Int) (F : hp) : Prop := ∀ v1 : Int, v1 = (s0 - s1) → X35 o a2 a3 a4 a5 v1 (a7 + 1) F
set_option maxHeartbeats 4000000 in
theorem tX12_layRow_J65 {d : Nat} {X10 : Nat → Int → Int → Int → Int → hp → Prop} {X35 : Nat → Int → Int → Int → Int → Int → Int → hp → Prop} {Q : hp → Prop} (hX10 : ∀ (o : Nat) (a2 : Int) (a3 : Int) (a4 : Int) (a5 : Int) (F : hp), X10 o a2 a3 a4 a5 F → aw nX12_layRow (d + 1) 0 0 10 [some (vr (some o)), none, some (vi a2), some (vi a3), some (vi a4), some (vi a5), none, none] [] F (qV Q)) (hX35 : ∀ (o : Nat) (a2 : Int) (a3 : Int) (a4 : Int) (a5 : Int) (a6 : Int) (a7 : Int) (F : hp), X35 o a2 a3 a4 a5 a6 a7 F → aw nX12_layRow (d + 1) 0 0 35 [some (vr (some o)), none, some (vi a2), some (vi a3), some (vi a4), some (vi a5), some (vi a6), some (vi a7)] [] F (qV Q)) {o : Nat} {a2 : Int} {a3 : Int} {a4 : Int} {a5 : Int} {a7 : Int} {s0 : Int} {s1 : Int} {F : hp} (h : mX12_layRow_J65 X10 X35 Q o a2 a3 a4 a5 a7 s0 s1 F) : aw nX12_layRow (d + 1) 0 0 65 [some (vr (some o)), none, some (vi a2), some (vi a3), some (vi a4), some (vi a5), none, some (vi a7)] [vi s1, vi s0] F (qV Q) := by
  unfold mX12_layRow_J65 at h
  refine aw_isub dX12_layRow_65 (aw_pc (pc' := 66) rfl ?_)
  generalize hv_v1 : (s0 - s1) = v1
  replace h := h v1 hv_v1.symm
  refine aw_istore dX12_layRow_66 (by decide) (aw_pc (pc' := 68) rfl ?_)
  refine aw_iinc dX12_layRow_68 rfl (by decide) (aw_pc (pc' := 71) rfl ?_)
  refine aw_goto (tgt := 35) dX12_layRow_71 rfl ?_
  exact aw_mask [true, false, true, true, true, true, true, true] (hX35 _ _ _ _ _ _ _ _ h)
def mX12_layRow_J49 (X10 : Nat → Int → Int → Int → Int → hp → Prop) (X35 : Nat → Int → Int → Int → Int → Int → Int → hp → Prop) (Q : hp → Prop) (o : Nat) (a2 : Int) (a3 : Int) (a4 : Int) (a5 : Int) (a6 : Int) (a7 : Int) (F : hp) : Prop := mX12_has a3 a7 F (fun x2 F1 => (w32 x2 = 0 → mX12_layRow_J65 X10 X35 Q o a2 a3 a4 a5 a7 a6 1 F1) ∧ (¬ w32 x2 = 0 → mX12_layRow_J65 X10 X35 Q o a2 a3 a4 a5 a7 a6 0 F1))
set_option maxHeartbeats 4000000 in
theorem tX12_layRow_J49 {d : Nat} {X10 : Nat → Int → Int → Int → Int → hp → Prop} {X35 : Nat → Int → Int → Int → Int → Int → Int → hp → Prop} {Q : hp → Prop} (hX10 : ∀ (o : Nat) (a2 : Int) (a3 : Int) (a4 : Int) (a5 : Int) (F : hp), X10 o a2 a3 a4 a5 F → aw nX12_layRow (d + 1) 0 0 10 [some (vr (some o)), none, some (vi a2), some (vi a3), some (vi a4), some (vi a5), none, none] [] F (qV Q)) (hX35 : ∀ (o : Nat) (a2 : Int) (a3 : Int) (a4 : Int) (a5 : Int) (a6 : Int) (a7 : Int) (F : hp), X35 o a2 a3 a4 a5 a6 a7 F → aw nX12_layRow (d + 1) 0 0 35 [some (vr (some o)), none, some (vi a2), some (vi a3), some (vi a4), some (vi a5), some (vi a6), some (vi a7)] [] F (qV Q)) {o : Nat} {a2 : Int} {a3 : Int} {a4 : Int} {a5 : Int} {a6 : Int} {a7 : Int} {F : hp} (h : mX12_layRow_J49 X10 X35 Q o a2 a3 a4 a5 a6 a7 F) : aw nX12_layRow (d + 1) 0 0 49 [some (vr (some o)), none, some (vi a2), some (vi a3), some (vi a4), some (vi a5), some (vi a6), some (vi a7)] [] F (qV Q) := by
  unfold mX12_layRow_J49 at h
  refine aw_iload dX12_layRow_49 rfl (aw_pc (pc' := 51) rfl ?_)
  refine aw_iload_n dX12_layRow_51 rfl rfl (aw_pc (pc' := 52) rfl ?_)
  refine aw_iload dX12_layRow_52 rfl (aw_pc (pc' := 54) rfl ?_)
  refine ar_SI (kc' := 0) (ks' := 0) (kc := 0) (ks := 0) (as := [vi a3, vi a7]) (st := [vi a6]) (tX12_has h) mt_X12_has qM_RX12_90 qS_X12_has rfl (Nat.le_of_ble_eq_true rfl) dX12_layRow_54 ?_
  clear h
  intro x2 F1 h
  refine aw_pc (pc' := 57) rfl ?_
  refine aw_if_eq dX12_layRow_57 rfl (fun c => ?_) (fun c => ?_)
  · replace h := h.1 c
    refine aw_iconst dX12_layRow_64 (aw_pc (pc' := 65) rfl ?_)
    exact aw_mask [true, false, true, true, true, true, false, true] (tX12_layRow_J65 hX10 hX35 h)
  · replace h := h.2 c
    refine aw_iconst dX12_layRow_60 (aw_pc (pc' := 61) rfl ?_)
    refine aw_goto (tgt := 65) dX12_layRow_61 rfl ?_
    exact aw_mask [true, false, true, true, true, true, false, true] (tX12_layRow_J65 hX10 hX35 h)
def mX12_layRow_L35 (X10 : Nat → Int → Int → Int → Int → hp → Prop) (Q : hp → Prop) : Nat → Nat → Int → Int → Int → Int → Int → Int → hp → Prop
  | 0, _, _, _, _, _, _, _, _ => False
  | k + 1, o, a2, a3, a4, a5, a6, a7, F => mX12_has a3 a7 F (fun x2 F1 => (w32 x2 = 0 → (0 < w32 a6 → mX12_layRow_J49 X10 (fun o' a2' a3' a4' a5' a6' a7' F' => mX12_layRow_L35 X10 Q k o' a2' a3' a4' a5' a6' a7' F') Q o a2 a3 a4 a5 a6 a7 F1) ∧ (¬ 0 < w32 a6 → ∀ v3 : Int, v3 = (iOr a3 (iShl 1 a7)) → gR F1 (some o) 12 0 (fun x4 => aI F1 x4 0 0 (fun x5 => (w32 a7 < w32 x5 → gR F1 (some o) 12 26 (fun x6 => sI F1 x6 0 a4 a7 (fun F7 => mX12_layRow_J107 X10 Q o a2 v3 (a4 + 1) a5 F7))) ∧ (¬ w32 a7 < w32 x5 → mX12_layRow_J107 X10 Q o a2 v3 a4 a5 F1))))) ∧ (¬ w32 x2 = 0 → mX12_layRow_J49 X10 (fun o' a2' a3' a4' a5' a6' a7' F' => mX12_layRow_L35 X10 Q k o' a2' a3' a4' a5' a6' a7' F') Q o a2 a3 a4 a5 a6 a7 F1))
set_option maxHeartbeats 4000000 in
theorem tX12_layRow_L35 {d : Nat} {X10 : Nat → Int → Int → Int → Int → hp → Prop} {Q : hp → Prop} (hX10 : ∀ (o : Nat) (a2 : Int) (a3 : Int) (a4 : Int) (a5 : Int) (F : hp), X10 o a2 a3 a4 a5 F → aw nX12_layRow (d + 1) 0 0 10 [some (vr (some o)), none, some (vi a2), some (vi a3), some (vi a4), some (vi a5), none, none] [] F (qV Q)) : ∀ (k : Nat) (o : Nat) (a2 : Int) (a3 : Int) (a4 : Int) (a5 : Int) (a6 : Int) (a7 : Int) (F : hp), mX12_layRow_L35 X10 Q k o a2 a3 a4 a5 a6 a7 F → aw nX12_layRow (d + 1) 0 0 35 [some (vr (some o)), none, some (vi a2), some (vi a3), some (vi a4), some (vi a5), some (vi a6), some (vi a7)] [] F (qV Q) := by
  intro k
  induction k with
  | zero => intro o a2 a3 a4 a5 a6 a7 F h; exact h.elim
  | succ k ih =>
    intro o a2 a3 a4 a5 a6 a7 F h
    simp only [mX12_layRow_L35] at h
    refine aw_iload_n dX12_layRow_35 rfl rfl (aw_pc (pc' := 36) rfl ?_)
    refine aw_iload dX12_layRow_36 rfl (aw_pc (pc' := 38) rfl ?_)
    refine ar_SI (kc' := 0) (ks' := 0) (kc := 0) (ks := 0) (as := [vi a3, vi a7]) (st := []) (tX12_has h) mt_X12_has qM_RX12_90 qS_X12_has rfl (Nat.le_of_ble_eq_true rfl) dX12_layRow_38 ?_
    clear h
    intro x2 F1 h
    refine aw_pc (pc' := 41) rfl ?_
    refine aw_if_ne dX12_layRow_41 rfl (fun c => ?_) (fun c => ?_)
    · replace h := h.1 c
      refine aw_iload dX12_layRow_44 rfl (aw_pc (pc' := 46) rfl ?_)
      refine aw_if_le dX12_layRow_46 rfl (fun c => ?_) (fun c => ?_)
      · replace h := h.1 c
        exact aw_mask [true, false, true, true, true, true, true, true] (tX12_layRow_J49 hX10 (fun o' a2' a3' a4' a5' a6' a7' F' h' => ih o' a2' a3' a4' a5' a6' a7' F' h') h)
      · replace h := h.2 c
        refine aw_iload_n dX12_layRow_74 rfl rfl (aw_pc (pc' := 75) rfl ?_)
        refine aw_iconst dX12_layRow_75 (aw_pc (pc' := 76) rfl ?_)
        refine aw_iload dX12_layRow_76 rfl (aw_pc (pc' := 78) rfl ?_)
        refine aw_ishl dX12_layRow_78 (aw_pc (pc' := 79) rfl ?_)
        refine aw_ior dX12_layRow_79 (aw_pc (pc' := 80) rfl ?_)
        generalize hv_v3 : (iOr a3 (iShl 1 a7)) = v3
        replace h := h v3 hv_v3.symm
        refine aw_istore_n dX12_layRow_80 rfl (by decide) (aw_pc (pc' := 81) rfl ?_)
        refine aw_iload dX12_layRow_81 rfl (aw_pc (pc' := 83) rfl ?_)
        refine aw_aload_n dX12_layRow_83 rfl rfl (aw_pc (pc' := 84) rfl ?_)
        refine ar_gR fl_RX12_7 dX12_layRow_84 h ?_
        clear h
        intro x4 h
        refine aw_pc (pc' := 87) rfl ?_
        refine aw_iconst dX12_layRow_87 (aw_pc (pc' := 88) rfl ?_)
        refine ar_aI dX12_layRow_88 h ?_
        clear h
        intro x5 h
        refine aw_pc (pc' := 89) rfl ?_
        refine ac_lt rfl rfl dX12_layRow_89 rfl (fun c => ?_) (fun c => ?_)
        · replace h := h.1 c
          refine aw_aload_n dX12_layRow_95 rfl rfl (aw_pc (pc' := 96) rfl ?_)
          refine ar_gR fl_RX12_50 dX12_layRow_96 h ?_
          clear h
          intro x6 h
          refine aw_pc (pc' := 99) rfl ?_
          refine aw_iload dX12_layRow_99 rfl (aw_pc (pc' := 101) rfl ?_)
          refine aw_iload dX12_layRow_101 rfl (aw_pc (pc' := 103) rfl ?_)
          refine ar_sI dX12_layRow_103 h ?_
          clear h
          intro F7 h
          refine aw_pc (pc' := 104) rfl ?_
          refine aw_iinc dX12_layRow_104 rfl (by decide) (aw_pc (pc' := 107) rfl ?_)
          exact aw_mask [true, false, true, true, true, true, false, false] (tX12_layRow_J107 hX10 h)
        · replace h := h.2 c
          refine aw_goto (tgt := 107) dX12_layRow_92 rfl ?_
          exact aw_mask [true, false, true, true, true, true, false, false] (tX12_layRow_J107 hX10 h)
    · replace h := h.2 c
      exact aw_mask [true, false, true, true, true, true, true, true] (tX12_layRow_J49 hX10 (fun o' a2' a3' a4' a5' a6' a7' F' h' => ih o' a2' a3' a4' a5' a6' a7' F' h') h)
def mX12_layRow_L10 (Q : hp → Prop) : Nat → Nat → Int → Int → Int → Int → hp → Prop
  | 0, _, _, _, _, _, _ => False
  | k + 1, o, a2, a3, a4, a5, F => (w32 a5 < 0 → Q F) ∧ (¬ w32 a5 < 0 → mX12_factorial a5 F (fun x2 F1 => w32 x2 ≠ 0 ∧ ∀ v3 : Int, v3 = ((w32 a2).tdiv (w32 x2)) → mX12_factorial a5 F1 (fun x5 F4 => w32 x5 ≠ 0 ∧ ∀ v6 : Int, v6 = ((w32 a2).tmod (w32 x5)) → (∃ k7, mX12_layRow_L35 (fun o' a2' a3' a4' a5' F' => mX12_layRow_L10 Q k o' a2' a3' a4' a5' F') Q k7 o v6 a3 a4 a5 v3 0 F4))))
set_option maxHeartbeats 4000000 in
theorem tX12_layRow_L10 {d : Nat} {Q : hp → Prop} : ∀ (k : Nat) (o : Nat) (a2 : Int) (a3 : Int) (a4 : Int) (a5 : Int) (F : hp), mX12_layRow_L10 Q k o a2 a3 a4 a5 F → aw nX12_layRow (d + 1) 0 0 10 [some (vr (some o)), none, some (vi a2), some (vi a3), some (vi a4), some (vi a5), none, none] [] F (qV Q) := by
  intro k
  induction k with
  | zero => intro o a2 a3 a4 a5 F h; exact h.elim
  | succ k ih =>
    intro o a2 a3 a4 a5 F h
    simp only [mX12_layRow_L10] at h
    refine aw_iload dX12_layRow_10 rfl (aw_pc (pc' := 12) rfl ?_)
    refine aw_if_lt dX12_layRow_12 rfl (fun c => ?_) (fun c => ?_)
    · replace h := h.1 c
      exact aw_vret rfl dX12_layRow_113 ⟨rfl, h⟩
    · replace h := h.2 c
      refine aw_iload_n dX12_layRow_15 rfl rfl (aw_pc (pc' := 16) rfl ?_)
      refine aw_iload dX12_layRow_16 rfl (aw_pc (pc' := 18) rfl ?_)
      refine ar_SI (kc' := 0) (ks' := 0) (kc := 0) (ks := 0) (as := [vi a5]) (st := [vi a2]) (tX12_factorial h) mt_X12_factorial qM_RX12_404 qS_X12_factorial rfl (Nat.le_of_ble_eq_true rfl) dX12_layRow_18 ?_
      clear h
      intro x2 F1 h
      refine aw_pc (pc' := 21) rfl ?_
      refine ac_div rfl h.1 dX12_layRow_21 (aw_pc (pc' := 22) rfl ?_)
      replace h := h.2
      generalize hv_v3 : ((w32 a2).tdiv (w32 x2)) = v3
      replace h := h v3 hv_v3.symm
      refine aw_istore dX12_layRow_22 (by decide) (aw_pc (pc' := 24) rfl ?_)
      refine aw_iload_n dX12_layRow_24 rfl rfl (aw_pc (pc' := 25) rfl ?_)
      refine aw_iload dX12_layRow_25 rfl (aw_pc (pc' := 27) rfl ?_)
      refine ar_SI (kc' := 0) (ks' := 0) (kc := 0) (ks := 0) (as := [vi a5]) (st := [vi a2]) (tX12_factorial h) mt_X12_factorial qM_RX12_404 qS_X12_factorial rfl (Nat.le_of_ble_eq_true rfl) dX12_layRow_27 ?_
      clear h
      intro x5 F4 h
      refine aw_pc (pc' := 30) rfl ?_
      refine ac_rem rfl h.1 dX12_layRow_30 (aw_pc (pc' := 31) rfl ?_)
      replace h := h.2
      generalize hv_v6 : ((w32 a2).tmod (w32 x5)) = v6
      replace h := h v6 hv_v6.symm
      refine aw_istore_n dX12_layRow_31 rfl (by decide) (aw_pc (pc' := 32) rfl ?_)
      refine aw_iconst dX12_layRow_32 (aw_pc (pc' := 33) rfl ?_)
      refine aw_istore dX12_layRow_33 (by decide) (aw_pc (pc' := 35) rfl ?_)
      obtain ⟨k7, h⟩ := h
      exact aw_mask [true, false, true, true, true, true, true, true] (tX12_layRow_L35 (fun o' a2' a3' a4' a5' F' h' => ih o' a2' a3' a4' a5' F' h') k7 _ _ _ _ _ _ _ _ h)
def mX12_layRow (o : Nat) (a1 : Int) (F : hp) (Q : hp → Prop) : Prop := (∃ k1, mX12_layRow_L10 Q k1 o a1 0 0 4 F)
set_option maxHeartbeats 4000000 in
theorem tX12_layRow {d : Nat} {o : Nat} {a1 : Int} {F : hp} {Q : hp → Prop} (h : mX12_layRow o a1 F Q) : am nX12_layRow (d + 1) 0 0 [vr (some o), vi a1] F (qV Q) := by
  refine am_of (by decide +kernel) (Nat.le_of_ble_eq_true rfl) ?_
  show aw nX12_layRow (d + 1) 0 0 0 [some (vr (some o)), some (vi a1), none, none, none, none, none, none] [] F (qV Q)
  unfold mX12_layRow at h
  refine aw_iload_n dX12_layRow_0 rfl rfl (aw_pc (pc' := 1) rfl ?_)
  refine aw_istore_n dX12_layRow_1 rfl (by decide) (aw_pc (pc' := 2) rfl ?_)
  refine aw_iconst dX12_layRow_2 (aw_pc (pc' := 3) rfl ?_)
  refine aw_istore_n dX12_layRow_3 rfl (by decide) (aw_pc (pc' := 4) rfl ?_)
  refine aw_iconst dX12_layRow_4 (aw_pc (pc' := 5) rfl ?_)
  refine aw_istore dX12_layRow_5 (by decide) (aw_pc (pc' := 7) rfl ?_)
  refine aw_iconst dX12_layRow_7 (aw_pc (pc' := 8) rfl ?_)
  refine aw_istore dX12_layRow_8 (by decide) (aw_pc (pc' := 10) rfl ?_)
  obtain ⟨k1, h⟩ := h
  exact aw_mask [true, false, true, true, true, true, false, false] (tX12_layRow_L10 k1 _ _ _ _ _ _ h)
def mX12_isOrder (a0 : Int) (F : hp) (Q : Int → hp → Prop) : Prop := mX12_isIn a0 0 119 F (fun x2 F1 => (((x2 : Int) = 0 ∨ (x2 : Int) = 1) ∧ Q x2 F1))
set_option maxHeartbeats 4000000 in
theorem tX12_isOrder {d : Nat} {a0 : Int} {F : hp} {Q : Int → hp → Prop} (h : mX12_isOrder a0 F Q) : am nX12_isOrder (d + 1) 0 0 [vi a0] F (qI Q) := by
  refine am_of (by decide +kernel) (Nat.le_of_ble_eq_true rfl) ?_
  show aw nX12_isOrder (d + 1) 0 0 0 [some (vi a0)] [] F (qI Q)
  unfold mX12_isOrder at h
  refine aw_iload_n dX12_isOrder_0 rfl rfl (aw_pc (pc' := 1) rfl ?_)
  refine aw_iconst dX12_isOrder_1 (aw_pc (pc' := 2) rfl ?_)
  refine aw_bipush dX12_isOrder_2 (by decide) (aw_pc (pc' := 4) rfl ?_)
  refine ar_SI (kc' := 0) (ks' := 0) (kc := 0) (ks := 0) (as := [vi a0, vi 0, vi 119]) (st := []) (tX12_isIn h) mt_X12_isIn qM_RX12_78 qS_X12_isIn rfl (Nat.le_of_ble_eq_true rfl) dX12_isOrder_4 ?_
  clear h
  intro x2 F1 h
  refine aw_pc (pc' := 7) rfl ?_
  exact aw_zret rfl (nz h.1) dX12_isOrder_7 ⟨_, rfl, h.2⟩
def mX12_order (o : Nat) (a1 : Int) (a2 : Int) (F : hp) (Q : Int → hp → Prop) : Prop := mX12_isOrder a1 F (fun x2 F1 => (w32 x2 = 0 → Q (-2) F1) ∧ (¬ w32 x2 = 0 → gR F1 (some o) 12 0 (fun x3 => aI F1 x3 0 0 (fun x4 => mX12_isIn a2 0 (x4 - 1) F1 (fun x6 F5 => (w32 x6 = 0 → Q (-2) F5) ∧ (¬ w32 x6 = 0 → rcv F5 (some o) 12 (fun o8 => mX12_layRow o8 a1 F5 (fun F7 => gR F7 (some o) 12 26 (fun x9 => aI F7 x9 0 a2 (fun x10 => Q x10 F7))))))))))
set_option maxHeartbeats 4000000 in
theorem tX12_order {d : Nat} {o : Nat} {a1 : Int} {a2 : Int} {F : hp} {Q : Int → hp → Prop} (h : mX12_order o a1 a2 F Q) : am nX12_order (d + 2) 0 0 [vr (some o), vi a1, vi a2] F (qI Q) := by
  refine am_of (by decide +kernel) (Nat.le_of_ble_eq_true rfl) ?_
  show aw nX12_order (d + 2) 0 0 0 [some (vr (some o)), some (vi a1), some (vi a2)] [] F (qI Q)
  unfold mX12_order at h
  refine aw_iload_n dX12_order_0 rfl rfl (aw_pc (pc' := 1) rfl ?_)
  refine ar_SI (kc' := 0) (ks' := 0) (kc := 0) (ks := 0) (as := [vi a1]) (st := []) (tX12_isOrder h) mt_X12_isOrder qM_RX12_407 qS_X12_isOrder rfl (Nat.le_of_ble_eq_true rfl) dX12_order_1 ?_
  clear h
  intro x2 F1 h
  refine aw_pc (pc' := 4) rfl ?_
  refine aw_if_eq dX12_order_4 rfl (fun c => ?_) (fun c => ?_)
  · replace h := h.1 c
    refine aw_bipush dX12_order_23 (by decide) (aw_pc (pc' := 25) rfl ?_)
    exact aw_iret rfl dX12_order_25 ⟨_, rfl, h⟩
  · replace h := h.2 c
    refine aw_iload_n dX12_order_7 rfl rfl (aw_pc (pc' := 8) rfl ?_)
    refine aw_iconst dX12_order_8 (aw_pc (pc' := 9) rfl ?_)
    refine aw_aload_n dX12_order_9 rfl rfl (aw_pc (pc' := 10) rfl ?_)
    refine ar_gR fl_RX12_7 dX12_order_10 h ?_
    clear h
    intro x3 h
    refine aw_pc (pc' := 13) rfl ?_
    refine aw_iconst dX12_order_13 (aw_pc (pc' := 14) rfl ?_)
    refine ar_aI dX12_order_14 h ?_
    clear h
    intro x4 h
    refine aw_pc (pc' := 15) rfl ?_
    refine aw_iconst dX12_order_15 (aw_pc (pc' := 16) rfl ?_)
    refine aw_isub dX12_order_16 (aw_pc (pc' := 17) rfl ?_)
    refine ar_SI (kc' := 0) (ks' := 0) (kc := 0) (ks := 0) (as := [vi a2, vi 0, vi (x4 - 1)]) (st := []) (tX12_isIn h) mt_X12_isIn qM_RX12_78 qS_X12_isIn rfl (Nat.le_of_ble_eq_true rfl) dX12_order_17 ?_
    clear h
    intro x6 F5 h
    refine aw_pc (pc' := 20) rfl ?_
    refine aw_if_ne dX12_order_20 rfl (fun c => ?_) (fun c => ?_)
    · replace h := h.1 c
      refine aw_bipush dX12_order_23 (by decide) (aw_pc (pc' := 25) rfl ?_)
      exact aw_iret rfl dX12_order_25 ⟨_, rfl, h⟩
    · replace h := h.2 c
      refine aw_aload_n dX12_order_26 rfl rfl (aw_pc (pc' := 27) rfl ?_)
      refine aw_iload_n dX12_order_27 rfl rfl (aw_pc (pc' := 28) rfl ?_)
      have h0 := rcv_inv h
      clear h
      obtain ⟨o8, fs_o8, hr_o8, he_o8, h⟩ := h0
      obtain rfl : o = o8 := Option.some.inj hr_o8
      refine ar_VV (kc' := 0) (ks' := 0) (kc := 0) (ks := 0) (a := o) (ci := 12) (as := [vi a1]) (st := []) (tX12_layRow h) mt_X12_layRow rfl qM_RX12_410 qI_X12_layRow qV_X12_layRow he_o8 rfl (Nat.le_of_ble_eq_true rfl) dX12_order_28 ?_
      clear h
      intro F7 h
      refine aw_pc (pc' := 31) rfl ?_
      refine aw_aload_n dX12_order_31 rfl rfl (aw_pc (pc' := 32) rfl ?_)
      refine ar_gR fl_RX12_50 dX12_order_32 h ?_
      clear h
      intro x9 h
      refine aw_pc (pc' := 35) rfl ?_
      refine aw_iload_n dX12_order_35 rfl rfl (aw_pc (pc' := 36) rfl ?_)
      refine ar_aI dX12_order_36 h ?_
      clear h
      intro x10 h
      refine aw_pc (pc' := 37) rfl ?_
      exact aw_iret rfl dX12_order_37 ⟨_, rfl, h⟩
def mX12_want (o : Nat) (a1 : Int) (F : hp) (Q : Int → hp → Prop) : Prop := mX12_isOrder a1 F (fun x2 F1 => (w32 x2 = 0 → Q 0 F1) ∧ (¬ w32 x2 = 0 → gR F1 (some o) 12 0 (fun x3 => sI F1 x3 0 60 a1 (fun F4 => Q 1 F4))))
set_option maxHeartbeats 4000000 in
theorem tX12_want {d : Nat} {o : Nat} {a1 : Int} {F : hp} {Q : Int → hp → Prop} (h : mX12_want o a1 F Q) : am nX12_want (d + 2) 0 0 [vr (some o), vi a1] F (qI Q) := by
  refine am_of (by decide +kernel) (Nat.le_of_ble_eq_true rfl) ?_
  show aw nX12_want (d + 2) 0 0 0 [some (vr (some o)), some (vi a1)] [] F (qI Q)
  unfold mX12_want at h
  refine aw_iload_n dX12_want_0 rfl rfl (aw_pc (pc' := 1) rfl ?_)
  refine ar_SI (kc' := 0) (ks' := 0) (kc := 0) (ks := 0) (as := [vi a1]) (st := []) (tX12_isOrder h) mt_X12_isOrder qM_RX12_407 qS_X12_isOrder rfl (Nat.le_of_ble_eq_true rfl) dX12_want_1 ?_
  clear h
  intro x2 F1 h
  refine aw_pc (pc' := 4) rfl ?_
  refine aw_if_ne dX12_want_4 rfl (fun c => ?_) (fun c => ?_)
  · replace h := h.1 c
    refine aw_iconst dX12_want_7 (aw_pc (pc' := 8) rfl ?_)
    exact aw_zret rfl (by decide) dX12_want_8 ⟨_, rfl, h⟩
  · replace h := h.2 c
    refine aw_aload_n dX12_want_9 rfl rfl (aw_pc (pc' := 10) rfl ?_)
    refine ar_gR fl_RX12_7 dX12_want_10 h ?_
    clear h
    intro x3 h
    refine aw_pc (pc' := 13) rfl ?_
    refine aw_bipush dX12_want_13 (by decide) (aw_pc (pc' := 15) rfl ?_)
    refine aw_iload_n dX12_want_15 rfl rfl (aw_pc (pc' := 16) rfl ?_)
    refine ar_sI dX12_want_16 h ?_
    clear h
    intro F4 h
    refine aw_pc (pc' := 17) rfl ?_
    refine aw_iconst dX12_want_17 (aw_pc (pc' := 18) rfl ?_)
    exact aw_zret rfl (by decide) dX12_want_18 ⟨_, rfl, h⟩
def mX12_takeFrom_L24 (X4 : Nat → Option Nat → Int → Int → hp → Prop) (Q : hp → Prop) : Nat → Nat → Option Nat → Int → Int → Int → hp → Prop
  | 0, _, _, _, _, _, _ => False
  | k + 1, o, a1, a2, a3, a4, F => gR F (some o) 12 28 (fun x1 => aI F x1 0 a3 (fun x2 => (w32 a4 < w32 x2 → gR F (some o) 12 27 (fun x3 => aI F a1 0 ((15 + (5 * a3)) + a4) (fun x4 => sI F x3 0 a2 x4 (fun F5 => mX12_takeFrom_L24 X4 Q k o a1 (a2 + 1) a3 (a4 + 1) F5)))) ∧ (¬ w32 a4 < w32 x2 → X4 o a1 a2 (a3 + 1) F)))
set_option maxHeartbeats 4000000 in
theorem tX12_takeFrom_L24 {d : Nat} {X4 : Nat → Option Nat → Int → Int → hp → Prop} {Q : hp → Prop} (hX4 : ∀ (o : Nat) (a1 : Option Nat) (a2 : Int) (a3 : Int) (F : hp), X4 o a1 a2 a3 F → aw nX12_takeFrom d 0 0 4 [some (vr (some o)), some (vr a1), some (vi a2), some (vi a3), none] [] F (qV Q)) : ∀ (k : Nat) (o : Nat) (a1 : Option Nat) (a2 : Int) (a3 : Int) (a4 : Int) (F : hp), mX12_takeFrom_L24 X4 Q k o a1 a2 a3 a4 F → aw nX12_takeFrom d 0 0 24 [some (vr (some o)), some (vr a1), some (vi a2), some (vi a3), some (vi a4)] [] F (qV Q) := by
  intro k
  induction k with
  | zero => intro o a1 a2 a3 a4 F h; exact h.elim
  | succ k ih =>
    intro o a1 a2 a3 a4 F h
    simp only [mX12_takeFrom_L24] at h
    refine aw_iload dX12_takeFrom_24 rfl (aw_pc (pc' := 26) rfl ?_)
    refine aw_aload_n dX12_takeFrom_26 rfl rfl (aw_pc (pc' := 27) rfl ?_)
    refine ar_gR fl_RX12_56 dX12_takeFrom_27 h ?_
    clear h
    intro x1 h
    refine aw_pc (pc' := 30) rfl ?_
    refine aw_iload_n dX12_takeFrom_30 rfl rfl (aw_pc (pc' := 31) rfl ?_)
    refine ar_aI dX12_takeFrom_31 h ?_
    clear h
    intro x2 h
    refine aw_pc (pc' := 32) rfl ?_
    refine ac_ge rfl rfl dX12_takeFrom_32 rfl (fun c => ?_) (fun c => ?_)
    · replace h := h.1 c
      refine aw_aload_n dX12_takeFrom_35 rfl rfl (aw_pc (pc' := 36) rfl ?_)
      refine ar_gR fl_RX12_53 dX12_takeFrom_36 h ?_
      clear h
      intro x3 h
      refine aw_pc (pc' := 39) rfl ?_
      refine aw_iload_n dX12_takeFrom_39 rfl rfl (aw_pc (pc' := 40) rfl ?_)
      refine aw_aload_n dX12_takeFrom_40 rfl rfl (aw_pc (pc' := 41) rfl ?_)
      refine aw_bipush dX12_takeFrom_41 (by decide) (aw_pc (pc' := 43) rfl ?_)
      refine aw_iconst dX12_takeFrom_43 (aw_pc (pc' := 44) rfl ?_)
      refine aw_iload_n dX12_takeFrom_44 rfl rfl (aw_pc (pc' := 45) rfl ?_)
      refine aw_imul dX12_takeFrom_45 (aw_pc (pc' := 46) rfl ?_)
      refine aw_iadd dX12_takeFrom_46 (aw_pc (pc' := 47) rfl ?_)
      refine aw_iload dX12_takeFrom_47 rfl (aw_pc (pc' := 49) rfl ?_)
      refine aw_iadd dX12_takeFrom_49 (aw_pc (pc' := 50) rfl ?_)
      refine ar_aI dX12_takeFrom_50 h ?_
      clear h
      intro x4 h
      refine aw_pc (pc' := 51) rfl ?_
      refine ar_sI dX12_takeFrom_51 h ?_
      clear h
      intro F5 h
      refine aw_pc (pc' := 52) rfl ?_
      refine aw_iinc dX12_takeFrom_52 rfl (by decide) (aw_pc (pc' := 55) rfl ?_)
      refine aw_iinc dX12_takeFrom_55 rfl (by decide) (aw_pc (pc' := 58) rfl ?_)
      refine aw_goto (tgt := 24) dX12_takeFrom_58 rfl ?_
      exact aw_mask [true, true, true, true, true] (ih _ _ _ _ _ _ h)
    · replace h := h.2 c
      refine aw_iinc dX12_takeFrom_61 rfl (by decide) (aw_pc (pc' := 64) rfl ?_)
      refine aw_goto (tgt := 4) dX12_takeFrom_64 rfl ?_
      exact aw_mask [true, true, true, true, false] (hX4 _ _ _ _ _ h)
def mX12_takeFrom_L4 (Q : hp → Prop) : Nat → Nat → Option Nat → Int → Int → hp → Prop
  | 0, _, _, _, _, _ => False
  | k + 1, o, a1, a2, a3, F => (w32 a3 < 3 → gR F (some o) 12 28 (fun x1 => aI F a1 0 (12 + a3) (fun x2 => sI F x1 0 a3 x2 (fun F3 => (∃ k4, mX12_takeFrom_L24 (fun o' a1' a2' a3' F' => mX12_takeFrom_L4 Q k o' a1' a2' a3' F') Q k4 o a1 a2 a3 0 F3))))) ∧ (¬ w32 a3 < 3 → Q F)
set_option maxHeartbeats 4000000 in
theorem tX12_takeFrom_L4 {d : Nat} {Q : hp → Prop} : ∀ (k : Nat) (o : Nat) (a1 : Option Nat) (a2 : Int) (a3 : Int) (F : hp), mX12_takeFrom_L4 Q k o a1 a2 a3 F → aw nX12_takeFrom d 0 0 4 [some (vr (some o)), some (vr a1), some (vi a2), some (vi a3), none] [] F (qV Q) := by
  intro k
  induction k with
  | zero => intro o a1 a2 a3 F h; exact h.elim
  | succ k ih =>
    intro o a1 a2 a3 F h
    simp only [mX12_takeFrom_L4] at h
    refine aw_iload_n dX12_takeFrom_4 rfl rfl (aw_pc (pc' := 5) rfl ?_)
    refine aw_iconst dX12_takeFrom_5 (aw_pc (pc' := 6) rfl ?_)
    refine ac_ge rfl wl_3 dX12_takeFrom_6 rfl (fun c => ?_) (fun c => ?_)
    · replace h := h.1 c
      refine aw_aload_n dX12_takeFrom_9 rfl rfl (aw_pc (pc' := 10) rfl ?_)
      refine ar_gR fl_RX12_56 dX12_takeFrom_10 h ?_
      clear h
      intro x1 h
      refine aw_pc (pc' := 13) rfl ?_
      refine aw_iload_n dX12_takeFrom_13 rfl rfl (aw_pc (pc' := 14) rfl ?_)
      refine aw_aload_n dX12_takeFrom_14 rfl rfl (aw_pc (pc' := 15) rfl ?_)
      refine aw_bipush dX12_takeFrom_15 (by decide) (aw_pc (pc' := 17) rfl ?_)
      refine aw_iload_n dX12_takeFrom_17 rfl rfl (aw_pc (pc' := 18) rfl ?_)
      refine aw_iadd dX12_takeFrom_18 (aw_pc (pc' := 19) rfl ?_)
      refine ar_aI dX12_takeFrom_19 h ?_
      clear h
      intro x2 h
      refine aw_pc (pc' := 20) rfl ?_
      refine ar_sI dX12_takeFrom_20 h ?_
      clear h
      intro F3 h
      refine aw_pc (pc' := 21) rfl ?_
      refine aw_iconst dX12_takeFrom_21 (aw_pc (pc' := 22) rfl ?_)
      refine aw_istore dX12_takeFrom_22 (by decide) (aw_pc (pc' := 24) rfl ?_)
      obtain ⟨k4, h⟩ := h
      exact aw_mask [true, true, true, true, true] (tX12_takeFrom_L24 (fun o' a1' a2' a3' F' h' => ih o' a1' a2' a3' F' h') k4 _ _ _ _ _ _ h)
    · replace h := h.2 c
      exact aw_vret rfl dX12_takeFrom_67 ⟨rfl, h⟩
def mX12_takeFrom (o : Nat) (a1 : Option Nat) (F : hp) (Q : hp → Prop) : Prop := (∃ k1, mX12_takeFrom_L4 Q k1 o a1 0 0 F)
set_option maxHeartbeats 4000000 in
theorem tX12_takeFrom {d : Nat} {o : Nat} {a1 : Option Nat} {F : hp} {Q : hp → Prop} (h : mX12_takeFrom o a1 F Q) : am nX12_takeFrom d 0 0 [vr (some o), vr a1] F (qV Q) := by
  refine am_of (by decide +kernel) (Nat.le_of_ble_eq_true rfl) ?_
  show aw nX12_takeFrom d 0 0 0 [some (vr (some o)), some (vr a1), none, none, none] [] F (qV Q)
  unfold mX12_takeFrom at h
  refine aw_iconst dX12_takeFrom_0 (aw_pc (pc' := 1) rfl ?_)
  refine aw_istore_n dX12_takeFrom_1 rfl (by decide) (aw_pc (pc' := 2) rfl ?_)
  refine aw_iconst dX12_takeFrom_2 (aw_pc (pc' := 3) rfl ?_)
  refine aw_istore_n dX12_takeFrom_3 rfl (by decide) (aw_pc (pc' := 4) rfl ?_)
  obtain ⟨k1, h⟩ := h
  exact aw_mask [true, true, true, true, false] (tX12_takeFrom_L4 k1 _ _ _ _ _ h)
def mX12_cars (o : Nat) (F : hp) (Q : Int → hp → Prop) : Prop := gR F (some o) 12 28 (fun x1 => aI F x1 0 0 (fun x2 => gR F (some o) 12 28 (fun x3 => aI F x3 0 1 (fun x4 => gR F (some o) 12 28 (fun x5 => aI F x5 0 2 (fun x6 => Q ((x2 + x4) + x6) F))))))
set_option maxHeartbeats 4000000 in
theorem tX12_cars {d : Nat} {o : Nat} {F : hp} {Q : Int → hp → Prop} (h : mX12_cars o F Q) : am nX12_cars d 0 0 [vr (some o)] F (qI Q) := by
  refine am_of (by decide +kernel) (Nat.le_of_ble_eq_true rfl) ?_
  show aw nX12_cars d 0 0 0 [some (vr (some o))] [] F (qI Q)
  unfold mX12_cars at h
  refine aw_aload_n dX12_cars_0 rfl rfl (aw_pc (pc' := 1) rfl ?_)
  refine ar_gR fl_RX12_56 dX12_cars_1 h ?_
  clear h
  intro x1 h
  refine aw_pc (pc' := 4) rfl ?_
  refine aw_iconst dX12_cars_4 (aw_pc (pc' := 5) rfl ?_)
  refine ar_aI dX12_cars_5 h ?_
  clear h
  intro x2 h
  refine aw_pc (pc' := 6) rfl ?_
  refine aw_aload_n dX12_cars_6 rfl rfl (aw_pc (pc' := 7) rfl ?_)
  refine ar_gR fl_RX12_56 dX12_cars_7 h ?_
  clear h
  intro x3 h
  refine aw_pc (pc' := 10) rfl ?_
  refine aw_iconst dX12_cars_10 (aw_pc (pc' := 11) rfl ?_)
  refine ar_aI dX12_cars_11 h ?_
  clear h
  intro x4 h
  refine aw_pc (pc' := 12) rfl ?_
  refine aw_iadd dX12_cars_12 (aw_pc (pc' := 13) rfl ?_)
  refine aw_aload_n dX12_cars_13 rfl rfl (aw_pc (pc' := 14) rfl ?_)
  refine ar_gR fl_RX12_56 dX12_cars_14 h ?_
  clear h
  intro x5 h
  refine aw_pc (pc' := 17) rfl ?_
  refine aw_iconst dX12_cars_17 (aw_pc (pc' := 18) rfl ?_)
  refine ar_aI dX12_cars_18 h ?_
  clear h
  intro x6 h
  refine aw_pc (pc' := 19) rfl ?_
  refine aw_iadd dX12_cars_19 (aw_pc (pc' := 20) rfl ?_)
  exact aw_iret rfl dX12_cars_20 ⟨_, rfl, h⟩
def mX12_standOf_J51 (X9 : Nat → Int → Int → Int → hp → Prop) (X22 : Nat → Int → Int → Int → Int → Int → hp → Prop) (Q : Int → hp → Prop) (o : Nat) (a1 : Int) (a2 : Int) (a3 : Int) (a5 : Int) (s0 : Int) (s1 : Int) (F : hp) : Prop := ∀ v1 : Int, v1 = (s0 + s1) → X22 o a1 a2 a3 v1 (a5 + 1) F
set_option maxHeartbeats 4000000 in
theorem tX12_standOf_J51 {d : Nat} {X9 : Nat → Int → Int → Int → hp → Prop} {X22 : Nat → Int → Int → Int → Int → Int → hp → Prop} {Q : Int → hp → Prop} (hX9 : ∀ (o : Nat) (a1 : Int) (a2 : Int) (a3 : Int) (F : hp), X9 o a1 a2 a3 F → aw nX12_standOf (d + 1) 0 0 9 [some (vr (some o)), some (vi a1), some (vi a2), some (vi a3), none, none] [] F (qI Q)) (hX22 : ∀ (o : Nat) (a1 : Int) (a2 : Int) (a3 : Int) (a4 : Int) (a5 : Int) (F : hp), X22 o a1 a2 a3 a4 a5 F → aw nX12_standOf (d + 1) 0 0 22 [some (vr (some o)), some (vi a1), some (vi a2), some (vi a3), some (vi a4), some (vi a5)] [] F (qI Q)) {o : Nat} {a1 : Int} {a2 : Int} {a3 : Int} {a5 : Int} {s0 : Int} {s1 : Int} {F : hp} (h : mX12_standOf_J51 X9 X22 Q o a1 a2 a3 a5 s0 s1 F) : aw nX12_standOf (d + 1) 0 0 51 [some (vr (some o)), some (vi a1), some (vi a2), some (vi a3), none, some (vi a5)] [vi s1, vi s0] F (qI Q) := by
  unfold mX12_standOf_J51 at h
  refine aw_iadd dX12_standOf_51 (aw_pc (pc' := 52) rfl ?_)
  generalize hv_v1 : (s0 + s1) = v1
  replace h := h v1 hv_v1.symm
  refine aw_istore dX12_standOf_52 (by decide) (aw_pc (pc' := 54) rfl ?_)
  refine aw_iinc dX12_standOf_54 rfl (by decide) (aw_pc (pc' := 57) rfl ?_)
  refine aw_goto (tgt := 22) dX12_standOf_57 rfl ?_
  exact aw_mask [true, true, true, true, true, true] (hX22 _ _ _ _ _ _ _ h)
def mX12_standOf_L22 (X9 : Nat → Int → Int → Int → hp → Prop) (Q : Int → hp → Prop) : Nat → Nat → Int → Int → Int → Int → Int → hp → Prop
  | 0, _, _, _, _, _, _, _ => False
  | k + 1, o, a1, a2, a3, a4, a5, F => (w32 a5 < w32 a1 → gR F (some o) 12 27 (fun x1 => aI F x1 0 a5 (fun x2 => gR F (some o) 12 27 (fun x3 => aI F x3 0 a3 (fun x4 => (w32 x2 < w32 x4 → mX12_standOf_J51 X9 (fun o' a1' a2' a3' a4' a5' F' => mX12_standOf_L22 X9 Q k o' a1' a2' a3' a4' a5' F') Q o a1 a2 a3 a5 a4 1 F) ∧ (¬ w32 x2 < w32 x4 → mX12_standOf_J51 X9 (fun o' a1' a2' a3' a4' a5' F' => mX12_standOf_L22 X9 Q k o' a1' a2' a3' a4' a5' F') Q o a1 a2 a3 a5 a4 0 F)))))) ∧ (¬ w32 a5 < w32 a1 → ∀ v5 : Int, v5 = ((a2 * (a1 - a3)) + a4) → X9 o a1 v5 (a3 + 1) F)
set_option maxHeartbeats 4000000 in
theorem tX12_standOf_L22 {d : Nat} {X9 : Nat → Int → Int → Int → hp → Prop} {Q : Int → hp → Prop} (hX9 : ∀ (o : Nat) (a1 : Int) (a2 : Int) (a3 : Int) (F : hp), X9 o a1 a2 a3 F → aw nX12_standOf (d + 1) 0 0 9 [some (vr (some o)), some (vi a1), some (vi a2), some (vi a3), none, none] [] F (qI Q)) : ∀ (k : Nat) (o : Nat) (a1 : Int) (a2 : Int) (a3 : Int) (a4 : Int) (a5 : Int) (F : hp), mX12_standOf_L22 X9 Q k o a1 a2 a3 a4 a5 F → aw nX12_standOf (d + 1) 0 0 22 [some (vr (some o)), some (vi a1), some (vi a2), some (vi a3), some (vi a4), some (vi a5)] [] F (qI Q) := by
  intro k
  induction k with
  | zero => intro o a1 a2 a3 a4 a5 F h; exact h.elim
  | succ k ih =>
    intro o a1 a2 a3 a4 a5 F h
    simp only [mX12_standOf_L22] at h
    refine aw_iload dX12_standOf_22 rfl (aw_pc (pc' := 24) rfl ?_)
    refine aw_iload_n dX12_standOf_24 rfl rfl (aw_pc (pc' := 25) rfl ?_)
    refine ac_ge rfl rfl dX12_standOf_25 rfl (fun c => ?_) (fun c => ?_)
    · replace h := h.1 c
      refine aw_iload dX12_standOf_28 rfl (aw_pc (pc' := 30) rfl ?_)
      refine aw_aload_n dX12_standOf_30 rfl rfl (aw_pc (pc' := 31) rfl ?_)
      refine ar_gR fl_RX12_53 dX12_standOf_31 h ?_
      clear h
      intro x1 h
      refine aw_pc (pc' := 34) rfl ?_
      refine aw_iload dX12_standOf_34 rfl (aw_pc (pc' := 36) rfl ?_)
      refine ar_aI dX12_standOf_36 h ?_
      clear h
      intro x2 h
      refine aw_pc (pc' := 37) rfl ?_
      refine aw_aload_n dX12_standOf_37 rfl rfl (aw_pc (pc' := 38) rfl ?_)
      refine ar_gR fl_RX12_53 dX12_standOf_38 h ?_
      clear h
      intro x3 h
      refine aw_pc (pc' := 41) rfl ?_
      refine aw_iload_n dX12_standOf_41 rfl rfl (aw_pc (pc' := 42) rfl ?_)
      refine ar_aI dX12_standOf_42 h ?_
      clear h
      intro x4 h
      refine aw_pc (pc' := 43) rfl ?_
      refine ac_ge rfl rfl dX12_standOf_43 rfl (fun c => ?_) (fun c => ?_)
      · replace h := h.1 c
        refine aw_iconst dX12_standOf_46 (aw_pc (pc' := 47) rfl ?_)
        refine aw_goto (tgt := 51) dX12_standOf_47 rfl ?_
        exact aw_mask [true, true, true, true, false, true] (tX12_standOf_J51 hX9 (fun o' a1' a2' a3' a4' a5' F' h' => ih o' a1' a2' a3' a4' a5' F' h') h)
      · replace h := h.2 c
        refine aw_iconst dX12_standOf_50 (aw_pc (pc' := 51) rfl ?_)
        exact aw_mask [true, true, true, true, false, true] (tX12_standOf_J51 hX9 (fun o' a1' a2' a3' a4' a5' F' h' => ih o' a1' a2' a3' a4' a5' F' h') h)
    · replace h := h.2 c
      refine aw_iload_n dX12_standOf_60 rfl rfl (aw_pc (pc' := 61) rfl ?_)
      refine aw_iload_n dX12_standOf_61 rfl rfl (aw_pc (pc' := 62) rfl ?_)
      refine aw_iload_n dX12_standOf_62 rfl rfl (aw_pc (pc' := 63) rfl ?_)
      refine aw_isub dX12_standOf_63 (aw_pc (pc' := 64) rfl ?_)
      refine aw_imul dX12_standOf_64 (aw_pc (pc' := 65) rfl ?_)
      refine aw_iload dX12_standOf_65 rfl (aw_pc (pc' := 67) rfl ?_)
      refine aw_iadd dX12_standOf_67 (aw_pc (pc' := 68) rfl ?_)
      generalize hv_v5 : ((a2 * (a1 - a3)) + a4) = v5
      replace h := h v5 hv_v5.symm
      refine aw_istore_n dX12_standOf_68 rfl (by decide) (aw_pc (pc' := 69) rfl ?_)
      refine aw_iinc dX12_standOf_69 rfl (by decide) (aw_pc (pc' := 72) rfl ?_)
      refine aw_goto (tgt := 9) dX12_standOf_72 rfl ?_
      exact aw_mask [true, true, true, true, false, false] (hX9 _ _ _ _ _ h)
def mX12_standOf_L9 (Q : Int → hp → Prop) : Nat → Nat → Int → Int → Int → hp → Prop
  | 0, _, _, _, _, _ => False
  | k + 1, o, a1, a2, a3, F => (w32 a3 < w32 a1 → ∀ v1 : Int, v1 = (a3 + 1) → (∃ k2, mX12_standOf_L22 (fun o' a1' a2' a3' F' => mX12_standOf_L9 Q k o' a1' a2' a3' F') Q k2 o a1 a2 a3 0 v1 F)) ∧ (¬ w32 a3 < w32 a1 → gR F (some o) 12 28 (fun x3 => aI F x3 0 0 (fun x4 => gR F (some o) 12 28 (fun x5 => aI F x5 0 1 (fun x6 => Q (((36 * a2) + (6 * x4)) + x6) F)))))
set_option maxHeartbeats 4000000 in
theorem tX12_standOf_L9 {d : Nat} {Q : Int → hp → Prop} : ∀ (k : Nat) (o : Nat) (a1 : Int) (a2 : Int) (a3 : Int) (F : hp), mX12_standOf_L9 Q k o a1 a2 a3 F → aw nX12_standOf (d + 1) 0 0 9 [some (vr (some o)), some (vi a1), some (vi a2), some (vi a3), none, none] [] F (qI Q) := by
  intro k
  induction k with
  | zero => intro o a1 a2 a3 F h; exact h.elim
  | succ k ih =>
    intro o a1 a2 a3 F h
    simp only [mX12_standOf_L9] at h
    refine aw_iload_n dX12_standOf_9 rfl rfl (aw_pc (pc' := 10) rfl ?_)
    refine aw_iload_n dX12_standOf_10 rfl rfl (aw_pc (pc' := 11) rfl ?_)
    refine ac_ge rfl rfl dX12_standOf_11 rfl (fun c => ?_) (fun c => ?_)
    · replace h := h.1 c
      refine aw_iconst dX12_standOf_14 (aw_pc (pc' := 15) rfl ?_)
      refine aw_istore dX12_standOf_15 (by decide) (aw_pc (pc' := 17) rfl ?_)
      refine aw_iload_n dX12_standOf_17 rfl rfl (aw_pc (pc' := 18) rfl ?_)
      refine aw_iconst dX12_standOf_18 (aw_pc (pc' := 19) rfl ?_)
      refine aw_iadd dX12_standOf_19 (aw_pc (pc' := 20) rfl ?_)
      generalize hv_v1 : (a3 + 1) = v1
      replace h := h v1 hv_v1.symm
      refine aw_istore dX12_standOf_20 (by decide) (aw_pc (pc' := 22) rfl ?_)
      obtain ⟨k2, h⟩ := h
      exact aw_mask [true, true, true, true, true, true] (tX12_standOf_L22 (fun o' a1' a2' a3' F' h' => ih o' a1' a2' a3' F' h') k2 _ _ _ _ _ _ _ h)
    · replace h := h.2 c
      refine aw_bipush dX12_standOf_75 (by decide) (aw_pc (pc' := 77) rfl ?_)
      refine aw_iload_n dX12_standOf_77 rfl rfl (aw_pc (pc' := 78) rfl ?_)
      refine aw_imul dX12_standOf_78 (aw_pc (pc' := 79) rfl ?_)
      refine aw_bipush dX12_standOf_79 (by decide) (aw_pc (pc' := 81) rfl ?_)
      refine aw_aload_n dX12_standOf_81 rfl rfl (aw_pc (pc' := 82) rfl ?_)
      refine ar_gR fl_RX12_56 dX12_standOf_82 h ?_
      clear h
      intro x3 h
      refine aw_pc (pc' := 85) rfl ?_
      refine aw_iconst dX12_standOf_85 (aw_pc (pc' := 86) rfl ?_)
      refine ar_aI dX12_standOf_86 h ?_
      clear h
      intro x4 h
      refine aw_pc (pc' := 87) rfl ?_
      refine aw_imul dX12_standOf_87 (aw_pc (pc' := 88) rfl ?_)
      refine aw_iadd dX12_standOf_88 (aw_pc (pc' := 89) rfl ?_)
      refine aw_aload_n dX12_standOf_89 rfl rfl (aw_pc (pc' := 90) rfl ?_)
      refine ar_gR fl_RX12_56 dX12_standOf_90 h ?_
      clear h
      intro x5 h
      refine aw_pc (pc' := 93) rfl ?_
      refine aw_iconst dX12_standOf_93 (aw_pc (pc' := 94) rfl ?_)
      refine ar_aI dX12_standOf_94 h ?_
      clear h
      intro x6 h
      refine aw_pc (pc' := 95) rfl ?_
      refine aw_iadd dX12_standOf_95 (aw_pc (pc' := 96) rfl ?_)
      exact aw_iret rfl dX12_standOf_96 ⟨_, rfl, h⟩
def mX12_standOf (o : Nat) (F : hp) (Q : Int → hp → Prop) : Prop := rcv F (some o) 12 (fun o3 => mX12_cars o3 F (fun x2 F1 => (∃ k4, mX12_standOf_L9 Q k4 o x2 0 0 F1)))
set_option maxHeartbeats 4000000 in
theorem tX12_standOf {d : Nat} {o : Nat} {F : hp} {Q : Int → hp → Prop} (h : mX12_standOf o F Q) : am nX12_standOf (d + 1) 0 0 [vr (some o)] F (qI Q) := by
  refine am_of (by decide +kernel) (Nat.le_of_ble_eq_true rfl) ?_
  show aw nX12_standOf (d + 1) 0 0 0 [some (vr (some o)), none, none, none, none, none] [] F (qI Q)
  unfold mX12_standOf at h
  refine aw_aload_n dX12_standOf_0 rfl rfl (aw_pc (pc' := 1) rfl ?_)
  have h0 := rcv_inv h
  clear h
  obtain ⟨o3, fs_o3, hr_o3, he_o3, h⟩ := h0
  obtain rfl : o = o3 := Option.some.inj hr_o3
  refine ar_VI (kc' := 0) (ks' := 0) (kc := 0) (ks := 0) (a := o) (ci := 12) (as := []) (st := []) (tX12_cars h) mt_X12_cars rfl qM_RX12_413 qI_X12_cars qV_X12_cars he_o3 rfl (Nat.le_of_ble_eq_true rfl) dX12_standOf_1 ?_
  clear h
  intro x2 F1 h
  refine aw_pc (pc' := 4) rfl ?_
  refine aw_istore_n dX12_standOf_4 rfl (by decide) (aw_pc (pc' := 5) rfl ?_)
  refine aw_iconst dX12_standOf_5 (aw_pc (pc' := 6) rfl ?_)
  refine aw_istore_n dX12_standOf_6 rfl (by decide) (aw_pc (pc' := 7) rfl ?_)
  refine aw_iconst dX12_standOf_7 (aw_pc (pc' := 8) rfl ?_)
  refine aw_istore_n dX12_standOf_8 rfl (by decide) (aw_pc (pc' := 9) rfl ?_)
  obtain ⟨k4, h⟩ := h
  exact aw_mask [true, true, true, true, false, false] (tX12_standOf_L9 k4 _ _ _ _ _ h)
def mX12_standSo_J119 (X54 : Nat → Int → Int → Int → hp → Prop) (X85 : Nat → Int → Int → Int → Int → hp → Prop) (Q : hp → Prop) (o : Nat) (a2 : Int) (a3 : Int) (a4 : Int) (a5 : Int) (F : hp) : Prop := X85 o a2 a3 a4 (a5 + 1) F
set_option maxHeartbeats 4000000 in
theorem tX12_standSo_J119 {d : Nat} {X54 : Nat → Int → Int → Int → hp → Prop} {X85 : Nat → Int → Int → Int → Int → hp → Prop} {Q : hp → Prop} (hX54 : ∀ (o : Nat) (a2 : Int) (a3 : Int) (a4 : Int) (F : hp), X54 o a2 a3 a4 F → aw nX12_standSo d 0 0 54 [some (vr (some o)), none, some (vi a2), some (vi a3), some (vi a4), none] [] F (qV Q)) (hX85 : ∀ (o : Nat) (a2 : Int) (a3 : Int) (a4 : Int) (a5 : Int) (F : hp), X85 o a2 a3 a4 a5 F → aw nX12_standSo d 0 0 85 [some (vr (some o)), none, some (vi a2), some (vi a3), some (vi a4), some (vi a5)] [] F (qV Q)) {o : Nat} {a2 : Int} {a3 : Int} {a4 : Int} {a5 : Int} {F : hp} (h : mX12_standSo_J119 X54 X85 Q o a2 a3 a4 a5 F) : aw nX12_standSo d 0 0 119 [some (vr (some o)), none, some (vi a2), some (vi a3), some (vi a4), some (vi a5)] [] F (qV Q) := by
  unfold mX12_standSo_J119 at h
  refine aw_iinc dX12_standSo_119 rfl (by decide) (aw_pc (pc' := 122) rfl ?_)
  refine aw_goto (tgt := 85) dX12_standSo_122 rfl ?_
  exact aw_mask [true, false, true, true, true, true] (hX85 _ _ _ _ _ _ h)
def mX12_standSo_L85 (X54 : Nat → Int → Int → Int → hp → Prop) (Q : hp → Prop) : Nat → Nat → Int → Int → Int → Int → hp → Prop
  | 0, _, _, _, _, _, _ => False
  | k + 1, o, a2, a3, a4, a5, F => (w32 a5 < w32 a2 → gR F (some o) 12 27 (fun x1 => aI F x1 0 a5 (fun x2 => gR F (some o) 12 27 (fun x3 => aI F x3 0 a4 (fun x4 => (w32 x2 < w32 x4 → mX12_standSo_J119 X54 (fun o' a2' a3' a4' a5' F' => mX12_standSo_L85 X54 Q k o' a2' a3' a4' a5' F') Q o a2 a3 a4 a5 F) ∧ (¬ w32 x2 < w32 x4 → gR F (some o) 12 27 (fun x5 => aI F x5 0 a5 (fun x6 => sI F x5 0 a5 (x6 + 1) (fun F7 => mX12_standSo_J119 X54 (fun o' a2' a3' a4' a5' F' => mX12_standSo_L85 X54 Q k o' a2' a3' a4' a5' F') Q o a2 a3 a4 a5 F7))))))))) ∧ (¬ w32 a5 < w32 a2 → X54 o a2 a3 (a4 + (-1)) F)
set_option maxHeartbeats 4000000 in
theorem tX12_standSo_L85 {d : Nat} {X54 : Nat → Int → Int → Int → hp → Prop} {Q : hp → Prop} (hX54 : ∀ (o : Nat) (a2 : Int) (a3 : Int) (a4 : Int) (F : hp), X54 o a2 a3 a4 F → aw nX12_standSo d 0 0 54 [some (vr (some o)), none, some (vi a2), some (vi a3), some (vi a4), none] [] F (qV Q)) : ∀ (k : Nat) (o : Nat) (a2 : Int) (a3 : Int) (a4 : Int) (a5 : Int) (F : hp), mX12_standSo_L85 X54 Q k o a2 a3 a4 a5 F → aw nX12_standSo d 0 0 85 [some (vr (some o)), none, some (vi a2), some (vi a3), some (vi a4), some (vi a5)] [] F (qV Q) := by
  intro k
  induction k with
  | zero => intro o a2 a3 a4 a5 F h; exact h.elim
  | succ k ih =>
    intro o a2 a3 a4 a5 F h
    simp only [mX12_standSo_L85] at h
    refine aw_iload dX12_standSo_85 rfl (aw_pc (pc' := 87) rfl ?_)
    refine aw_iload_n dX12_standSo_87 rfl rfl (aw_pc (pc' := 88) rfl ?_)
    refine ac_ge rfl rfl dX12_standSo_88 rfl (fun c => ?_) (fun c => ?_)
    · replace h := h.1 c
      refine aw_aload_n dX12_standSo_91 rfl rfl (aw_pc (pc' := 92) rfl ?_)
      refine ar_gR fl_RX12_53 dX12_standSo_92 h ?_
      clear h
      intro x1 h
      refine aw_pc (pc' := 95) rfl ?_
      refine aw_iload dX12_standSo_95 rfl (aw_pc (pc' := 97) rfl ?_)
      refine ar_aI dX12_standSo_97 h ?_
      clear h
      intro x2 h
      refine aw_pc (pc' := 98) rfl ?_
      refine aw_aload_n dX12_standSo_98 rfl rfl (aw_pc (pc' := 99) rfl ?_)
      refine ar_gR fl_RX12_53 dX12_standSo_99 h ?_
      clear h
      intro x3 h
      refine aw_pc (pc' := 102) rfl ?_
      refine aw_iload dX12_standSo_102 rfl (aw_pc (pc' := 104) rfl ?_)
      refine ar_aI dX12_standSo_104 h ?_
      clear h
      intro x4 h
      refine aw_pc (pc' := 105) rfl ?_
      refine ac_lt rfl rfl dX12_standSo_105 rfl (fun c => ?_) (fun c => ?_)
      · replace h := h.1 c
        exact aw_mask [true, false, true, true, true, true] (tX12_standSo_J119 hX54 (fun o' a2' a3' a4' a5' F' h' => ih o' a2' a3' a4' a5' F' h') h)
      · replace h := h.2 c
        refine aw_aload_n dX12_standSo_108 rfl rfl (aw_pc (pc' := 109) rfl ?_)
        refine ar_gR fl_RX12_53 dX12_standSo_109 h ?_
        clear h
        intro x5 h
        refine aw_pc (pc' := 112) rfl ?_
        refine aw_iload dX12_standSo_112 rfl (aw_pc (pc' := 114) rfl ?_)
        refine aw_dup2 dX12_standSo_114 trivial trivial (aw_pc (pc' := 115) rfl ?_)
        refine ar_aI dX12_standSo_115 h ?_
        clear h
        intro x6 h
        refine aw_pc (pc' := 116) rfl ?_
        refine aw_iconst dX12_standSo_116 (aw_pc (pc' := 117) rfl ?_)
        refine aw_iadd dX12_standSo_117 (aw_pc (pc' := 118) rfl ?_)
        refine ar_sI dX12_standSo_118 h ?_
        clear h
        intro F7 h
        refine aw_pc (pc' := 119) rfl ?_
        exact aw_mask [true, false, true, true, true, true] (tX12_standSo_J119 hX54 (fun o' a2' a3' a4' a5' F' h' => ih o' a2' a3' a4' a5' F' h') h)
    · replace h := h.2 c
      refine aw_iinc dX12_standSo_125 rfl (by decide) (aw_pc (pc' := 128) rfl ?_)
      refine aw_goto (tgt := 54) dX12_standSo_128 rfl ?_
      exact aw_mask [true, false, true, true, true, false] (hX54 _ _ _ _ _ h)
def mX12_standSo_L54 (Q : hp → Prop) : Nat → Nat → Int → Int → Int → hp → Prop
  | 0, _, _, _, _, _ => False
  | k + 1, o, a2, a3, a4, F => (w32 a4 < 0 → Q F) ∧ (¬ w32 a4 < 0 → gR F (some o) 12 27 (fun x1 => w32 (a2 - a4) ≠ 0 ∧ sI F x1 0 a4 ((w32 a3).tmod (w32 (a2 - a4))) (fun F2 => w32 (a2 - a4) ≠ 0 ∧ ∀ v3 : Int, v3 = ((w32 a3).tdiv (w32 (a2 - a4))) → ∀ v4 : Int, v4 = (a4 + 1) → (∃ k5, mX12_standSo_L85 (fun o' a2' a3' a4' F' => mX12_standSo_L54 Q k o' a2' a3' a4' F') Q k5 o a2 v3 a4 v4 F2))))
set_option maxHeartbeats 4000000 in
theorem tX12_standSo_L54 {d : Nat} {Q : hp → Prop} : ∀ (k : Nat) (o : Nat) (a2 : Int) (a3 : Int) (a4 : Int) (F : hp), mX12_standSo_L54 Q k o a2 a3 a4 F → aw nX12_standSo d 0 0 54 [some (vr (some o)), none, some (vi a2), some (vi a3), some (vi a4), none] [] F (qV Q) := by
  intro k
  induction k with
  | zero => intro o a2 a3 a4 F h; exact h.elim
  | succ k ih =>
    intro o a2 a3 a4 F h
    simp only [mX12_standSo_L54] at h
    refine aw_iload dX12_standSo_54 rfl (aw_pc (pc' := 56) rfl ?_)
    refine aw_if_lt dX12_standSo_56 rfl (fun c => ?_) (fun c => ?_)
    · replace h := h.1 c
      exact aw_vret rfl dX12_standSo_131 ⟨rfl, h⟩
    · replace h := h.2 c
      refine aw_aload_n dX12_standSo_59 rfl rfl (aw_pc (pc' := 60) rfl ?_)
      refine ar_gR fl_RX12_53 dX12_standSo_60 h ?_
      clear h
      intro x1 h
      refine aw_pc (pc' := 63) rfl ?_
      refine aw_iload dX12_standSo_63 rfl (aw_pc (pc' := 65) rfl ?_)
      refine aw_iload_n dX12_standSo_65 rfl rfl (aw_pc (pc' := 66) rfl ?_)
      refine aw_iload_n dX12_standSo_66 rfl rfl (aw_pc (pc' := 67) rfl ?_)
      refine aw_iload dX12_standSo_67 rfl (aw_pc (pc' := 69) rfl ?_)
      refine aw_isub dX12_standSo_69 (aw_pc (pc' := 70) rfl ?_)
      refine ac_rem rfl h.1 dX12_standSo_70 (aw_pc (pc' := 71) rfl ?_)
      replace h := h.2
      refine ar_sI dX12_standSo_71 h ?_
      clear h
      intro F2 h
      refine aw_pc (pc' := 72) rfl ?_
      refine aw_iload_n dX12_standSo_72 rfl rfl (aw_pc (pc' := 73) rfl ?_)
      refine aw_iload_n dX12_standSo_73 rfl rfl (aw_pc (pc' := 74) rfl ?_)
      refine aw_iload dX12_standSo_74 rfl (aw_pc (pc' := 76) rfl ?_)
      refine aw_isub dX12_standSo_76 (aw_pc (pc' := 77) rfl ?_)
      refine ac_div rfl h.1 dX12_standSo_77 (aw_pc (pc' := 78) rfl ?_)
      replace h := h.2
      generalize hv_v3 : ((w32 a3).tdiv (w32 (a2 - a4))) = v3
      replace h := h v3 hv_v3.symm
      refine aw_istore_n dX12_standSo_78 rfl (by decide) (aw_pc (pc' := 79) rfl ?_)
      refine aw_iload dX12_standSo_79 rfl (aw_pc (pc' := 81) rfl ?_)
      refine aw_iconst dX12_standSo_81 (aw_pc (pc' := 82) rfl ?_)
      refine aw_iadd dX12_standSo_82 (aw_pc (pc' := 83) rfl ?_)
      generalize hv_v4 : (a4 + 1) = v4
      replace h := h v4 hv_v4.symm
      refine aw_istore dX12_standSo_83 (by decide) (aw_pc (pc' := 85) rfl ?_)
      obtain ⟨k5, h⟩ := h
      exact aw_mask [true, false, true, true, true, true] (tX12_standSo_L85 (fun o' a2' a3' a4' F' h' => ih o' a2' a3' a4' F' h') k5 _ _ _ _ _ _ h)
def mX12_standSo (o : Nat) (a1 : Int) (a2 : Int) (F : hp) (Q : hp → Prop) : Prop := gR F (some o) 12 28 (fun x1 => sI F x1 0 0 ((w32 ((w32 a1).tdiv 6)).tmod 6) (fun F2 => gR F2 (some o) 12 28 (fun x3 => sI F2 x3 0 1 ((w32 a1).tmod 6) (fun F4 => gR F4 (some o) 12 28 (fun x5 => gR F4 (some o) 12 28 (fun x6 => aI F4 x6 0 0 (fun x7 => gR F4 (some o) 12 28 (fun x8 => aI F4 x8 0 1 (fun x9 => sI F4 x5 0 2 ((a2 - x7) - x9) (fun F10 => ∀ v11 : Int, v11 = ((w32 a1).tdiv 36) → ∀ v12 : Int, v12 = (a2 - 1) → (∃ k13, mX12_standSo_L54 Q k13 o a2 v11 v12 F10)))))))))))
set_option maxHeartbeats 4000000 in
theorem tX12_standSo {d : Nat} {o : Nat} {a1 : Int} {a2 : Int} {F : hp} {Q : hp → Prop} (h : mX12_standSo o a1 a2 F Q) : am nX12_standSo d 0 0 [vr (some o), vi a1, vi a2] F (qV Q) := by
  refine am_of (by decide +kernel) (Nat.le_of_ble_eq_true rfl) ?_
  show aw nX12_standSo d 0 0 0 [some (vr (some o)), some (vi a1), some (vi a2), none, none, none] [] F (qV Q)
  unfold mX12_standSo at h
  refine aw_aload_n dX12_standSo_0 rfl rfl (aw_pc (pc' := 1) rfl ?_)
  refine ar_gR fl_RX12_56 dX12_standSo_1 h ?_
  clear h
  intro x1 h
  refine aw_pc (pc' := 4) rfl ?_
  refine aw_iconst dX12_standSo_4 (aw_pc (pc' := 5) rfl ?_)
  refine aw_iload_n dX12_standSo_5 rfl rfl (aw_pc (pc' := 6) rfl ?_)
  refine aw_bipush dX12_standSo_6 (by decide) (aw_pc (pc' := 8) rfl ?_)
  refine ac_div wl_6 (by decide) dX12_standSo_8 (aw_pc (pc' := 9) rfl ?_)
  refine aw_bipush dX12_standSo_9 (by decide) (aw_pc (pc' := 11) rfl ?_)
  refine ac_rem wl_6 (by decide) dX12_standSo_11 (aw_pc (pc' := 12) rfl ?_)
  refine ar_sI dX12_standSo_12 h ?_
  clear h
  intro F2 h
  refine aw_pc (pc' := 13) rfl ?_
  refine aw_aload_n dX12_standSo_13 rfl rfl (aw_pc (pc' := 14) rfl ?_)
  refine ar_gR fl_RX12_56 dX12_standSo_14 h ?_
  clear h
  intro x3 h
  refine aw_pc (pc' := 17) rfl ?_
  refine aw_iconst dX12_standSo_17 (aw_pc (pc' := 18) rfl ?_)
  refine aw_iload_n dX12_standSo_18 rfl rfl (aw_pc (pc' := 19) rfl ?_)
  refine aw_bipush dX12_standSo_19 (by decide) (aw_pc (pc' := 21) rfl ?_)
  refine ac_rem wl_6 (by decide) dX12_standSo_21 (aw_pc (pc' := 22) rfl ?_)
  refine ar_sI dX12_standSo_22 h ?_
  clear h
  intro F4 h
  refine aw_pc (pc' := 23) rfl ?_
  refine aw_aload_n dX12_standSo_23 rfl rfl (aw_pc (pc' := 24) rfl ?_)
  refine ar_gR fl_RX12_56 dX12_standSo_24 h ?_
  clear h
  intro x5 h
  refine aw_pc (pc' := 27) rfl ?_
  refine aw_iconst dX12_standSo_27 (aw_pc (pc' := 28) rfl ?_)
  refine aw_iload_n dX12_standSo_28 rfl rfl (aw_pc (pc' := 29) rfl ?_)
  refine aw_aload_n dX12_standSo_29 rfl rfl (aw_pc (pc' := 30) rfl ?_)
  refine ar_gR fl_RX12_56 dX12_standSo_30 h ?_
  clear h
  intro x6 h
  refine aw_pc (pc' := 33) rfl ?_
  refine aw_iconst dX12_standSo_33 (aw_pc (pc' := 34) rfl ?_)
  refine ar_aI dX12_standSo_34 h ?_
  clear h
  intro x7 h
  refine aw_pc (pc' := 35) rfl ?_
  refine aw_isub dX12_standSo_35 (aw_pc (pc' := 36) rfl ?_)
  refine aw_aload_n dX12_standSo_36 rfl rfl (aw_pc (pc' := 37) rfl ?_)
  refine ar_gR fl_RX12_56 dX12_standSo_37 h ?_
  clear h
  intro x8 h
  refine aw_pc (pc' := 40) rfl ?_
  refine aw_iconst dX12_standSo_40 (aw_pc (pc' := 41) rfl ?_)
  refine ar_aI dX12_standSo_41 h ?_
  clear h
  intro x9 h
  refine aw_pc (pc' := 42) rfl ?_
  refine aw_isub dX12_standSo_42 (aw_pc (pc' := 43) rfl ?_)
  refine ar_sI dX12_standSo_43 h ?_
  clear h
  intro F10 h
  refine aw_pc (pc' := 44) rfl ?_
  refine aw_iload_n dX12_standSo_44 rfl rfl (aw_pc (pc' := 45) rfl ?_)
  refine aw_bipush dX12_standSo_45 (by decide) (aw_pc (pc' := 47) rfl ?_)
  refine ac_div wl_36 (by decide) dX12_standSo_47 (aw_pc (pc' := 48) rfl ?_)
  generalize hv_v11 : ((w32 a1).tdiv 36) = v11
  replace h := h v11 hv_v11.symm
  refine aw_istore_n dX12_standSo_48 rfl (by decide) (aw_pc (pc' := 49) rfl ?_)
  refine aw_iload_n dX12_standSo_49 rfl rfl (aw_pc (pc' := 50) rfl ?_)
  refine aw_iconst dX12_standSo_50 (aw_pc (pc' := 51) rfl ?_)
  refine aw_isub dX12_standSo_51 (aw_pc (pc' := 52) rfl ?_)
  generalize hv_v12 : (a2 - 1) = v12
  replace h := h v12 hv_v12.symm
  refine aw_istore dX12_standSo_52 (by decide) (aw_pc (pc' := 54) rfl ?_)
  obtain ⟨k13, h⟩ := h
  exact aw_mask [true, false, true, true, true, false] (tX12_standSo_L54 k13 _ _ _ _ _ h)
def mX12_endOf (o : Nat) (a1 : Int) (F : hp) (Q : Int → hp → Prop) : Prop := (w32 a1 = 0 → gR F (some o) 12 28 (fun x1 => aI F x1 0 0 (fun x2 => Q x2 F))) ∧ (¬ w32 a1 = 0 → (w32 a1 = 1 → gR F (some o) 12 28 (fun x3 => aI F x3 0 0 (fun x4 => gR F (some o) 12 28 (fun x5 => aI F x5 0 1 (fun x6 => Q (x4 + x6) F))))) ∧ (¬ w32 a1 = 1 → rcv F (some o) 12 (fun o9 => mX12_cars o9 F (fun x8 F7 => Q x8 F7))))
set_option maxHeartbeats 4000000 in
theorem tX12_endOf {d : Nat} {o : Nat} {a1 : Int} {F : hp} {Q : Int → hp → Prop} (h : mX12_endOf o a1 F Q) : am nX12_endOf (d + 1) 0 0 [vr (some o), vi a1] F (qI Q) := by
  refine am_of (by decide +kernel) (Nat.le_of_ble_eq_true rfl) ?_
  show aw nX12_endOf (d + 1) 0 0 0 [some (vr (some o)), some (vi a1)] [] F (qI Q)
  unfold mX12_endOf at h
  refine aw_iload_n dX12_endOf_0 rfl rfl (aw_pc (pc' := 1) rfl ?_)
  refine aw_if_ne dX12_endOf_1 rfl (fun c => ?_) (fun c => ?_)
  · replace h := h.1 c
    refine aw_aload_n dX12_endOf_4 rfl rfl (aw_pc (pc' := 5) rfl ?_)
    refine ar_gR fl_RX12_56 dX12_endOf_5 h ?_
    clear h
    intro x1 h
    refine aw_pc (pc' := 8) rfl ?_
    refine aw_iconst dX12_endOf_8 (aw_pc (pc' := 9) rfl ?_)
    refine ar_aI dX12_endOf_9 h ?_
    clear h
    intro x2 h
    refine aw_pc (pc' := 10) rfl ?_
    refine aw_goto (tgt := 38) dX12_endOf_10 rfl ?_
    exact aw_iret rfl dX12_endOf_38 ⟨_, rfl, h⟩
  · replace h := h.2 c
    refine aw_iload_n dX12_endOf_13 rfl rfl (aw_pc (pc' := 14) rfl ?_)
    refine aw_iconst dX12_endOf_14 (aw_pc (pc' := 15) rfl ?_)
    refine ac_ne rfl wl_1 dX12_endOf_15 rfl (fun c => ?_) (fun c => ?_)
    · replace h := h.1 c
      refine aw_aload_n dX12_endOf_18 rfl rfl (aw_pc (pc' := 19) rfl ?_)
      refine ar_gR fl_RX12_56 dX12_endOf_19 h ?_
      clear h
      intro x3 h
      refine aw_pc (pc' := 22) rfl ?_
      refine aw_iconst dX12_endOf_22 (aw_pc (pc' := 23) rfl ?_)
      refine ar_aI dX12_endOf_23 h ?_
      clear h
      intro x4 h
      refine aw_pc (pc' := 24) rfl ?_
      refine aw_aload_n dX12_endOf_24 rfl rfl (aw_pc (pc' := 25) rfl ?_)
      refine ar_gR fl_RX12_56 dX12_endOf_25 h ?_
      clear h
      intro x5 h
      refine aw_pc (pc' := 28) rfl ?_
      refine aw_iconst dX12_endOf_28 (aw_pc (pc' := 29) rfl ?_)
      refine ar_aI dX12_endOf_29 h ?_
      clear h
      intro x6 h
      refine aw_pc (pc' := 30) rfl ?_
      refine aw_iadd dX12_endOf_30 (aw_pc (pc' := 31) rfl ?_)
      refine aw_goto (tgt := 38) dX12_endOf_31 rfl ?_
      exact aw_iret rfl dX12_endOf_38 ⟨_, rfl, h⟩
    · replace h := h.2 c
      refine aw_aload_n dX12_endOf_34 rfl rfl (aw_pc (pc' := 35) rfl ?_)
      have h0 := rcv_inv h
      clear h
      obtain ⟨o9, fs_o9, hr_o9, he_o9, h⟩ := h0
      obtain rfl : o = o9 := Option.some.inj hr_o9
      refine ar_VI (kc' := 0) (ks' := 0) (kc := 0) (ks := 0) (a := o) (ci := 12) (as := []) (st := []) (tX12_cars h) mt_X12_cars rfl qM_RX12_413 qI_X12_cars qV_X12_cars he_o9 rfl (Nat.le_of_ble_eq_true rfl) dX12_endOf_35 ?_
      clear h
      intro x8 F7 h
      refine aw_pc (pc' := 38) rfl ?_
      exact aw_iret rfl dX12_endOf_38 ⟨_, rfl, h⟩
def mX12_isShunted_L121 (Q : Int → hp → Prop) : Nat → Nat → Int → Int → Int → Int → Int → hp → Prop
  | 0, _, _, _, _, _, _, _ => False
  | k + 1, o, a1, a2, a4, a5, a6, F => (w32 a5 < w32 a6 → gR F (some o) 12 27 (fun x1 => gR F (some o) 12 27 (fun x2 => aI F x2 0 (a6 - 1) (fun x3 => sI F x1 0 a6 x3 (fun F4 => mX12_isShunted_L121 Q k o a1 a2 a4 a5 (a6 + (-1)) F4))))) ∧ (¬ w32 a5 < w32 a6 → gR F (some o) 12 27 (fun x5 => sI F x5 0 a5 a4 (fun F6 => gR F6 (some o) 12 28 (fun x7 => aI F6 x7 0 a1 (fun x8 => sI F6 x7 0 a1 (x8 - 1) (fun F9 => gR F9 (some o) 12 28 (fun x10 => aI F9 x10 0 a2 (fun x11 => sI F9 x10 0 a2 (x11 + 1) (fun F12 => Q 1 F12)))))))))
set_option maxHeartbeats 4000000 in
theorem tX12_isShunted_L121 {d : Nat} {Q : Int → hp → Prop} : ∀ (k : Nat) (o : Nat) (a1 : Int) (a2 : Int) (a4 : Int) (a5 : Int) (a6 : Int) (F : hp), mX12_isShunted_L121 Q k o a1 a2 a4 a5 a6 F → aw nX12_isShunted (d + 2) 0 0 121 [some (vr (some o)), some (vi a1), some (vi a2), none, some (vi a4), some (vi a5), some (vi a6)] [] F (qI Q) := by
  intro k
  induction k with
  | zero => intro o a1 a2 a4 a5 a6 F h; exact h.elim
  | succ k ih =>
    intro o a1 a2 a4 a5 a6 F h
    simp only [mX12_isShunted_L121] at h
    refine aw_iload dX12_isShunted_121 rfl (aw_pc (pc' := 123) rfl ?_)
    refine aw_iload dX12_isShunted_123 rfl (aw_pc (pc' := 125) rfl ?_)
    refine ac_le rfl rfl dX12_isShunted_125 rfl (fun c => ?_) (fun c => ?_)
    · replace h := h.1 c
      refine aw_aload_n dX12_isShunted_128 rfl rfl (aw_pc (pc' := 129) rfl ?_)
      refine ar_gR fl_RX12_53 dX12_isShunted_129 h ?_
      clear h
      intro x1 h
      refine aw_pc (pc' := 132) rfl ?_
      refine aw_iload dX12_isShunted_132 rfl (aw_pc (pc' := 134) rfl ?_)
      refine aw_aload_n dX12_isShunted_134 rfl rfl (aw_pc (pc' := 135) rfl ?_)
      refine ar_gR fl_RX12_53 dX12_isShunted_135 h ?_
      clear h
      intro x2 h
      refine aw_pc (pc' := 138) rfl ?_
      refine aw_iload dX12_isShunted_138 rfl (aw_pc (pc' := 140) rfl ?_)
      refine aw_iconst dX12_isShunted_140 (aw_pc (pc' := 141) rfl ?_)
      refine aw_isub dX12_isShunted_141 (aw_pc (pc' := 142) rfl ?_)
      refine ar_aI dX12_isShunted_142 h ?_
      clear h
      intro x3 h
      refine aw_pc (pc' := 143) rfl ?_
      refine ar_sI dX12_isShunted_143 h ?_
      clear h
      intro F4 h
      refine aw_pc (pc' := 144) rfl ?_
      refine aw_iinc dX12_isShunted_144 rfl (by decide) (aw_pc (pc' := 147) rfl ?_)
      refine aw_goto (tgt := 121) dX12_isShunted_147 rfl ?_
      exact aw_mask [true, true, true, false, true, true, true] (ih _ _ _ _ _ _ _ h)
    · replace h := h.2 c
      refine aw_aload_n dX12_isShunted_150 rfl rfl (aw_pc (pc' := 151) rfl ?_)
      refine ar_gR fl_RX12_53 dX12_isShunted_151 h ?_
      clear h
      intro x5 h
      refine aw_pc (pc' := 154) rfl ?_
      refine aw_iload dX12_isShunted_154 rfl (aw_pc (pc' := 156) rfl ?_)
      refine aw_iload dX12_isShunted_156 rfl (aw_pc (pc' := 158) rfl ?_)
      refine ar_sI dX12_isShunted_158 h ?_
      clear h
      intro F6 h
      refine aw_pc (pc' := 159) rfl ?_
      refine aw_aload_n dX12_isShunted_159 rfl rfl (aw_pc (pc' := 160) rfl ?_)
      refine ar_gR fl_RX12_56 dX12_isShunted_160 h ?_
      clear h
      intro x7 h
      refine aw_pc (pc' := 163) rfl ?_
      refine aw_iload_n dX12_isShunted_163 rfl rfl (aw_pc (pc' := 164) rfl ?_)
      refine aw_dup2 dX12_isShunted_164 trivial trivial (aw_pc (pc' := 165) rfl ?_)
      refine ar_aI dX12_isShunted_165 h ?_
      clear h
      intro x8 h
      refine aw_pc (pc' := 166) rfl ?_
      refine aw_iconst dX12_isShunted_166 (aw_pc (pc' := 167) rfl ?_)
      refine aw_isub dX12_isShunted_167 (aw_pc (pc' := 168) rfl ?_)
      refine ar_sI dX12_isShunted_168 h ?_
      clear h
      intro F9 h
      refine aw_pc (pc' := 169) rfl ?_
      refine aw_aload_n dX12_isShunted_169 rfl rfl (aw_pc (pc' := 170) rfl ?_)
      refine ar_gR fl_RX12_56 dX12_isShunted_170 h ?_
      clear h
      intro x10 h
      refine aw_pc (pc' := 173) rfl ?_
      refine aw_iload_n dX12_isShunted_173 rfl rfl (aw_pc (pc' := 174) rfl ?_)
      refine aw_dup2 dX12_isShunted_174 trivial trivial (aw_pc (pc' := 175) rfl ?_)
      refine ar_aI dX12_isShunted_175 h ?_
      clear h
      intro x11 h
      refine aw_pc (pc' := 176) rfl ?_
      refine aw_iconst dX12_isShunted_176 (aw_pc (pc' := 177) rfl ?_)
      refine aw_iadd dX12_isShunted_177 (aw_pc (pc' := 178) rfl ?_)
      refine ar_sI dX12_isShunted_178 h ?_
      clear h
      intro F12 h
      refine aw_pc (pc' := 179) rfl ?_
      refine aw_iconst dX12_isShunted_179 (aw_pc (pc' := 180) rfl ?_)
      exact aw_zret rfl (by decide) dX12_isShunted_180 ⟨_, rfl, h⟩
def mX12_isShunted_L89 (Q : Int → hp → Prop) : Nat → Nat → Int → Int → Int → Int → Int → Int → hp → Prop
  | 0, _, _, _, _, _, _, _, _ => False
  | k + 1, o, a1, a2, a3, a4, a5, a6, F => (w32 a6 < w32 a5 → gR F (some o) 12 27 (fun x1 => gR F (some o) 12 27 (fun x2 => aI F x2 0 (a6 + 1) (fun x3 => sI F x1 0 a6 x3 (fun F4 => mX12_isShunted_L89 Q k o a1 a2 a3 a4 a5 (a6 + 1) F4))))) ∧ (¬ w32 a6 < w32 a5 → (∃ k5, mX12_isShunted_L121 Q k5 o a1 a2 a4 a5 a3 F))
set_option maxHeartbeats 4000000 in
theorem tX12_isShunted_L89 {d : Nat} {Q : Int → hp → Prop} : ∀ (k : Nat) (o : Nat) (a1 : Int) (a2 : Int) (a3 : Int) (a4 : Int) (a5 : Int) (a6 : Int) (F : hp), mX12_isShunted_L89 Q k o a1 a2 a3 a4 a5 a6 F → aw nX12_isShunted (d + 2) 0 0 89 [some (vr (some o)), some (vi a1), some (vi a2), some (vi a3), some (vi a4), some (vi a5), some (vi a6)] [] F (qI Q) := by
  intro k
  induction k with
  | zero => intro o a1 a2 a3 a4 a5 a6 F h; exact h.elim
  | succ k ih =>
    intro o a1 a2 a3 a4 a5 a6 F h
    simp only [mX12_isShunted_L89] at h
    refine aw_iload dX12_isShunted_89 rfl (aw_pc (pc' := 91) rfl ?_)
    refine aw_iload dX12_isShunted_91 rfl (aw_pc (pc' := 93) rfl ?_)
    refine ac_ge rfl rfl dX12_isShunted_93 rfl (fun c => ?_) (fun c => ?_)
    · replace h := h.1 c
      refine aw_aload_n dX12_isShunted_96 rfl rfl (aw_pc (pc' := 97) rfl ?_)
      refine ar_gR fl_RX12_53 dX12_isShunted_97 h ?_
      clear h
      intro x1 h
      refine aw_pc (pc' := 100) rfl ?_
      refine aw_iload dX12_isShunted_100 rfl (aw_pc (pc' := 102) rfl ?_)
      refine aw_aload_n dX12_isShunted_102 rfl rfl (aw_pc (pc' := 103) rfl ?_)
      refine ar_gR fl_RX12_53 dX12_isShunted_103 h ?_
      clear h
      intro x2 h
      refine aw_pc (pc' := 106) rfl ?_
      refine aw_iload dX12_isShunted_106 rfl (aw_pc (pc' := 108) rfl ?_)
      refine aw_iconst dX12_isShunted_108 (aw_pc (pc' := 109) rfl ?_)
      refine aw_iadd dX12_isShunted_109 (aw_pc (pc' := 110) rfl ?_)
      refine ar_aI dX12_isShunted_110 h ?_
      clear h
      intro x3 h
      refine aw_pc (pc' := 111) rfl ?_
      refine ar_sI dX12_isShunted_111 h ?_
      clear h
      intro F4 h
      refine aw_pc (pc' := 112) rfl ?_
      refine aw_iinc dX12_isShunted_112 rfl (by decide) (aw_pc (pc' := 115) rfl ?_)
      refine aw_goto (tgt := 89) dX12_isShunted_115 rfl ?_
      exact aw_mask [true, true, true, true, true, true, true] (ih _ _ _ _ _ _ _ _ h)
    · replace h := h.2 c
      refine aw_iload_n dX12_isShunted_118 rfl rfl (aw_pc (pc' := 119) rfl ?_)
      refine aw_istore dX12_isShunted_119 (by decide) (aw_pc (pc' := 121) rfl ?_)
      obtain ⟨k5, h⟩ := h
      exact aw_mask [true, true, true, false, true, true, true] (tX12_isShunted_L121 k5 _ _ _ _ _ _ _ h)
def mX12_isShunted_J84 (Q : Int → hp → Prop) (o : Nat) (a1 : Int) (a2 : Int) (a3 : Int) (a4 : Int) (s0 : Int) (F : hp) : Prop := (∃ k1, mX12_isShunted_L89 Q k1 o a1 a2 a3 a4 s0 a3 F)
set_option maxHeartbeats 4000000 in
theorem tX12_isShunted_J84 {d : Nat} {Q : Int → hp → Prop} {o : Nat} {a1 : Int} {a2 : Int} {a3 : Int} {a4 : Int} {s0 : Int} {F : hp} (h : mX12_isShunted_J84 Q o a1 a2 a3 a4 s0 F) : aw nX12_isShunted (d + 2) 0 0 84 [some (vr (some o)), some (vi a1), some (vi a2), some (vi a3), some (vi a4), none, none] [vi s0] F (qI Q) := by
  unfold mX12_isShunted_J84 at h
  refine aw_istore dX12_isShunted_84 (by decide) (aw_pc (pc' := 86) rfl ?_)
  refine aw_iload_n dX12_isShunted_86 rfl rfl (aw_pc (pc' := 87) rfl ?_)
  refine aw_istore dX12_isShunted_87 (by decide) (aw_pc (pc' := 89) rfl ?_)
  obtain ⟨k1, h⟩ := h
  exact aw_mask [true, true, true, true, true, true, true] (tX12_isShunted_L89 k1 _ _ _ _ _ _ _ _ h)
def mX12_isShunted_J64 (Q : Int → hp → Prop) (o : Nat) (a1 : Int) (a2 : Int) (a3 : Int) (a4 : Int) (F : hp) : Prop := (w32 a1 < w32 a2 → rcv F (some o) 12 (fun o3 => mX12_endOf o3 a2 F (fun x2 F1 => mX12_isShunted_J84 Q o a1 a2 a3 a4 (x2 - 1) F1))) ∧ (¬ w32 a1 < w32 a2 → rcv F (some o) 12 (fun o6 => mX12_endOf o6 a2 F (fun x5 F4 => mX12_isShunted_J84 Q o a1 a2 a3 a4 x5 F4)))
set_option maxHeartbeats 4000000 in
theorem tX12_isShunted_J64 {d : Nat} {Q : Int → hp → Prop} {o : Nat} {a1 : Int} {a2 : Int} {a3 : Int} {a4 : Int} {F : hp} (h : mX12_isShunted_J64 Q o a1 a2 a3 a4 F) : aw nX12_isShunted (d + 2) 0 0 64 [some (vr (some o)), some (vi a1), some (vi a2), some (vi a3), some (vi a4), none, none] [] F (qI Q) := by
  unfold mX12_isShunted_J64 at h
  refine aw_iload_n dX12_isShunted_64 rfl rfl (aw_pc (pc' := 65) rfl ?_)
  refine aw_iload_n dX12_isShunted_65 rfl rfl (aw_pc (pc' := 66) rfl ?_)
  refine ac_ge rfl rfl dX12_isShunted_66 rfl (fun c => ?_) (fun c => ?_)
  · replace h := h.1 c
    refine aw_aload_n dX12_isShunted_69 rfl rfl (aw_pc (pc' := 70) rfl ?_)
    refine aw_iload_n dX12_isShunted_70 rfl rfl (aw_pc (pc' := 71) rfl ?_)
    have h0 := rcv_inv h
    clear h
    obtain ⟨o3, fs_o3, hr_o3, he_o3, h⟩ := h0
    obtain rfl : o = o3 := Option.some.inj hr_o3
    refine ar_VI (kc' := 0) (ks' := 0) (kc := 0) (ks := 0) (a := o) (ci := 12) (as := [vi a2]) (st := []) (tX12_endOf h) mt_X12_endOf rfl qM_RX12_416 qI_X12_endOf qV_X12_endOf he_o3 rfl (Nat.le_of_ble_eq_true rfl) dX12_isShunted_71 ?_
    clear h
    intro x2 F1 h
    refine aw_pc (pc' := 74) rfl ?_
    refine aw_iconst dX12_isShunted_74 (aw_pc (pc' := 75) rfl ?_)
    refine aw_isub dX12_isShunted_75 (aw_pc (pc' := 76) rfl ?_)
    refine aw_goto (tgt := 84) dX12_isShunted_76 rfl ?_
    exact aw_mask [true, true, true, true, true, false, false] (tX12_isShunted_J84 h)
  · replace h := h.2 c
    refine aw_aload_n dX12_isShunted_79 rfl rfl (aw_pc (pc' := 80) rfl ?_)
    refine aw_iload_n dX12_isShunted_80 rfl rfl (aw_pc (pc' := 81) rfl ?_)
    have h0 := rcv_inv h
    clear h
    obtain ⟨o6, fs_o6, hr_o6, he_o6, h⟩ := h0
    obtain rfl : o = o6 := Option.some.inj hr_o6
    refine ar_VI (kc' := 0) (ks' := 0) (kc := 0) (ks := 0) (a := o) (ci := 12) (as := [vi a2]) (st := []) (tX12_endOf h) mt_X12_endOf rfl qM_RX12_416 qI_X12_endOf qV_X12_endOf he_o6 rfl (Nat.le_of_ble_eq_true rfl) dX12_isShunted_81 ?_
    clear h
    intro x5 F4 h
    refine aw_pc (pc' := 84) rfl ?_
    exact aw_mask [true, true, true, true, true, false, false] (tX12_isShunted_J84 h)
def mX12_isShunted (o : Nat) (a1 : Int) (a2 : Int) (F : hp) (Q : Int → hp → Prop) : Prop := (w32 a1 = w32 a2 → Q 0 F) ∧ (¬ w32 a1 = w32 a2 → gR F (some o) 12 28 (fun x1 => aI F x1 0 a1 (fun x2 => (w32 x2 = 0 → Q 0 F) ∧ (¬ w32 x2 = 0 → rcv F (some o) 12 (fun o5 => mX12_endOf o5 a1 F (fun x4 F3 => ∀ v6 : Int, v6 = (x4 - 1) → gR F3 (some o) 12 27 (fun x7 => aI F3 x7 0 v6 (fun x8 => gR F3 (some o) 12 28 (fun x9 => aI F3 x9 0 a2 (fun x10 => (0 < w32 x10 → gR F3 (some o) 12 27 (fun x11 => rcv F3 (some o) 12 (fun o14 => mX12_endOf o14 a2 F3 (fun x13 F12 => aI F12 x11 0 (x13 - 1) (fun x15 => rcv F12 (some o) 12 (fun o18 => mX12_isForbidden o18 x8 x15 F12 (fun x17 F16 => (w32 x17 = 0 → mX12_isShunted_J64 Q o a1 a2 v6 x8 F16) ∧ (¬ w32 x17 = 0 → Q 0 F16)))))))) ∧ (¬ 0 < w32 x10 → mX12_isShunted_J64 Q o a1 a2 v6 x8 F3)))))))))))
set_option maxHeartbeats 4000000 in
theorem tX12_isShunted {d : Nat} {o : Nat} {a1 : Int} {a2 : Int} {F : hp} {Q : Int → hp → Prop} (h : mX12_isShunted o a1 a2 F Q) : am nX12_isShunted (d + 2) 0 0 [vr (some o), vi a1, vi a2] F (qI Q) := by
  refine am_of (by decide +kernel) (Nat.le_of_ble_eq_true rfl) ?_
  show aw nX12_isShunted (d + 2) 0 0 0 [some (vr (some o)), some (vi a1), some (vi a2), none, none, none, none] [] F (qI Q)
  unfold mX12_isShunted at h
  refine aw_iload_n dX12_isShunted_0 rfl rfl (aw_pc (pc' := 1) rfl ?_)
  refine aw_iload_n dX12_isShunted_1 rfl rfl (aw_pc (pc' := 2) rfl ?_)
  refine ac_eq rfl rfl dX12_isShunted_2 rfl (fun c => ?_) (fun c => ?_)
  · replace h := h.1 c
    refine aw_iconst dX12_isShunted_14 (aw_pc (pc' := 15) rfl ?_)
    exact aw_zret rfl (by decide) dX12_isShunted_15 ⟨_, rfl, h⟩
  · replace h := h.2 c
    refine aw_aload_n dX12_isShunted_5 rfl rfl (aw_pc (pc' := 6) rfl ?_)
    refine ar_gR fl_RX12_56 dX12_isShunted_6 h ?_
    clear h
    intro x1 h
    refine aw_pc (pc' := 9) rfl ?_
    refine aw_iload_n dX12_isShunted_9 rfl rfl (aw_pc (pc' := 10) rfl ?_)
    refine ar_aI dX12_isShunted_10 h ?_
    clear h
    intro x2 h
    refine aw_pc (pc' := 11) rfl ?_
    refine aw_if_ne dX12_isShunted_11 rfl (fun c => ?_) (fun c => ?_)
    · replace h := h.1 c
      refine aw_iconst dX12_isShunted_14 (aw_pc (pc' := 15) rfl ?_)
      exact aw_zret rfl (by decide) dX12_isShunted_15 ⟨_, rfl, h⟩
    · replace h := h.2 c
      refine aw_aload_n dX12_isShunted_16 rfl rfl (aw_pc (pc' := 17) rfl ?_)
      refine aw_iload_n dX12_isShunted_17 rfl rfl (aw_pc (pc' := 18) rfl ?_)
      have h0 := rcv_inv h
      clear h
      obtain ⟨o5, fs_o5, hr_o5, he_o5, h⟩ := h0
      obtain rfl : o = o5 := Option.some.inj hr_o5
      refine ar_VI (kc' := 0) (ks' := 0) (kc := 0) (ks := 0) (a := o) (ci := 12) (as := [vi a1]) (st := []) (tX12_endOf h) mt_X12_endOf rfl qM_RX12_416 qI_X12_endOf qV_X12_endOf he_o5 rfl (Nat.le_of_ble_eq_true rfl) dX12_isShunted_18 ?_
      clear h
      intro x4 F3 h
      refine aw_pc (pc' := 21) rfl ?_
      refine aw_iconst dX12_isShunted_21 (aw_pc (pc' := 22) rfl ?_)
      refine aw_isub dX12_isShunted_22 (aw_pc (pc' := 23) rfl ?_)
      generalize hv_v6 : (x4 - 1) = v6
      replace h := h v6 hv_v6.symm
      refine aw_istore_n dX12_isShunted_23 rfl (by decide) (aw_pc (pc' := 24) rfl ?_)
      refine aw_aload_n dX12_isShunted_24 rfl rfl (aw_pc (pc' := 25) rfl ?_)
      refine ar_gR fl_RX12_53 dX12_isShunted_25 h ?_
      clear h
      intro x7 h
      refine aw_pc (pc' := 28) rfl ?_
      refine aw_iload_n dX12_isShunted_28 rfl rfl (aw_pc (pc' := 29) rfl ?_)
      refine ar_aI dX12_isShunted_29 h ?_
      clear h
      intro x8 h
      refine aw_pc (pc' := 30) rfl ?_
      refine aw_istore dX12_isShunted_30 (by decide) (aw_pc (pc' := 32) rfl ?_)
      refine aw_aload_n dX12_isShunted_32 rfl rfl (aw_pc (pc' := 33) rfl ?_)
      refine ar_gR fl_RX12_56 dX12_isShunted_33 h ?_
      clear h
      intro x9 h
      refine aw_pc (pc' := 36) rfl ?_
      refine aw_iload_n dX12_isShunted_36 rfl rfl (aw_pc (pc' := 37) rfl ?_)
      refine ar_aI dX12_isShunted_37 h ?_
      clear h
      intro x10 h
      refine aw_pc (pc' := 38) rfl ?_
      refine aw_if_le dX12_isShunted_38 rfl (fun c => ?_) (fun c => ?_)
      · replace h := h.1 c
        refine aw_aload_n dX12_isShunted_41 rfl rfl (aw_pc (pc' := 42) rfl ?_)
        refine aw_iload dX12_isShunted_42 rfl (aw_pc (pc' := 44) rfl ?_)
        refine aw_aload_n dX12_isShunted_44 rfl rfl (aw_pc (pc' := 45) rfl ?_)
        refine ar_gR fl_RX12_53 dX12_isShunted_45 h ?_
        clear h
        intro x11 h
        refine aw_pc (pc' := 48) rfl ?_
        refine aw_aload_n dX12_isShunted_48 rfl rfl (aw_pc (pc' := 49) rfl ?_)
        refine aw_iload_n dX12_isShunted_49 rfl rfl (aw_pc (pc' := 50) rfl ?_)
        have h0 := rcv_inv h
        clear h
        obtain ⟨o14, fs_o14, hr_o14, he_o14, h⟩ := h0
        obtain rfl : o = o14 := Option.some.inj hr_o14
        refine ar_VI (kc' := 0) (ks' := 0) (kc := 0) (ks := 0) (a := o) (ci := 12) (as := [vi a2]) (st := [vr x11, vi x8, vr (some o)]) (tX12_endOf h) mt_X12_endOf rfl qM_RX12_416 qI_X12_endOf qV_X12_endOf he_o14 rfl (Nat.le_of_ble_eq_true rfl) dX12_isShunted_50 ?_
        clear h
        intro x13 F12 h
        refine aw_pc (pc' := 53) rfl ?_
        refine aw_iconst dX12_isShunted_53 (aw_pc (pc' := 54) rfl ?_)
        refine aw_isub dX12_isShunted_54 (aw_pc (pc' := 55) rfl ?_)
        refine ar_aI dX12_isShunted_55 h ?_
        clear h
        intro x15 h
        refine aw_pc (pc' := 56) rfl ?_
        have h0 := rcv_inv h
        clear h
        obtain ⟨o18, fs_o18, hr_o18, he_o18, h⟩ := h0
        obtain rfl : o = o18 := Option.some.inj hr_o18
        refine ar_VI (kc' := 0) (ks' := 0) (kc := 0) (ks := 0) (a := o) (ci := 12) (as := [vi x8, vi x15]) (st := []) (tX12_isForbidden h) mt_X12_isForbidden rfl qM_RX12_330 qI_X12_isForbidden qV_X12_isForbidden he_o18 rfl (Nat.le_of_ble_eq_true rfl) dX12_isShunted_56 ?_
        clear h
        intro x17 F16 h
        refine aw_pc (pc' := 59) rfl ?_
        refine aw_if_eq dX12_isShunted_59 rfl (fun c => ?_) (fun c => ?_)
        · replace h := h.1 c
          exact aw_mask [true, true, true, true, true, false, false] (tX12_isShunted_J64 h)
        · replace h := h.2 c
          refine aw_iconst dX12_isShunted_62 (aw_pc (pc' := 63) rfl ?_)
          exact aw_zret rfl (by decide) dX12_isShunted_63 ⟨_, rfl, h⟩
      · replace h := h.2 c
        exact aw_mask [true, true, true, true, true, false, false] (tX12_isShunted_J64 h)
def mX12_isWanted_L28 (Q : Int → hp → Prop) : Nat → Nat → Int → hp → Prop
  | 0, _, _, _ => False
  | k + 1, o, a1, F => rcv F (some o) 12 (fun o3 => mX12_cars o3 F (fun x2 F1 => (w32 a1 < w32 x2 → gR F1 (some o) 12 27 (fun x4 => aI F1 x4 0 a1 (fun x5 => gR F1 (some o) 12 26 (fun x6 => aI F1 x6 0 a1 (fun x7 => (w32 x5 = w32 x7 → mX12_isWanted_L28 Q k o (a1 + 1) F1) ∧ (¬ w32 x5 = w32 x7 → Q 0 F1)))))) ∧ (¬ w32 a1 < w32 x2 → Q 1 F1)))
set_option maxHeartbeats 4000000 in
theorem tX12_isWanted_L28 {d : Nat} {Q : Int → hp → Prop} : ∀ (k : Nat) (o : Nat) (a1 : Int) (F : hp), mX12_isWanted_L28 Q k o a1 F → aw nX12_isWanted (d + 2) 0 0 28 [some (vr (some o)), some (vi a1)] [] F (qI Q) := by
  intro k
  induction k with
  | zero => intro o a1 F h; exact h.elim
  | succ k ih =>
    intro o a1 F h
    simp only [mX12_isWanted_L28] at h
    refine aw_iload_n dX12_isWanted_28 rfl rfl (aw_pc (pc' := 29) rfl ?_)
    refine aw_aload_n dX12_isWanted_29 rfl rfl (aw_pc (pc' := 30) rfl ?_)
    have h0 := rcv_inv h
    clear h
    obtain ⟨o3, fs_o3, hr_o3, he_o3, h⟩ := h0
    obtain rfl : o = o3 := Option.some.inj hr_o3
    refine ar_VI (kc' := 0) (ks' := 0) (kc := 0) (ks := 0) (a := o) (ci := 12) (as := []) (st := [vi a1]) (tX12_cars h) mt_X12_cars rfl qM_RX12_413 qI_X12_cars qV_X12_cars he_o3 rfl (Nat.le_of_ble_eq_true rfl) dX12_isWanted_30 ?_
    clear h
    intro x2 F1 h
    refine aw_pc (pc' := 33) rfl ?_
    refine ac_ge rfl rfl dX12_isWanted_33 rfl (fun c => ?_) (fun c => ?_)
    · replace h := h.1 c
      refine aw_aload_n dX12_isWanted_36 rfl rfl (aw_pc (pc' := 37) rfl ?_)
      refine ar_gR fl_RX12_53 dX12_isWanted_37 h ?_
      clear h
      intro x4 h
      refine aw_pc (pc' := 40) rfl ?_
      refine aw_iload_n dX12_isWanted_40 rfl rfl (aw_pc (pc' := 41) rfl ?_)
      refine ar_aI dX12_isWanted_41 h ?_
      clear h
      intro x5 h
      refine aw_pc (pc' := 42) rfl ?_
      refine aw_aload_n dX12_isWanted_42 rfl rfl (aw_pc (pc' := 43) rfl ?_)
      refine ar_gR fl_RX12_50 dX12_isWanted_43 h ?_
      clear h
      intro x6 h
      refine aw_pc (pc' := 46) rfl ?_
      refine aw_iload_n dX12_isWanted_46 rfl rfl (aw_pc (pc' := 47) rfl ?_)
      refine ar_aI dX12_isWanted_47 h ?_
      clear h
      intro x7 h
      refine aw_pc (pc' := 48) rfl ?_
      refine ac_eq rfl rfl dX12_isWanted_48 rfl (fun c => ?_) (fun c => ?_)
      · replace h := h.1 c
        refine aw_iinc dX12_isWanted_53 rfl (by decide) (aw_pc (pc' := 56) rfl ?_)
        refine aw_goto (tgt := 28) dX12_isWanted_56 rfl ?_
        exact aw_mask [true, true] (ih _ _ _ h)
      · replace h := h.2 c
        refine aw_iconst dX12_isWanted_51 (aw_pc (pc' := 52) rfl ?_)
        exact aw_zret rfl (by decide) dX12_isWanted_52 ⟨_, rfl, h⟩
    · replace h := h.2 c
      refine aw_iconst dX12_isWanted_59 (aw_pc (pc' := 60) rfl ?_)
      exact aw_zret rfl (by decide) dX12_isWanted_60 ⟨_, rfl, h⟩
def mX12_isWanted (o : Nat) (F : hp) (Q : Int → hp → Prop) : Prop := gR F (some o) 12 28 (fun x1 => aI F x1 0 2 (fun x2 => rcv F (some o) 12 (fun o5 => mX12_cars o5 F (fun x4 F3 => (w32 x2 = w32 x4 → gR F3 (some o) 12 0 (fun x6 => aI F3 x6 0 60 (fun x7 => rcv F3 (some o) 12 (fun o9 => mX12_layRow o9 x7 F3 (fun F8 => (∃ k10, mX12_isWanted_L28 Q k10 o 0 F8)))))) ∧ (¬ w32 x2 = w32 x4 → Q 0 F3)))))
set_option maxHeartbeats 4000000 in
theorem tX12_isWanted {d : Nat} {o : Nat} {F : hp} {Q : Int → hp → Prop} (h : mX12_isWanted o F Q) : am nX12_isWanted (d + 2) 0 0 [vr (some o)] F (qI Q) := by
  refine am_of (by decide +kernel) (Nat.le_of_ble_eq_true rfl) ?_
  show aw nX12_isWanted (d + 2) 0 0 0 [some (vr (some o)), none] [] F (qI Q)
  unfold mX12_isWanted at h
  refine aw_aload_n dX12_isWanted_0 rfl rfl (aw_pc (pc' := 1) rfl ?_)
  refine ar_gR fl_RX12_56 dX12_isWanted_1 h ?_
  clear h
  intro x1 h
  refine aw_pc (pc' := 4) rfl ?_
  refine aw_iconst dX12_isWanted_4 (aw_pc (pc' := 5) rfl ?_)
  refine ar_aI dX12_isWanted_5 h ?_
  clear h
  intro x2 h
  refine aw_pc (pc' := 6) rfl ?_
  refine aw_aload_n dX12_isWanted_6 rfl rfl (aw_pc (pc' := 7) rfl ?_)
  have h0 := rcv_inv h
  clear h
  obtain ⟨o5, fs_o5, hr_o5, he_o5, h⟩ := h0
  obtain rfl : o = o5 := Option.some.inj hr_o5
  refine ar_VI (kc' := 0) (ks' := 0) (kc := 0) (ks := 0) (a := o) (ci := 12) (as := []) (st := [vi x2]) (tX12_cars h) mt_X12_cars rfl qM_RX12_413 qI_X12_cars qV_X12_cars he_o5 rfl (Nat.le_of_ble_eq_true rfl) dX12_isWanted_7 ?_
  clear h
  intro x4 F3 h
  refine aw_pc (pc' := 10) rfl ?_
  refine ac_eq rfl rfl dX12_isWanted_10 rfl (fun c => ?_) (fun c => ?_)
  · replace h := h.1 c
    refine aw_aload_n dX12_isWanted_15 rfl rfl (aw_pc (pc' := 16) rfl ?_)
    refine aw_aload_n dX12_isWanted_16 rfl rfl (aw_pc (pc' := 17) rfl ?_)
    refine ar_gR fl_RX12_7 dX12_isWanted_17 h ?_
    clear h
    intro x6 h
    refine aw_pc (pc' := 20) rfl ?_
    refine aw_bipush dX12_isWanted_20 (by decide) (aw_pc (pc' := 22) rfl ?_)
    refine ar_aI dX12_isWanted_22 h ?_
    clear h
    intro x7 h
    refine aw_pc (pc' := 23) rfl ?_
    have h0 := rcv_inv h
    clear h
    obtain ⟨o9, fs_o9, hr_o9, he_o9, h⟩ := h0
    obtain rfl : o = o9 := Option.some.inj hr_o9
    refine ar_VV (kc' := 0) (ks' := 0) (kc := 0) (ks := 0) (a := o) (ci := 12) (as := [vi x7]) (st := []) (tX12_layRow h) mt_X12_layRow rfl qM_RX12_410 qI_X12_layRow qV_X12_layRow he_o9 rfl (Nat.le_of_ble_eq_true rfl) dX12_isWanted_23 ?_
    clear h
    intro F8 h
    refine aw_pc (pc' := 26) rfl ?_
    refine aw_iconst dX12_isWanted_26 (aw_pc (pc' := 27) rfl ?_)
    refine aw_istore_n dX12_isWanted_27 rfl (by decide) (aw_pc (pc' := 28) rfl ?_)
    obtain ⟨k10, h⟩ := h
    exact aw_mask [true, true] (tX12_isWanted_L28 k10 _ _ _ h)
  · replace h := h.2 c
    refine aw_iconst dX12_isWanted_13 (aw_pc (pc' := 14) rfl ?_)
    exact aw_zret rfl (by decide) dX12_isWanted_14 ⟨_, rfl, h⟩
def mX12_spread_J196 (X78 : Nat → Int → Int → Int → hp → Prop) (X86 : Nat → Int → Int → Int → Int → hp → Prop) (Q : Int → hp → Prop) (o : Nat) (a1 : Int) (a2 : Int) (a3 : Int) (a4 : Int) (F : hp) : Prop := X86 o a1 a2 a3 (a4 + 1) F
set_option maxHeartbeats 4000000 in
theorem tX12_spread_J196 {d : Nat} {X78 : Nat → Int → Int → Int → hp → Prop} {X86 : Nat → Int → Int → Int → Int → hp → Prop} {Q : Int → hp → Prop} (hX78 : ∀ (o : Nat) (a1 : Int) (a2 : Int) (a3 : Int) (F : hp), X78 o a1 a2 a3 F → aw nX12_spread (d + 3) 0 0 78 [some (vr (some o)), some (vi a1), some (vi a2), some (vi a3), none, none] [] F (qI Q)) (hX86 : ∀ (o : Nat) (a1 : Int) (a2 : Int) (a3 : Int) (a4 : Int) (F : hp), X86 o a1 a2 a3 a4 F → aw nX12_spread (d + 3) 0 0 86 [some (vr (some o)), some (vi a1), some (vi a2), some (vi a3), some (vi a4), none] [] F (qI Q)) {o : Nat} {a1 : Int} {a2 : Int} {a3 : Int} {a4 : Int} {F : hp} (h : mX12_spread_J196 X78 X86 Q o a1 a2 a3 a4 F) : aw nX12_spread (d + 3) 0 0 196 [some (vr (some o)), some (vi a1), some (vi a2), some (vi a3), some (vi a4), none] [] F (qI Q) := by
  unfold mX12_spread_J196 at h
  refine aw_iinc dX12_spread_196 rfl (by decide) (aw_pc (pc' := 199) rfl ?_)
  refine aw_goto (tgt := 86) dX12_spread_199 rfl ?_
  exact aw_mask [true, true, true, true, true, false] (hX86 _ _ _ _ _ _ h)
def mX12_spread_J193 (X78 : Nat → Int → Int → Int → hp → Prop) (X86 : Nat → Int → Int → Int → Int → hp → Prop) (Q : Int → hp → Prop) (o : Nat) (a1 : Int) (a2 : Int) (a3 : Int) (a4 : Int) (F : hp) : Prop := mX12_spread_J196 X78 X86 Q o a1 (a2 + 1) a3 a4 F
set_option maxHeartbeats 4000000 in
theorem tX12_spread_J193 {d : Nat} {X78 : Nat → Int → Int → Int → hp → Prop} {X86 : Nat → Int → Int → Int → Int → hp → Prop} {Q : Int → hp → Prop} (hX78 : ∀ (o : Nat) (a1 : Int) (a2 : Int) (a3 : Int) (F : hp), X78 o a1 a2 a3 F → aw nX12_spread (d + 3) 0 0 78 [some (vr (some o)), some (vi a1), some (vi a2), some (vi a3), none, none] [] F (qI Q)) (hX86 : ∀ (o : Nat) (a1 : Int) (a2 : Int) (a3 : Int) (a4 : Int) (F : hp), X86 o a1 a2 a3 a4 F → aw nX12_spread (d + 3) 0 0 86 [some (vr (some o)), some (vi a1), some (vi a2), some (vi a3), some (vi a4), none] [] F (qI Q)) {o : Nat} {a1 : Int} {a2 : Int} {a3 : Int} {a4 : Int} {F : hp} (h : mX12_spread_J193 X78 X86 Q o a1 a2 a3 a4 F) : aw nX12_spread (d + 3) 0 0 193 [some (vr (some o)), some (vi a1), some (vi a2), some (vi a3), some (vi a4), none] [] F (qI Q) := by
  unfold mX12_spread_J193 at h
  refine aw_iinc dX12_spread_193 rfl (by decide) (aw_pc (pc' := 196) rfl ?_)
  exact aw_mask [true, true, true, true, true, false] (tX12_spread_J196 hX78 hX86 h)
def mX12_spread_L86 (X78 : Nat → Int → Int → Int → hp → Prop) (Q : Int → hp → Prop) : Nat → Nat → Int → Int → Int → Int → hp → Prop
  | 0, _, _, _, _, _, _ => False
  | k + 1, o, a1, a2, a3, a4, F => (w32 a4 < 9 → gR F (some o) 12 31 (fun x1 => aI F x1 0 a3 (fun x2 => rcv F (some o) 12 (fun o4 => mX12_standSo o4 x2 a1 F (fun F3 => rcv F3 (some o) 12 (fun o7 => mX12_isShunted o7 ((w32 a4).tdiv 3) ((w32 a4).tmod 3) F3 (fun x6 F5 => (w32 x6 = 0 → mX12_spread_J196 X78 (fun o' a1' a2' a3' a4' F' => mX12_spread_L86 X78 Q k o' a1' a2' a3' a4' F') Q o a1 a2 a3 a4 F5) ∧ (¬ w32 x6 = 0 → rcv F5 (some o) 12 (fun o10 => mX12_standOf o10 F5 (fun x9 F8 => gR F8 (some o) 12 29 (fun x11 => aI F8 x11 0 x9 (fun x12 => (w32 x12 = (-2) → gR F8 (some o) 12 29 (fun x13 => gR F8 (some o) 12 31 (fun x14 => aI F8 x14 0 a3 (fun x15 => sI F8 x13 0 x9 x15 (fun F16 => gR F16 (some o) 12 30 (fun x17 => sI F16 x17 0 x9 a4 (fun F18 => gR F18 (some o) 12 31 (fun x19 => sI F18 x19 0 a2 x9 (fun F20 => gI F20 (some o) 12 32 (fun x21 => (w32 x21 = (-1) → rcv F20 (some o) 12 (fun o24 => mX12_isWanted o24 F20 (fun x23 F22 => (w32 x23 = 0 → mX12_spread_J193 X78 (fun o' a1' a2' a3' a4' F' => mX12_spread_L86 X78 Q k o' a1' a2' a3' a4' F') Q o a1 a2 a3 a4 F22) ∧ (¬ w32 x23 = 0 → pF F22 (some o) 12 32 (vi a2) (fun F25 => mX12_spread_J193 X78 (fun o' a1' a2' a3' a4' F' => mX12_spread_L86 X78 Q k o' a1' a2' a3' a4' F') Q o a1 a2 a3 a4 F25))))) ∧ (¬ w32 x21 = (-1) → mX12_spread_J193 X78 (fun o' a1' a2' a3' a4' F' => mX12_spread_L86 X78 Q k o' a1' a2' a3' a4' F') Q o a1 a2 a3 a4 F20))))))))))) ∧ (¬ w32 x12 = (-2) → mX12_spread_J196 X78 (fun o' a1' a2' a3' a4' F' => mX12_spread_L86 X78 Q k o' a1' a2' a3' a4' F') Q o a1 a2 a3 a4 F8))))))))))))) ∧ (¬ w32 a4 < 9 → X78 o a1 a2 (a3 + 1) F)
set_option maxHeartbeats 4000000 in
theorem tX12_spread_L86 {d : Nat} {X78 : Nat → Int → Int → Int → hp → Prop} {Q : Int → hp → Prop} (hX78 : ∀ (o : Nat) (a1 : Int) (a2 : Int) (a3 : Int) (F : hp), X78 o a1 a2 a3 F → aw nX12_spread (d + 3) 0 0 78 [some (vr (some o)), some (vi a1), some (vi a2), some (vi a3), none, none] [] F (qI Q)) : ∀ (k : Nat) (o : Nat) (a1 : Int) (a2 : Int) (a3 : Int) (a4 : Int) (F : hp), mX12_spread_L86 X78 Q k o a1 a2 a3 a4 F → aw nX12_spread (d + 3) 0 0 86 [some (vr (some o)), some (vi a1), some (vi a2), some (vi a3), some (vi a4), none] [] F (qI Q) := by
  intro k
  induction k with
  | zero => intro o a1 a2 a3 a4 F h; exact h.elim
  | succ k ih =>
    intro o a1 a2 a3 a4 F h
    simp only [mX12_spread_L86] at h
    refine aw_iload dX12_spread_86 rfl (aw_pc (pc' := 88) rfl ?_)
    refine aw_bipush dX12_spread_88 (by decide) (aw_pc (pc' := 90) rfl ?_)
    refine ac_ge rfl wl_9 dX12_spread_90 rfl (fun c => ?_) (fun c => ?_)
    · replace h := h.1 c
      refine aw_aload_n dX12_spread_93 rfl rfl (aw_pc (pc' := 94) rfl ?_)
      refine aw_aload_n dX12_spread_94 rfl rfl (aw_pc (pc' := 95) rfl ?_)
      refine ar_gR fl_RX12_65 dX12_spread_95 h ?_
      clear h
      intro x1 h
      refine aw_pc (pc' := 98) rfl ?_
      refine aw_iload_n dX12_spread_98 rfl rfl (aw_pc (pc' := 99) rfl ?_)
      refine ar_aI dX12_spread_99 h ?_
      clear h
      intro x2 h
      refine aw_pc (pc' := 100) rfl ?_
      refine aw_iload_n dX12_spread_100 rfl rfl (aw_pc (pc' := 101) rfl ?_)
      have h0 := rcv_inv h
      clear h
      obtain ⟨o4, fs_o4, hr_o4, he_o4, h⟩ := h0
      obtain rfl : o = o4 := Option.some.inj hr_o4
      refine ar_VV (kc' := 0) (ks' := 0) (kc := 0) (ks := 0) (a := o) (ci := 12) (as := [vi x2, vi a1]) (st := []) (tX12_standSo h) mt_X12_standSo rfl qM_RX12_432 qI_X12_standSo qV_X12_standSo he_o4 rfl (Nat.le_of_ble_eq_true rfl) dX12_spread_101 ?_
      clear h
      intro F3 h
      refine aw_pc (pc' := 104) rfl ?_
      refine aw_aload_n dX12_spread_104 rfl rfl (aw_pc (pc' := 105) rfl ?_)
      refine aw_iload dX12_spread_105 rfl (aw_pc (pc' := 107) rfl ?_)
      refine aw_iconst dX12_spread_107 (aw_pc (pc' := 108) rfl ?_)
      refine ac_div wl_3 (by decide) dX12_spread_108 (aw_pc (pc' := 109) rfl ?_)
      refine aw_iload dX12_spread_109 rfl (aw_pc (pc' := 111) rfl ?_)
      refine aw_iconst dX12_spread_111 (aw_pc (pc' := 112) rfl ?_)
      refine ac_rem wl_3 (by decide) dX12_spread_112 (aw_pc (pc' := 113) rfl ?_)
      have h0 := rcv_inv h
      clear h
      obtain ⟨o7, fs_o7, hr_o7, he_o7, h⟩ := h0
      obtain rfl : o = o7 := Option.some.inj hr_o7
      refine ar_VI (kc' := 0) (ks' := 0) (kc := 0) (ks := 0) (a := o) (ci := 12) (as := [vi ((w32 a4).tdiv 3), vi ((w32 a4).tmod 3)]) (st := []) (tX12_isShunted h) mt_X12_isShunted rfl qM_RX12_435 qI_X12_isShunted qV_X12_isShunted he_o7 rfl (Nat.le_of_ble_eq_true rfl) dX12_spread_113 ?_
      clear h
      intro x6 F5 h
      refine aw_pc (pc' := 116) rfl ?_
      refine aw_if_ne dX12_spread_116 rfl (fun c => ?_) (fun c => ?_)
      · replace h := h.1 c
        refine aw_goto (tgt := 196) dX12_spread_119 rfl ?_
        exact aw_mask [true, true, true, true, true, false] (tX12_spread_J196 hX78 (fun o' a1' a2' a3' a4' F' h' => ih o' a1' a2' a3' a4' F' h') h)
      · replace h := h.2 c
        refine aw_aload_n dX12_spread_122 rfl rfl (aw_pc (pc' := 123) rfl ?_)
        have h0 := rcv_inv h
        clear h
        obtain ⟨o10, fs_o10, hr_o10, he_o10, h⟩ := h0
        obtain rfl : o = o10 := Option.some.inj hr_o10
        refine ar_VI (kc' := 0) (ks' := 0) (kc := 0) (ks := 0) (a := o) (ci := 12) (as := []) (st := []) (tX12_standOf h) mt_X12_standOf rfl qM_RX12_423 qI_X12_standOf qV_X12_standOf he_o10 rfl (Nat.le_of_ble_eq_true rfl) dX12_spread_123 ?_
        clear h
        intro x9 F8 h
        refine aw_pc (pc' := 126) rfl ?_
        refine aw_istore dX12_spread_126 (by decide) (aw_pc (pc' := 128) rfl ?_)
        refine aw_aload_n dX12_spread_128 rfl rfl (aw_pc (pc' := 129) rfl ?_)
        refine ar_gR fl_RX12_59 dX12_spread_129 h ?_
        clear h
        intro x11 h
        refine aw_pc (pc' := 132) rfl ?_
        refine aw_iload dX12_spread_132 rfl (aw_pc (pc' := 134) rfl ?_)
        refine ar_aI dX12_spread_134 h ?_
        clear h
        intro x12 h
        refine aw_pc (pc' := 135) rfl ?_
        refine aw_bipush dX12_spread_135 (by decide) (aw_pc (pc' := 137) rfl ?_)
        refine ac_eq rfl wl_m2 dX12_spread_137 rfl (fun c => ?_) (fun c => ?_)
        · replace h := h.1 c
          refine aw_aload_n dX12_spread_143 rfl rfl (aw_pc (pc' := 144) rfl ?_)
          refine ar_gR fl_RX12_59 dX12_spread_144 h ?_
          clear h
          intro x13 h
          refine aw_pc (pc' := 147) rfl ?_
          refine aw_iload dX12_spread_147 rfl (aw_pc (pc' := 149) rfl ?_)
          refine aw_aload_n dX12_spread_149 rfl rfl (aw_pc (pc' := 150) rfl ?_)
          refine ar_gR fl_RX12_65 dX12_spread_150 h ?_
          clear h
          intro x14 h
          refine aw_pc (pc' := 153) rfl ?_
          refine aw_iload_n dX12_spread_153 rfl rfl (aw_pc (pc' := 154) rfl ?_)
          refine ar_aI dX12_spread_154 h ?_
          clear h
          intro x15 h
          refine aw_pc (pc' := 155) rfl ?_
          refine ar_sI dX12_spread_155 h ?_
          clear h
          intro F16 h
          refine aw_pc (pc' := 156) rfl ?_
          refine aw_aload_n dX12_spread_156 rfl rfl (aw_pc (pc' := 157) rfl ?_)
          refine ar_gR fl_RX12_62 dX12_spread_157 h ?_
          clear h
          intro x17 h
          refine aw_pc (pc' := 160) rfl ?_
          refine aw_iload dX12_spread_160 rfl (aw_pc (pc' := 162) rfl ?_)
          refine aw_iload dX12_spread_162 rfl (aw_pc (pc' := 164) rfl ?_)
          refine ar_sI dX12_spread_164 h ?_
          clear h
          intro F18 h
          refine aw_pc (pc' := 165) rfl ?_
          refine aw_aload_n dX12_spread_165 rfl rfl (aw_pc (pc' := 166) rfl ?_)
          refine ar_gR fl_RX12_65 dX12_spread_166 h ?_
          clear h
          intro x19 h
          refine aw_pc (pc' := 169) rfl ?_
          refine aw_iload_n dX12_spread_169 rfl rfl (aw_pc (pc' := 170) rfl ?_)
          refine aw_iload dX12_spread_170 rfl (aw_pc (pc' := 172) rfl ?_)
          refine ar_sI dX12_spread_172 h ?_
          clear h
          intro F20 h
          refine aw_pc (pc' := 173) rfl ?_
          refine aw_aload_n dX12_spread_173 rfl rfl (aw_pc (pc' := 174) rfl ?_)
          refine ar_gI fl_RX12_429 dX12_spread_174 h ?_
          clear h
          intro x21 h
          refine aw_pc (pc' := 177) rfl ?_
          refine aw_iconst dX12_spread_177 (aw_pc (pc' := 178) rfl ?_)
          refine ac_ne rfl wl_m1 dX12_spread_178 rfl (fun c => ?_) (fun c => ?_)
          · replace h := h.1 c
            refine aw_aload_n dX12_spread_181 rfl rfl (aw_pc (pc' := 182) rfl ?_)
            have h0 := rcv_inv h
            clear h
            obtain ⟨o24, fs_o24, hr_o24, he_o24, h⟩ := h0
            obtain rfl : o = o24 := Option.some.inj hr_o24
            refine ar_VI (kc' := 0) (ks' := 0) (kc := 0) (ks := 0) (a := o) (ci := 12) (as := []) (st := []) (tX12_isWanted h) mt_X12_isWanted rfl qM_RX12_426 qI_X12_isWanted qV_X12_isWanted he_o24 rfl (Nat.le_of_ble_eq_true rfl) dX12_spread_182 ?_
            clear h
            intro x23 F22 h
            refine aw_pc (pc' := 185) rfl ?_
            refine aw_if_eq dX12_spread_185 rfl (fun c => ?_) (fun c => ?_)
            · replace h := h.1 c
              exact aw_mask [true, true, true, true, true, false] (tX12_spread_J193 hX78 (fun o' a1' a2' a3' a4' F' h' => ih o' a1' a2' a3' a4' F' h') h)
            · replace h := h.2 c
              refine aw_aload_n dX12_spread_188 rfl rfl (aw_pc (pc' := 189) rfl ?_)
              refine aw_iload_n dX12_spread_189 rfl rfl (aw_pc (pc' := 190) rfl ?_)
              refine ar_pF fl_RX12_429 ft_X12_32 (okI _) dX12_spread_190 h ?_
              clear h
              intro F25 h
              refine aw_pc (pc' := 193) rfl ?_
              exact aw_mask [true, true, true, true, true, false] (tX12_spread_J193 hX78 (fun o' a1' a2' a3' a4' F' h' => ih o' a1' a2' a3' a4' F' h') h)
          · replace h := h.2 c
            exact aw_mask [true, true, true, true, true, false] (tX12_spread_J193 hX78 (fun o' a1' a2' a3' a4' F' h' => ih o' a1' a2' a3' a4' F' h') h)
        · replace h := h.2 c
          refine aw_goto (tgt := 196) dX12_spread_140 rfl ?_
          exact aw_mask [true, true, true, true, true, false] (tX12_spread_J196 hX78 (fun o' a1' a2' a3' a4' F' h' => ih o' a1' a2' a3' a4' F' h') h)
    · replace h := h.2 c
      refine aw_iinc dX12_spread_202 rfl (by decide) (aw_pc (pc' := 205) rfl ?_)
      refine aw_goto (tgt := 78) dX12_spread_205 rfl ?_
      exact aw_mask [true, true, true, true, false, false] (hX78 _ _ _ _ _ h)
def mX12_spread_L78 (Q : Int → hp → Prop) : Nat → Nat → Int → Int → Int → hp → Prop
  | 0, _, _, _, _, _ => False
  | k + 1, o, a1, a2, a3, F => (w32 a3 < w32 a2 → (∃ k1, mX12_spread_L86 (fun o' a1' a2' a3' F' => mX12_spread_L78 Q k o' a1' a2' a3' F') Q k1 o a1 a2 a3 0 F)) ∧ (¬ w32 a3 < w32 a2 → Q a2 F)
set_option maxHeartbeats 4000000 in
theorem tX12_spread_L78 {d : Nat} {Q : Int → hp → Prop} : ∀ (k : Nat) (o : Nat) (a1 : Int) (a2 : Int) (a3 : Int) (F : hp), mX12_spread_L78 Q k o a1 a2 a3 F → aw nX12_spread (d + 3) 0 0 78 [some (vr (some o)), some (vi a1), some (vi a2), some (vi a3), none, none] [] F (qI Q) := by
  intro k
  induction k with
  | zero => intro o a1 a2 a3 F h; exact h.elim
  | succ k ih =>
    intro o a1 a2 a3 F h
    simp only [mX12_spread_L78] at h
    refine aw_iload_n dX12_spread_78 rfl rfl (aw_pc (pc' := 79) rfl ?_)
    refine aw_iload_n dX12_spread_79 rfl rfl (aw_pc (pc' := 80) rfl ?_)
    refine ac_ge rfl rfl dX12_spread_80 rfl (fun c => ?_) (fun c => ?_)
    · replace h := h.1 c
      refine aw_iconst dX12_spread_83 (aw_pc (pc' := 84) rfl ?_)
      refine aw_istore dX12_spread_84 (by decide) (aw_pc (pc' := 86) rfl ?_)
      obtain ⟨k1, h⟩ := h
      exact aw_mask [true, true, true, true, true, false] (tX12_spread_L86 (fun o' a1' a2' a3' F' h' => ih o' a1' a2' a3' F' h') k1 _ _ _ _ _ _ h)
    · replace h := h.2 c
      refine aw_iload_n dX12_spread_208 rfl rfl (aw_pc (pc' := 209) rfl ?_)
      exact aw_iret rfl dX12_spread_209 ⟨_, rfl, h⟩
def mX12_spread_J71 (Q : Int → hp → Prop) (o : Nat) (a1 : Int) (s0 : Option Nat) (s1 : Int) (F : hp) : Prop := pF F s0 12 32 (vi s1) (fun F1 => (∃ k2, mX12_spread_L78 Q k2 o a1 1 0 F1))
set_option maxHeartbeats 4000000 in
theorem tX12_spread_J71 {d : Nat} {Q : Int → hp → Prop} {o : Nat} {a1 : Int} {s0 : Option Nat} {s1 : Int} {F : hp} (h : mX12_spread_J71 Q o a1 s0 s1 F) : aw nX12_spread (d + 3) 0 0 71 [some (vr (some o)), some (vi a1), none, none, none, none] [vi s1, vr s0] F (qI Q) := by
  unfold mX12_spread_J71 at h
  refine ar_pF fl_RX12_429 ft_X12_32 (okI _) dX12_spread_71 h ?_
  clear h
  intro F1 h
  refine aw_pc (pc' := 74) rfl ?_
  refine aw_iconst dX12_spread_74 (aw_pc (pc' := 75) rfl ?_)
  refine aw_istore_n dX12_spread_75 rfl (by decide) (aw_pc (pc' := 76) rfl ?_)
  refine aw_iconst dX12_spread_76 (aw_pc (pc' := 77) rfl ?_)
  refine aw_istore_n dX12_spread_77 rfl (by decide) (aw_pc (pc' := 78) rfl ?_)
  obtain ⟨k2, h⟩ := h
  exact aw_mask [true, true, true, true, false, false] (tX12_spread_L78 k2 _ _ _ _ _ h)
def mX12_spread_L2 (Q : Int → hp → Prop) : Nat → Nat → Int → hp → Prop
  | 0, _, _, _ => False
  | k + 1, o, a1, F => (w32 a1 < 4320 → gR F (some o) 12 29 (fun x1 => sI F x1 0 a1 (-2) (fun F2 => mX12_spread_L2 Q k o (a1 + 1) F2))) ∧ (¬ w32 a1 < 4320 → gR F (some o) 12 0 (fun x3 => rcv F (some o) 12 (fun o5 => mX12_takeFrom o5 x3 F (fun F4 => rcv F4 (some o) 12 (fun o8 => mX12_cars o8 F4 (fun x7 F6 => gR F6 (some o) 12 31 (fun x9 => rcv F6 (some o) 12 (fun o12 => mX12_standOf o12 F6 (fun x11 F10 => sI F10 x9 0 0 x11 (fun F13 => gR F13 (some o) 12 29 (fun x14 => gR F13 (some o) 12 31 (fun x15 => aI F13 x15 0 0 (fun x16 => sI F13 x14 0 x16 (-1) (fun F17 => rcv F17 (some o) 12 (fun o20 => mX12_isWanted o20 F17 (fun x19 F18 => (w32 x19 = 0 → mX12_spread_J71 Q o x7 (some o) (-1) F18) ∧ (¬ w32 x19 = 0 → mX12_spread_J71 Q o x7 (some o) 0 F18)))))))))))))))))
set_option maxHeartbeats 4000000 in
theorem tX12_spread_L2 {d : Nat} {Q : Int → hp → Prop} : ∀ (k : Nat) (o : Nat) (a1 : Int) (F : hp), mX12_spread_L2 Q k o a1 F → aw nX12_spread (d + 3) 0 0 2 [some (vr (some o)), some (vi a1), none, none, none, none] [] F (qI Q) := by
  intro k
  induction k with
  | zero => intro o a1 F h; exact h.elim
  | succ k ih =>
    intro o a1 F h
    simp only [mX12_spread_L2] at h
    refine aw_iload_n dX12_spread_2 rfl rfl (aw_pc (pc' := 3) rfl ?_)
    refine aw_sipush dX12_spread_3 (by decide) (aw_pc (pc' := 6) rfl ?_)
    refine ac_ge rfl wl_4320 dX12_spread_6 rfl (fun c => ?_) (fun c => ?_)
    · replace h := h.1 c
      refine aw_aload_n dX12_spread_9 rfl rfl (aw_pc (pc' := 10) rfl ?_)
      refine ar_gR fl_RX12_59 dX12_spread_10 h ?_
      clear h
      intro x1 h
      refine aw_pc (pc' := 13) rfl ?_
      refine aw_iload_n dX12_spread_13 rfl rfl (aw_pc (pc' := 14) rfl ?_)
      refine aw_bipush dX12_spread_14 (by decide) (aw_pc (pc' := 16) rfl ?_)
      refine ar_sI dX12_spread_16 h ?_
      clear h
      intro F2 h
      refine aw_pc (pc' := 17) rfl ?_
      refine aw_iinc dX12_spread_17 rfl (by decide) (aw_pc (pc' := 20) rfl ?_)
      refine aw_goto (tgt := 2) dX12_spread_20 rfl ?_
      exact aw_mask [true, true, false, false, false, false] (ih _ _ _ h)
    · replace h := h.2 c
      refine aw_aload_n dX12_spread_23 rfl rfl (aw_pc (pc' := 24) rfl ?_)
      refine aw_aload_n dX12_spread_24 rfl rfl (aw_pc (pc' := 25) rfl ?_)
      refine ar_gR fl_RX12_7 dX12_spread_25 h ?_
      clear h
      intro x3 h
      refine aw_pc (pc' := 28) rfl ?_
      have h0 := rcv_inv h
      clear h
      obtain ⟨o5, fs_o5, hr_o5, he_o5, h⟩ := h0
      obtain rfl : o = o5 := Option.some.inj hr_o5
      refine ar_VV (kc' := 0) (ks' := 0) (kc := 0) (ks := 0) (a := o) (ci := 12) (as := [vr x3]) (st := []) (tX12_takeFrom h) mt_X12_takeFrom rfl qM_RX12_419 qI_X12_takeFrom qV_X12_takeFrom he_o5 rfl (Nat.le_of_ble_eq_true rfl) dX12_spread_28 ?_
      clear h
      intro F4 h
      refine aw_pc (pc' := 31) rfl ?_
      refine aw_aload_n dX12_spread_31 rfl rfl (aw_pc (pc' := 32) rfl ?_)
      have h0 := rcv_inv h
      clear h
      obtain ⟨o8, fs_o8, hr_o8, he_o8, h⟩ := h0
      obtain rfl : o = o8 := Option.some.inj hr_o8
      refine ar_VI (kc' := 0) (ks' := 0) (kc := 0) (ks := 0) (a := o) (ci := 12) (as := []) (st := []) (tX12_cars h) mt_X12_cars rfl qM_RX12_413 qI_X12_cars qV_X12_cars he_o8 rfl (Nat.le_of_ble_eq_true rfl) dX12_spread_32 ?_
      clear h
      intro x7 F6 h
      refine aw_pc (pc' := 35) rfl ?_
      refine aw_istore_n dX12_spread_35 rfl (by decide) (aw_pc (pc' := 36) rfl ?_)
      refine aw_aload_n dX12_spread_36 rfl rfl (aw_pc (pc' := 37) rfl ?_)
      refine ar_gR fl_RX12_65 dX12_spread_37 h ?_
      clear h
      intro x9 h
      refine aw_pc (pc' := 40) rfl ?_
      refine aw_iconst dX12_spread_40 (aw_pc (pc' := 41) rfl ?_)
      refine aw_aload_n dX12_spread_41 rfl rfl (aw_pc (pc' := 42) rfl ?_)
      have h0 := rcv_inv h
      clear h
      obtain ⟨o12, fs_o12, hr_o12, he_o12, h⟩ := h0
      obtain rfl : o = o12 := Option.some.inj hr_o12
      refine ar_VI (kc' := 0) (ks' := 0) (kc := 0) (ks := 0) (a := o) (ci := 12) (as := []) (st := [vi 0, vr x9]) (tX12_standOf h) mt_X12_standOf rfl qM_RX12_423 qI_X12_standOf qV_X12_standOf he_o12 rfl (Nat.le_of_ble_eq_true rfl) dX12_spread_42 ?_
      clear h
      intro x11 F10 h
      refine aw_pc (pc' := 45) rfl ?_
      refine ar_sI dX12_spread_45 h ?_
      clear h
      intro F13 h
      refine aw_pc (pc' := 46) rfl ?_
      refine aw_aload_n dX12_spread_46 rfl rfl (aw_pc (pc' := 47) rfl ?_)
      refine ar_gR fl_RX12_59 dX12_spread_47 h ?_
      clear h
      intro x14 h
      refine aw_pc (pc' := 50) rfl ?_
      refine aw_aload_n dX12_spread_50 rfl rfl (aw_pc (pc' := 51) rfl ?_)
      refine ar_gR fl_RX12_65 dX12_spread_51 h ?_
      clear h
      intro x15 h
      refine aw_pc (pc' := 54) rfl ?_
      refine aw_iconst dX12_spread_54 (aw_pc (pc' := 55) rfl ?_)
      refine ar_aI dX12_spread_55 h ?_
      clear h
      intro x16 h
      refine aw_pc (pc' := 56) rfl ?_
      refine aw_iconst dX12_spread_56 (aw_pc (pc' := 57) rfl ?_)
      refine ar_sI dX12_spread_57 h ?_
      clear h
      intro F17 h
      refine aw_pc (pc' := 58) rfl ?_
      refine aw_aload_n dX12_spread_58 rfl rfl (aw_pc (pc' := 59) rfl ?_)
      refine aw_aload_n dX12_spread_59 rfl rfl (aw_pc (pc' := 60) rfl ?_)
      have h0 := rcv_inv h
      clear h
      obtain ⟨o20, fs_o20, hr_o20, he_o20, h⟩ := h0
      obtain rfl : o = o20 := Option.some.inj hr_o20
      refine ar_VI (kc' := 0) (ks' := 0) (kc := 0) (ks := 0) (a := o) (ci := 12) (as := []) (st := [vr (some o)]) (tX12_isWanted h) mt_X12_isWanted rfl qM_RX12_426 qI_X12_isWanted qV_X12_isWanted he_o20 rfl (Nat.le_of_ble_eq_true rfl) dX12_spread_60 ?_
      clear h
      intro x19 F18 h
      refine aw_pc (pc' := 63) rfl ?_
      refine aw_if_eq dX12_spread_63 rfl (fun c => ?_) (fun c => ?_)
      · replace h := h.1 c
        refine aw_iconst dX12_spread_70 (aw_pc (pc' := 71) rfl ?_)
        exact aw_mask [true, true, false, false, false, false] (tX12_spread_J71 h)
      · replace h := h.2 c
        refine aw_iconst dX12_spread_66 (aw_pc (pc' := 67) rfl ?_)
        refine aw_goto (tgt := 71) dX12_spread_67 rfl ?_
        exact aw_mask [true, true, false, false, false, false] (tX12_spread_J71 h)
def mX12_spread (o : Nat) (F : hp) (Q : Int → hp → Prop) : Prop := (∃ k1, mX12_spread_L2 Q k1 o 0 F)
set_option maxHeartbeats 4000000 in
theorem tX12_spread {d : Nat} {o : Nat} {F : hp} {Q : Int → hp → Prop} (h : mX12_spread o F Q) : am nX12_spread (d + 3) 0 0 [vr (some o)] F (qI Q) := by
  refine am_of (by decide +kernel) (Nat.le_of_ble_eq_true rfl) ?_
  show aw nX12_spread (d + 3) 0 0 0 [some (vr (some o)), none, none, none, none, none] [] F (qI Q)
  unfold mX12_spread at h
  refine aw_iconst dX12_spread_0 (aw_pc (pc' := 1) rfl ?_)
  refine aw_istore_n dX12_spread_1 rfl (by decide) (aw_pc (pc' := 2) rfl ?_)
  obtain ⟨k1, h⟩ := h
  exact aw_mask [true, true, false, false, false, false] (tX12_spread_L2 k1 _ _ _ h)
def mX12_reach (o : Nat) (F : hp) (Q : Int → hp → Prop) : Prop := rcv F (some o) 12 (fun o3 => mX12_spread o3 F (fun x2 F1 => Q x2 F1))
set_option maxHeartbeats 4000000 in
theorem tX12_reach {d : Nat} {o : Nat} {F : hp} {Q : Int → hp → Prop} (h : mX12_reach o F Q) : am nX12_reach (d + 4) 0 0 [vr (some o)] F (qI Q) := by
  refine am_of (by decide +kernel) (Nat.le_of_ble_eq_true rfl) ?_
  show aw nX12_reach (d + 4) 0 0 0 [some (vr (some o))] [] F (qI Q)
  unfold mX12_reach at h
  refine aw_aload_n dX12_reach_0 rfl rfl (aw_pc (pc' := 1) rfl ?_)
  have h0 := rcv_inv h
  clear h
  obtain ⟨o3, fs_o3, hr_o3, he_o3, h⟩ := h0
  obtain rfl : o = o3 := Option.some.inj hr_o3
  refine ar_VI (kc' := 0) (ks' := 0) (kc := 0) (ks := 0) (a := o) (ci := 12) (as := []) (st := []) (tX12_spread h) mt_X12_spread rfl qM_RX12_438 qI_X12_spread qV_X12_spread he_o3 rfl (Nat.le_of_ble_eq_true rfl) dX12_reach_1 ?_
  clear h
  intro x2 F1 h
  refine aw_pc (pc' := 4) rfl ?_
  exact aw_iret rfl dX12_reach_4 ⟨_, rfl, h⟩
def mX12_shunts_L89 (Q : Int → hp → Prop) : Nat → Nat → Int → Int → Int → hp → Prop
  | 0, _, _, _, _, _ => False
  | k + 1, o, a1, a3, a4, F => (w32 a1 < w32 a4 → gR F (some o) 12 29 (fun x1 => aI F x1 0 a3 (fun x2 => mX12_shunts_L89 Q k o a1 x2 (a4 + (-1)) F))) ∧ (¬ w32 a1 < w32 a4 → gR F (some o) 12 30 (fun x3 => aI F x3 0 a3 (fun x4 => Q x4 F)))
set_option maxHeartbeats 4000000 in
theorem tX12_shunts_L89 {d : Nat} {Q : Int → hp → Prop} : ∀ (k : Nat) (o : Nat) (a1 : Int) (a3 : Int) (a4 : Int) (F : hp), mX12_shunts_L89 Q k o a1 a3 a4 F → aw nX12_shunts (d + 4) 0 0 89 [some (vr (some o)), some (vi a1), none, some (vi a3), some (vi a4)] [] F (qI Q) := by
  intro k
  induction k with
  | zero => intro o a1 a3 a4 F h; exact h.elim
  | succ k ih =>
    intro o a1 a3 a4 F h
    simp only [mX12_shunts_L89] at h
    refine aw_iload dX12_shunts_89 rfl (aw_pc (pc' := 91) rfl ?_)
    refine aw_iload_n dX12_shunts_91 rfl rfl (aw_pc (pc' := 92) rfl ?_)
    refine ac_le rfl rfl dX12_shunts_92 rfl (fun c => ?_) (fun c => ?_)
    · replace h := h.1 c
      refine aw_aload_n dX12_shunts_95 rfl rfl (aw_pc (pc' := 96) rfl ?_)
      refine ar_gR fl_RX12_59 dX12_shunts_96 h ?_
      clear h
      intro x1 h
      refine aw_pc (pc' := 99) rfl ?_
      refine aw_iload_n dX12_shunts_99 rfl rfl (aw_pc (pc' := 100) rfl ?_)
      refine ar_aI dX12_shunts_100 h ?_
      clear h
      intro x2 h
      refine aw_pc (pc' := 101) rfl ?_
      refine aw_istore_n dX12_shunts_101 rfl (by decide) (aw_pc (pc' := 102) rfl ?_)
      refine aw_iinc dX12_shunts_102 rfl (by decide) (aw_pc (pc' := 105) rfl ?_)
      refine aw_goto (tgt := 89) dX12_shunts_105 rfl ?_
      exact aw_mask [true, true, false, true, true] (ih _ _ _ _ _ h)
    · replace h := h.2 c
      refine aw_aload_n dX12_shunts_108 rfl rfl (aw_pc (pc' := 109) rfl ?_)
      refine ar_gR fl_RX12_62 dX12_shunts_109 h ?_
      clear h
      intro x3 h
      refine aw_pc (pc' := 112) rfl ?_
      refine aw_iload_n dX12_shunts_112 rfl rfl (aw_pc (pc' := 113) rfl ?_)
      refine ar_aI dX12_shunts_113 h ?_
      clear h
      intro x4 h
      refine aw_pc (pc' := 114) rfl ?_
      exact aw_iret rfl dX12_shunts_114 ⟨_, rfl, h⟩
def mX12_shunts_L30 (Q : Int → hp → Prop) : Nat → Nat → Int → Int → Int → hp → Prop
  | 0, _, _, _, _, _ => False
  | k + 1, o, a1, a2, a3, F => gR F (some o) 12 29 (fun x1 => aI F x1 0 a3 (fun x2 => (w32 x2 = (-1) → (w32 a1 = (-1) → Q a2 F) ∧ (¬ w32 a1 = (-1) → mX12_isIn a1 0 (a2 - 1) F (fun x4 F3 => (w32 x4 = 0 → Q (-2) F3) ∧ (¬ w32 x4 = 0 → gR F3 (some o) 12 31 (fun x5 => gI F3 (some o) 12 32 (fun x6 => aI F3 x5 0 x6 (fun x7 => ∀ v8 : Int, v8 = (a2 - 1) → (∃ k9, mX12_shunts_L89 Q k9 o a1 x7 v8 F3)))))))) ∧ (¬ w32 x2 = (-1) → gR F (some o) 12 29 (fun x10 => aI F x10 0 a3 (fun x11 => mX12_shunts_L30 Q k o a1 (a2 + 1) x11 F)))))
set_option maxHeartbeats 4000000 in
theorem tX12_shunts_L30 {d : Nat} {Q : Int → hp → Prop} : ∀ (k : Nat) (o : Nat) (a1 : Int) (a2 : Int) (a3 : Int) (F : hp), mX12_shunts_L30 Q k o a1 a2 a3 F → aw nX12_shunts (d + 4) 0 0 30 [some (vr (some o)), some (vi a1), some (vi a2), some (vi a3), none] [] F (qI Q) := by
  intro k
  induction k with
  | zero => intro o a1 a2 a3 F h; exact h.elim
  | succ k ih =>
    intro o a1 a2 a3 F h
    simp only [mX12_shunts_L30] at h
    refine aw_aload_n dX12_shunts_30 rfl rfl (aw_pc (pc' := 31) rfl ?_)
    refine ar_gR fl_RX12_59 dX12_shunts_31 h ?_
    clear h
    intro x1 h
    refine aw_pc (pc' := 34) rfl ?_
    refine aw_iload_n dX12_shunts_34 rfl rfl (aw_pc (pc' := 35) rfl ?_)
    refine ar_aI dX12_shunts_35 h ?_
    clear h
    intro x2 h
    refine aw_pc (pc' := 36) rfl ?_
    refine aw_iconst dX12_shunts_36 (aw_pc (pc' := 37) rfl ?_)
    refine ac_eq rfl wl_m1 dX12_shunts_37 rfl (fun c => ?_) (fun c => ?_)
    · replace h := h.1 c
      refine aw_iload_n dX12_shunts_53 rfl rfl (aw_pc (pc' := 54) rfl ?_)
      refine aw_iconst dX12_shunts_54 (aw_pc (pc' := 55) rfl ?_)
      refine ac_ne rfl wl_m1 dX12_shunts_55 rfl (fun c => ?_) (fun c => ?_)
      · replace h := h.1 c
        refine aw_iload_n dX12_shunts_58 rfl rfl (aw_pc (pc' := 59) rfl ?_)
        exact aw_iret rfl dX12_shunts_59 ⟨_, rfl, h⟩
      · replace h := h.2 c
        refine aw_iload_n dX12_shunts_60 rfl rfl (aw_pc (pc' := 61) rfl ?_)
        refine aw_iconst dX12_shunts_61 (aw_pc (pc' := 62) rfl ?_)
        refine aw_iload_n dX12_shunts_62 rfl rfl (aw_pc (pc' := 63) rfl ?_)
        refine aw_iconst dX12_shunts_63 (aw_pc (pc' := 64) rfl ?_)
        refine aw_isub dX12_shunts_64 (aw_pc (pc' := 65) rfl ?_)
        refine ar_SI (kc' := 0) (ks' := 0) (kc := 0) (ks := 0) (as := [vi a1, vi 0, vi (a2 - 1)]) (st := []) (tX12_isIn h) mt_X12_isIn qM_RX12_78 qS_X12_isIn rfl (Nat.le_of_ble_eq_true rfl) dX12_shunts_65 ?_
        clear h
        intro x4 F3 h
        refine aw_pc (pc' := 68) rfl ?_
        refine aw_if_ne dX12_shunts_68 rfl (fun c => ?_) (fun c => ?_)
        · replace h := h.1 c
          refine aw_bipush dX12_shunts_71 (by decide) (aw_pc (pc' := 73) rfl ?_)
          exact aw_iret rfl dX12_shunts_73 ⟨_, rfl, h⟩
        · replace h := h.2 c
          refine aw_aload_n dX12_shunts_74 rfl rfl (aw_pc (pc' := 75) rfl ?_)
          refine ar_gR fl_RX12_65 dX12_shunts_75 h ?_
          clear h
          intro x5 h
          refine aw_pc (pc' := 78) rfl ?_
          refine aw_aload_n dX12_shunts_78 rfl rfl (aw_pc (pc' := 79) rfl ?_)
          refine ar_gI fl_RX12_429 dX12_shunts_79 h ?_
          clear h
          intro x6 h
          refine aw_pc (pc' := 82) rfl ?_
          refine ar_aI dX12_shunts_82 h ?_
          clear h
          intro x7 h
          refine aw_pc (pc' := 83) rfl ?_
          refine aw_istore_n dX12_shunts_83 rfl (by decide) (aw_pc (pc' := 84) rfl ?_)
          refine aw_iload_n dX12_shunts_84 rfl rfl (aw_pc (pc' := 85) rfl ?_)
          refine aw_iconst dX12_shunts_85 (aw_pc (pc' := 86) rfl ?_)
          refine aw_isub dX12_shunts_86 (aw_pc (pc' := 87) rfl ?_)
          generalize hv_v8 : (a2 - 1) = v8
          replace h := h v8 hv_v8.symm
          refine aw_istore dX12_shunts_87 (by decide) (aw_pc (pc' := 89) rfl ?_)
          obtain ⟨k9, h⟩ := h
          exact aw_mask [true, true, false, true, true] (tX12_shunts_L89 k9 _ _ _ _ _ h)
    · replace h := h.2 c
      refine aw_iinc dX12_shunts_40 rfl (by decide) (aw_pc (pc' := 43) rfl ?_)
      refine aw_aload_n dX12_shunts_43 rfl rfl (aw_pc (pc' := 44) rfl ?_)
      refine ar_gR fl_RX12_59 dX12_shunts_44 h ?_
      clear h
      intro x10 h
      refine aw_pc (pc' := 47) rfl ?_
      refine aw_iload_n dX12_shunts_47 rfl rfl (aw_pc (pc' := 48) rfl ?_)
      refine ar_aI dX12_shunts_48 h ?_
      clear h
      intro x11 h
      refine aw_pc (pc' := 49) rfl ?_
      refine aw_istore_n dX12_shunts_49 rfl (by decide) (aw_pc (pc' := 50) rfl ?_)
      refine aw_goto (tgt := 30) dX12_shunts_50 rfl ?_
      exact aw_mask [true, true, true, true, false] (ih _ _ _ _ _ h)
def mX12_shunts (o : Nat) (a1 : Int) (F : hp) (Q : Int → hp → Prop) : Prop := rcv F (some o) 12 (fun o3 => mX12_spread o3 F (fun x2 F1 => (w32 x2 = 0 → Q (-2) F1) ∧ (¬ w32 x2 = 0 → gI F1 (some o) 12 32 (fun x4 => (w32 x4 = (-1) → Q (-2) F1) ∧ (¬ w32 x4 = (-1) → gR F1 (some o) 12 31 (fun x5 => gI F1 (some o) 12 32 (fun x6 => aI F1 x5 0 x6 (fun x7 => (∃ k8, mX12_shunts_L30 Q k8 o a1 0 x7 F1)))))))))
set_option maxHeartbeats 4000000 in
theorem tX12_shunts {d : Nat} {o : Nat} {a1 : Int} {F : hp} {Q : Int → hp → Prop} (h : mX12_shunts o a1 F Q) : am nX12_shunts (d + 4) 0 0 [vr (some o), vi a1] F (qI Q) := by
  refine am_of (by decide +kernel) (Nat.le_of_ble_eq_true rfl) ?_
  show aw nX12_shunts (d + 4) 0 0 0 [some (vr (some o)), some (vi a1), none, none, none] [] F (qI Q)
  unfold mX12_shunts at h
  refine aw_aload_n dX12_shunts_0 rfl rfl (aw_pc (pc' := 1) rfl ?_)
  have h0 := rcv_inv h
  clear h
  obtain ⟨o3, fs_o3, hr_o3, he_o3, h⟩ := h0
  obtain rfl : o = o3 := Option.some.inj hr_o3
  refine ar_VI (kc' := 0) (ks' := 0) (kc := 0) (ks := 0) (a := o) (ci := 12) (as := []) (st := []) (tX12_spread h) mt_X12_spread rfl qM_RX12_438 qI_X12_spread qV_X12_spread he_o3 rfl (Nat.le_of_ble_eq_true rfl) dX12_shunts_1 ?_
  clear h
  intro x2 F1 h
  refine aw_pc (pc' := 4) rfl ?_
  refine aw_if_eq dX12_shunts_4 rfl (fun c => ?_) (fun c => ?_)
  · replace h := h.1 c
    refine aw_bipush dX12_shunts_15 (by decide) (aw_pc (pc' := 17) rfl ?_)
    exact aw_iret rfl dX12_shunts_17 ⟨_, rfl, h⟩
  · replace h := h.2 c
    refine aw_aload_n dX12_shunts_7 rfl rfl (aw_pc (pc' := 8) rfl ?_)
    refine ar_gI fl_RX12_429 dX12_shunts_8 h ?_
    clear h
    intro x4 h
    refine aw_pc (pc' := 11) rfl ?_
    refine aw_iconst dX12_shunts_11 (aw_pc (pc' := 12) rfl ?_)
    refine ac_ne rfl wl_m1 dX12_shunts_12 rfl (fun c => ?_) (fun c => ?_)
    · replace h := h.1 c
      refine aw_bipush dX12_shunts_15 (by decide) (aw_pc (pc' := 17) rfl ?_)
      exact aw_iret rfl dX12_shunts_17 ⟨_, rfl, h⟩
    · replace h := h.2 c
      refine aw_iconst dX12_shunts_18 (aw_pc (pc' := 19) rfl ?_)
      refine aw_istore_n dX12_shunts_19 rfl (by decide) (aw_pc (pc' := 20) rfl ?_)
      refine aw_aload_n dX12_shunts_20 rfl rfl (aw_pc (pc' := 21) rfl ?_)
      refine ar_gR fl_RX12_65 dX12_shunts_21 h ?_
      clear h
      intro x5 h
      refine aw_pc (pc' := 24) rfl ?_
      refine aw_aload_n dX12_shunts_24 rfl rfl (aw_pc (pc' := 25) rfl ?_)
      refine ar_gI fl_RX12_429 dX12_shunts_25 h ?_
      clear h
      intro x6 h
      refine aw_pc (pc' := 28) rfl ?_
      refine ar_aI dX12_shunts_28 h ?_
      clear h
      intro x7 h
      refine aw_pc (pc' := 29) rfl ?_
      refine aw_istore_n dX12_shunts_29 rfl (by decide) (aw_pc (pc' := 30) rfl ?_)
      obtain ⟨k8, h⟩ := h
      exact aw_mask [true, true, true, true, false] (tX12_shunts_L30 k8 _ _ _ _ _ h)
def mX12_isOnTrack (o : Nat) (a1 : Int) (a2 : Int) (F : hp) (Q : Int → hp → Prop) : Prop := rcv F (some o) 12 (fun o3 => mX12_trackOf o3 a1 F (fun x2 F1 => (w32 x2 = w32 a2 → Q 1 F1) ∧ (¬ w32 x2 = w32 a2 → Q 0 F1)))
set_option maxHeartbeats 4000000 in
theorem tX12_isOnTrack {d : Nat} {o : Nat} {a1 : Int} {a2 : Int} {F : hp} {Q : Int → hp → Prop} (h : mX12_isOnTrack o a1 a2 F Q) : am nX12_isOnTrack (d + 2) 0 0 [vr (some o), vi a1, vi a2] F (qI Q) := by
  refine am_of (by decide +kernel) (Nat.le_of_ble_eq_true rfl) ?_
  show aw nX12_isOnTrack (d + 2) 0 0 0 [some (vr (some o)), some (vi a1), some (vi a2)] [] F (qI Q)
  unfold mX12_isOnTrack at h
  refine aw_aload_n dX12_isOnTrack_0 rfl rfl (aw_pc (pc' := 1) rfl ?_)
  refine aw_iload_n dX12_isOnTrack_1 rfl rfl (aw_pc (pc' := 2) rfl ?_)
  have h0 := rcv_inv h
  clear h
  obtain ⟨o3, fs_o3, hr_o3, he_o3, h⟩ := h0
  obtain rfl : o = o3 := Option.some.inj hr_o3
  refine ar_VI (kc' := 0) (ks' := 0) (kc := 0) (ks := 0) (a := o) (ci := 12) (as := [vi a1]) (st := []) (tX12_trackOf h) mt_X12_trackOf rfl qM_RX12_86 qI_X12_trackOf qV_X12_trackOf he_o3 rfl (Nat.le_of_ble_eq_true rfl) dX12_isOnTrack_2 ?_
  clear h
  intro x2 F1 h
  refine aw_pc (pc' := 5) rfl ?_
  refine aw_iload_n dX12_isOnTrack_5 rfl rfl (aw_pc (pc' := 6) rfl ?_)
  refine ac_ne rfl rfl dX12_isOnTrack_6 rfl (fun c => ?_) (fun c => ?_)
  · replace h := h.1 c
    refine aw_iconst dX12_isOnTrack_9 (aw_pc (pc' := 10) rfl ?_)
    refine aw_goto (tgt := 14) dX12_isOnTrack_10 rfl ?_
    exact aw_zret rfl (by decide) dX12_isOnTrack_14 ⟨_, rfl, h⟩
  · replace h := h.2 c
    refine aw_iconst dX12_isOnTrack_13 (aw_pc (pc' := 14) rfl ?_)
    exact aw_zret rfl (by decide) dX12_isOnTrack_14 ⟨_, rfl, h⟩
def mX12_layRows_J181 (X15 : Nat → Int → Int → Int → Int → hp → Prop) (Q : Int → hp → Prop) (o : Nat) (a1 : Int) (a2 : Int) (a3 : Int) (a4 : Int) (F : hp) : Prop := X15 o a1 a2 a3 (a4 + 1) F
set_option maxHeartbeats 4000000 in
theorem tX12_layRows_J181 {d : Nat} {X15 : Nat → Int → Int → Int → Int → hp → Prop} {Q : Int → hp → Prop} (hX15 : ∀ (o : Nat) (a1 : Int) (a2 : Int) (a3 : Int) (a4 : Int) (F : hp), X15 o a1 a2 a3 a4 F → aw nX12_layRows (d + 3) 0 0 15 [some (vr (some o)), some (vi a1), some (vi a2), some (vi a3), some (vi a4), none, none, none] [] F (qI Q)) {o : Nat} {a1 : Int} {a2 : Int} {a3 : Int} {a4 : Int} {F : hp} (h : mX12_layRows_J181 X15 Q o a1 a2 a3 a4 F) : aw nX12_layRows (d + 3) 0 0 181 [some (vr (some o)), some (vi a1), some (vi a2), some (vi a3), some (vi a4), none, none, none] [] F (qI Q) := by
  unfold mX12_layRows_J181 at h
  refine aw_iinc dX12_layRows_181 rfl (by decide) (aw_pc (pc' := 184) rfl ?_)
  refine aw_goto (tgt := 15) dX12_layRows_184 rfl ?_
  exact aw_mask [true, true, true, true, true, false, false, false] (hX15 _ _ _ _ _ _ h)
def mX12_layRows_J178 (X15 : Nat → Int → Int → Int → Int → hp → Prop) (Q : Int → hp → Prop) (o : Nat) (a1 : Int) (a2 : Int) (a3 : Int) (a4 : Int) (F : hp) : Prop := mX12_layRows_J181 X15 Q o a1 a2 (a3 + 1) a4 F
set_option maxHeartbeats 4000000 in
theorem tX12_layRows_J178 {d : Nat} {X15 : Nat → Int → Int → Int → Int → hp → Prop} {Q : Int → hp → Prop} (hX15 : ∀ (o : Nat) (a1 : Int) (a2 : Int) (a3 : Int) (a4 : Int) (F : hp), X15 o a1 a2 a3 a4 F → aw nX12_layRows (d + 3) 0 0 15 [some (vr (some o)), some (vi a1), some (vi a2), some (vi a3), some (vi a4), none, none, none] [] F (qI Q)) {o : Nat} {a1 : Int} {a2 : Int} {a3 : Int} {a4 : Int} {F : hp} (h : mX12_layRows_J178 X15 Q o a1 a2 a3 a4 F) : aw nX12_layRows (d + 3) 0 0 178 [some (vr (some o)), some (vi a1), some (vi a2), some (vi a3), some (vi a4), none, none, none] [] F (qI Q) := by
  unfold mX12_layRows_J178 at h
  refine aw_iinc dX12_layRows_178 rfl (by decide) (aw_pc (pc' := 181) rfl ?_)
  exact aw_mask [true, true, true, true, true, false, false, false] (tX12_layRows_J181 hX15 h)
def mX12_layRows_L152 (X15 : Nat → Int → Int → Int → Int → hp → Prop) (Q : Int → hp → Prop) : Nat → Nat → Int → Int → Int → Int → Int → hp → Prop
  | 0, _, _, _, _, _, _, _ => False
  | k + 1, o, a1, a2, a3, a4, a7, F => (w32 a7 < w32 a2 → gR F (some o) 12 33 (fun x1 => gR F (some o) 12 26 (fun x2 => aI F x2 0 a7 (fun x3 => sI F x1 0 a7 x3 (fun F4 => mX12_layRows_L152 X15 Q k o a1 a2 a3 a4 (a7 + 1) F4))))) ∧ (¬ w32 a7 < w32 a2 → mX12_layRows_J178 X15 Q o a1 a2 a3 a4 F)
set_option maxHeartbeats 4000000 in
theorem tX12_layRows_L152 {d : Nat} {X15 : Nat → Int → Int → Int → Int → hp → Prop} {Q : Int → hp → Prop} (hX15 : ∀ (o : Nat) (a1 : Int) (a2 : Int) (a3 : Int) (a4 : Int) (F : hp), X15 o a1 a2 a3 a4 F → aw nX12_layRows (d + 3) 0 0 15 [some (vr (some o)), some (vi a1), some (vi a2), some (vi a3), some (vi a4), none, none, none] [] F (qI Q)) : ∀ (k : Nat) (o : Nat) (a1 : Int) (a2 : Int) (a3 : Int) (a4 : Int) (a7 : Int) (F : hp), mX12_layRows_L152 X15 Q k o a1 a2 a3 a4 a7 F → aw nX12_layRows (d + 3) 0 0 152 [some (vr (some o)), some (vi a1), some (vi a2), some (vi a3), some (vi a4), none, none, some (vi a7)] [] F (qI Q) := by
  intro k
  induction k with
  | zero => intro o a1 a2 a3 a4 a7 F h; exact h.elim
  | succ k ih =>
    intro o a1 a2 a3 a4 a7 F h
    simp only [mX12_layRows_L152] at h
    refine aw_iload dX12_layRows_152 rfl (aw_pc (pc' := 154) rfl ?_)
    refine aw_iload_n dX12_layRows_154 rfl rfl (aw_pc (pc' := 155) rfl ?_)
    refine ac_ge rfl rfl dX12_layRows_155 rfl (fun c => ?_) (fun c => ?_)
    · replace h := h.1 c
      refine aw_aload_n dX12_layRows_158 rfl rfl (aw_pc (pc' := 159) rfl ?_)
      refine ar_gR fl_RX12_68 dX12_layRows_159 h ?_
      clear h
      intro x1 h
      refine aw_pc (pc' := 162) rfl ?_
      refine aw_iload dX12_layRows_162 rfl (aw_pc (pc' := 164) rfl ?_)
      refine aw_aload_n dX12_layRows_164 rfl rfl (aw_pc (pc' := 165) rfl ?_)
      refine ar_gR fl_RX12_50 dX12_layRows_165 h ?_
      clear h
      intro x2 h
      refine aw_pc (pc' := 168) rfl ?_
      refine aw_iload dX12_layRows_168 rfl (aw_pc (pc' := 170) rfl ?_)
      refine ar_aI dX12_layRows_170 h ?_
      clear h
      intro x3 h
      refine aw_pc (pc' := 171) rfl ?_
      refine ar_sI dX12_layRows_171 h ?_
      clear h
      intro F4 h
      refine aw_pc (pc' := 172) rfl ?_
      refine aw_iinc dX12_layRows_172 rfl (by decide) (aw_pc (pc' := 175) rfl ?_)
      refine aw_goto (tgt := 152) dX12_layRows_175 rfl ?_
      exact aw_mask [true, true, true, true, true, false, false, true] (ih _ _ _ _ _ _ _ h)
    · replace h := h.2 c
      exact aw_mask [true, true, true, true, true, false, false, false] (tX12_layRows_J178 hX15 h)
def mX12_layRows_J128 (X15 : Nat → Int → Int → Int → Int → hp → Prop) (X92 : Nat → Int → Int → Int → Int → Int → Int → hp → Prop) (Q : Int → hp → Prop) (o : Nat) (a1 : Int) (a2 : Int) (a3 : Int) (a4 : Int) (a7 : Int) (s0 : Int) (s1 : Int) (F : hp) : Prop := ∀ v1 : Int, v1 = (iAnd s0 s1) → X92 o a1 a2 a3 a4 v1 (a7 + 1) F
set_option maxHeartbeats 4000000 in
theorem tX12_layRows_J128 {d : Nat} {X15 : Nat → Int → Int → Int → Int → hp → Prop} {X92 : Nat → Int → Int → Int → Int → Int → Int → hp → Prop} {Q : Int → hp → Prop} (hX15 : ∀ (o : Nat) (a1 : Int) (a2 : Int) (a3 : Int) (a4 : Int) (F : hp), X15 o a1 a2 a3 a4 F → aw nX12_layRows (d + 3) 0 0 15 [some (vr (some o)), some (vi a1), some (vi a2), some (vi a3), some (vi a4), none, none, none] [] F (qI Q)) (hX92 : ∀ (o : Nat) (a1 : Int) (a2 : Int) (a3 : Int) (a4 : Int) (a6 : Int) (a7 : Int) (F : hp), X92 o a1 a2 a3 a4 a6 a7 F → aw nX12_layRows (d + 3) 0 0 92 [some (vr (some o)), some (vi a1), some (vi a2), some (vi a3), some (vi a4), none, some (vi a6), some (vi a7)] [] F (qI Q)) {o : Nat} {a1 : Int} {a2 : Int} {a3 : Int} {a4 : Int} {a7 : Int} {s0 : Int} {s1 : Int} {F : hp} (h : mX12_layRows_J128 X15 X92 Q o a1 a2 a3 a4 a7 s0 s1 F) : aw nX12_layRows (d + 3) 0 0 128 [some (vr (some o)), some (vi a1), some (vi a2), some (vi a3), some (vi a4), none, none, some (vi a7)] [vi s1, vi s0] F (qI Q) := by
  unfold mX12_layRows_J128 at h
  refine aw_iand dX12_layRows_128 (aw_pc (pc' := 129) rfl ?_)
  generalize hv_v1 : (iAnd s0 s1) = v1
  replace h := h v1 hv_v1.symm
  refine aw_istore dX12_layRows_129 (by decide) (aw_pc (pc' := 131) rfl ?_)
  refine aw_iinc dX12_layRows_131 rfl (by decide) (aw_pc (pc' := 134) rfl ?_)
  refine aw_goto (tgt := 92) dX12_layRows_134 rfl ?_
  exact aw_mask [true, true, true, true, true, false, true, true] (hX92 _ _ _ _ _ _ _ _ h)
def mX12_layRows_L92 (X15 : Nat → Int → Int → Int → Int → hp → Prop) (Q : Int → hp → Prop) : Nat → Nat → Int → Int → Int → Int → Int → Int → hp → Prop
  | 0, _, _, _, _, _, _, _, _ => False
  | k + 1, o, a1, a2, a3, a4, a6, a7, F => (w32 a7 < w32 a2 → gR F (some o) 12 26 (fun x1 => aI F x1 0 (a7 - 1) (fun x2 => gR F (some o) 12 26 (fun x3 => aI F x3 0 a7 (fun x4 => rcv F (some o) 12 (fun o7 => mX12_isForbidden o7 x2 x4 F (fun x6 F5 => (w32 x6 = 0 → mX12_layRows_J128 X15 (fun o' a1' a2' a3' a4' a6' a7' F' => mX12_layRows_L92 X15 Q k o' a1' a2' a3' a4' a6' a7' F') Q o a1 a2 a3 a4 a7 a6 1 F5) ∧ (¬ w32 x6 = 0 → mX12_layRows_J128 X15 (fun o' a1' a2' a3' a4' a6' a7' F' => mX12_layRows_L92 X15 Q k o' a1' a2' a3' a4' a6' a7' F') Q o a1 a2 a3 a4 a7 a6 0 F5)))))))) ∧ (¬ w32 a7 < w32 a2 → (w32 a6 = 0 → mX12_layRows_J181 X15 Q o a1 a2 a3 a4 F) ∧ (¬ w32 a6 = 0 → (w32 a3 = 0 → (∃ k8, mX12_layRows_L152 X15 Q k8 o a1 a2 a3 a4 0 F)) ∧ (¬ w32 a3 = 0 → mX12_layRows_J178 X15 Q o a1 a2 a3 a4 F)))
set_option maxHeartbeats 4000000 in
theorem tX12_layRows_L92 {d : Nat} {X15 : Nat → Int → Int → Int → Int → hp → Prop} {Q : Int → hp → Prop} (hX15 : ∀ (o : Nat) (a1 : Int) (a2 : Int) (a3 : Int) (a4 : Int) (F : hp), X15 o a1 a2 a3 a4 F → aw nX12_layRows (d + 3) 0 0 15 [some (vr (some o)), some (vi a1), some (vi a2), some (vi a3), some (vi a4), none, none, none] [] F (qI Q)) : ∀ (k : Nat) (o : Nat) (a1 : Int) (a2 : Int) (a3 : Int) (a4 : Int) (a6 : Int) (a7 : Int) (F : hp), mX12_layRows_L92 X15 Q k o a1 a2 a3 a4 a6 a7 F → aw nX12_layRows (d + 3) 0 0 92 [some (vr (some o)), some (vi a1), some (vi a2), some (vi a3), some (vi a4), none, some (vi a6), some (vi a7)] [] F (qI Q) := by
  intro k
  induction k with
  | zero => intro o a1 a2 a3 a4 a6 a7 F h; exact h.elim
  | succ k ih =>
    intro o a1 a2 a3 a4 a6 a7 F h
    simp only [mX12_layRows_L92] at h
    refine aw_iload dX12_layRows_92 rfl (aw_pc (pc' := 94) rfl ?_)
    refine aw_iload_n dX12_layRows_94 rfl rfl (aw_pc (pc' := 95) rfl ?_)
    refine ac_ge rfl rfl dX12_layRows_95 rfl (fun c => ?_) (fun c => ?_)
    · replace h := h.1 c
      refine aw_iload dX12_layRows_98 rfl (aw_pc (pc' := 100) rfl ?_)
      refine aw_aload_n dX12_layRows_100 rfl rfl (aw_pc (pc' := 101) rfl ?_)
      refine aw_aload_n dX12_layRows_101 rfl rfl (aw_pc (pc' := 102) rfl ?_)
      refine ar_gR fl_RX12_50 dX12_layRows_102 h ?_
      clear h
      intro x1 h
      refine aw_pc (pc' := 105) rfl ?_
      refine aw_iload dX12_layRows_105 rfl (aw_pc (pc' := 107) rfl ?_)
      refine aw_iconst dX12_layRows_107 (aw_pc (pc' := 108) rfl ?_)
      refine aw_isub dX12_layRows_108 (aw_pc (pc' := 109) rfl ?_)
      refine ar_aI dX12_layRows_109 h ?_
      clear h
      intro x2 h
      refine aw_pc (pc' := 110) rfl ?_
      refine aw_aload_n dX12_layRows_110 rfl rfl (aw_pc (pc' := 111) rfl ?_)
      refine ar_gR fl_RX12_50 dX12_layRows_111 h ?_
      clear h
      intro x3 h
      refine aw_pc (pc' := 114) rfl ?_
      refine aw_iload dX12_layRows_114 rfl (aw_pc (pc' := 116) rfl ?_)
      refine ar_aI dX12_layRows_116 h ?_
      clear h
      intro x4 h
      refine aw_pc (pc' := 117) rfl ?_
      have h0 := rcv_inv h
      clear h
      obtain ⟨o7, fs_o7, hr_o7, he_o7, h⟩ := h0
      obtain rfl : o = o7 := Option.some.inj hr_o7
      refine ar_VI (kc' := 0) (ks' := 0) (kc := 0) (ks := 0) (a := o) (ci := 12) (as := [vi x2, vi x4]) (st := [vi a6]) (tX12_isForbidden h) mt_X12_isForbidden rfl qM_RX12_330 qI_X12_isForbidden qV_X12_isForbidden he_o7 rfl (Nat.le_of_ble_eq_true rfl) dX12_layRows_117 ?_
      clear h
      intro x6 F5 h
      refine aw_pc (pc' := 120) rfl ?_
      refine aw_if_ne dX12_layRows_120 rfl (fun c => ?_) (fun c => ?_)
      · replace h := h.1 c
        refine aw_iconst dX12_layRows_123 (aw_pc (pc' := 124) rfl ?_)
        refine aw_goto (tgt := 128) dX12_layRows_124 rfl ?_
        exact aw_mask [true, true, true, true, true, false, false, true] (tX12_layRows_J128 hX15 (fun o' a1' a2' a3' a4' a6' a7' F' h' => ih o' a1' a2' a3' a4' a6' a7' F' h') h)
      · replace h := h.2 c
        refine aw_iconst dX12_layRows_127 (aw_pc (pc' := 128) rfl ?_)
        exact aw_mask [true, true, true, true, true, false, false, true] (tX12_layRows_J128 hX15 (fun o' a1' a2' a3' a4' a6' a7' F' h' => ih o' a1' a2' a3' a4' a6' a7' F' h') h)
    · replace h := h.2 c
      refine aw_iload dX12_layRows_137 rfl (aw_pc (pc' := 139) rfl ?_)
      refine aw_if_ne dX12_layRows_139 rfl (fun c => ?_) (fun c => ?_)
      · replace h := h.1 c
        refine aw_goto (tgt := 181) dX12_layRows_142 rfl ?_
        exact aw_mask [true, true, true, true, true, false, false, false] (tX12_layRows_J181 hX15 h)
      · replace h := h.2 c
        refine aw_iload_n dX12_layRows_145 rfl rfl (aw_pc (pc' := 146) rfl ?_)
        refine aw_if_ne dX12_layRows_146 rfl (fun c => ?_) (fun c => ?_)
        · replace h := h.1 c
          refine aw_iconst dX12_layRows_149 (aw_pc (pc' := 150) rfl ?_)
          refine aw_istore dX12_layRows_150 (by decide) (aw_pc (pc' := 152) rfl ?_)
          obtain ⟨k8, h⟩ := h
          exact aw_mask [true, true, true, true, true, false, false, true] (tX12_layRows_L152 hX15 k8 _ _ _ _ _ _ _ h)
        · replace h := h.2 c
          exact aw_mask [true, true, true, true, true, false, false, false] (tX12_layRows_J178 hX15 h)
def mX12_layRows_J83 (X15 : Nat → Int → Int → Int → Int → hp → Prop) (X37 : Nat → Int → Int → Int → Int → Int → Int → Int → hp → Prop) (Q : Int → hp → Prop) (o : Nat) (a1 : Int) (a2 : Int) (a3 : Int) (a4 : Int) (a5 : Int) (a6 : Int) (a7 : Int) (F : hp) : Prop := X37 o a1 a2 a3 a4 a5 a6 (a7 + 1) F
set_option maxHeartbeats 4000000 in
theorem tX12_layRows_J83 {d : Nat} {X15 : Nat → Int → Int → Int → Int → hp → Prop} {X37 : Nat → Int → Int → Int → Int → Int → Int → Int → hp → Prop} {Q : Int → hp → Prop} (hX15 : ∀ (o : Nat) (a1 : Int) (a2 : Int) (a3 : Int) (a4 : Int) (F : hp), X15 o a1 a2 a3 a4 F → aw nX12_layRows (d + 3) 0 0 15 [some (vr (some o)), some (vi a1), some (vi a2), some (vi a3), some (vi a4), none, none, none] [] F (qI Q)) (hX37 : ∀ (o : Nat) (a1 : Int) (a2 : Int) (a3 : Int) (a4 : Int) (a5 : Int) (a6 : Int) (a7 : Int) (F : hp), X37 o a1 a2 a3 a4 a5 a6 a7 F → aw nX12_layRows (d + 3) 0 0 37 [some (vr (some o)), some (vi a1), some (vi a2), some (vi a3), some (vi a4), some (vi a5), some (vi a6), some (vi a7)] [] F (qI Q)) {o : Nat} {a1 : Int} {a2 : Int} {a3 : Int} {a4 : Int} {a5 : Int} {a6 : Int} {a7 : Int} {F : hp} (h : mX12_layRows_J83 X15 X37 Q o a1 a2 a3 a4 a5 a6 a7 F) : aw nX12_layRows (d + 3) 0 0 83 [some (vr (some o)), some (vi a1), some (vi a2), some (vi a3), some (vi a4), some (vi a5), some (vi a6), some (vi a7)] [] F (qI Q) := by
  unfold mX12_layRows_J83 at h
  refine aw_iinc dX12_layRows_83 rfl (by decide) (aw_pc (pc' := 86) rfl ?_)
  refine aw_goto (tgt := 37) dX12_layRows_86 rfl ?_
  exact aw_mask [true, true, true, true, true, true, true, true] (hX37 _ _ _ _ _ _ _ _ _ h)
def mX12_layRows_L37 (X15 : Nat → Int → Int → Int → Int → hp → Prop) (Q : Int → hp → Prop) : Nat → Nat → Int → Int → Int → Int → Int → Int → Int → hp → Prop
  | 0, _, _, _, _, _, _, _, _, _ => False
  | k + 1, o, a1, a2, a3, a4, a5, a6, a7, F => gR F (some o) 12 0 (fun x1 => aI F x1 0 0 (fun x2 => (w32 a7 < w32 x2 → gR F (some o) 12 26 (fun x3 => aI F x3 0 a7 (fun x4 => rcv F (some o) 12 (fun o7 => mX12_isOnTrack o7 x4 a1 F (fun x6 F5 => (w32 x6 = 0 → mX12_layRows_J83 X15 (fun o' a1' a2' a3' a4' a5' a6' a7' F' => mX12_layRows_L37 X15 Q k o' a1' a2' a3' a4' a5' a6' a7' F') Q o a1 a2 a3 a4 a5 a6 a7 F5) ∧ (¬ w32 x6 = 0 → gR F5 (some o) 12 26 (fun x8 => gR F5 (some o) 12 26 (fun x9 => aI F5 x9 0 a7 (fun x10 => sI F5 x8 0 a5 x10 (fun F11 => mX12_layRows_J83 X15 (fun o' a1' a2' a3' a4' a5' a6' a7' F' => mX12_layRows_L37 X15 Q k o' a1' a2' a3' a4' a5' a6' a7' F') Q o a1 a2 a3 a4 (a5 + 1) a6 a7 F11)))))))))) ∧ (¬ w32 a7 < w32 x2 → (∃ k12, mX12_layRows_L92 X15 Q k12 o a1 a2 a3 a4 a6 1 F))))
set_option maxHeartbeats 4000000 in
theorem tX12_layRows_L37 {d : Nat} {X15 : Nat → Int → Int → Int → Int → hp → Prop} {Q : Int → hp → Prop} (hX15 : ∀ (o : Nat) (a1 : Int) (a2 : Int) (a3 : Int) (a4 : Int) (F : hp), X15 o a1 a2 a3 a4 F → aw nX12_layRows (d + 3) 0 0 15 [some (vr (some o)), some (vi a1), some (vi a2), some (vi a3), some (vi a4), none, none, none] [] F (qI Q)) : ∀ (k : Nat) (o : Nat) (a1 : Int) (a2 : Int) (a3 : Int) (a4 : Int) (a5 : Int) (a6 : Int) (a7 : Int) (F : hp), mX12_layRows_L37 X15 Q k o a1 a2 a3 a4 a5 a6 a7 F → aw nX12_layRows (d + 3) 0 0 37 [some (vr (some o)), some (vi a1), some (vi a2), some (vi a3), some (vi a4), some (vi a5), some (vi a6), some (vi a7)] [] F (qI Q) := by
  intro k
  induction k with
  | zero => intro o a1 a2 a3 a4 a5 a6 a7 F h; exact h.elim
  | succ k ih =>
    intro o a1 a2 a3 a4 a5 a6 a7 F h
    simp only [mX12_layRows_L37] at h
    refine aw_iload dX12_layRows_37 rfl (aw_pc (pc' := 39) rfl ?_)
    refine aw_aload_n dX12_layRows_39 rfl rfl (aw_pc (pc' := 40) rfl ?_)
    refine ar_gR fl_RX12_7 dX12_layRows_40 h ?_
    clear h
    intro x1 h
    refine aw_pc (pc' := 43) rfl ?_
    refine aw_iconst dX12_layRows_43 (aw_pc (pc' := 44) rfl ?_)
    refine ar_aI dX12_layRows_44 h ?_
    clear h
    intro x2 h
    refine aw_pc (pc' := 45) rfl ?_
    refine ac_ge rfl rfl dX12_layRows_45 rfl (fun c => ?_) (fun c => ?_)
    · replace h := h.1 c
      refine aw_aload_n dX12_layRows_48 rfl rfl (aw_pc (pc' := 49) rfl ?_)
      refine aw_aload_n dX12_layRows_49 rfl rfl (aw_pc (pc' := 50) rfl ?_)
      refine ar_gR fl_RX12_50 dX12_layRows_50 h ?_
      clear h
      intro x3 h
      refine aw_pc (pc' := 53) rfl ?_
      refine aw_iload dX12_layRows_53 rfl (aw_pc (pc' := 55) rfl ?_)
      refine ar_aI dX12_layRows_55 h ?_
      clear h
      intro x4 h
      refine aw_pc (pc' := 56) rfl ?_
      refine aw_iload_n dX12_layRows_56 rfl rfl (aw_pc (pc' := 57) rfl ?_)
      have h0 := rcv_inv h
      clear h
      obtain ⟨o7, fs_o7, hr_o7, he_o7, h⟩ := h0
      obtain rfl : o = o7 := Option.some.inj hr_o7
      refine ar_VI (kc' := 0) (ks' := 0) (kc := 0) (ks := 0) (a := o) (ci := 12) (as := [vi x4, vi a1]) (st := []) (tX12_isOnTrack h) mt_X12_isOnTrack rfl qM_RX12_441 qI_X12_isOnTrack qV_X12_isOnTrack he_o7 rfl (Nat.le_of_ble_eq_true rfl) dX12_layRows_57 ?_
      clear h
      intro x6 F5 h
      refine aw_pc (pc' := 60) rfl ?_
      refine aw_if_ne dX12_layRows_60 rfl (fun c => ?_) (fun c => ?_)
      · replace h := h.1 c
        refine aw_goto (tgt := 83) dX12_layRows_63 rfl ?_
        exact aw_mask [true, true, true, true, true, true, true, true] (tX12_layRows_J83 hX15 (fun o' a1' a2' a3' a4' a5' a6' a7' F' h' => ih o' a1' a2' a3' a4' a5' a6' a7' F' h') h)
      · replace h := h.2 c
        refine aw_aload_n dX12_layRows_66 rfl rfl (aw_pc (pc' := 67) rfl ?_)
        refine ar_gR fl_RX12_50 dX12_layRows_67 h ?_
        clear h
        intro x8 h
        refine aw_pc (pc' := 70) rfl ?_
        refine aw_iload dX12_layRows_70 rfl (aw_pc (pc' := 72) rfl ?_)
        refine aw_aload_n dX12_layRows_72 rfl rfl (aw_pc (pc' := 73) rfl ?_)
        refine ar_gR fl_RX12_50 dX12_layRows_73 h ?_
        clear h
        intro x9 h
        refine aw_pc (pc' := 76) rfl ?_
        refine aw_iload dX12_layRows_76 rfl (aw_pc (pc' := 78) rfl ?_)
        refine ar_aI dX12_layRows_78 h ?_
        clear h
        intro x10 h
        refine aw_pc (pc' := 79) rfl ?_
        refine ar_sI dX12_layRows_79 h ?_
        clear h
        intro F11 h
        refine aw_pc (pc' := 80) rfl ?_
        refine aw_iinc dX12_layRows_80 rfl (by decide) (aw_pc (pc' := 83) rfl ?_)
        exact aw_mask [true, true, true, true, true, true, true, true] (tX12_layRows_J83 hX15 (fun o' a1' a2' a3' a4' a5' a6' a7' F' h' => ih o' a1' a2' a3' a4' a5' a6' a7' F' h') h)
    · replace h := h.2 c
      refine aw_iconst dX12_layRows_89 (aw_pc (pc' := 90) rfl ?_)
      refine aw_istore dX12_layRows_90 (by decide) (aw_pc (pc' := 92) rfl ?_)
      obtain ⟨k12, h⟩ := h
      exact aw_mask [true, true, true, true, true, false, true, true] (tX12_layRows_L92 hX15 k12 _ _ _ _ _ _ _ _ h)
def mX12_layRows_L15 (Q : Int → hp → Prop) : Nat → Nat → Int → Int → Int → Int → hp → Prop
  | 0, _, _, _, _, _, _ => False
  | k + 1, o, a1, a2, a3, a4, F => (w32 a4 < 120 → rcv F (some o) 12 (fun o2 => mX12_layRow o2 a4 F (fun F1 => (∃ k3, mX12_layRows_L37 (fun o' a1' a2' a3' a4' F' => mX12_layRows_L15 Q k o' a1' a2' a3' a4' F') Q k3 o a1 a2 a3 a4 0 1 0 F1)))) ∧ (¬ w32 a4 < 120 → mX12_factorial a2 F (fun x5 F4 => Q ((w32 (a3 * x5)).tdiv 120) F4))
set_option maxHeartbeats 4000000 in
theorem tX12_layRows_L15 {d : Nat} {Q : Int → hp → Prop} : ∀ (k : Nat) (o : Nat) (a1 : Int) (a2 : Int) (a3 : Int) (a4 : Int) (F : hp), mX12_layRows_L15 Q k o a1 a2 a3 a4 F → aw nX12_layRows (d + 3) 0 0 15 [some (vr (some o)), some (vi a1), some (vi a2), some (vi a3), some (vi a4), none, none, none] [] F (qI Q) := by
  intro k
  induction k with
  | zero => intro o a1 a2 a3 a4 F h; exact h.elim
  | succ k ih =>
    intro o a1 a2 a3 a4 F h
    simp only [mX12_layRows_L15] at h
    refine aw_iload dX12_layRows_15 rfl (aw_pc (pc' := 17) rfl ?_)
    refine aw_bipush dX12_layRows_17 (by decide) (aw_pc (pc' := 19) rfl ?_)
    refine ac_ge rfl wl_120 dX12_layRows_19 rfl (fun c => ?_) (fun c => ?_)
    · replace h := h.1 c
      refine aw_aload_n dX12_layRows_22 rfl rfl (aw_pc (pc' := 23) rfl ?_)
      refine aw_iload dX12_layRows_23 rfl (aw_pc (pc' := 25) rfl ?_)
      have h0 := rcv_inv h
      clear h
      obtain ⟨o2, fs_o2, hr_o2, he_o2, h⟩ := h0
      obtain rfl : o = o2 := Option.some.inj hr_o2
      refine ar_VV (kc' := 0) (ks' := 0) (kc := 0) (ks := 0) (a := o) (ci := 12) (as := [vi a4]) (st := []) (tX12_layRow h) mt_X12_layRow rfl qM_RX12_410 qI_X12_layRow qV_X12_layRow he_o2 rfl (Nat.le_of_ble_eq_true rfl) dX12_layRows_25 ?_
      clear h
      intro F1 h
      refine aw_pc (pc' := 28) rfl ?_
      refine aw_iconst dX12_layRows_28 (aw_pc (pc' := 29) rfl ?_)
      refine aw_istore dX12_layRows_29 (by decide) (aw_pc (pc' := 31) rfl ?_)
      refine aw_iconst dX12_layRows_31 (aw_pc (pc' := 32) rfl ?_)
      refine aw_istore dX12_layRows_32 (by decide) (aw_pc (pc' := 34) rfl ?_)
      refine aw_iconst dX12_layRows_34 (aw_pc (pc' := 35) rfl ?_)
      refine aw_istore dX12_layRows_35 (by decide) (aw_pc (pc' := 37) rfl ?_)
      obtain ⟨k3, h⟩ := h
      exact aw_mask [true, true, true, true, true, true, true, true] (tX12_layRows_L37 (fun o' a1' a2' a3' a4' F' h' => ih o' a1' a2' a3' a4' F' h') k3 _ _ _ _ _ _ _ _ _ h)
    · replace h := h.2 c
      refine aw_iload_n dX12_layRows_187 rfl rfl (aw_pc (pc' := 188) rfl ?_)
      refine aw_iload_n dX12_layRows_188 rfl rfl (aw_pc (pc' := 189) rfl ?_)
      refine ar_SI (kc' := 0) (ks' := 0) (kc := 0) (ks := 0) (as := [vi a2]) (st := [vi a3]) (tX12_factorial h) mt_X12_factorial qM_RX12_404 qS_X12_factorial rfl (Nat.le_of_ble_eq_true rfl) dX12_layRows_189 ?_
      clear h
      intro x5 F4 h
      refine aw_pc (pc' := 192) rfl ?_
      refine aw_imul dX12_layRows_192 (aw_pc (pc' := 193) rfl ?_)
      refine aw_bipush dX12_layRows_193 (by decide) (aw_pc (pc' := 195) rfl ?_)
      refine ac_div wl_120 (by decide) dX12_layRows_195 (aw_pc (pc' := 196) rfl ?_)
      exact aw_iret rfl dX12_layRows_196 ⟨_, rfl, h⟩
def mX12_layRows (o : Nat) (a1 : Int) (F : hp) (Q : Int → hp → Prop) : Prop := gR F (some o) 12 0 (fun x1 => aI F x1 0 (12 + a1) (fun x2 => (∃ k3, mX12_layRows_L15 Q k3 o a1 x2 0 0 F)))
set_option maxHeartbeats 4000000 in
theorem tX12_layRows {d : Nat} {o : Nat} {a1 : Int} {F : hp} {Q : Int → hp → Prop} (h : mX12_layRows o a1 F Q) : am nX12_layRows (d + 3) 0 0 [vr (some o), vi a1] F (qI Q) := by
  refine am_of (by decide +kernel) (Nat.le_of_ble_eq_true rfl) ?_
  show aw nX12_layRows (d + 3) 0 0 0 [some (vr (some o)), some (vi a1), none, none, none, none, none, none] [] F (qI Q)
  unfold mX12_layRows at h
  refine aw_aload_n dX12_layRows_0 rfl rfl (aw_pc (pc' := 1) rfl ?_)
  refine ar_gR fl_RX12_7 dX12_layRows_1 h ?_
  clear h
  intro x1 h
  refine aw_pc (pc' := 4) rfl ?_
  refine aw_bipush dX12_layRows_4 (by decide) (aw_pc (pc' := 6) rfl ?_)
  refine aw_iload_n dX12_layRows_6 rfl rfl (aw_pc (pc' := 7) rfl ?_)
  refine aw_iadd dX12_layRows_7 (aw_pc (pc' := 8) rfl ?_)
  refine ar_aI dX12_layRows_8 h ?_
  clear h
  intro x2 h
  refine aw_pc (pc' := 9) rfl ?_
  refine aw_istore_n dX12_layRows_9 rfl (by decide) (aw_pc (pc' := 10) rfl ?_)
  refine aw_iconst dX12_layRows_10 (aw_pc (pc' := 11) rfl ?_)
  refine aw_istore_n dX12_layRows_11 rfl (by decide) (aw_pc (pc' := 12) rfl ?_)
  refine aw_iconst dX12_layRows_12 (aw_pc (pc' := 13) rfl ?_)
  refine aw_istore dX12_layRows_13 (by decide) (aw_pc (pc' := 15) rfl ?_)
  obtain ⟨k3, h⟩ := h
  exact aw_mask [true, true, true, true, true, false, false, false] (tX12_layRows_L15 k3 _ _ _ _ _ _ h)
def mX12_rows (o : Nat) (a1 : Int) (F : hp) (Q : Int → hp → Prop) : Prop := mX12_isTrack a1 F (fun x2 F1 => (w32 x2 = 0 → Q (-1) F1) ∧ (¬ w32 x2 = 0 → rcv F1 (some o) 12 (fun o5 => mX12_layRows o5 a1 F1 (fun x4 F3 => Q (w32 x4) F3))))
set_option maxHeartbeats 4000000 in
theorem tX12_rows {d : Nat} {o : Nat} {a1 : Int} {F : hp} {Q : Int → hp → Prop} (h : mX12_rows o a1 F Q) : am nX12_rows (d + 4) 0 0 [vr (some o), vi a1] F (qL Q) := by
  refine am_of (by decide +kernel) (Nat.le_of_ble_eq_true rfl) ?_
  show aw nX12_rows (d + 4) 0 0 0 [some (vr (some o)), some (vi a1)] [] F (qL Q)
  unfold mX12_rows at h
  refine aw_iload_n dX12_rows_0 rfl rfl (aw_pc (pc' := 1) rfl ?_)
  refine ar_SI (kc' := 0) (ks' := 0) (kc := 0) (ks := 0) (as := [vi a1]) (st := []) (tX12_isTrack h) mt_X12_isTrack qM_RX12_327 qS_X12_isTrack rfl (Nat.le_of_ble_eq_true rfl) dX12_rows_1 ?_
  clear h
  intro x2 F1 h
  refine aw_pc (pc' := 4) rfl ?_
  refine aw_if_eq dX12_rows_4 rfl (fun c => ?_) (fun c => ?_)
  · replace h := h.1 c
    refine aw_ldc2 (n := (-1)) dX12_rows_16 qK_RX12_447 (aw_pc (pc' := 19) rfl ?_)
    exact aw_lret rfl dX12_rows_19 ⟨_, rfl, h⟩
  · replace h := h.2 c
    refine aw_aload_n dX12_rows_7 rfl rfl (aw_pc (pc' := 8) rfl ?_)
    refine aw_iload_n dX12_rows_8 rfl rfl (aw_pc (pc' := 9) rfl ?_)
    have h0 := rcv_inv h
    clear h
    obtain ⟨o5, fs_o5, hr_o5, he_o5, h⟩ := h0
    obtain rfl : o = o5 := Option.some.inj hr_o5
    refine ar_VI (kc' := 0) (ks' := 0) (kc := 0) (ks := 0) (a := o) (ci := 12) (as := [vi a1]) (st := []) (tX12_layRows h) mt_X12_layRows rfl qM_RX12_444 qI_X12_layRows qV_X12_layRows he_o5 rfl (Nat.le_of_ble_eq_true rfl) dX12_rows_9 ?_
    clear h
    intro x4 F3 h
    refine aw_pc (pc' := 12) rfl ?_
    refine aw_i2l dX12_rows_12 (aw_pc (pc' := 13) rfl ?_)
    refine aw_goto (tgt := 19) dX12_rows_13 rfl ?_
    exact aw_lret rfl dX12_rows_19 ⟨_, rfl, h⟩
def mX12_lowest (o : Nat) (a1 : Int) (a2 : Int) (F : hp) (Q : Int → hp → Prop) : Prop := mX12_isTrack a1 F (fun x2 F1 => (w32 x2 = 0 → Q (-2) F1) ∧ (¬ w32 x2 = 0 → gR F1 (some o) 12 0 (fun x3 => aI F1 x3 0 (12 + a1) (fun x4 => mX12_isIn a2 0 (x4 - 1) F1 (fun x6 F5 => (w32 x6 = 0 → Q (-2) F5) ∧ (¬ w32 x6 = 0 → rcv F5 (some o) 12 (fun o9 => mX12_layRows o9 a1 F5 (fun x8 F7 => (0 < w32 x8 → gR F7 (some o) 12 33 (fun x10 => aI F7 x10 0 a2 (fun x11 => Q x11 F7))) ∧ (¬ 0 < w32 x8 → Q (-2) F7)))))))))
set_option maxHeartbeats 4000000 in
theorem tX12_lowest {d : Nat} {o : Nat} {a1 : Int} {a2 : Int} {F : hp} {Q : Int → hp → Prop} (h : mX12_lowest o a1 a2 F Q) : am nX12_lowest (d + 4) 0 0 [vr (some o), vi a1, vi a2] F (qI Q) := by
  refine am_of (by decide +kernel) (Nat.le_of_ble_eq_true rfl) ?_
  show aw nX12_lowest (d + 4) 0 0 0 [some (vr (some o)), some (vi a1), some (vi a2)] [] F (qI Q)
  unfold mX12_lowest at h
  refine aw_iload_n dX12_lowest_0 rfl rfl (aw_pc (pc' := 1) rfl ?_)
  refine ar_SI (kc' := 0) (ks' := 0) (kc := 0) (ks := 0) (as := [vi a1]) (st := []) (tX12_isTrack h) mt_X12_isTrack qM_RX12_327 qS_X12_isTrack rfl (Nat.le_of_ble_eq_true rfl) dX12_lowest_1 ?_
  clear h
  intro x2 F1 h
  refine aw_pc (pc' := 4) rfl ?_
  refine aw_if_eq dX12_lowest_4 rfl (fun c => ?_) (fun c => ?_)
  · replace h := h.1 c
    refine aw_bipush dX12_lowest_43 (by decide) (aw_pc (pc' := 45) rfl ?_)
    exact aw_iret rfl dX12_lowest_45 ⟨_, rfl, h⟩
  · replace h := h.2 c
    refine aw_iload_n dX12_lowest_7 rfl rfl (aw_pc (pc' := 8) rfl ?_)
    refine aw_iconst dX12_lowest_8 (aw_pc (pc' := 9) rfl ?_)
    refine aw_aload_n dX12_lowest_9 rfl rfl (aw_pc (pc' := 10) rfl ?_)
    refine ar_gR fl_RX12_7 dX12_lowest_10 h ?_
    clear h
    intro x3 h
    refine aw_pc (pc' := 13) rfl ?_
    refine aw_bipush dX12_lowest_13 (by decide) (aw_pc (pc' := 15) rfl ?_)
    refine aw_iload_n dX12_lowest_15 rfl rfl (aw_pc (pc' := 16) rfl ?_)
    refine aw_iadd dX12_lowest_16 (aw_pc (pc' := 17) rfl ?_)
    refine ar_aI dX12_lowest_17 h ?_
    clear h
    intro x4 h
    refine aw_pc (pc' := 18) rfl ?_
    refine aw_iconst dX12_lowest_18 (aw_pc (pc' := 19) rfl ?_)
    refine aw_isub dX12_lowest_19 (aw_pc (pc' := 20) rfl ?_)
    refine ar_SI (kc' := 0) (ks' := 0) (kc := 0) (ks := 0) (as := [vi a2, vi 0, vi (x4 - 1)]) (st := []) (tX12_isIn h) mt_X12_isIn qM_RX12_78 qS_X12_isIn rfl (Nat.le_of_ble_eq_true rfl) dX12_lowest_20 ?_
    clear h
    intro x6 F5 h
    refine aw_pc (pc' := 23) rfl ?_
    refine aw_if_eq dX12_lowest_23 rfl (fun c => ?_) (fun c => ?_)
    · replace h := h.1 c
      refine aw_bipush dX12_lowest_43 (by decide) (aw_pc (pc' := 45) rfl ?_)
      exact aw_iret rfl dX12_lowest_45 ⟨_, rfl, h⟩
    · replace h := h.2 c
      refine aw_aload_n dX12_lowest_26 rfl rfl (aw_pc (pc' := 27) rfl ?_)
      refine aw_iload_n dX12_lowest_27 rfl rfl (aw_pc (pc' := 28) rfl ?_)
      have h0 := rcv_inv h
      clear h
      obtain ⟨o9, fs_o9, hr_o9, he_o9, h⟩ := h0
      obtain rfl : o = o9 := Option.some.inj hr_o9
      refine ar_VI (kc' := 0) (ks' := 0) (kc := 0) (ks := 0) (a := o) (ci := 12) (as := [vi a1]) (st := []) (tX12_layRows h) mt_X12_layRows rfl qM_RX12_444 qI_X12_layRows qV_X12_layRows he_o9 rfl (Nat.le_of_ble_eq_true rfl) dX12_lowest_28 ?_
      clear h
      intro x8 F7 h
      refine aw_pc (pc' := 31) rfl ?_
      refine aw_if_le dX12_lowest_31 rfl (fun c => ?_) (fun c => ?_)
      · replace h := h.1 c
        refine aw_aload_n dX12_lowest_34 rfl rfl (aw_pc (pc' := 35) rfl ?_)
        refine ar_gR fl_RX12_68 dX12_lowest_35 h ?_
        clear h
        intro x10 h
        refine aw_pc (pc' := 38) rfl ?_
        refine aw_iload_n dX12_lowest_38 rfl rfl (aw_pc (pc' := 39) rfl ?_)
        refine ar_aI dX12_lowest_39 h ?_
        clear h
        intro x11 h
        refine aw_pc (pc' := 40) rfl ?_
        refine aw_goto (tgt := 45) dX12_lowest_40 rfl ?_
        exact aw_iret rfl dX12_lowest_45 ⟨_, rfl, h⟩
      · replace h := h.2 c
        refine aw_bipush dX12_lowest_43 (by decide) (aw_pc (pc' := 45) rfl ?_)
        exact aw_iret rfl dX12_lowest_45 ⟨_, rfl, h⟩
def mX12_doneBy_J51 (X12 : Nat → Int → Int → Int → hp → Prop) (Q : Int → hp → Prop) (o : Nat) (a2 : Int) (a4 : Int) (s0 : Int) (F : hp) : Prop := gR F (some o) 12 0 (fun x1 => gR F (some o) 12 26 (fun x2 => aI F x2 0 a4 (fun x3 => aI F x1 0 (51 + x3) (fun x4 => ∀ v5 : Int, v5 = (s0 + x4) → X12 o a2 v5 (a4 + 1) F))))
set_option maxHeartbeats 4000000 in
theorem tX12_doneBy_J51 {d : Nat} {X12 : Nat → Int → Int → Int → hp → Prop} {Q : Int → hp → Prop} (hX12 : ∀ (o : Nat) (a2 : Int) (a3 : Int) (a4 : Int) (F : hp), X12 o a2 a3 a4 F → aw nX12_doneBy (d + 2) 0 0 12 [some (vr (some o)), none, some (vi a2), some (vi a3), some (vi a4)] [] F (qI Q)) {o : Nat} {a2 : Int} {a4 : Int} {s0 : Int} {F : hp} (h : mX12_doneBy_J51 X12 Q o a2 a4 s0 F) : aw nX12_doneBy (d + 2) 0 0 51 [some (vr (some o)), none, some (vi a2), none, some (vi a4)] [vi s0] F (qI Q) := by
  unfold mX12_doneBy_J51 at h
  refine aw_aload_n dX12_doneBy_51 rfl rfl (aw_pc (pc' := 52) rfl ?_)
  refine ar_gR fl_RX12_7 dX12_doneBy_52 h ?_
  clear h
  intro x1 h
  refine aw_pc (pc' := 55) rfl ?_
  refine aw_bipush dX12_doneBy_55 (by decide) (aw_pc (pc' := 57) rfl ?_)
  refine aw_aload_n dX12_doneBy_57 rfl rfl (aw_pc (pc' := 58) rfl ?_)
  refine ar_gR fl_RX12_50 dX12_doneBy_58 h ?_
  clear h
  intro x2 h
  refine aw_pc (pc' := 61) rfl ?_
  refine aw_iload dX12_doneBy_61 rfl (aw_pc (pc' := 63) rfl ?_)
  refine ar_aI dX12_doneBy_63 h ?_
  clear h
  intro x3 h
  refine aw_pc (pc' := 64) rfl ?_
  refine aw_iadd dX12_doneBy_64 (aw_pc (pc' := 65) rfl ?_)
  refine ar_aI dX12_doneBy_65 h ?_
  clear h
  intro x4 h
  refine aw_pc (pc' := 66) rfl ?_
  refine aw_iadd dX12_doneBy_66 (aw_pc (pc' := 67) rfl ?_)
  generalize hv_v5 : (s0 + x4) = v5
  replace h := h v5 hv_v5.symm
  refine aw_istore_n dX12_doneBy_67 rfl (by decide) (aw_pc (pc' := 68) rfl ?_)
  refine aw_iinc dX12_doneBy_68 rfl (by decide) (aw_pc (pc' := 71) rfl ?_)
  refine aw_goto (tgt := 12) dX12_doneBy_71 rfl ?_
  exact aw_mask [true, false, true, true, true] (hX12 _ _ _ _ _ h)
def mX12_doneBy_L12 (Q : Int → hp → Prop) : Nat → Nat → Int → Int → Int → hp → Prop
  | 0, _, _, _, _, _ => False
  | k + 1, o, a2, a3, a4, F => gR F (some o) 12 0 (fun x1 => aI F x1 0 0 (fun x2 => (w32 a4 < w32 x2 → gR F (some o) 12 0 (fun x3 => gR F (some o) 12 26 (fun x4 => aI F x4 0 a4 (fun x5 => aI F x3 0 (46 + x5) (fun x6 => ∀ v7 : Int, v7 = (a2 + x6) → (w32 a3 < w32 v7 → mX12_doneBy_J51 (fun o' a2' a3' a4' F' => mX12_doneBy_L12 Q k o' a2' a3' a4' F') Q o v7 a4 v7 F) ∧ (¬ w32 a3 < w32 v7 → mX12_doneBy_J51 (fun o' a2' a3' a4' F' => mX12_doneBy_L12 Q k o' a2' a3' a4' F') Q o v7 a4 a3 F)))))) ∧ (¬ w32 a4 < w32 x2 → Q a3 F)))
set_option maxHeartbeats 4000000 in
theorem tX12_doneBy_L12 {d : Nat} {Q : Int → hp → Prop} : ∀ (k : Nat) (o : Nat) (a2 : Int) (a3 : Int) (a4 : Int) (F : hp), mX12_doneBy_L12 Q k o a2 a3 a4 F → aw nX12_doneBy (d + 2) 0 0 12 [some (vr (some o)), none, some (vi a2), some (vi a3), some (vi a4)] [] F (qI Q) := by
  intro k
  induction k with
  | zero => intro o a2 a3 a4 F h; exact h.elim
  | succ k ih =>
    intro o a2 a3 a4 F h
    simp only [mX12_doneBy_L12] at h
    refine aw_iload dX12_doneBy_12 rfl (aw_pc (pc' := 14) rfl ?_)
    refine aw_aload_n dX12_doneBy_14 rfl rfl (aw_pc (pc' := 15) rfl ?_)
    refine ar_gR fl_RX12_7 dX12_doneBy_15 h ?_
    clear h
    intro x1 h
    refine aw_pc (pc' := 18) rfl ?_
    refine aw_iconst dX12_doneBy_18 (aw_pc (pc' := 19) rfl ?_)
    refine ar_aI dX12_doneBy_19 h ?_
    clear h
    intro x2 h
    refine aw_pc (pc' := 20) rfl ?_
    refine ac_ge rfl rfl dX12_doneBy_20 rfl (fun c => ?_) (fun c => ?_)
    · replace h := h.1 c
      refine aw_iload_n dX12_doneBy_23 rfl rfl (aw_pc (pc' := 24) rfl ?_)
      refine aw_aload_n dX12_doneBy_24 rfl rfl (aw_pc (pc' := 25) rfl ?_)
      refine ar_gR fl_RX12_7 dX12_doneBy_25 h ?_
      clear h
      intro x3 h
      refine aw_pc (pc' := 28) rfl ?_
      refine aw_bipush dX12_doneBy_28 (by decide) (aw_pc (pc' := 30) rfl ?_)
      refine aw_aload_n dX12_doneBy_30 rfl rfl (aw_pc (pc' := 31) rfl ?_)
      refine ar_gR fl_RX12_50 dX12_doneBy_31 h ?_
      clear h
      intro x4 h
      refine aw_pc (pc' := 34) rfl ?_
      refine aw_iload dX12_doneBy_34 rfl (aw_pc (pc' := 36) rfl ?_)
      refine ar_aI dX12_doneBy_36 h ?_
      clear h
      intro x5 h
      refine aw_pc (pc' := 37) rfl ?_
      refine aw_iadd dX12_doneBy_37 (aw_pc (pc' := 38) rfl ?_)
      refine ar_aI dX12_doneBy_38 h ?_
      clear h
      intro x6 h
      refine aw_pc (pc' := 39) rfl ?_
      refine aw_iadd dX12_doneBy_39 (aw_pc (pc' := 40) rfl ?_)
      generalize hv_v7 : (a2 + x6) = v7
      replace h := h v7 hv_v7.symm
      refine aw_istore_n dX12_doneBy_40 rfl (by decide) (aw_pc (pc' := 41) rfl ?_)
      refine aw_iload_n dX12_doneBy_41 rfl rfl (aw_pc (pc' := 42) rfl ?_)
      refine aw_iload_n dX12_doneBy_42 rfl rfl (aw_pc (pc' := 43) rfl ?_)
      refine ac_le rfl rfl dX12_doneBy_43 rfl (fun c => ?_) (fun c => ?_)
      · replace h := h.1 c
        refine aw_iload_n dX12_doneBy_46 rfl rfl (aw_pc (pc' := 47) rfl ?_)
        refine aw_goto (tgt := 51) dX12_doneBy_47 rfl ?_
        exact aw_mask [true, false, true, false, true] (tX12_doneBy_J51 (fun o' a2' a3' a4' F' h' => ih o' a2' a3' a4' F' h') h)
      · replace h := h.2 c
        refine aw_iload_n dX12_doneBy_50 rfl rfl (aw_pc (pc' := 51) rfl ?_)
        exact aw_mask [true, false, true, false, true] (tX12_doneBy_J51 (fun o' a2' a3' a4' F' h' => ih o' a2' a3' a4' F' h') h)
    · replace h := h.2 c
      refine aw_iload_n dX12_doneBy_74 rfl rfl (aw_pc (pc' := 75) rfl ?_)
      exact aw_iret rfl dX12_doneBy_75 ⟨_, rfl, h⟩
def mX12_doneBy (o : Nat) (a1 : Int) (F : hp) (Q : Int → hp → Prop) : Prop := rcv F (some o) 12 (fun o2 => mX12_layRow o2 a1 F (fun F1 => (∃ k3, mX12_doneBy_L12 Q k3 o 0 0 0 F1)))
set_option maxHeartbeats 4000000 in
theorem tX12_doneBy {d : Nat} {o : Nat} {a1 : Int} {F : hp} {Q : Int → hp → Prop} (h : mX12_doneBy o a1 F Q) : am nX12_doneBy (d + 2) 0 0 [vr (some o), vi a1] F (qI Q) := by
  refine am_of (by decide +kernel) (Nat.le_of_ble_eq_true rfl) ?_
  show aw nX12_doneBy (d + 2) 0 0 0 [some (vr (some o)), some (vi a1), none, none, none] [] F (qI Q)
  unfold mX12_doneBy at h
  refine aw_aload_n dX12_doneBy_0 rfl rfl (aw_pc (pc' := 1) rfl ?_)
  refine aw_iload_n dX12_doneBy_1 rfl rfl (aw_pc (pc' := 2) rfl ?_)
  have h0 := rcv_inv h
  clear h
  obtain ⟨o2, fs_o2, hr_o2, he_o2, h⟩ := h0
  obtain rfl : o = o2 := Option.some.inj hr_o2
  refine ar_VV (kc' := 0) (ks' := 0) (kc := 0) (ks := 0) (a := o) (ci := 12) (as := [vi a1]) (st := []) (tX12_layRow h) mt_X12_layRow rfl qM_RX12_410 qI_X12_layRow qV_X12_layRow he_o2 rfl (Nat.le_of_ble_eq_true rfl) dX12_doneBy_2 ?_
  clear h
  intro F1 h
  refine aw_pc (pc' := 5) rfl ?_
  refine aw_iconst dX12_doneBy_5 (aw_pc (pc' := 6) rfl ?_)
  refine aw_istore_n dX12_doneBy_6 rfl (by decide) (aw_pc (pc' := 7) rfl ?_)
  refine aw_iconst dX12_doneBy_7 (aw_pc (pc' := 8) rfl ?_)
  refine aw_istore_n dX12_doneBy_8 rfl (by decide) (aw_pc (pc' := 9) rfl ?_)
  refine aw_iconst dX12_doneBy_9 (aw_pc (pc' := 10) rfl ?_)
  refine aw_istore dX12_doneBy_10 (by decide) (aw_pc (pc' := 12) rfl ?_)
  obtain ⟨k3, h⟩ := h
  exact aw_mask [true, false, true, true, true] (tX12_doneBy_L12 k3 _ _ _ _ _ h)
def mX12_bestOrder_J25 (X4 : Nat → Int → Int → hp → Prop) (Q : Int → hp → Prop) (o : Nat) (a1 : Int) (a2 : Int) (F : hp) : Prop := X4 o a1 (a2 + 1) F
set_option maxHeartbeats 4000000 in
theorem tX12_bestOrder_J25 {d : Nat} {X4 : Nat → Int → Int → hp → Prop} {Q : Int → hp → Prop} (hX4 : ∀ (o : Nat) (a1 : Int) (a2 : Int) (F : hp), X4 o a1 a2 F → aw nX12_bestOrder (d + 3) 0 0 4 [some (vr (some o)), some (vi a1), some (vi a2)] [] F (qI Q)) {o : Nat} {a1 : Int} {a2 : Int} {F : hp} (h : mX12_bestOrder_J25 X4 Q o a1 a2 F) : aw nX12_bestOrder (d + 3) 0 0 25 [some (vr (some o)), some (vi a1), some (vi a2)] [] F (qI Q) := by
  unfold mX12_bestOrder_J25 at h
  refine aw_iinc dX12_bestOrder_25 rfl (by decide) (aw_pc (pc' := 28) rfl ?_)
  refine aw_goto (tgt := 4) dX12_bestOrder_28 rfl ?_
  exact aw_mask [true, true, true] (hX4 _ _ _ _ h)
def mX12_bestOrder_L4 (Q : Int → hp → Prop) : Nat → Nat → Int → Int → hp → Prop
  | 0, _, _, _, _ => False
  | k + 1, o, a1, a2, F => (w32 a2 < 120 → rcv F (some o) 12 (fun o3 => mX12_doneBy o3 a2 F (fun x2 F1 => rcv F1 (some o) 12 (fun o6 => mX12_doneBy o6 a1 F1 (fun x5 F4 => (w32 x2 < w32 x5 → mX12_bestOrder_J25 (fun o' a1' a2' F' => mX12_bestOrder_L4 Q k o' a1' a2' F') Q o a2 a2 F4) ∧ (¬ w32 x2 < w32 x5 → mX12_bestOrder_J25 (fun o' a1' a2' F' => mX12_bestOrder_L4 Q k o' a1' a2' F') Q o a1 a2 F4)))))) ∧ (¬ w32 a2 < 120 → Q a1 F)
set_option maxHeartbeats 4000000 in
theorem tX12_bestOrder_L4 {d : Nat} {Q : Int → hp → Prop} : ∀ (k : Nat) (o : Nat) (a1 : Int) (a2 : Int) (F : hp), mX12_bestOrder_L4 Q k o a1 a2 F → aw nX12_bestOrder (d + 3) 0 0 4 [some (vr (some o)), some (vi a1), some (vi a2)] [] F (qI Q) := by
  intro k
  induction k with
  | zero => intro o a1 a2 F h; exact h.elim
  | succ k ih =>
    intro o a1 a2 F h
    simp only [mX12_bestOrder_L4] at h
    refine aw_iload_n dX12_bestOrder_4 rfl rfl (aw_pc (pc' := 5) rfl ?_)
    refine aw_bipush dX12_bestOrder_5 (by decide) (aw_pc (pc' := 7) rfl ?_)
    refine ac_ge rfl wl_120 dX12_bestOrder_7 rfl (fun c => ?_) (fun c => ?_)
    · replace h := h.1 c
      refine aw_aload_n dX12_bestOrder_10 rfl rfl (aw_pc (pc' := 11) rfl ?_)
      refine aw_iload_n dX12_bestOrder_11 rfl rfl (aw_pc (pc' := 12) rfl ?_)
      have h0 := rcv_inv h
      clear h
      obtain ⟨o3, fs_o3, hr_o3, he_o3, h⟩ := h0
      obtain rfl : o = o3 := Option.some.inj hr_o3
      refine ar_VI (kc' := 0) (ks' := 0) (kc := 0) (ks := 0) (a := o) (ci := 12) (as := [vi a2]) (st := []) (tX12_doneBy h) mt_X12_doneBy rfl qM_RX12_449 qI_X12_doneBy qV_X12_doneBy he_o3 rfl (Nat.le_of_ble_eq_true rfl) dX12_bestOrder_12 ?_
      clear h
      intro x2 F1 h
      refine aw_pc (pc' := 15) rfl ?_
      refine aw_aload_n dX12_bestOrder_15 rfl rfl (aw_pc (pc' := 16) rfl ?_)
      refine aw_iload_n dX12_bestOrder_16 rfl rfl (aw_pc (pc' := 17) rfl ?_)
      have h0 := rcv_inv h
      clear h
      obtain ⟨o6, fs_o6, hr_o6, he_o6, h⟩ := h0
      obtain rfl : o = o6 := Option.some.inj hr_o6
      refine ar_VI (kc' := 0) (ks' := 0) (kc := 0) (ks := 0) (a := o) (ci := 12) (as := [vi a1]) (st := [vi x2]) (tX12_doneBy h) mt_X12_doneBy rfl qM_RX12_449 qI_X12_doneBy qV_X12_doneBy he_o6 rfl (Nat.le_of_ble_eq_true rfl) dX12_bestOrder_17 ?_
      clear h
      intro x5 F4 h
      refine aw_pc (pc' := 20) rfl ?_
      refine ac_ge rfl rfl dX12_bestOrder_20 rfl (fun c => ?_) (fun c => ?_)
      · replace h := h.1 c
        refine aw_iload_n dX12_bestOrder_23 rfl rfl (aw_pc (pc' := 24) rfl ?_)
        refine aw_istore_n dX12_bestOrder_24 rfl (by decide) (aw_pc (pc' := 25) rfl ?_)
        exact aw_mask [true, true, true] (tX12_bestOrder_J25 (fun o' a1' a2' F' h' => ih o' a1' a2' F' h') h)
      · replace h := h.2 c
        exact aw_mask [true, true, true] (tX12_bestOrder_J25 (fun o' a1' a2' F' h' => ih o' a1' a2' F' h') h)
    · replace h := h.2 c
      refine aw_iload_n dX12_bestOrder_31 rfl rfl (aw_pc (pc' := 32) rfl ?_)
      exact aw_iret rfl dX12_bestOrder_32 ⟨_, rfl, h⟩
def mX12_bestOrder (o : Nat) (F : hp) (Q : Int → hp → Prop) : Prop := (∃ k1, mX12_bestOrder_L4 Q k1 o 0 1 F)
set_option maxHeartbeats 4000000 in
theorem tX12_bestOrder {d : Nat} {o : Nat} {F : hp} {Q : Int → hp → Prop} (h : mX12_bestOrder o F Q) : am nX12_bestOrder (d + 3) 0 0 [vr (some o)] F (qI Q) := by
  refine am_of (by decide +kernel) (Nat.le_of_ble_eq_true rfl) ?_
  show aw nX12_bestOrder (d + 3) 0 0 0 [some (vr (some o)), none, none] [] F (qI Q)
  unfold mX12_bestOrder at h
  refine aw_iconst dX12_bestOrder_0 (aw_pc (pc' := 1) rfl ?_)
  refine aw_istore_n dX12_bestOrder_1 rfl (by decide) (aw_pc (pc' := 2) rfl ?_)
  refine aw_iconst dX12_bestOrder_2 (aw_pc (pc' := 3) rfl ?_)
  refine aw_istore_n dX12_bestOrder_3 rfl (by decide) (aw_pc (pc' := 4) rfl ?_)
  obtain ⟨k1, h⟩ := h
  exact aw_mask [true, true, true] (tX12_bestOrder_L4 k1 _ _ _ _ h)
def mX12_crane (o : Nat) (a1 : Int) (F : hp) (Q : Int → hp → Prop) : Prop := (w32 a1 = 0 → rcv F (some o) 12 (fun o3 => mX12_bestOrder o3 F (fun x2 F1 => Q x2 F1))) ∧ (¬ w32 a1 = 0 → rcv F (some o) 12 (fun o6 => mX12_bestOrder o6 F (fun x5 F4 => rcv F4 (some o) 12 (fun o9 => mX12_doneBy o9 x5 F4 (fun x8 F7 => Q x8 F7)))))
set_option maxHeartbeats 4000000 in
theorem tX12_crane {d : Nat} {o : Nat} {a1 : Int} {F : hp} {Q : Int → hp → Prop} (h : mX12_crane o a1 F Q) : am nX12_crane (d + 4) 0 0 [vr (some o), vi a1] F (qI Q) := by
  refine am_of (by decide +kernel) (Nat.le_of_ble_eq_true rfl) ?_
  show aw nX12_crane (d + 4) 0 0 0 [some (vr (some o)), some (vi a1)] [] F (qI Q)
  unfold mX12_crane at h
  refine aw_iload_n dX12_crane_0 rfl rfl (aw_pc (pc' := 1) rfl ?_)
  refine aw_if_eq dX12_crane_1 rfl (fun c => ?_) (fun c => ?_)
  · replace h := h.1 c
    refine aw_aload_n dX12_crane_15 rfl rfl (aw_pc (pc' := 16) rfl ?_)
    have h0 := rcv_inv h
    clear h
    obtain ⟨o3, fs_o3, hr_o3, he_o3, h⟩ := h0
    obtain rfl : o = o3 := Option.some.inj hr_o3
    refine ar_VI (kc' := 0) (ks' := 0) (kc := 0) (ks := 0) (a := o) (ci := 12) (as := []) (st := []) (tX12_bestOrder h) mt_X12_bestOrder rfl qM_RX12_452 qI_X12_bestOrder qV_X12_bestOrder he_o3 rfl (Nat.le_of_ble_eq_true rfl) dX12_crane_16 ?_
    clear h
    intro x2 F1 h
    refine aw_pc (pc' := 19) rfl ?_
    exact aw_iret rfl dX12_crane_19 ⟨_, rfl, h⟩
  · replace h := h.2 c
    refine aw_aload_n dX12_crane_4 rfl rfl (aw_pc (pc' := 5) rfl ?_)
    refine aw_aload_n dX12_crane_5 rfl rfl (aw_pc (pc' := 6) rfl ?_)
    have h0 := rcv_inv h
    clear h
    obtain ⟨o6, fs_o6, hr_o6, he_o6, h⟩ := h0
    obtain rfl : o = o6 := Option.some.inj hr_o6
    refine ar_VI (kc' := 0) (ks' := 0) (kc := 0) (ks := 0) (a := o) (ci := 12) (as := []) (st := [vr (some o)]) (tX12_bestOrder h) mt_X12_bestOrder rfl qM_RX12_452 qI_X12_bestOrder qV_X12_bestOrder he_o6 rfl (Nat.le_of_ble_eq_true rfl) dX12_crane_6 ?_
    clear h
    intro x5 F4 h
    refine aw_pc (pc' := 9) rfl ?_
    have h0 := rcv_inv h
    clear h
    obtain ⟨o9, fs_o9, hr_o9, he_o9, h⟩ := h0
    obtain rfl : o = o9 := Option.some.inj hr_o9
    refine ar_VI (kc' := 0) (ks' := 0) (kc := 0) (ks := 0) (a := o) (ci := 12) (as := [vi x5]) (st := []) (tX12_doneBy h) mt_X12_doneBy rfl qM_RX12_449 qI_X12_doneBy qV_X12_doneBy he_o9 rfl (Nat.le_of_ble_eq_true rfl) dX12_crane_9 ?_
    clear h
    intro x8 F7 h
    refine aw_pc (pc' := 12) rfl ?_
    refine aw_goto (tgt := 19) dX12_crane_12 rfl ?_
    exact aw_iret rfl dX12_crane_19 ⟨_, rfl, h⟩
def mX12_idle_L11 (Q : Int → hp → Prop) : Nat → Nat → Int → Int → hp → Prop
  | 0, _, _, _, _ => False
  | k + 1, o, a1, a2, F => gR F (some o) 12 0 (fun x1 => aI F x1 0 0 (fun x2 => (w32 a2 < w32 x2 → gR F (some o) 12 0 (fun x3 => aI F x3 0 (51 + a2) (fun x4 => ∀ v5 : Int, v5 = (a1 - x4) → mX12_idle_L11 Q k o v5 (a2 + 1) F))) ∧ (¬ w32 a2 < w32 x2 → Q a1 F)))
set_option maxHeartbeats 4000000 in
theorem tX12_idle_L11 {d : Nat} {Q : Int → hp → Prop} : ∀ (k : Nat) (o : Nat) (a1 : Int) (a2 : Int) (F : hp), mX12_idle_L11 Q k o a1 a2 F → aw nX12_idle (d + 4) 0 0 11 [some (vr (some o)), some (vi a1), some (vi a2)] [] F (qI Q) := by
  intro k
  induction k with
  | zero => intro o a1 a2 F h; exact h.elim
  | succ k ih =>
    intro o a1 a2 F h
    simp only [mX12_idle_L11] at h
    refine aw_iload_n dX12_idle_11 rfl rfl (aw_pc (pc' := 12) rfl ?_)
    refine aw_aload_n dX12_idle_12 rfl rfl (aw_pc (pc' := 13) rfl ?_)
    refine ar_gR fl_RX12_7 dX12_idle_13 h ?_
    clear h
    intro x1 h
    refine aw_pc (pc' := 16) rfl ?_
    refine aw_iconst dX12_idle_16 (aw_pc (pc' := 17) rfl ?_)
    refine ar_aI dX12_idle_17 h ?_
    clear h
    intro x2 h
    refine aw_pc (pc' := 18) rfl ?_
    refine ac_ge rfl rfl dX12_idle_18 rfl (fun c => ?_) (fun c => ?_)
    · replace h := h.1 c
      refine aw_iload_n dX12_idle_21 rfl rfl (aw_pc (pc' := 22) rfl ?_)
      refine aw_aload_n dX12_idle_22 rfl rfl (aw_pc (pc' := 23) rfl ?_)
      refine ar_gR fl_RX12_7 dX12_idle_23 h ?_
      clear h
      intro x3 h
      refine aw_pc (pc' := 26) rfl ?_
      refine aw_bipush dX12_idle_26 (by decide) (aw_pc (pc' := 28) rfl ?_)
      refine aw_iload_n dX12_idle_28 rfl rfl (aw_pc (pc' := 29) rfl ?_)
      refine aw_iadd dX12_idle_29 (aw_pc (pc' := 30) rfl ?_)
      refine ar_aI dX12_idle_30 h ?_
      clear h
      intro x4 h
      refine aw_pc (pc' := 31) rfl ?_
      refine aw_isub dX12_idle_31 (aw_pc (pc' := 32) rfl ?_)
      generalize hv_v5 : (a1 - x4) = v5
      replace h := h v5 hv_v5.symm
      refine aw_istore_n dX12_idle_32 rfl (by decide) (aw_pc (pc' := 33) rfl ?_)
      refine aw_iinc dX12_idle_33 rfl (by decide) (aw_pc (pc' := 36) rfl ?_)
      refine aw_goto (tgt := 11) dX12_idle_36 rfl ?_
      exact aw_mask [true, true, true] (ih _ _ _ _ h)
    · replace h := h.2 c
      refine aw_iload_n dX12_idle_39 rfl rfl (aw_pc (pc' := 40) rfl ?_)
      exact aw_iret rfl dX12_idle_40 ⟨_, rfl, h⟩
def mX12_idle (o : Nat) (F : hp) (Q : Int → hp → Prop) : Prop := rcv F (some o) 12 (fun o3 => mX12_bestOrder o3 F (fun x2 F1 => rcv F1 (some o) 12 (fun o6 => mX12_doneBy o6 x2 F1 (fun x5 F4 => (∃ k7, mX12_idle_L11 Q k7 o x5 0 F4)))))
set_option maxHeartbeats 4000000 in
theorem tX12_idle {d : Nat} {o : Nat} {F : hp} {Q : Int → hp → Prop} (h : mX12_idle o F Q) : am nX12_idle (d + 4) 0 0 [vr (some o)] F (qI Q) := by
  refine am_of (by decide +kernel) (Nat.le_of_ble_eq_true rfl) ?_
  show aw nX12_idle (d + 4) 0 0 0 [some (vr (some o)), none, none] [] F (qI Q)
  unfold mX12_idle at h
  refine aw_aload_n dX12_idle_0 rfl rfl (aw_pc (pc' := 1) rfl ?_)
  refine aw_aload_n dX12_idle_1 rfl rfl (aw_pc (pc' := 2) rfl ?_)
  have h0 := rcv_inv h
  clear h
  obtain ⟨o3, fs_o3, hr_o3, he_o3, h⟩ := h0
  obtain rfl : o = o3 := Option.some.inj hr_o3
  refine ar_VI (kc' := 0) (ks' := 0) (kc := 0) (ks := 0) (a := o) (ci := 12) (as := []) (st := [vr (some o)]) (tX12_bestOrder h) mt_X12_bestOrder rfl qM_RX12_452 qI_X12_bestOrder qV_X12_bestOrder he_o3 rfl (Nat.le_of_ble_eq_true rfl) dX12_idle_2 ?_
  clear h
  intro x2 F1 h
  refine aw_pc (pc' := 5) rfl ?_
  have h0 := rcv_inv h
  clear h
  obtain ⟨o6, fs_o6, hr_o6, he_o6, h⟩ := h0
  obtain rfl : o = o6 := Option.some.inj hr_o6
  refine ar_VI (kc' := 0) (ks' := 0) (kc := 0) (ks := 0) (a := o) (ci := 12) (as := [vi x2]) (st := []) (tX12_doneBy h) mt_X12_doneBy rfl qM_RX12_449 qI_X12_doneBy qV_X12_doneBy he_o6 rfl (Nat.le_of_ble_eq_true rfl) dX12_idle_5 ?_
  clear h
  intro x5 F4 h
  refine aw_pc (pc' := 8) rfl ?_
  refine aw_istore_n dX12_idle_8 rfl (by decide) (aw_pc (pc' := 9) rfl ?_)
  refine aw_iconst dX12_idle_9 (aw_pc (pc' := 10) rfl ?_)
  refine aw_istore_n dX12_idle_10 rfl (by decide) (aw_pc (pc' := 11) rfl ?_)
  obtain ⟨k7, h⟩ := h
  exact aw_mask [true, true, true] (tX12_idle_L11 k7 _ _ _ _ h)
def mX12_isRailway (a0 : Int) (F : hp) (Q : Int → hp → Prop) : Prop := mX12_isIn a0 0 5 F (fun x2 F1 => (((x2 : Int) = 0 ∨ (x2 : Int) = 1) ∧ Q x2 F1))
set_option maxHeartbeats 4000000 in
theorem tX12_isRailway {d : Nat} {a0 : Int} {F : hp} {Q : Int → hp → Prop} (h : mX12_isRailway a0 F Q) : am nX12_isRailway (d + 1) 0 0 [vi a0] F (qI Q) := by
  refine am_of (by decide +kernel) (Nat.le_of_ble_eq_true rfl) ?_
  show aw nX12_isRailway (d + 1) 0 0 0 [some (vi a0)] [] F (qI Q)
  unfold mX12_isRailway at h
  refine aw_iload_n dX12_isRailway_0 rfl rfl (aw_pc (pc' := 1) rfl ?_)
  refine aw_iconst dX12_isRailway_1 (aw_pc (pc' := 2) rfl ?_)
  refine aw_iconst dX12_isRailway_2 (aw_pc (pc' := 3) rfl ?_)
  refine ar_SI (kc' := 0) (ks' := 0) (kc := 0) (ks := 0) (as := [vi a0, vi 0, vi 5]) (st := []) (tX12_isIn h) mt_X12_isIn qM_RX12_78 qS_X12_isIn rfl (Nat.le_of_ble_eq_true rfl) dX12_isRailway_3 ?_
  clear h
  intro x2 F1 h
  refine aw_pc (pc' := 6) rfl ?_
  exact aw_zret rfl (nz h.1) dX12_isRailway_6 ⟨_, rfl, h.2⟩
def mX12_owe (o : Nat) (a1 : Int) (a2 : Int) (a3 : Int) (F : hp) (Q : Int → hp → Prop) : Prop := mX12_isRailway a1 F (fun x2 F1 => (w32 x2 = 0 → Q 0 F1) ∧ (¬ w32 x2 = 0 → mX12_isRailway a2 F1 (fun x4 F3 => (w32 x4 = 0 → Q 0 F3) ∧ (¬ w32 x4 = 0 → (w32 a1 = w32 a2 → Q 0 F3) ∧ (¬ w32 a1 = w32 a2 → mX12_isIn a3 1 99 F3 (fun x6 F5 => (w32 x6 = 0 → Q 0 F5) ∧ (¬ w32 x6 = 0 → gR F5 (some o) 12 0 (fun x7 => aI F5 x7 0 (61 + a1) (fun x8 => sI F5 x7 0 (61 + a1) (x8 - a3) (fun F9 => gR F9 (some o) 12 0 (fun x10 => aI F9 x10 0 (61 + a2) (fun x11 => sI F9 x10 0 (61 + a2) (x11 + a3) (fun F12 => Q 1 F12)))))))))))))
set_option maxHeartbeats 4000000 in
theorem tX12_owe {d : Nat} {o : Nat} {a1 : Int} {a2 : Int} {a3 : Int} {F : hp} {Q : Int → hp → Prop} (h : mX12_owe o a1 a2 a3 F Q) : am nX12_owe (d + 2) 0 0 [vr (some o), vi a1, vi a2, vi a3] F (qI Q) := by
  refine am_of (by decide +kernel) (Nat.le_of_ble_eq_true rfl) ?_
  show aw nX12_owe (d + 2) 0 0 0 [some (vr (some o)), some (vi a1), some (vi a2), some (vi a3)] [] F (qI Q)
  unfold mX12_owe at h
  refine aw_iload_n dX12_owe_0 rfl rfl (aw_pc (pc' := 1) rfl ?_)
  refine ar_SI (kc' := 0) (ks' := 0) (kc := 0) (ks := 0) (as := [vi a1]) (st := []) (tX12_isRailway h) mt_X12_isRailway qM_RX12_455 qS_X12_isRailway rfl (Nat.le_of_ble_eq_true rfl) dX12_owe_1 ?_
  clear h
  intro x2 F1 h
  refine aw_pc (pc' := 4) rfl ?_
  refine aw_if_eq dX12_owe_4 rfl (fun c => ?_) (fun c => ?_)
  · replace h := h.1 c
    refine aw_iconst dX12_owe_29 (aw_pc (pc' := 30) rfl ?_)
    exact aw_zret rfl (by decide) dX12_owe_30 ⟨_, rfl, h⟩
  · replace h := h.2 c
    refine aw_iload_n dX12_owe_7 rfl rfl (aw_pc (pc' := 8) rfl ?_)
    refine ar_SI (kc' := 0) (ks' := 0) (kc := 0) (ks := 0) (as := [vi a2]) (st := []) (tX12_isRailway h) mt_X12_isRailway qM_RX12_455 qS_X12_isRailway rfl (Nat.le_of_ble_eq_true rfl) dX12_owe_8 ?_
    clear h
    intro x4 F3 h
    refine aw_pc (pc' := 11) rfl ?_
    refine aw_if_eq dX12_owe_11 rfl (fun c => ?_) (fun c => ?_)
    · replace h := h.1 c
      refine aw_iconst dX12_owe_29 (aw_pc (pc' := 30) rfl ?_)
      exact aw_zret rfl (by decide) dX12_owe_30 ⟨_, rfl, h⟩
    · replace h := h.2 c
      refine aw_iload_n dX12_owe_14 rfl rfl (aw_pc (pc' := 15) rfl ?_)
      refine aw_iload_n dX12_owe_15 rfl rfl (aw_pc (pc' := 16) rfl ?_)
      refine ac_eq rfl rfl dX12_owe_16 rfl (fun c => ?_) (fun c => ?_)
      · replace h := h.1 c
        refine aw_iconst dX12_owe_29 (aw_pc (pc' := 30) rfl ?_)
        exact aw_zret rfl (by decide) dX12_owe_30 ⟨_, rfl, h⟩
      · replace h := h.2 c
        refine aw_iload_n dX12_owe_19 rfl rfl (aw_pc (pc' := 20) rfl ?_)
        refine aw_iconst dX12_owe_20 (aw_pc (pc' := 21) rfl ?_)
        refine aw_bipush dX12_owe_21 (by decide) (aw_pc (pc' := 23) rfl ?_)
        refine ar_SI (kc' := 0) (ks' := 0) (kc := 0) (ks := 0) (as := [vi a3, vi 1, vi 99]) (st := []) (tX12_isIn h) mt_X12_isIn qM_RX12_78 qS_X12_isIn rfl (Nat.le_of_ble_eq_true rfl) dX12_owe_23 ?_
        clear h
        intro x6 F5 h
        refine aw_pc (pc' := 26) rfl ?_
        refine aw_if_ne dX12_owe_26 rfl (fun c => ?_) (fun c => ?_)
        · replace h := h.1 c
          refine aw_iconst dX12_owe_29 (aw_pc (pc' := 30) rfl ?_)
          exact aw_zret rfl (by decide) dX12_owe_30 ⟨_, rfl, h⟩
        · replace h := h.2 c
          refine aw_aload_n dX12_owe_31 rfl rfl (aw_pc (pc' := 32) rfl ?_)
          refine ar_gR fl_RX12_7 dX12_owe_32 h ?_
          clear h
          intro x7 h
          refine aw_pc (pc' := 35) rfl ?_
          refine aw_bipush dX12_owe_35 (by decide) (aw_pc (pc' := 37) rfl ?_)
          refine aw_iload_n dX12_owe_37 rfl rfl (aw_pc (pc' := 38) rfl ?_)
          refine aw_iadd dX12_owe_38 (aw_pc (pc' := 39) rfl ?_)
          refine aw_dup2 dX12_owe_39 trivial trivial (aw_pc (pc' := 40) rfl ?_)
          refine ar_aI dX12_owe_40 h ?_
          clear h
          intro x8 h
          refine aw_pc (pc' := 41) rfl ?_
          refine aw_iload_n dX12_owe_41 rfl rfl (aw_pc (pc' := 42) rfl ?_)
          refine aw_isub dX12_owe_42 (aw_pc (pc' := 43) rfl ?_)
          refine ar_sI dX12_owe_43 h ?_
          clear h
          intro F9 h
          refine aw_pc (pc' := 44) rfl ?_
          refine aw_aload_n dX12_owe_44 rfl rfl (aw_pc (pc' := 45) rfl ?_)
          refine ar_gR fl_RX12_7 dX12_owe_45 h ?_
          clear h
          intro x10 h
          refine aw_pc (pc' := 48) rfl ?_
          refine aw_bipush dX12_owe_48 (by decide) (aw_pc (pc' := 50) rfl ?_)
          refine aw_iload_n dX12_owe_50 rfl rfl (aw_pc (pc' := 51) rfl ?_)
          refine aw_iadd dX12_owe_51 (aw_pc (pc' := 52) rfl ?_)
          refine aw_dup2 dX12_owe_52 trivial trivial (aw_pc (pc' := 53) rfl ?_)
          refine ar_aI dX12_owe_53 h ?_
          clear h
          intro x11 h
          refine aw_pc (pc' := 54) rfl ?_
          refine aw_iload_n dX12_owe_54 rfl rfl (aw_pc (pc' := 55) rfl ?_)
          refine aw_iadd dX12_owe_55 (aw_pc (pc' := 56) rfl ?_)
          refine ar_sI dX12_owe_56 h ?_
          clear h
          intro F12 h
          refine aw_pc (pc' := 57) rfl ?_
          refine aw_iconst dX12_owe_57 (aw_pc (pc' := 58) rfl ?_)
          exact aw_zret rfl (by decide) dX12_owe_58 ⟨_, rfl, h⟩
def mX12_balance (o : Nat) (a1 : Int) (F : hp) (Q : Int → hp → Prop) : Prop := mX12_isRailway a1 F (fun x2 F1 => (w32 x2 = 0 → Q (-100000) F1) ∧ (¬ w32 x2 = 0 → gR F1 (some o) 12 0 (fun x3 => aI F1 x3 0 (61 + a1) (fun x4 => Q x4 F1))))
set_option maxHeartbeats 4000000 in
theorem tX12_balance {d : Nat} {o : Nat} {a1 : Int} {F : hp} {Q : Int → hp → Prop} (h : mX12_balance o a1 F Q) : am nX12_balance (d + 2) 0 0 [vr (some o), vi a1] F (qI Q) := by
  refine am_of (by decide +kernel) (Nat.le_of_ble_eq_true rfl) ?_
  show aw nX12_balance (d + 2) 0 0 0 [some (vr (some o)), some (vi a1)] [] F (qI Q)
  unfold mX12_balance at h
  refine aw_iload_n dX12_balance_0 rfl rfl (aw_pc (pc' := 1) rfl ?_)
  refine ar_SI (kc' := 0) (ks' := 0) (kc := 0) (ks := 0) (as := [vi a1]) (st := []) (tX12_isRailway h) mt_X12_isRailway qM_RX12_455 qS_X12_isRailway rfl (Nat.le_of_ble_eq_true rfl) dX12_balance_1 ?_
  clear h
  intro x2 F1 h
  refine aw_pc (pc' := 4) rfl ?_
  refine aw_if_eq dX12_balance_4 rfl (fun c => ?_) (fun c => ?_)
  · replace h := h.1 c
    refine aw_ldcw (n := (-100000)) dX12_balance_19 qK_RX12_458 (aw_pc (pc' := 22) rfl ?_)
    exact aw_iret rfl dX12_balance_22 ⟨_, rfl, h⟩
  · replace h := h.2 c
    refine aw_aload_n dX12_balance_7 rfl rfl (aw_pc (pc' := 8) rfl ?_)
    refine ar_gR fl_RX12_7 dX12_balance_8 h ?_
    clear h
    intro x3 h
    refine aw_pc (pc' := 11) rfl ?_
    refine aw_bipush dX12_balance_11 (by decide) (aw_pc (pc' := 13) rfl ?_)
    refine aw_iload_n dX12_balance_13 rfl rfl (aw_pc (pc' := 14) rfl ?_)
    refine aw_iadd dX12_balance_14 (aw_pc (pc' := 15) rfl ?_)
    refine ar_aI dX12_balance_15 h ?_
    clear h
    intro x4 h
    refine aw_pc (pc' := 16) rfl ?_
    refine aw_goto (tgt := 22) dX12_balance_16 rfl ?_
    exact aw_iret rfl dX12_balance_22 ⟨_, rfl, h⟩
def mX12_sumOf_J32 (X4 : Nat → Int → Int → Int → hp → Prop) (Q : Int → hp → Prop) (o : Nat) (a1 : Int) (a3 : Int) (s0 : Int) (s1 : Int) (F : hp) : Prop := ∀ v1 : Int, v1 = (s0 + s1) → X4 o a1 v1 (a3 + 1) F
set_option maxHeartbeats 4000000 in
theorem tX12_sumOf_J32 {d : Nat} {X4 : Nat → Int → Int → Int → hp → Prop} {Q : Int → hp → Prop} (hX4 : ∀ (o : Nat) (a1 : Int) (a2 : Int) (a3 : Int) (F : hp), X4 o a1 a2 a3 F → aw nX12_sumOf (d + 1) 0 0 4 [some (vr (some o)), some (vi a1), some (vi a2), some (vi a3)] [] F (qI Q)) {o : Nat} {a1 : Int} {a3 : Int} {s0 : Int} {s1 : Int} {F : hp} (h : mX12_sumOf_J32 X4 Q o a1 a3 s0 s1 F) : aw nX12_sumOf (d + 1) 0 0 32 [some (vr (some o)), some (vi a1), none, some (vi a3)] [vi s1, vi s0] F (qI Q) := by
  unfold mX12_sumOf_J32 at h
  refine aw_iadd dX12_sumOf_32 (aw_pc (pc' := 33) rfl ?_)
  generalize hv_v1 : (s0 + s1) = v1
  replace h := h v1 hv_v1.symm
  refine aw_istore_n dX12_sumOf_33 rfl (by decide) (aw_pc (pc' := 34) rfl ?_)
  refine aw_iinc dX12_sumOf_34 rfl (by decide) (aw_pc (pc' := 37) rfl ?_)
  refine aw_goto (tgt := 4) dX12_sumOf_37 rfl ?_
  exact aw_mask [true, true, true, true] (hX4 _ _ _ _ _ h)
def mX12_sumOf_L4 (Q : Int → hp → Prop) : Nat → Nat → Int → Int → Int → hp → Prop
  | 0, _, _, _, _, _ => False
  | k + 1, o, a1, a2, a3, F => (w32 a3 < 6 → mX12_has a1 a3 F (fun x2 F1 => (w32 x2 = 0 → mX12_sumOf_J32 (fun o' a1' a2' a3' F' => mX12_sumOf_L4 Q k o' a1' a2' a3' F') Q o a1 a3 a2 0 F1) ∧ (¬ w32 x2 = 0 → gR F1 (some o) 12 0 (fun x3 => aI F1 x3 0 (61 + a3) (fun x4 => mX12_sumOf_J32 (fun o' a1' a2' a3' F' => mX12_sumOf_L4 Q k o' a1' a2' a3' F') Q o a1 a3 a2 x4 F1))))) ∧ (¬ w32 a3 < 6 → Q a2 F)
set_option maxHeartbeats 4000000 in
theorem tX12_sumOf_L4 {d : Nat} {Q : Int → hp → Prop} : ∀ (k : Nat) (o : Nat) (a1 : Int) (a2 : Int) (a3 : Int) (F : hp), mX12_sumOf_L4 Q k o a1 a2 a3 F → aw nX12_sumOf (d + 1) 0 0 4 [some (vr (some o)), some (vi a1), some (vi a2), some (vi a3)] [] F (qI Q) := by
  intro k
  induction k with
  | zero => intro o a1 a2 a3 F h; exact h.elim
  | succ k ih =>
    intro o a1 a2 a3 F h
    simp only [mX12_sumOf_L4] at h
    refine aw_iload_n dX12_sumOf_4 rfl rfl (aw_pc (pc' := 5) rfl ?_)
    refine aw_bipush dX12_sumOf_5 (by decide) (aw_pc (pc' := 7) rfl ?_)
    refine ac_ge rfl wl_6 dX12_sumOf_7 rfl (fun c => ?_) (fun c => ?_)
    · replace h := h.1 c
      refine aw_iload_n dX12_sumOf_10 rfl rfl (aw_pc (pc' := 11) rfl ?_)
      refine aw_iload_n dX12_sumOf_11 rfl rfl (aw_pc (pc' := 12) rfl ?_)
      refine aw_iload_n dX12_sumOf_12 rfl rfl (aw_pc (pc' := 13) rfl ?_)
      refine ar_SI (kc' := 0) (ks' := 0) (kc := 0) (ks := 0) (as := [vi a1, vi a3]) (st := [vi a2]) (tX12_has h) mt_X12_has qM_RX12_90 qS_X12_has rfl (Nat.le_of_ble_eq_true rfl) dX12_sumOf_13 ?_
      clear h
      intro x2 F1 h
      refine aw_pc (pc' := 16) rfl ?_
      refine aw_if_eq dX12_sumOf_16 rfl (fun c => ?_) (fun c => ?_)
      · replace h := h.1 c
        refine aw_iconst dX12_sumOf_31 (aw_pc (pc' := 32) rfl ?_)
        exact aw_mask [true, true, false, true] (tX12_sumOf_J32 (fun o' a1' a2' a3' F' h' => ih o' a1' a2' a3' F' h') h)
      · replace h := h.2 c
        refine aw_aload_n dX12_sumOf_19 rfl rfl (aw_pc (pc' := 20) rfl ?_)
        refine ar_gR fl_RX12_7 dX12_sumOf_20 h ?_
        clear h
        intro x3 h
        refine aw_pc (pc' := 23) rfl ?_
        refine aw_bipush dX12_sumOf_23 (by decide) (aw_pc (pc' := 25) rfl ?_)
        refine aw_iload_n dX12_sumOf_25 rfl rfl (aw_pc (pc' := 26) rfl ?_)
        refine aw_iadd dX12_sumOf_26 (aw_pc (pc' := 27) rfl ?_)
        refine ar_aI dX12_sumOf_27 h ?_
        clear h
        intro x4 h
        refine aw_pc (pc' := 28) rfl ?_
        refine aw_goto (tgt := 32) dX12_sumOf_28 rfl ?_
        exact aw_mask [true, true, false, true] (tX12_sumOf_J32 (fun o' a1' a2' a3' F' h' => ih o' a1' a2' a3' F' h') h)
    · replace h := h.2 c
      refine aw_iload_n dX12_sumOf_40 rfl rfl (aw_pc (pc' := 41) rfl ?_)
      exact aw_iret rfl dX12_sumOf_41 ⟨_, rfl, h⟩
def mX12_sumOf (o : Nat) (a1 : Int) (F : hp) (Q : Int → hp → Prop) : Prop := (∃ k1, mX12_sumOf_L4 Q k1 o a1 0 0 F)
set_option maxHeartbeats 4000000 in
theorem tX12_sumOf {d : Nat} {o : Nat} {a1 : Int} {F : hp} {Q : Int → hp → Prop} (h : mX12_sumOf o a1 F Q) : am nX12_sumOf (d + 1) 0 0 [vr (some o), vi a1] F (qI Q) := by
  refine am_of (by decide +kernel) (Nat.le_of_ble_eq_true rfl) ?_
  show aw nX12_sumOf (d + 1) 0 0 0 [some (vr (some o)), some (vi a1), none, none] [] F (qI Q)
  unfold mX12_sumOf at h
  refine aw_iconst dX12_sumOf_0 (aw_pc (pc' := 1) rfl ?_)
  refine aw_istore_n dX12_sumOf_1 rfl (by decide) (aw_pc (pc' := 2) rfl ?_)
  refine aw_iconst dX12_sumOf_2 (aw_pc (pc' := 3) rfl ?_)
  refine aw_istore_n dX12_sumOf_3 rfl (by decide) (aw_pc (pc' := 4) rfl ?_)
  obtain ⟨k1, h⟩ := h
  exact aw_mask [true, true, true, true] (tX12_sumOf_L4 k1 _ _ _ _ _ h)
def mX12_lowBit (a0 : Int) (F : hp) (Q : Int → hp → Prop) : Prop := Q (iAnd a0 (-a0)) F
set_option maxHeartbeats 4000000 in
theorem tX12_lowBit {d : Nat} {a0 : Int} {F : hp} {Q : Int → hp → Prop} (h : mX12_lowBit a0 F Q) : am nX12_lowBit d 0 0 [vi a0] F (qI Q) := by
  refine am_of (by decide +kernel) (Nat.le_of_ble_eq_true rfl) ?_
  show aw nX12_lowBit d 0 0 0 [some (vi a0)] [] F (qI Q)
  unfold mX12_lowBit at h
  refine aw_iload_n dX12_lowBit_0 rfl rfl (aw_pc (pc' := 1) rfl ?_)
  refine aw_iload_n dX12_lowBit_1 rfl rfl (aw_pc (pc' := 2) rfl ?_)
  refine aw_ineg dX12_lowBit_2 (aw_pc (pc' := 3) rfl ?_)
  refine aw_iand dX12_lowBit_3 (aw_pc (pc' := 4) rfl ?_)
  exact aw_iret rfl dX12_lowBit_4 ⟨_, rfl, h⟩
def mX12_layGroups_J102 (X2 : Nat → Int → hp → Prop) (X25 : Nat → Int → Int → hp → Prop) (Q : hp → Prop) (o : Nat) (a1 : Int) (a2 : Int) (F : hp) : Prop := ∀ v1 : Int, v1 = (iAnd (a2 - 1) a1) → X25 o a1 v1 F
set_option maxHeartbeats 4000000 in
theorem tX12_layGroups_J102 {d : Nat} {X2 : Nat → Int → hp → Prop} {X25 : Nat → Int → Int → hp → Prop} {Q : hp → Prop} (hX2 : ∀ (o : Nat) (a1 : Int) (F : hp), X2 o a1 F → aw nX12_layGroups (d + 2) 0 0 2 [some (vr (some o)), some (vi a1), none, none] [] F (qV Q)) (hX25 : ∀ (o : Nat) (a1 : Int) (a2 : Int) (F : hp), X25 o a1 a2 F → aw nX12_layGroups (d + 2) 0 0 25 [some (vr (some o)), some (vi a1), some (vi a2), none] [] F (qV Q)) {o : Nat} {a1 : Int} {a2 : Int} {F : hp} (h : mX12_layGroups_J102 X2 X25 Q o a1 a2 F) : aw nX12_layGroups (d + 2) 0 0 102 [some (vr (some o)), some (vi a1), some (vi a2), none] [] F (qV Q) := by
  unfold mX12_layGroups_J102 at h
  refine aw_iload_n dX12_layGroups_102 rfl rfl (aw_pc (pc' := 103) rfl ?_)
  refine aw_iconst dX12_layGroups_103 (aw_pc (pc' := 104) rfl ?_)
  refine aw_isub dX12_layGroups_104 (aw_pc (pc' := 105) rfl ?_)
  refine aw_iload_n dX12_layGroups_105 rfl rfl (aw_pc (pc' := 106) rfl ?_)
  refine aw_iand dX12_layGroups_106 (aw_pc (pc' := 107) rfl ?_)
  generalize hv_v1 : (iAnd (a2 - 1) a1) = v1
  replace h := h v1 hv_v1.symm
  refine aw_istore_n dX12_layGroups_107 rfl (by decide) (aw_pc (pc' := 108) rfl ?_)
  refine aw_goto (tgt := 25) dX12_layGroups_108 rfl ?_
  exact aw_mask [true, true, true, false] (hX25 _ _ _ _ h)
def mX12_layGroups_J101 (X2 : Nat → Int → hp → Prop) (X25 : Nat → Int → Int → hp → Prop) (Q : hp → Prop) (o : Nat) (a1 : Int) (a2 : Int) (s0 : Option Nat) (s1 : Int) (s2 : Int) (F : hp) : Prop := sI F s0 0 s1 s2 (fun F1 => mX12_layGroups_J102 X2 X25 Q o a1 a2 F1)
set_option maxHeartbeats 4000000 in
theorem tX12_layGroups_J101 {d : Nat} {X2 : Nat → Int → hp → Prop} {X25 : Nat → Int → Int → hp → Prop} {Q : hp → Prop} (hX2 : ∀ (o : Nat) (a1 : Int) (F : hp), X2 o a1 F → aw nX12_layGroups (d + 2) 0 0 2 [some (vr (some o)), some (vi a1), none, none] [] F (qV Q)) (hX25 : ∀ (o : Nat) (a1 : Int) (a2 : Int) (F : hp), X25 o a1 a2 F → aw nX12_layGroups (d + 2) 0 0 25 [some (vr (some o)), some (vi a1), some (vi a2), none] [] F (qV Q)) {o : Nat} {a1 : Int} {a2 : Int} {s0 : Option Nat} {s1 : Int} {s2 : Int} {F : hp} (h : mX12_layGroups_J101 X2 X25 Q o a1 a2 s0 s1 s2 F) : aw nX12_layGroups (d + 2) 0 0 101 [some (vr (some o)), some (vi a1), some (vi a2), none] [vi s2, vi s1, vr s0] F (qV Q) := by
  unfold mX12_layGroups_J101 at h
  refine ar_sI dX12_layGroups_101 h ?_
  clear h
  intro F1 h
  refine aw_pc (pc' := 102) rfl ?_
  exact aw_mask [true, true, true, false] (tX12_layGroups_J102 hX2 hX25 h)
def mX12_layGroups_L25 (X2 : Nat → Int → hp → Prop) (Q : hp → Prop) : Nat → Nat → Int → Int → hp → Prop
  | 0, _, _, _, _ => False
  | k + 1, o, a1, a2, F => (0 < w32 a2 → mX12_lowBit a1 F (fun x2 F1 => (w32 (iAnd a2 x2) = 0 → mX12_layGroups_J102 X2 (fun o' a1' a2' F' => mX12_layGroups_L25 X2 Q k o' a1' a2' F') Q o a1 a2 F1) ∧ (¬ w32 (iAnd a2 x2) = 0 → rcv F1 (some o) 12 (fun o5 => mX12_sumOf o5 a2 F1 (fun x4 F3 => (w32 x4 = 0 → gR F3 (some o) 12 34 (fun x6 => aI F3 x6 0 (iAnd a1 (iXor a2 (-1))) (fun x7 => (w32 x7 = (-1) → mX12_layGroups_J102 X2 (fun o' a1' a2' F' => mX12_layGroups_L25 X2 Q k o' a1' a2' F') Q o a1 a2 F3) ∧ (¬ w32 x7 = (-1) → gR F3 (some o) 12 34 (fun x8 => aI F3 x8 0 (iAnd a1 (iXor a2 (-1))) (fun x9 => ∀ v10 : Int, v10 = (1 + x9) → gR F3 (some o) 12 34 (fun x11 => gR F3 (some o) 12 34 (fun x12 => aI F3 x12 0 a1 (fun x13 => (w32 x13 < w32 v10 → mX12_layGroups_J101 X2 (fun o' a1' a2' F' => mX12_layGroups_L25 X2 Q k o' a1' a2' F') Q o a1 a2 x11 a1 v10 F3) ∧ (¬ w32 x13 < w32 v10 → gR F3 (some o) 12 34 (fun x14 => aI F3 x14 0 a1 (fun x15 => mX12_layGroups_J101 X2 (fun o' a1' a2' F' => mX12_layGroups_L25 X2 Q k o' a1' a2' F') Q o a1 a2 x11 a1 x15 F3)))))))))))) ∧ (¬ w32 x4 = 0 → mX12_layGroups_J102 X2 (fun o' a1' a2' F' => mX12_layGroups_L25 X2 Q k o' a1' a2' F') Q o a1 a2 F3)))))) ∧ (¬ 0 < w32 a2 → X2 o (a1 + 1) F)
set_option maxHeartbeats 4000000 in
theorem tX12_layGroups_L25 {d : Nat} {X2 : Nat → Int → hp → Prop} {Q : hp → Prop} (hX2 : ∀ (o : Nat) (a1 : Int) (F : hp), X2 o a1 F → aw nX12_layGroups (d + 2) 0 0 2 [some (vr (some o)), some (vi a1), none, none] [] F (qV Q)) : ∀ (k : Nat) (o : Nat) (a1 : Int) (a2 : Int) (F : hp), mX12_layGroups_L25 X2 Q k o a1 a2 F → aw nX12_layGroups (d + 2) 0 0 25 [some (vr (some o)), some (vi a1), some (vi a2), none] [] F (qV Q) := by
  intro k
  induction k with
  | zero => intro o a1 a2 F h; exact h.elim
  | succ k ih =>
    intro o a1 a2 F h
    simp only [mX12_layGroups_L25] at h
    refine aw_iload_n dX12_layGroups_25 rfl rfl (aw_pc (pc' := 26) rfl ?_)
    refine aw_if_le dX12_layGroups_26 rfl (fun c => ?_) (fun c => ?_)
    · replace h := h.1 c
      refine aw_iload_n dX12_layGroups_29 rfl rfl (aw_pc (pc' := 30) rfl ?_)
      refine aw_iload_n dX12_layGroups_30 rfl rfl (aw_pc (pc' := 31) rfl ?_)
      refine ar_SI (kc' := 0) (ks' := 0) (kc := 0) (ks := 0) (as := [vi a1]) (st := [vi a2]) (tX12_lowBit h) mt_X12_lowBit qM_RX12_459 qS_X12_lowBit rfl (Nat.le_of_ble_eq_true rfl) dX12_layGroups_31 ?_
      clear h
      intro x2 F1 h
      refine aw_pc (pc' := 34) rfl ?_
      refine aw_iand dX12_layGroups_34 (aw_pc (pc' := 35) rfl ?_)
      refine aw_if_eq dX12_layGroups_35 rfl (fun c => ?_) (fun c => ?_)
      · replace h := h.1 c
        exact aw_mask [true, true, true, false] (tX12_layGroups_J102 hX2 (fun o' a1' a2' F' h' => ih o' a1' a2' F' h') h)
      · replace h := h.2 c
        refine aw_aload_n dX12_layGroups_38 rfl rfl (aw_pc (pc' := 39) rfl ?_)
        refine aw_iload_n dX12_layGroups_39 rfl rfl (aw_pc (pc' := 40) rfl ?_)
        have h0 := rcv_inv h
        clear h
        obtain ⟨o5, fs_o5, hr_o5, he_o5, h⟩ := h0
        obtain rfl : o = o5 := Option.some.inj hr_o5
        refine ar_VI (kc' := 0) (ks' := 0) (kc := 0) (ks := 0) (a := o) (ci := 12) (as := [vi a2]) (st := []) (tX12_sumOf h) mt_X12_sumOf rfl qM_RX12_462 qI_X12_sumOf qV_X12_sumOf he_o5 rfl (Nat.le_of_ble_eq_true rfl) dX12_layGroups_40 ?_
        clear h
        intro x4 F3 h
        refine aw_pc (pc' := 43) rfl ?_
        refine aw_if_ne dX12_layGroups_43 rfl (fun c => ?_) (fun c => ?_)
        · replace h := h.1 c
          refine aw_aload_n dX12_layGroups_46 rfl rfl (aw_pc (pc' := 47) rfl ?_)
          refine ar_gR fl_RX12_71 dX12_layGroups_47 h ?_
          clear h
          intro x6 h
          refine aw_pc (pc' := 50) rfl ?_
          refine aw_iload_n dX12_layGroups_50 rfl rfl (aw_pc (pc' := 51) rfl ?_)
          refine aw_iload_n dX12_layGroups_51 rfl rfl (aw_pc (pc' := 52) rfl ?_)
          refine aw_iconst dX12_layGroups_52 (aw_pc (pc' := 53) rfl ?_)
          refine aw_ixor dX12_layGroups_53 (aw_pc (pc' := 54) rfl ?_)
          refine aw_iand dX12_layGroups_54 (aw_pc (pc' := 55) rfl ?_)
          refine ar_aI dX12_layGroups_55 h ?_
          clear h
          intro x7 h
          refine aw_pc (pc' := 56) rfl ?_
          refine aw_iconst dX12_layGroups_56 (aw_pc (pc' := 57) rfl ?_)
          refine ac_ne rfl wl_m1 dX12_layGroups_57 rfl (fun c => ?_) (fun c => ?_)
          · replace h := h.1 c
            refine aw_goto (tgt := 102) dX12_layGroups_60 rfl ?_
            exact aw_mask [true, true, true, false] (tX12_layGroups_J102 hX2 (fun o' a1' a2' F' h' => ih o' a1' a2' F' h') h)
          · replace h := h.2 c
            refine aw_iconst dX12_layGroups_63 (aw_pc (pc' := 64) rfl ?_)
            refine aw_aload_n dX12_layGroups_64 rfl rfl (aw_pc (pc' := 65) rfl ?_)
            refine ar_gR fl_RX12_71 dX12_layGroups_65 h ?_
            clear h
            intro x8 h
            refine aw_pc (pc' := 68) rfl ?_
            refine aw_iload_n dX12_layGroups_68 rfl rfl (aw_pc (pc' := 69) rfl ?_)
            refine aw_iload_n dX12_layGroups_69 rfl rfl (aw_pc (pc' := 70) rfl ?_)
            refine aw_iconst dX12_layGroups_70 (aw_pc (pc' := 71) rfl ?_)
            refine aw_ixor dX12_layGroups_71 (aw_pc (pc' := 72) rfl ?_)
            refine aw_iand dX12_layGroups_72 (aw_pc (pc' := 73) rfl ?_)
            refine ar_aI dX12_layGroups_73 h ?_
            clear h
            intro x9 h
            refine aw_pc (pc' := 74) rfl ?_
            refine aw_iadd dX12_layGroups_74 (aw_pc (pc' := 75) rfl ?_)
            generalize hv_v10 : (1 + x9) = v10
            replace h := h v10 hv_v10.symm
            refine aw_istore_n dX12_layGroups_75 rfl (by decide) (aw_pc (pc' := 76) rfl ?_)
            refine aw_aload_n dX12_layGroups_76 rfl rfl (aw_pc (pc' := 77) rfl ?_)
            refine ar_gR fl_RX12_71 dX12_layGroups_77 h ?_
            clear h
            intro x11 h
            refine aw_pc (pc' := 80) rfl ?_
            refine aw_iload_n dX12_layGroups_80 rfl rfl (aw_pc (pc' := 81) rfl ?_)
            refine aw_iload_n dX12_layGroups_81 rfl rfl (aw_pc (pc' := 82) rfl ?_)
            refine aw_aload_n dX12_layGroups_82 rfl rfl (aw_pc (pc' := 83) rfl ?_)
            refine ar_gR fl_RX12_71 dX12_layGroups_83 h ?_
            clear h
            intro x12 h
            refine aw_pc (pc' := 86) rfl ?_
            refine aw_iload_n dX12_layGroups_86 rfl rfl (aw_pc (pc' := 87) rfl ?_)
            refine ar_aI dX12_layGroups_87 h ?_
            clear h
            intro x13 h
            refine aw_pc (pc' := 88) rfl ?_
            refine ac_le rfl rfl dX12_layGroups_88 rfl (fun c => ?_) (fun c => ?_)
            · replace h := h.1 c
              refine aw_iload_n dX12_layGroups_91 rfl rfl (aw_pc (pc' := 92) rfl ?_)
              refine aw_goto (tgt := 101) dX12_layGroups_92 rfl ?_
              exact aw_mask [true, true, true, false] (tX12_layGroups_J101 hX2 (fun o' a1' a2' F' h' => ih o' a1' a2' F' h') h)
            · replace h := h.2 c
              refine aw_aload_n dX12_layGroups_95 rfl rfl (aw_pc (pc' := 96) rfl ?_)
              refine ar_gR fl_RX12_71 dX12_layGroups_96 h ?_
              clear h
              intro x14 h
              refine aw_pc (pc' := 99) rfl ?_
              refine aw_iload_n dX12_layGroups_99 rfl rfl (aw_pc (pc' := 100) rfl ?_)
              refine ar_aI dX12_layGroups_100 h ?_
              clear h
              intro x15 h
              refine aw_pc (pc' := 101) rfl ?_
              exact aw_mask [true, true, true, false] (tX12_layGroups_J101 hX2 (fun o' a1' a2' F' h' => ih o' a1' a2' F' h') h)
        · replace h := h.2 c
          exact aw_mask [true, true, true, false] (tX12_layGroups_J102 hX2 (fun o' a1' a2' F' h' => ih o' a1' a2' F' h') h)
    · replace h := h.2 c
      refine aw_iinc dX12_layGroups_111 rfl (by decide) (aw_pc (pc' := 114) rfl ?_)
      refine aw_goto (tgt := 2) dX12_layGroups_114 rfl ?_
      exact aw_mask [true, true, false, false] (hX2 _ _ _ h)
def mX12_layGroups_J22 (X2 : Nat → Int → hp → Prop) (Q : hp → Prop) (o : Nat) (a1 : Int) (s0 : Option Nat) (s1 : Int) (s2 : Int) (F : hp) : Prop := sI F s0 0 s1 s2 (fun F1 => (∃ k2, mX12_layGroups_L25 X2 Q k2 o a1 a1 F1))
set_option maxHeartbeats 4000000 in
theorem tX12_layGroups_J22 {d : Nat} {X2 : Nat → Int → hp → Prop} {Q : hp → Prop} (hX2 : ∀ (o : Nat) (a1 : Int) (F : hp), X2 o a1 F → aw nX12_layGroups (d + 2) 0 0 2 [some (vr (some o)), some (vi a1), none, none] [] F (qV Q)) {o : Nat} {a1 : Int} {s0 : Option Nat} {s1 : Int} {s2 : Int} {F : hp} (h : mX12_layGroups_J22 X2 Q o a1 s0 s1 s2 F) : aw nX12_layGroups (d + 2) 0 0 22 [some (vr (some o)), some (vi a1), none, none] [vi s2, vi s1, vr s0] F (qV Q) := by
  unfold mX12_layGroups_J22 at h
  refine ar_sI dX12_layGroups_22 h ?_
  clear h
  intro F1 h
  refine aw_pc (pc' := 23) rfl ?_
  refine aw_iload_n dX12_layGroups_23 rfl rfl (aw_pc (pc' := 24) rfl ?_)
  refine aw_istore_n dX12_layGroups_24 rfl (by decide) (aw_pc (pc' := 25) rfl ?_)
  obtain ⟨k2, h⟩ := h
  exact aw_mask [true, true, true, false] (tX12_layGroups_L25 hX2 k2 _ _ _ _ h)
def mX12_layGroups_L2 (Q : hp → Prop) : Nat → Nat → Int → hp → Prop
  | 0, _, _, _ => False
  | k + 1, o, a1, F => (w32 a1 < 64 → gR F (some o) 12 34 (fun x1 => (w32 a1 = 0 → mX12_layGroups_J22 (fun o' a1' F' => mX12_layGroups_L2 Q k o' a1' F') Q o a1 x1 a1 0 F) ∧ (¬ w32 a1 = 0 → mX12_layGroups_J22 (fun o' a1' F' => mX12_layGroups_L2 Q k o' a1' F') Q o a1 x1 a1 (-1) F))) ∧ (¬ w32 a1 < 64 → Q F)
set_option maxHeartbeats 4000000 in
theorem tX12_layGroups_L2 {d : Nat} {Q : hp → Prop} : ∀ (k : Nat) (o : Nat) (a1 : Int) (F : hp), mX12_layGroups_L2 Q k o a1 F → aw nX12_layGroups (d + 2) 0 0 2 [some (vr (some o)), some (vi a1), none, none] [] F (qV Q) := by
  intro k
  induction k with
  | zero => intro o a1 F h; exact h.elim
  | succ k ih =>
    intro o a1 F h
    simp only [mX12_layGroups_L2] at h
    refine aw_iload_n dX12_layGroups_2 rfl rfl (aw_pc (pc' := 3) rfl ?_)
    refine aw_bipush dX12_layGroups_3 (by decide) (aw_pc (pc' := 5) rfl ?_)
    refine ac_ge rfl wl_64 dX12_layGroups_5 rfl (fun c => ?_) (fun c => ?_)
    · replace h := h.1 c
      refine aw_aload_n dX12_layGroups_8 rfl rfl (aw_pc (pc' := 9) rfl ?_)
      refine ar_gR fl_RX12_71 dX12_layGroups_9 h ?_
      clear h
      intro x1 h
      refine aw_pc (pc' := 12) rfl ?_
      refine aw_iload_n dX12_layGroups_12 rfl rfl (aw_pc (pc' := 13) rfl ?_)
      refine aw_iload_n dX12_layGroups_13 rfl rfl (aw_pc (pc' := 14) rfl ?_)
      refine aw_if_ne dX12_layGroups_14 rfl (fun c => ?_) (fun c => ?_)
      · replace h := h.1 c
        refine aw_iconst dX12_layGroups_17 (aw_pc (pc' := 18) rfl ?_)
        refine aw_goto (tgt := 22) dX12_layGroups_18 rfl ?_
        exact aw_mask [true, true, false, false] (tX12_layGroups_J22 (fun o' a1' F' h' => ih o' a1' F' h') h)
      · replace h := h.2 c
        refine aw_iconst dX12_layGroups_21 (aw_pc (pc' := 22) rfl ?_)
        exact aw_mask [true, true, false, false] (tX12_layGroups_J22 (fun o' a1' F' h' => ih o' a1' F' h') h)
    · replace h := h.2 c
      exact aw_vret rfl dX12_layGroups_117 ⟨rfl, h⟩
def mX12_layGroups (o : Nat) (F : hp) (Q : hp → Prop) : Prop := (∃ k1, mX12_layGroups_L2 Q k1 o 0 F)
set_option maxHeartbeats 4000000 in
theorem tX12_layGroups {d : Nat} {o : Nat} {F : hp} {Q : hp → Prop} (h : mX12_layGroups o F Q) : am nX12_layGroups (d + 2) 0 0 [vr (some o)] F (qV Q) := by
  refine am_of (by decide +kernel) (Nat.le_of_ble_eq_true rfl) ?_
  show aw nX12_layGroups (d + 2) 0 0 0 [some (vr (some o)), none, none, none] [] F (qV Q)
  unfold mX12_layGroups at h
  refine aw_iconst dX12_layGroups_0 (aw_pc (pc' := 1) rfl ?_)
  refine aw_istore_n dX12_layGroups_1 rfl (by decide) (aw_pc (pc' := 2) rfl ?_)
  obtain ⟨k1, h⟩ := h
  exact aw_mask [true, true, false, false] (tX12_layGroups_L2 k1 _ _ _ h)
def mX12_settled (o : Nat) (a1 : Int) (F : hp) (Q : Int → hp → Prop) : Prop := mX12_isIn a1 0 1 F (fun x2 F1 => (w32 x2 = 0 → Q (-1) F1) ∧ (¬ w32 x2 = 0 → rcv F1 (some o) 12 (fun o4 => mX12_layGroups o4 F1 (fun F3 => (w32 a1 = 1 → gR F3 (some o) 12 34 (fun x5 => aI F3 x5 0 63 (fun x6 => Q x6 F3))) ∧ (¬ w32 a1 = 1 → gR F3 (some o) 12 34 (fun x7 => aI F3 x7 0 63 (fun x8 => Q (6 - x8) F3)))))))
set_option maxHeartbeats 4000000 in
theorem tX12_settled {d : Nat} {o : Nat} {a1 : Int} {F : hp} {Q : Int → hp → Prop} (h : mX12_settled o a1 F Q) : am nX12_settled (d + 3) 0 0 [vr (some o), vi a1] F (qI Q) := by
  refine am_of (by decide +kernel) (Nat.le_of_ble_eq_true rfl) ?_
  show aw nX12_settled (d + 3) 0 0 0 [some (vr (some o)), some (vi a1)] [] F (qI Q)
  unfold mX12_settled at h
  refine aw_iload_n dX12_settled_0 rfl rfl (aw_pc (pc' := 1) rfl ?_)
  refine aw_iconst dX12_settled_1 (aw_pc (pc' := 2) rfl ?_)
  refine aw_iconst dX12_settled_2 (aw_pc (pc' := 3) rfl ?_)
  refine ar_SI (kc' := 0) (ks' := 0) (kc := 0) (ks := 0) (as := [vi a1, vi 0, vi 1]) (st := []) (tX12_isIn h) mt_X12_isIn qM_RX12_78 qS_X12_isIn rfl (Nat.le_of_ble_eq_true rfl) dX12_settled_3 ?_
  clear h
  intro x2 F1 h
  refine aw_pc (pc' := 6) rfl ?_
  refine aw_if_ne dX12_settled_6 rfl (fun c => ?_) (fun c => ?_)
  · replace h := h.1 c
    refine aw_iconst dX12_settled_9 (aw_pc (pc' := 10) rfl ?_)
    exact aw_iret rfl dX12_settled_10 ⟨_, rfl, h⟩
  · replace h := h.2 c
    refine aw_aload_n dX12_settled_11 rfl rfl (aw_pc (pc' := 12) rfl ?_)
    have h0 := rcv_inv h
    clear h
    obtain ⟨o4, fs_o4, hr_o4, he_o4, h⟩ := h0
    obtain rfl : o = o4 := Option.some.inj hr_o4
    refine ar_VV (kc' := 0) (ks' := 0) (kc := 0) (ks := 0) (a := o) (ci := 12) (as := []) (st := []) (tX12_layGroups h) mt_X12_layGroups rfl qM_RX12_465 qI_X12_layGroups qV_X12_layGroups he_o4 rfl (Nat.le_of_ble_eq_true rfl) dX12_settled_12 ?_
    clear h
    intro F3 h
    refine aw_pc (pc' := 15) rfl ?_
    refine aw_iload_n dX12_settled_15 rfl rfl (aw_pc (pc' := 16) rfl ?_)
    refine aw_iconst dX12_settled_16 (aw_pc (pc' := 17) rfl ?_)
    refine ac_ne rfl wl_1 dX12_settled_17 rfl (fun c => ?_) (fun c => ?_)
    · replace h := h.1 c
      refine aw_aload_n dX12_settled_20 rfl rfl (aw_pc (pc' := 21) rfl ?_)
      refine ar_gR fl_RX12_71 dX12_settled_21 h ?_
      clear h
      intro x5 h
      refine aw_pc (pc' := 24) rfl ?_
      refine aw_bipush dX12_settled_24 (by decide) (aw_pc (pc' := 26) rfl ?_)
      refine ar_aI dX12_settled_26 h ?_
      clear h
      intro x6 h
      refine aw_pc (pc' := 27) rfl ?_
      refine aw_goto (tgt := 40) dX12_settled_27 rfl ?_
      exact aw_iret rfl dX12_settled_40 ⟨_, rfl, h⟩
    · replace h := h.2 c
      refine aw_bipush dX12_settled_30 (by decide) (aw_pc (pc' := 32) rfl ?_)
      refine aw_aload_n dX12_settled_32 rfl rfl (aw_pc (pc' := 33) rfl ?_)
      refine ar_gR fl_RX12_71 dX12_settled_33 h ?_
      clear h
      intro x7 h
      refine aw_pc (pc' := 36) rfl ?_
      refine aw_bipush dX12_settled_36 (by decide) (aw_pc (pc' := 38) rfl ?_)
      refine ar_aI dX12_settled_38 h ?_
      clear h
      intro x8 h
      refine aw_pc (pc' := 39) rfl ?_
      refine aw_isub dX12_settled_39 (aw_pc (pc' := 40) rfl ?_)
      exact aw_iret rfl dX12_settled_40 ⟨_, rfl, h⟩
def mX12_lowestGroup_J55 (X2 : Nat → Int → Int → hp → Prop) (Q : Int → hp → Prop) (o : Nat) (a1 : Int) (a2 : Int) (F : hp) : Prop := X2 o a1 (a2 + 1) F
set_option maxHeartbeats 4000000 in
theorem tX12_lowestGroup_J55 {d : Nat} {X2 : Nat → Int → Int → hp → Prop} {Q : Int → hp → Prop} (hX2 : ∀ (o : Nat) (a1 : Int) (a2 : Int) (F : hp), X2 o a1 a2 F → aw nX12_lowestGroup (d + 2) 0 0 2 [some (vr (some o)), some (vi a1), some (vi a2)] [] F (qI Q)) {o : Nat} {a1 : Int} {a2 : Int} {F : hp} (h : mX12_lowestGroup_J55 X2 Q o a1 a2 F) : aw nX12_lowestGroup (d + 2) 0 0 55 [some (vr (some o)), some (vi a1), some (vi a2)] [] F (qI Q) := by
  unfold mX12_lowestGroup_J55 at h
  refine aw_iinc dX12_lowestGroup_55 rfl (by decide) (aw_pc (pc' := 58) rfl ?_)
  refine aw_goto (tgt := 2) dX12_lowestGroup_58 rfl ?_
  exact aw_mask [true, true, true] (hX2 _ _ _ _ h)
def mX12_lowestGroup_L2 (Q : Int → hp → Prop) : Nat → Nat → Int → Int → hp → Prop
  | 0, _, _, _, _ => False
  | k + 1, o, a1, a2, F => (w32 a2 < w32 a1 → (w32 (iAnd a2 (iXor a1 (-1))) = 0 → mX12_lowBit a1 F (fun x2 F1 => (w32 (iAnd a2 x2) = 0 → mX12_lowestGroup_J55 (fun o' a1' a2' F' => mX12_lowestGroup_L2 Q k o' a1' a2' F') Q o a1 a2 F1) ∧ (¬ w32 (iAnd a2 x2) = 0 → rcv F1 (some o) 12 (fun o5 => mX12_sumOf o5 a2 F1 (fun x4 F3 => (w32 x4 = 0 → gR F3 (some o) 12 34 (fun x6 => aI F3 x6 0 (iAnd a1 (iXor a2 (-1))) (fun x7 => gR F3 (some o) 12 34 (fun x8 => aI F3 x8 0 a1 (fun x9 => (w32 x7 = w32 (x9 - 1) → Q a2 F3) ∧ (¬ w32 x7 = w32 (x9 - 1) → mX12_lowestGroup_J55 (fun o' a1' a2' F' => mX12_lowestGroup_L2 Q k o' a1' a2' F') Q o a1 a2 F3)))))) ∧ (¬ w32 x4 = 0 → mX12_lowestGroup_J55 (fun o' a1' a2' F' => mX12_lowestGroup_L2 Q k o' a1' a2' F') Q o a1 a2 F3)))))) ∧ (¬ w32 (iAnd a2 (iXor a1 (-1))) = 0 → mX12_lowestGroup_J55 (fun o' a1' a2' F' => mX12_lowestGroup_L2 Q k o' a1' a2' F') Q o a1 a2 F)) ∧ (¬ w32 a2 < w32 a1 → Q a1 F)
set_option maxHeartbeats 4000000 in
theorem tX12_lowestGroup_L2 {d : Nat} {Q : Int → hp → Prop} : ∀ (k : Nat) (o : Nat) (a1 : Int) (a2 : Int) (F : hp), mX12_lowestGroup_L2 Q k o a1 a2 F → aw nX12_lowestGroup (d + 2) 0 0 2 [some (vr (some o)), some (vi a1), some (vi a2)] [] F (qI Q) := by
  intro k
  induction k with
  | zero => intro o a1 a2 F h; exact h.elim
  | succ k ih =>
    intro o a1 a2 F h
    simp only [mX12_lowestGroup_L2] at h
    refine aw_iload_n dX12_lowestGroup_2 rfl rfl (aw_pc (pc' := 3) rfl ?_)
    refine aw_iload_n dX12_lowestGroup_3 rfl rfl (aw_pc (pc' := 4) rfl ?_)
    refine ac_ge rfl rfl dX12_lowestGroup_4 rfl (fun c => ?_) (fun c => ?_)
    · replace h := h.1 c
      refine aw_iload_n dX12_lowestGroup_7 rfl rfl (aw_pc (pc' := 8) rfl ?_)
      refine aw_iload_n dX12_lowestGroup_8 rfl rfl (aw_pc (pc' := 9) rfl ?_)
      refine aw_iconst dX12_lowestGroup_9 (aw_pc (pc' := 10) rfl ?_)
      refine aw_ixor dX12_lowestGroup_10 (aw_pc (pc' := 11) rfl ?_)
      refine aw_iand dX12_lowestGroup_11 (aw_pc (pc' := 12) rfl ?_)
      refine aw_if_ne dX12_lowestGroup_12 rfl (fun c => ?_) (fun c => ?_)
      · replace h := h.1 c
        refine aw_iload_n dX12_lowestGroup_15 rfl rfl (aw_pc (pc' := 16) rfl ?_)
        refine aw_iload_n dX12_lowestGroup_16 rfl rfl (aw_pc (pc' := 17) rfl ?_)
        refine ar_SI (kc' := 0) (ks' := 0) (kc := 0) (ks := 0) (as := [vi a1]) (st := [vi a2]) (tX12_lowBit h) mt_X12_lowBit qM_RX12_459 qS_X12_lowBit rfl (Nat.le_of_ble_eq_true rfl) dX12_lowestGroup_17 ?_
        clear h
        intro x2 F1 h
        refine aw_pc (pc' := 20) rfl ?_
        refine aw_iand dX12_lowestGroup_20 (aw_pc (pc' := 21) rfl ?_)
        refine aw_if_eq dX12_lowestGroup_21 rfl (fun c => ?_) (fun c => ?_)
        · replace h := h.1 c
          exact aw_mask [true, true, true] (tX12_lowestGroup_J55 (fun o' a1' a2' F' h' => ih o' a1' a2' F' h') h)
        · replace h := h.2 c
          refine aw_aload_n dX12_lowestGroup_24 rfl rfl (aw_pc (pc' := 25) rfl ?_)
          refine aw_iload_n dX12_lowestGroup_25 rfl rfl (aw_pc (pc' := 26) rfl ?_)
          have h0 := rcv_inv h
          clear h
          obtain ⟨o5, fs_o5, hr_o5, he_o5, h⟩ := h0
          obtain rfl : o = o5 := Option.some.inj hr_o5
          refine ar_VI (kc' := 0) (ks' := 0) (kc := 0) (ks := 0) (a := o) (ci := 12) (as := [vi a2]) (st := []) (tX12_sumOf h) mt_X12_sumOf rfl qM_RX12_462 qI_X12_sumOf qV_X12_sumOf he_o5 rfl (Nat.le_of_ble_eq_true rfl) dX12_lowestGroup_26 ?_
          clear h
          intro x4 F3 h
          refine aw_pc (pc' := 29) rfl ?_
          refine aw_if_ne dX12_lowestGroup_29 rfl (fun c => ?_) (fun c => ?_)
          · replace h := h.1 c
            refine aw_aload_n dX12_lowestGroup_32 rfl rfl (aw_pc (pc' := 33) rfl ?_)
            refine ar_gR fl_RX12_71 dX12_lowestGroup_33 h ?_
            clear h
            intro x6 h
            refine aw_pc (pc' := 36) rfl ?_
            refine aw_iload_n dX12_lowestGroup_36 rfl rfl (aw_pc (pc' := 37) rfl ?_)
            refine aw_iload_n dX12_lowestGroup_37 rfl rfl (aw_pc (pc' := 38) rfl ?_)
            refine aw_iconst dX12_lowestGroup_38 (aw_pc (pc' := 39) rfl ?_)
            refine aw_ixor dX12_lowestGroup_39 (aw_pc (pc' := 40) rfl ?_)
            refine aw_iand dX12_lowestGroup_40 (aw_pc (pc' := 41) rfl ?_)
            refine ar_aI dX12_lowestGroup_41 h ?_
            clear h
            intro x7 h
            refine aw_pc (pc' := 42) rfl ?_
            refine aw_aload_n dX12_lowestGroup_42 rfl rfl (aw_pc (pc' := 43) rfl ?_)
            refine ar_gR fl_RX12_71 dX12_lowestGroup_43 h ?_
            clear h
            intro x8 h
            refine aw_pc (pc' := 46) rfl ?_
            refine aw_iload_n dX12_lowestGroup_46 rfl rfl (aw_pc (pc' := 47) rfl ?_)
            refine ar_aI dX12_lowestGroup_47 h ?_
            clear h
            intro x9 h
            refine aw_pc (pc' := 48) rfl ?_
            refine aw_iconst dX12_lowestGroup_48 (aw_pc (pc' := 49) rfl ?_)
            refine aw_isub dX12_lowestGroup_49 (aw_pc (pc' := 50) rfl ?_)
            refine ac_ne rfl rfl dX12_lowestGroup_50 rfl (fun c => ?_) (fun c => ?_)
            · replace h := h.1 c
              refine aw_iload_n dX12_lowestGroup_53 rfl rfl (aw_pc (pc' := 54) rfl ?_)
              exact aw_iret rfl dX12_lowestGroup_54 ⟨_, rfl, h⟩
            · replace h := h.2 c
              exact aw_mask [true, true, true] (tX12_lowestGroup_J55 (fun o' a1' a2' F' h' => ih o' a1' a2' F' h') h)
          · replace h := h.2 c
            exact aw_mask [true, true, true] (tX12_lowestGroup_J55 (fun o' a1' a2' F' h' => ih o' a1' a2' F' h') h)
      · replace h := h.2 c
        exact aw_mask [true, true, true] (tX12_lowestGroup_J55 (fun o' a1' a2' F' h' => ih o' a1' a2' F' h') h)
    · replace h := h.2 c
      refine aw_iload_n dX12_lowestGroup_61 rfl rfl (aw_pc (pc' := 62) rfl ?_)
      exact aw_iret rfl dX12_lowestGroup_62 ⟨_, rfl, h⟩
def mX12_lowestGroup (o : Nat) (a1 : Int) (F : hp) (Q : Int → hp → Prop) : Prop := (∃ k1, mX12_lowestGroup_L2 Q k1 o a1 1 F)
set_option maxHeartbeats 4000000 in
theorem tX12_lowestGroup {d : Nat} {o : Nat} {a1 : Int} {F : hp} {Q : Int → hp → Prop} (h : mX12_lowestGroup o a1 F Q) : am nX12_lowestGroup (d + 2) 0 0 [vr (some o), vi a1] F (qI Q) := by
  refine am_of (by decide +kernel) (Nat.le_of_ble_eq_true rfl) ?_
  show aw nX12_lowestGroup (d + 2) 0 0 0 [some (vr (some o)), some (vi a1), none] [] F (qI Q)
  unfold mX12_lowestGroup at h
  refine aw_iconst dX12_lowestGroup_0 (aw_pc (pc' := 1) rfl ?_)
  refine aw_istore_n dX12_lowestGroup_1 rfl (by decide) (aw_pc (pc' := 2) rfl ?_)
  obtain ⟨k1, h⟩ := h
  exact aw_mask [true, true, true] (tX12_lowestGroup_L2 k1 _ _ _ _ h)
def mX12_group_L22 (Q : Int → hp → Prop) : Nat → Nat → Int → Int → Int → hp → Prop
  | 0, _, _, _, _, _ => False
  | k + 1, o, a1, a2, a3, F => mX12_has a3 a1 F (fun x2 F1 => (w32 x2 = 0 → ∀ v3 : Int, v3 = (iAnd a2 (iXor a3 (-1))) → rcv F1 (some o) 12 (fun o6 => mX12_lowestGroup o6 v3 F1 (fun x5 F4 => mX12_group_L22 Q k o a1 v3 x5 F4))) ∧ (¬ w32 x2 = 0 → Q a3 F1))
set_option maxHeartbeats 4000000 in
theorem tX12_group_L22 {d : Nat} {Q : Int → hp → Prop} : ∀ (k : Nat) (o : Nat) (a1 : Int) (a2 : Int) (a3 : Int) (F : hp), mX12_group_L22 Q k o a1 a2 a3 F → aw nX12_group (d + 3) 0 0 22 [some (vr (some o)), some (vi a1), some (vi a2), some (vi a3)] [] F (qI Q) := by
  intro k
  induction k with
  | zero => intro o a1 a2 a3 F h; exact h.elim
  | succ k ih =>
    intro o a1 a2 a3 F h
    simp only [mX12_group_L22] at h
    refine aw_iload_n dX12_group_22 rfl rfl (aw_pc (pc' := 23) rfl ?_)
    refine aw_iload_n dX12_group_23 rfl rfl (aw_pc (pc' := 24) rfl ?_)
    refine ar_SI (kc' := 0) (ks' := 0) (kc := 0) (ks := 0) (as := [vi a3, vi a1]) (st := []) (tX12_has h) mt_X12_has qM_RX12_90 qS_X12_has rfl (Nat.le_of_ble_eq_true rfl) dX12_group_24 ?_
    clear h
    intro x2 F1 h
    refine aw_pc (pc' := 27) rfl ?_
    refine aw_if_ne dX12_group_27 rfl (fun c => ?_) (fun c => ?_)
    · replace h := h.1 c
      refine aw_iload_n dX12_group_30 rfl rfl (aw_pc (pc' := 31) rfl ?_)
      refine aw_iload_n dX12_group_31 rfl rfl (aw_pc (pc' := 32) rfl ?_)
      refine aw_iconst dX12_group_32 (aw_pc (pc' := 33) rfl ?_)
      refine aw_ixor dX12_group_33 (aw_pc (pc' := 34) rfl ?_)
      refine aw_iand dX12_group_34 (aw_pc (pc' := 35) rfl ?_)
      generalize hv_v3 : (iAnd a2 (iXor a3 (-1))) = v3
      replace h := h v3 hv_v3.symm
      refine aw_istore_n dX12_group_35 rfl (by decide) (aw_pc (pc' := 36) rfl ?_)
      refine aw_aload_n dX12_group_36 rfl rfl (aw_pc (pc' := 37) rfl ?_)
      refine aw_iload_n dX12_group_37 rfl rfl (aw_pc (pc' := 38) rfl ?_)
      have h0 := rcv_inv h
      clear h
      obtain ⟨o6, fs_o6, hr_o6, he_o6, h⟩ := h0
      obtain rfl : o = o6 := Option.some.inj hr_o6
      refine ar_VI (kc' := 0) (ks' := 0) (kc := 0) (ks := 0) (a := o) (ci := 12) (as := [vi v3]) (st := []) (tX12_lowestGroup h) mt_X12_lowestGroup rfl qM_RX12_468 qI_X12_lowestGroup qV_X12_lowestGroup he_o6 rfl (Nat.le_of_ble_eq_true rfl) dX12_group_38 ?_
      clear h
      intro x5 F4 h
      refine aw_pc (pc' := 41) rfl ?_
      refine aw_istore_n dX12_group_41 rfl (by decide) (aw_pc (pc' := 42) rfl ?_)
      refine aw_goto (tgt := 22) dX12_group_42 rfl ?_
      exact aw_mask [true, true, true, true] (ih _ _ _ _ _ h)
    · replace h := h.2 c
      refine aw_iload_n dX12_group_45 rfl rfl (aw_pc (pc' := 46) rfl ?_)
      exact aw_iret rfl dX12_group_46 ⟨_, rfl, h⟩
def mX12_group (o : Nat) (a1 : Int) (F : hp) (Q : Int → hp → Prop) : Prop := mX12_isRailway a1 F (fun x2 F1 => (w32 x2 = 0 → Q (-1) F1) ∧ (¬ w32 x2 = 0 → rcv F1 (some o) 12 (fun o4 => mX12_layGroups o4 F1 (fun F3 => rcv F3 (some o) 12 (fun o7 => mX12_lowestGroup o7 63 F3 (fun x6 F5 => (∃ k8, mX12_group_L22 Q k8 o a1 63 x6 F5)))))))
set_option maxHeartbeats 4000000 in
theorem tX12_group {d : Nat} {o : Nat} {a1 : Int} {F : hp} {Q : Int → hp → Prop} (h : mX12_group o a1 F Q) : am nX12_group (d + 3) 0 0 [vr (some o), vi a1] F (qI Q) := by
  refine am_of (by decide +kernel) (Nat.le_of_ble_eq_true rfl) ?_
  show aw nX12_group (d + 3) 0 0 0 [some (vr (some o)), some (vi a1), none, none] [] F (qI Q)
  unfold mX12_group at h
  refine aw_iload_n dX12_group_0 rfl rfl (aw_pc (pc' := 1) rfl ?_)
  refine ar_SI (kc' := 0) (ks' := 0) (kc := 0) (ks := 0) (as := [vi a1]) (st := []) (tX12_isRailway h) mt_X12_isRailway qM_RX12_455 qS_X12_isRailway rfl (Nat.le_of_ble_eq_true rfl) dX12_group_1 ?_
  clear h
  intro x2 F1 h
  refine aw_pc (pc' := 4) rfl ?_
  refine aw_if_ne dX12_group_4 rfl (fun c => ?_) (fun c => ?_)
  · replace h := h.1 c
    refine aw_iconst dX12_group_7 (aw_pc (pc' := 8) rfl ?_)
    exact aw_iret rfl dX12_group_8 ⟨_, rfl, h⟩
  · replace h := h.2 c
    refine aw_aload_n dX12_group_9 rfl rfl (aw_pc (pc' := 10) rfl ?_)
    have h0 := rcv_inv h
    clear h
    obtain ⟨o4, fs_o4, hr_o4, he_o4, h⟩ := h0
    obtain rfl : o = o4 := Option.some.inj hr_o4
    refine ar_VV (kc' := 0) (ks' := 0) (kc := 0) (ks := 0) (a := o) (ci := 12) (as := []) (st := []) (tX12_layGroups h) mt_X12_layGroups rfl qM_RX12_465 qI_X12_layGroups qV_X12_layGroups he_o4 rfl (Nat.le_of_ble_eq_true rfl) dX12_group_10 ?_
    clear h
    intro F3 h
    refine aw_pc (pc' := 13) rfl ?_
    refine aw_bipush dX12_group_13 (by decide) (aw_pc (pc' := 15) rfl ?_)
    refine aw_istore_n dX12_group_15 rfl (by decide) (aw_pc (pc' := 16) rfl ?_)
    refine aw_aload_n dX12_group_16 rfl rfl (aw_pc (pc' := 17) rfl ?_)
    refine aw_iload_n dX12_group_17 rfl rfl (aw_pc (pc' := 18) rfl ?_)
    have h0 := rcv_inv h
    clear h
    obtain ⟨o7, fs_o7, hr_o7, he_o7, h⟩ := h0
    obtain rfl : o = o7 := Option.some.inj hr_o7
    refine ar_VI (kc' := 0) (ks' := 0) (kc := 0) (ks := 0) (a := o) (ci := 12) (as := [vi 63]) (st := []) (tX12_lowestGroup h) mt_X12_lowestGroup rfl qM_RX12_468 qI_X12_lowestGroup qV_X12_lowestGroup he_o7 rfl (Nat.le_of_ble_eq_true rfl) dX12_group_18 ?_
    clear h
    intro x6 F5 h
    refine aw_pc (pc' := 21) rfl ?_
    refine aw_istore_n dX12_group_21 rfl (by decide) (aw_pc (pc' := 22) rfl ?_)
    obtain ⟨k8, h⟩ := h
    exact aw_mask [true, true, true, true] (tX12_group_L22 k8 _ _ _ _ _ h)
def mX12_trip (o : Nat) (a1 : Int) (a2 : Int) (a3 : Int) (F : hp) (Q : Int → hp → Prop) : Prop := (w32 a1 = (-1) → gR F (some o) 12 0 (fun x1 => sI F x1 0 4 0 (fun F2 => Q 0 F2))) ∧ (¬ w32 a1 = (-1) → mX12_isIn a1 0 30 F (fun x4 F3 => (w32 x4 = 0 → Q (-2) F3) ∧ (¬ w32 x4 = 0 → mX12_isIn a2 a1 30 F3 (fun x6 F5 => (w32 x6 = 0 → Q (-2) F5) ∧ (¬ w32 x6 = 0 → mX12_isIn a3 1 9 F5 (fun x8 F7 => (w32 x8 = 0 → Q (-2) F7) ∧ (¬ w32 x8 = 0 → gR F7 (some o) 12 0 (fun x9 => aI F7 x9 0 4 (fun x10 => (w32 x10 = 8 → Q (-2) F7) ∧ (¬ w32 x10 = 8 → gR F7 (some o) 12 0 (fun x11 => aI F7 x11 0 4 (fun x12 => ∀ v13 : Int, v13 = (67 + (3 * x12)) → gR F7 (some o) 12 0 (fun x14 => sI F7 x14 0 v13 a1 (fun F15 => gR F15 (some o) 12 0 (fun x16 => sI F15 x16 0 (v13 + 1) a2 (fun F17 => gR F17 (some o) 12 0 (fun x18 => sI F17 x18 0 (v13 + 2) a3 (fun F19 => gR F19 (some o) 12 0 (fun x20 => aI F19 x20 0 4 (fun x21 => sI F19 x20 0 4 (x21 + 1) (fun F22 => gR F22 (some o) 12 0 (fun x23 => aI F22 x23 0 4 (fun x24 => Q x24 F22)))))))))))))))))))))))
set_option maxHeartbeats 4000000 in
theorem tX12_trip {d : Nat} {o : Nat} {a1 : Int} {a2 : Int} {a3 : Int} {F : hp} {Q : Int → hp → Prop} (h : mX12_trip o a1 a2 a3 F Q) : am nX12_trip (d + 1) 0 0 [vr (some o), vi a1, vi a2, vi a3] F (qI Q) := by
  refine am_of (by decide +kernel) (Nat.le_of_ble_eq_true rfl) ?_
  show aw nX12_trip (d + 1) 0 0 0 [some (vr (some o)), some (vi a1), some (vi a2), some (vi a3), none] [] F (qI Q)
  unfold mX12_trip at h
  refine aw_iload_n dX12_trip_0 rfl rfl (aw_pc (pc' := 1) rfl ?_)
  refine aw_iconst dX12_trip_1 (aw_pc (pc' := 2) rfl ?_)
  refine ac_ne rfl wl_m1 dX12_trip_2 rfl (fun c => ?_) (fun c => ?_)
  · replace h := h.1 c
    refine aw_aload_n dX12_trip_5 rfl rfl (aw_pc (pc' := 6) rfl ?_)
    refine ar_gR fl_RX12_7 dX12_trip_6 h ?_
    clear h
    intro x1 h
    refine aw_pc (pc' := 9) rfl ?_
    refine aw_iconst dX12_trip_9 (aw_pc (pc' := 10) rfl ?_)
    refine aw_iconst dX12_trip_10 (aw_pc (pc' := 11) rfl ?_)
    refine ar_sI dX12_trip_11 h ?_
    clear h
    intro F2 h
    refine aw_pc (pc' := 12) rfl ?_
    refine aw_iconst dX12_trip_12 (aw_pc (pc' := 13) rfl ?_)
    exact aw_iret rfl dX12_trip_13 ⟨_, rfl, h⟩
  · replace h := h.2 c
    refine aw_iload_n dX12_trip_14 rfl rfl (aw_pc (pc' := 15) rfl ?_)
    refine aw_iconst dX12_trip_15 (aw_pc (pc' := 16) rfl ?_)
    refine aw_bipush dX12_trip_16 (by decide) (aw_pc (pc' := 18) rfl ?_)
    refine ar_SI (kc' := 0) (ks' := 0) (kc := 0) (ks := 0) (as := [vi a1, vi 0, vi 30]) (st := []) (tX12_isIn h) mt_X12_isIn qM_RX12_78 qS_X12_isIn rfl (Nat.le_of_ble_eq_true rfl) dX12_trip_18 ?_
    clear h
    intro x4 F3 h
    refine aw_pc (pc' := 21) rfl ?_
    refine aw_if_eq dX12_trip_21 rfl (fun c => ?_) (fun c => ?_)
    · replace h := h.1 c
      refine aw_bipush dX12_trip_55 (by decide) (aw_pc (pc' := 57) rfl ?_)
      exact aw_iret rfl dX12_trip_57 ⟨_, rfl, h⟩
    · replace h := h.2 c
      refine aw_iload_n dX12_trip_24 rfl rfl (aw_pc (pc' := 25) rfl ?_)
      refine aw_iload_n dX12_trip_25 rfl rfl (aw_pc (pc' := 26) rfl ?_)
      refine aw_bipush dX12_trip_26 (by decide) (aw_pc (pc' := 28) rfl ?_)
      refine ar_SI (kc' := 0) (ks' := 0) (kc := 0) (ks := 0) (as := [vi a2, vi a1, vi 30]) (st := []) (tX12_isIn h) mt_X12_isIn qM_RX12_78 qS_X12_isIn rfl (Nat.le_of_ble_eq_true rfl) dX12_trip_28 ?_
      clear h
      intro x6 F5 h
      refine aw_pc (pc' := 31) rfl ?_
      refine aw_if_eq dX12_trip_31 rfl (fun c => ?_) (fun c => ?_)
      · replace h := h.1 c
        refine aw_bipush dX12_trip_55 (by decide) (aw_pc (pc' := 57) rfl ?_)
        exact aw_iret rfl dX12_trip_57 ⟨_, rfl, h⟩
      · replace h := h.2 c
        refine aw_iload_n dX12_trip_34 rfl rfl (aw_pc (pc' := 35) rfl ?_)
        refine aw_iconst dX12_trip_35 (aw_pc (pc' := 36) rfl ?_)
        refine aw_bipush dX12_trip_36 (by decide) (aw_pc (pc' := 38) rfl ?_)
        refine ar_SI (kc' := 0) (ks' := 0) (kc := 0) (ks := 0) (as := [vi a3, vi 1, vi 9]) (st := []) (tX12_isIn h) mt_X12_isIn qM_RX12_78 qS_X12_isIn rfl (Nat.le_of_ble_eq_true rfl) dX12_trip_38 ?_
        clear h
        intro x8 F7 h
        refine aw_pc (pc' := 41) rfl ?_
        refine aw_if_eq dX12_trip_41 rfl (fun c => ?_) (fun c => ?_)
        · replace h := h.1 c
          refine aw_bipush dX12_trip_55 (by decide) (aw_pc (pc' := 57) rfl ?_)
          exact aw_iret rfl dX12_trip_57 ⟨_, rfl, h⟩
        · replace h := h.2 c
          refine aw_aload_n dX12_trip_44 rfl rfl (aw_pc (pc' := 45) rfl ?_)
          refine ar_gR fl_RX12_7 dX12_trip_45 h ?_
          clear h
          intro x9 h
          refine aw_pc (pc' := 48) rfl ?_
          refine aw_iconst dX12_trip_48 (aw_pc (pc' := 49) rfl ?_)
          refine ar_aI dX12_trip_49 h ?_
          clear h
          intro x10 h
          refine aw_pc (pc' := 50) rfl ?_
          refine aw_bipush dX12_trip_50 (by decide) (aw_pc (pc' := 52) rfl ?_)
          refine ac_ne rfl wl_8 dX12_trip_52 rfl (fun c => ?_) (fun c => ?_)
          · replace h := h.1 c
            refine aw_bipush dX12_trip_55 (by decide) (aw_pc (pc' := 57) rfl ?_)
            exact aw_iret rfl dX12_trip_57 ⟨_, rfl, h⟩
          · replace h := h.2 c
            refine aw_bipush dX12_trip_58 (by decide) (aw_pc (pc' := 60) rfl ?_)
            refine aw_iconst dX12_trip_60 (aw_pc (pc' := 61) rfl ?_)
            refine aw_aload_n dX12_trip_61 rfl rfl (aw_pc (pc' := 62) rfl ?_)
            refine ar_gR fl_RX12_7 dX12_trip_62 h ?_
            clear h
            intro x11 h
            refine aw_pc (pc' := 65) rfl ?_
            refine aw_iconst dX12_trip_65 (aw_pc (pc' := 66) rfl ?_)
            refine ar_aI dX12_trip_66 h ?_
            clear h
            intro x12 h
            refine aw_pc (pc' := 67) rfl ?_
            refine aw_imul dX12_trip_67 (aw_pc (pc' := 68) rfl ?_)
            refine aw_iadd dX12_trip_68 (aw_pc (pc' := 69) rfl ?_)
            generalize hv_v13 : (67 + (3 * x12)) = v13
            replace h := h v13 hv_v13.symm
            refine aw_istore dX12_trip_69 (by decide) (aw_pc (pc' := 71) rfl ?_)
            refine aw_aload_n dX12_trip_71 rfl rfl (aw_pc (pc' := 72) rfl ?_)
            refine ar_gR fl_RX12_7 dX12_trip_72 h ?_
            clear h
            intro x14 h
            refine aw_pc (pc' := 75) rfl ?_
            refine aw_iload dX12_trip_75 rfl (aw_pc (pc' := 77) rfl ?_)
            refine aw_iload_n dX12_trip_77 rfl rfl (aw_pc (pc' := 78) rfl ?_)
            refine ar_sI dX12_trip_78 h ?_
            clear h
            intro F15 h
            refine aw_pc (pc' := 79) rfl ?_
            refine aw_aload_n dX12_trip_79 rfl rfl (aw_pc (pc' := 80) rfl ?_)
            refine ar_gR fl_RX12_7 dX12_trip_80 h ?_
            clear h
            intro x16 h
            refine aw_pc (pc' := 83) rfl ?_
            refine aw_iload dX12_trip_83 rfl (aw_pc (pc' := 85) rfl ?_)
            refine aw_iconst dX12_trip_85 (aw_pc (pc' := 86) rfl ?_)
            refine aw_iadd dX12_trip_86 (aw_pc (pc' := 87) rfl ?_)
            refine aw_iload_n dX12_trip_87 rfl rfl (aw_pc (pc' := 88) rfl ?_)
            refine ar_sI dX12_trip_88 h ?_
            clear h
            intro F17 h
            refine aw_pc (pc' := 89) rfl ?_
            refine aw_aload_n dX12_trip_89 rfl rfl (aw_pc (pc' := 90) rfl ?_)
            refine ar_gR fl_RX12_7 dX12_trip_90 h ?_
            clear h
            intro x18 h
            refine aw_pc (pc' := 93) rfl ?_
            refine aw_iload dX12_trip_93 rfl (aw_pc (pc' := 95) rfl ?_)
            refine aw_iconst dX12_trip_95 (aw_pc (pc' := 96) rfl ?_)
            refine aw_iadd dX12_trip_96 (aw_pc (pc' := 97) rfl ?_)
            refine aw_iload_n dX12_trip_97 rfl rfl (aw_pc (pc' := 98) rfl ?_)
            refine ar_sI dX12_trip_98 h ?_
            clear h
            intro F19 h
            refine aw_pc (pc' := 99) rfl ?_
            refine aw_aload_n dX12_trip_99 rfl rfl (aw_pc (pc' := 100) rfl ?_)
            refine ar_gR fl_RX12_7 dX12_trip_100 h ?_
            clear h
            intro x20 h
            refine aw_pc (pc' := 103) rfl ?_
            refine aw_iconst dX12_trip_103 (aw_pc (pc' := 104) rfl ?_)
            refine aw_dup2 dX12_trip_104 trivial trivial (aw_pc (pc' := 105) rfl ?_)
            refine ar_aI dX12_trip_105 h ?_
            clear h
            intro x21 h
            refine aw_pc (pc' := 106) rfl ?_
            refine aw_iconst dX12_trip_106 (aw_pc (pc' := 107) rfl ?_)
            refine aw_iadd dX12_trip_107 (aw_pc (pc' := 108) rfl ?_)
            refine ar_sI dX12_trip_108 h ?_
            clear h
            intro F22 h
            refine aw_pc (pc' := 109) rfl ?_
            refine aw_aload_n dX12_trip_109 rfl rfl (aw_pc (pc' := 110) rfl ?_)
            refine ar_gR fl_RX12_7 dX12_trip_110 h ?_
            clear h
            intro x23 h
            refine aw_pc (pc' := 113) rfl ?_
            refine aw_iconst dX12_trip_113 (aw_pc (pc' := 114) rfl ?_)
            refine ar_aI dX12_trip_114 h ?_
            clear h
            intro x24 h
            refine aw_pc (pc' := 115) rfl ?_
            exact aw_iret rfl dX12_trip_115 ⟨_, rfl, h⟩
def mX12_outOn_J54 (X5 : Nat → Int → Int → Int → hp → Prop) (Q : Int → hp → Prop) (o : Nat) (a1 : Int) (a3 : Int) (s0 : Int) (s1 : Int) (F : hp) : Prop := ∀ v1 : Int, v1 = (s0 + s1) → X5 o a1 v1 (a3 + 3) F
set_option maxHeartbeats 4000000 in
theorem tX12_outOn_J54 {d : Nat} {X5 : Nat → Int → Int → Int → hp → Prop} {Q : Int → hp → Prop} (hX5 : ∀ (o : Nat) (a1 : Int) (a2 : Int) (a3 : Int) (F : hp), X5 o a1 a2 a3 F → aw nX12_outOn (d + 1) 0 0 5 [some (vr (some o)), some (vi a1), some (vi a2), some (vi a3)] [] F (qI Q)) {o : Nat} {a1 : Int} {a3 : Int} {s0 : Int} {s1 : Int} {F : hp} (h : mX12_outOn_J54 X5 Q o a1 a3 s0 s1 F) : aw nX12_outOn (d + 1) 0 0 54 [some (vr (some o)), some (vi a1), none, some (vi a3)] [vi s1, vi s0] F (qI Q) := by
  unfold mX12_outOn_J54 at h
  refine aw_iadd dX12_outOn_54 (aw_pc (pc' := 55) rfl ?_)
  generalize hv_v1 : (s0 + s1) = v1
  replace h := h v1 hv_v1.symm
  refine aw_istore_n dX12_outOn_55 rfl (by decide) (aw_pc (pc' := 56) rfl ?_)
  refine aw_iinc dX12_outOn_56 rfl (by decide) (aw_pc (pc' := 59) rfl ?_)
  refine aw_goto (tgt := 5) dX12_outOn_59 rfl ?_
  exact aw_mask [true, true, true, true] (hX5 _ _ _ _ _ h)
def mX12_outOn_L5 (Q : Int → hp → Prop) : Nat → Nat → Int → Int → Int → hp → Prop
  | 0, _, _, _, _, _ => False
  | k + 1, o, a1, a2, a3, F => gR F (some o) 12 0 (fun x1 => aI F x1 0 4 (fun x2 => (w32 a3 < w32 (67 + (3 * x2)) → gR F (some o) 12 0 (fun x3 => aI F x3 0 a3 (fun x4 => gR F (some o) 12 0 (fun x5 => aI F x5 0 (a3 + 1) (fun x6 => mX12_isIn a1 x4 x6 F (fun x8 F7 => (w32 x8 = 0 → mX12_outOn_J54 (fun o' a1' a2' a3' F' => mX12_outOn_L5 Q k o' a1' a2' a3' F') Q o a1 a3 a2 0 F7) ∧ (¬ w32 x8 = 0 → gR F7 (some o) 12 0 (fun x9 => aI F7 x9 0 (a3 + 2) (fun x10 => mX12_outOn_J54 (fun o' a1' a2' a3' F' => mX12_outOn_L5 Q k o' a1' a2' a3' F') Q o a1 a3 a2 x10 F7))))))))) ∧ (¬ w32 a3 < w32 (67 + (3 * x2)) → Q a2 F)))
set_option maxHeartbeats 4000000 in
theorem tX12_outOn_L5 {d : Nat} {Q : Int → hp → Prop} : ∀ (k : Nat) (o : Nat) (a1 : Int) (a2 : Int) (a3 : Int) (F : hp), mX12_outOn_L5 Q k o a1 a2 a3 F → aw nX12_outOn (d + 1) 0 0 5 [some (vr (some o)), some (vi a1), some (vi a2), some (vi a3)] [] F (qI Q) := by
  intro k
  induction k with
  | zero => intro o a1 a2 a3 F h; exact h.elim
  | succ k ih =>
    intro o a1 a2 a3 F h
    simp only [mX12_outOn_L5] at h
    refine aw_iload_n dX12_outOn_5 rfl rfl (aw_pc (pc' := 6) rfl ?_)
    refine aw_bipush dX12_outOn_6 (by decide) (aw_pc (pc' := 8) rfl ?_)
    refine aw_iconst dX12_outOn_8 (aw_pc (pc' := 9) rfl ?_)
    refine aw_aload_n dX12_outOn_9 rfl rfl (aw_pc (pc' := 10) rfl ?_)
    refine ar_gR fl_RX12_7 dX12_outOn_10 h ?_
    clear h
    intro x1 h
    refine aw_pc (pc' := 13) rfl ?_
    refine aw_iconst dX12_outOn_13 (aw_pc (pc' := 14) rfl ?_)
    refine ar_aI dX12_outOn_14 h ?_
    clear h
    intro x2 h
    refine aw_pc (pc' := 15) rfl ?_
    refine aw_imul dX12_outOn_15 (aw_pc (pc' := 16) rfl ?_)
    refine aw_iadd dX12_outOn_16 (aw_pc (pc' := 17) rfl ?_)
    refine ac_ge rfl rfl dX12_outOn_17 rfl (fun c => ?_) (fun c => ?_)
    · replace h := h.1 c
      refine aw_iload_n dX12_outOn_20 rfl rfl (aw_pc (pc' := 21) rfl ?_)
      refine aw_iload_n dX12_outOn_21 rfl rfl (aw_pc (pc' := 22) rfl ?_)
      refine aw_aload_n dX12_outOn_22 rfl rfl (aw_pc (pc' := 23) rfl ?_)
      refine ar_gR fl_RX12_7 dX12_outOn_23 h ?_
      clear h
      intro x3 h
      refine aw_pc (pc' := 26) rfl ?_
      refine aw_iload_n dX12_outOn_26 rfl rfl (aw_pc (pc' := 27) rfl ?_)
      refine ar_aI dX12_outOn_27 h ?_
      clear h
      intro x4 h
      refine aw_pc (pc' := 28) rfl ?_
      refine aw_aload_n dX12_outOn_28 rfl rfl (aw_pc (pc' := 29) rfl ?_)
      refine ar_gR fl_RX12_7 dX12_outOn_29 h ?_
      clear h
      intro x5 h
      refine aw_pc (pc' := 32) rfl ?_
      refine aw_iload_n dX12_outOn_32 rfl rfl (aw_pc (pc' := 33) rfl ?_)
      refine aw_iconst dX12_outOn_33 (aw_pc (pc' := 34) rfl ?_)
      refine aw_iadd dX12_outOn_34 (aw_pc (pc' := 35) rfl ?_)
      refine ar_aI dX12_outOn_35 h ?_
      clear h
      intro x6 h
      refine aw_pc (pc' := 36) rfl ?_
      refine ar_SI (kc' := 0) (ks' := 0) (kc := 0) (ks := 0) (as := [vi a1, vi x4, vi x6]) (st := [vi a2]) (tX12_isIn h) mt_X12_isIn qM_RX12_78 qS_X12_isIn rfl (Nat.le_of_ble_eq_true rfl) dX12_outOn_36 ?_
      clear h
      intro x8 F7 h
      refine aw_pc (pc' := 39) rfl ?_
      refine aw_if_eq dX12_outOn_39 rfl (fun c => ?_) (fun c => ?_)
      · replace h := h.1 c
        refine aw_iconst dX12_outOn_53 (aw_pc (pc' := 54) rfl ?_)
        exact aw_mask [true, true, false, true] (tX12_outOn_J54 (fun o' a1' a2' a3' F' h' => ih o' a1' a2' a3' F' h') h)
      · replace h := h.2 c
        refine aw_aload_n dX12_outOn_42 rfl rfl (aw_pc (pc' := 43) rfl ?_)
        refine ar_gR fl_RX12_7 dX12_outOn_43 h ?_
        clear h
        intro x9 h
        refine aw_pc (pc' := 46) rfl ?_
        refine aw_iload_n dX12_outOn_46 rfl rfl (aw_pc (pc' := 47) rfl ?_)
        refine aw_iconst dX12_outOn_47 (aw_pc (pc' := 48) rfl ?_)
        refine aw_iadd dX12_outOn_48 (aw_pc (pc' := 49) rfl ?_)
        refine ar_aI dX12_outOn_49 h ?_
        clear h
        intro x10 h
        refine aw_pc (pc' := 50) rfl ?_
        refine aw_goto (tgt := 54) dX12_outOn_50 rfl ?_
        exact aw_mask [true, true, false, true] (tX12_outOn_J54 (fun o' a1' a2' a3' F' h' => ih o' a1' a2' a3' F' h') h)
    · replace h := h.2 c
      refine aw_iload_n dX12_outOn_62 rfl rfl (aw_pc (pc' := 63) rfl ?_)
      exact aw_iret rfl dX12_outOn_63 ⟨_, rfl, h⟩
def mX12_outOn (o : Nat) (a1 : Int) (F : hp) (Q : Int → hp → Prop) : Prop := (∃ k1, mX12_outOn_L5 Q k1 o a1 0 67 F)
set_option maxHeartbeats 4000000 in
theorem tX12_outOn {d : Nat} {o : Nat} {a1 : Int} {F : hp} {Q : Int → hp → Prop} (h : mX12_outOn o a1 F Q) : am nX12_outOn (d + 1) 0 0 [vr (some o), vi a1] F (qI Q) := by
  refine am_of (by decide +kernel) (Nat.le_of_ble_eq_true rfl) ?_
  show aw nX12_outOn (d + 1) 0 0 0 [some (vr (some o)), some (vi a1), none, none] [] F (qI Q)
  unfold mX12_outOn at h
  refine aw_iconst dX12_outOn_0 (aw_pc (pc' := 1) rfl ?_)
  refine aw_istore_n dX12_outOn_1 rfl (by decide) (aw_pc (pc' := 2) rfl ?_)
  refine aw_bipush dX12_outOn_2 (by decide) (aw_pc (pc' := 4) rfl ?_)
  refine aw_istore_n dX12_outOn_4 rfl (by decide) (aw_pc (pc' := 5) rfl ?_)
  obtain ⟨k1, h⟩ := h
  exact aw_mask [true, true, true, true] (tX12_outOn_L5 k1 _ _ _ _ _ h)
def mX12_stock_J37 (X7 : Nat → Int → Int → Int → Int → hp → Prop) (Q : Int → hp → Prop) (o : Nat) (a1 : Int) (a2 : Int) (a3 : Int) (a4 : Int) (F : hp) : Prop := X7 o a1 a2 a3 (a4 + 1) F
set_option maxHeartbeats 4000000 in
theorem tX12_stock_J37 {d : Nat} {X7 : Nat → Int → Int → Int → Int → hp → Prop} {Q : Int → hp → Prop} (hX7 : ∀ (o : Nat) (a1 : Int) (a2 : Int) (a3 : Int) (a4 : Int) (F : hp), X7 o a1 a2 a3 a4 F → aw nX12_stock (d + 2) 0 0 7 [some (vr (some o)), some (vi a1), some (vi a2), some (vi a3), some (vi a4)] [] F (qI Q)) {o : Nat} {a1 : Int} {a2 : Int} {a3 : Int} {a4 : Int} {F : hp} (h : mX12_stock_J37 X7 Q o a1 a2 a3 a4 F) : aw nX12_stock (d + 2) 0 0 37 [some (vr (some o)), some (vi a1), some (vi a2), some (vi a3), some (vi a4)] [] F (qI Q) := by
  unfold mX12_stock_J37 at h
  refine aw_iinc dX12_stock_37 rfl (by decide) (aw_pc (pc' := 40) rfl ?_)
  refine aw_goto (tgt := 7) dX12_stock_40 rfl ?_
  exact aw_mask [true, true, true, true, true] (hX7 _ _ _ _ _ _ h)
def mX12_stock_L7 (Q : Int → hp → Prop) : Nat → Nat → Int → Int → Int → Int → hp → Prop
  | 0, _, _, _, _, _, _ => False
  | k + 1, o, a1, a2, a3, a4, F => (w32 a4 < 31 → rcv F (some o) 12 (fun o3 => mX12_outOn o3 a4 F (fun x2 F1 => (w32 a2 < w32 x2 → rcv F1 (some o) 12 (fun o6 => mX12_outOn o6 a4 F1 (fun x5 F4 => mX12_stock_J37 (fun o' a1' a2' a3' a4' F' => mX12_stock_L7 Q k o' a1' a2' a3' a4' F') Q o a1 x5 a4 a4 F4))) ∧ (¬ w32 a2 < w32 x2 → mX12_stock_J37 (fun o' a1' a2' a3' a4' F' => mX12_stock_L7 Q k o' a1' a2' a3' a4' F') Q o a1 a2 a3 a4 F1)))) ∧ (¬ w32 a4 < 31 → (w32 a1 = 0 → Q a2 F) ∧ (¬ w32 a1 = 0 → Q a3 F))
set_option maxHeartbeats 4000000 in
theorem tX12_stock_L7 {d : Nat} {Q : Int → hp → Prop} : ∀ (k : Nat) (o : Nat) (a1 : Int) (a2 : Int) (a3 : Int) (a4 : Int) (F : hp), mX12_stock_L7 Q k o a1 a2 a3 a4 F → aw nX12_stock (d + 2) 0 0 7 [some (vr (some o)), some (vi a1), some (vi a2), some (vi a3), some (vi a4)] [] F (qI Q) := by
  intro k
  induction k with
  | zero => intro o a1 a2 a3 a4 F h; exact h.elim
  | succ k ih =>
    intro o a1 a2 a3 a4 F h
    simp only [mX12_stock_L7] at h
    refine aw_iload dX12_stock_7 rfl (aw_pc (pc' := 9) rfl ?_)
    refine aw_bipush dX12_stock_9 (by decide) (aw_pc (pc' := 11) rfl ?_)
    refine ac_ge rfl wl_31 dX12_stock_11 rfl (fun c => ?_) (fun c => ?_)
    · replace h := h.1 c
      refine aw_aload_n dX12_stock_14 rfl rfl (aw_pc (pc' := 15) rfl ?_)
      refine aw_iload dX12_stock_15 rfl (aw_pc (pc' := 17) rfl ?_)
      have h0 := rcv_inv h
      clear h
      obtain ⟨o3, fs_o3, hr_o3, he_o3, h⟩ := h0
      obtain rfl : o = o3 := Option.some.inj hr_o3
      refine ar_VI (kc' := 0) (ks' := 0) (kc := 0) (ks := 0) (a := o) (ci := 12) (as := [vi a4]) (st := []) (tX12_outOn h) mt_X12_outOn rfl qM_RX12_471 qI_X12_outOn qV_X12_outOn he_o3 rfl (Nat.le_of_ble_eq_true rfl) dX12_stock_17 ?_
      clear h
      intro x2 F1 h
      refine aw_pc (pc' := 20) rfl ?_
      refine aw_iload_n dX12_stock_20 rfl rfl (aw_pc (pc' := 21) rfl ?_)
      refine ac_gt rfl rfl dX12_stock_21 rfl (fun c => ?_) (fun c => ?_)
      · replace h := h.1 c
        refine aw_aload_n dX12_stock_27 rfl rfl (aw_pc (pc' := 28) rfl ?_)
        refine aw_iload dX12_stock_28 rfl (aw_pc (pc' := 30) rfl ?_)
        have h0 := rcv_inv h
        clear h
        obtain ⟨o6, fs_o6, hr_o6, he_o6, h⟩ := h0
        obtain rfl : o = o6 := Option.some.inj hr_o6
        refine ar_VI (kc' := 0) (ks' := 0) (kc := 0) (ks := 0) (a := o) (ci := 12) (as := [vi a4]) (st := []) (tX12_outOn h) mt_X12_outOn rfl qM_RX12_471 qI_X12_outOn qV_X12_outOn he_o6 rfl (Nat.le_of_ble_eq_true rfl) dX12_stock_30 ?_
        clear h
        intro x5 F4 h
        refine aw_pc (pc' := 33) rfl ?_
        refine aw_istore_n dX12_stock_33 rfl (by decide) (aw_pc (pc' := 34) rfl ?_)
        refine aw_iload dX12_stock_34 rfl (aw_pc (pc' := 36) rfl ?_)
        refine aw_istore_n dX12_stock_36 rfl (by decide) (aw_pc (pc' := 37) rfl ?_)
        exact aw_mask [true, true, true, true, true] (tX12_stock_J37 (fun o' a1' a2' a3' a4' F' h' => ih o' a1' a2' a3' a4' F' h') h)
      · replace h := h.2 c
        refine aw_goto (tgt := 37) dX12_stock_24 rfl ?_
        exact aw_mask [true, true, true, true, true] (tX12_stock_J37 (fun o' a1' a2' a3' a4' F' h' => ih o' a1' a2' a3' a4' F' h') h)
    · replace h := h.2 c
      refine aw_iload_n dX12_stock_43 rfl rfl (aw_pc (pc' := 44) rfl ?_)
      refine aw_if_eq dX12_stock_44 rfl (fun c => ?_) (fun c => ?_)
      · replace h := h.1 c
        refine aw_iload_n dX12_stock_51 rfl rfl (aw_pc (pc' := 52) rfl ?_)
        exact aw_iret rfl dX12_stock_52 ⟨_, rfl, h⟩
      · replace h := h.2 c
        refine aw_iload_n dX12_stock_47 rfl rfl (aw_pc (pc' := 48) rfl ?_)
        refine aw_goto (tgt := 52) dX12_stock_48 rfl ?_
        exact aw_iret rfl dX12_stock_52 ⟨_, rfl, h⟩
def mX12_stock (o : Nat) (a1 : Int) (F : hp) (Q : Int → hp → Prop) : Prop := (∃ k1, mX12_stock_L7 Q k1 o a1 0 (-1) 0 F)
set_option maxHeartbeats 4000000 in
theorem tX12_stock {d : Nat} {o : Nat} {a1 : Int} {F : hp} {Q : Int → hp → Prop} (h : mX12_stock o a1 F Q) : am nX12_stock (d + 2) 0 0 [vr (some o), vi a1] F (qI Q) := by
  refine am_of (by decide +kernel) (Nat.le_of_ble_eq_true rfl) ?_
  show aw nX12_stock (d + 2) 0 0 0 [some (vr (some o)), some (vi a1), none, none, none] [] F (qI Q)
  unfold mX12_stock at h
  refine aw_iconst dX12_stock_0 (aw_pc (pc' := 1) rfl ?_)
  refine aw_istore_n dX12_stock_1 rfl (by decide) (aw_pc (pc' := 2) rfl ?_)
  refine aw_iconst dX12_stock_2 (aw_pc (pc' := 3) rfl ?_)
  refine aw_istore_n dX12_stock_3 rfl (by decide) (aw_pc (pc' := 4) rfl ?_)
  refine aw_iconst dX12_stock_4 (aw_pc (pc' := 5) rfl ?_)
  refine aw_istore dX12_stock_5 (by decide) (aw_pc (pc' := 7) rfl ?_)
  obtain ⟨k1, h⟩ := h
  exact aw_mask [true, true, true, true, true] (tX12_stock_L7 k1 _ _ _ _ _ _ h)
def mX12_seen (o : Nat) (a1 : Int) (a2 : Int) (a3 : Int) (F : hp) (Q : Int → hp → Prop) : Prop := (w32 a1 = (-1) → gR F (some o) 12 0 (fun x1 => sI F x1 0 5 0 (fun F2 => Q 0 F2))) ∧ (¬ w32 a1 = (-1) → mX12_isIn a1 0 3 F (fun x4 F3 => (w32 x4 = 0 → Q (-2) F3) ∧ (¬ w32 x4 = 0 → rcv F3 (some o) 12 (fun o7 => mX12_isCar o7 a2 F3 (fun x6 F5 => (w32 x6 = 0 → Q (-2) F5) ∧ (¬ w32 x6 = 0 → mX12_isTrack a3 F5 (fun x9 F8 => (w32 x9 = 0 → Q (-2) F8) ∧ (¬ w32 x9 = 0 → gR F8 (some o) 12 0 (fun x10 => aI F8 x10 0 5 (fun x11 => (w32 x11 = 4 → Q (-2) F8) ∧ (¬ w32 x11 = 4 → gR F8 (some o) 12 0 (fun x12 => aI F8 x12 0 5 (fun x13 => ∀ v14 : Int, v14 = (91 + (3 * x13)) → gR F8 (some o) 12 0 (fun x15 => sI F8 x15 0 v14 a1 (fun F16 => gR F16 (some o) 12 0 (fun x17 => sI F16 x17 0 (v14 + 1) a2 (fun F18 => gR F18 (some o) 12 0 (fun x19 => sI F18 x19 0 (v14 + 2) a3 (fun F20 => gR F20 (some o) 12 0 (fun x21 => aI F20 x21 0 5 (fun x22 => sI F20 x21 0 5 (x22 + 1) (fun F23 => gR F23 (some o) 12 0 (fun x24 => aI F23 x24 0 5 (fun x25 => Q x25 F23))))))))))))))))))))))))
set_option maxHeartbeats 4000000 in
theorem tX12_seen {d : Nat} {o : Nat} {a1 : Int} {a2 : Int} {a3 : Int} {F : hp} {Q : Int → hp → Prop} (h : mX12_seen o a1 a2 a3 F Q) : am nX12_seen (d + 2) 0 0 [vr (some o), vi a1, vi a2, vi a3] F (qI Q) := by
  refine am_of (by decide +kernel) (Nat.le_of_ble_eq_true rfl) ?_
  show aw nX12_seen (d + 2) 0 0 0 [some (vr (some o)), some (vi a1), some (vi a2), some (vi a3), none] [] F (qI Q)
  unfold mX12_seen at h
  refine aw_iload_n dX12_seen_0 rfl rfl (aw_pc (pc' := 1) rfl ?_)
  refine aw_iconst dX12_seen_1 (aw_pc (pc' := 2) rfl ?_)
  refine ac_ne rfl wl_m1 dX12_seen_2 rfl (fun c => ?_) (fun c => ?_)
  · replace h := h.1 c
    refine aw_aload_n dX12_seen_5 rfl rfl (aw_pc (pc' := 6) rfl ?_)
    refine ar_gR fl_RX12_7 dX12_seen_6 h ?_
    clear h
    intro x1 h
    refine aw_pc (pc' := 9) rfl ?_
    refine aw_iconst dX12_seen_9 (aw_pc (pc' := 10) rfl ?_)
    refine aw_iconst dX12_seen_10 (aw_pc (pc' := 11) rfl ?_)
    refine ar_sI dX12_seen_11 h ?_
    clear h
    intro F2 h
    refine aw_pc (pc' := 12) rfl ?_
    refine aw_iconst dX12_seen_12 (aw_pc (pc' := 13) rfl ?_)
    exact aw_iret rfl dX12_seen_13 ⟨_, rfl, h⟩
  · replace h := h.2 c
    refine aw_iload_n dX12_seen_14 rfl rfl (aw_pc (pc' := 15) rfl ?_)
    refine aw_iconst dX12_seen_15 (aw_pc (pc' := 16) rfl ?_)
    refine aw_iconst dX12_seen_16 (aw_pc (pc' := 17) rfl ?_)
    refine ar_SI (kc' := 0) (ks' := 0) (kc := 0) (ks := 0) (as := [vi a1, vi 0, vi 3]) (st := []) (tX12_isIn h) mt_X12_isIn qM_RX12_78 qS_X12_isIn rfl (Nat.le_of_ble_eq_true rfl) dX12_seen_17 ?_
    clear h
    intro x4 F3 h
    refine aw_pc (pc' := 20) rfl ?_
    refine aw_if_eq dX12_seen_20 rfl (fun c => ?_) (fun c => ?_)
    · replace h := h.1 c
      refine aw_bipush dX12_seen_48 (by decide) (aw_pc (pc' := 50) rfl ?_)
      exact aw_iret rfl dX12_seen_50 ⟨_, rfl, h⟩
    · replace h := h.2 c
      refine aw_aload_n dX12_seen_23 rfl rfl (aw_pc (pc' := 24) rfl ?_)
      refine aw_iload_n dX12_seen_24 rfl rfl (aw_pc (pc' := 25) rfl ?_)
      have h0 := rcv_inv h
      clear h
      obtain ⟨o7, fs_o7, hr_o7, he_o7, h⟩ := h0
      obtain rfl : o = o7 := Option.some.inj hr_o7
      refine ar_VI (kc' := 0) (ks' := 0) (kc := 0) (ks := 0) (a := o) (ci := 12) (as := [vi a2]) (st := []) (tX12_isCar h) mt_X12_isCar rfl qM_RX12_102 qI_X12_isCar qV_X12_isCar he_o7 rfl (Nat.le_of_ble_eq_true rfl) dX12_seen_25 ?_
      clear h
      intro x6 F5 h
      refine aw_pc (pc' := 28) rfl ?_
      refine aw_if_eq dX12_seen_28 rfl (fun c => ?_) (fun c => ?_)
      · replace h := h.1 c
        refine aw_bipush dX12_seen_48 (by decide) (aw_pc (pc' := 50) rfl ?_)
        exact aw_iret rfl dX12_seen_50 ⟨_, rfl, h⟩
      · replace h := h.2 c
        refine aw_iload_n dX12_seen_31 rfl rfl (aw_pc (pc' := 32) rfl ?_)
        refine ar_SI (kc' := 0) (ks' := 0) (kc := 0) (ks := 0) (as := [vi a3]) (st := []) (tX12_isTrack h) mt_X12_isTrack qM_RX12_327 qS_X12_isTrack rfl (Nat.le_of_ble_eq_true rfl) dX12_seen_32 ?_
        clear h
        intro x9 F8 h
        refine aw_pc (pc' := 35) rfl ?_
        refine aw_if_eq dX12_seen_35 rfl (fun c => ?_) (fun c => ?_)
        · replace h := h.1 c
          refine aw_bipush dX12_seen_48 (by decide) (aw_pc (pc' := 50) rfl ?_)
          exact aw_iret rfl dX12_seen_50 ⟨_, rfl, h⟩
        · replace h := h.2 c
          refine aw_aload_n dX12_seen_38 rfl rfl (aw_pc (pc' := 39) rfl ?_)
          refine ar_gR fl_RX12_7 dX12_seen_39 h ?_
          clear h
          intro x10 h
          refine aw_pc (pc' := 42) rfl ?_
          refine aw_iconst dX12_seen_42 (aw_pc (pc' := 43) rfl ?_)
          refine ar_aI dX12_seen_43 h ?_
          clear h
          intro x11 h
          refine aw_pc (pc' := 44) rfl ?_
          refine aw_iconst dX12_seen_44 (aw_pc (pc' := 45) rfl ?_)
          refine ac_ne rfl wl_4 dX12_seen_45 rfl (fun c => ?_) (fun c => ?_)
          · replace h := h.1 c
            refine aw_bipush dX12_seen_48 (by decide) (aw_pc (pc' := 50) rfl ?_)
            exact aw_iret rfl dX12_seen_50 ⟨_, rfl, h⟩
          · replace h := h.2 c
            refine aw_bipush dX12_seen_51 (by decide) (aw_pc (pc' := 53) rfl ?_)
            refine aw_iconst dX12_seen_53 (aw_pc (pc' := 54) rfl ?_)
            refine aw_aload_n dX12_seen_54 rfl rfl (aw_pc (pc' := 55) rfl ?_)
            refine ar_gR fl_RX12_7 dX12_seen_55 h ?_
            clear h
            intro x12 h
            refine aw_pc (pc' := 58) rfl ?_
            refine aw_iconst dX12_seen_58 (aw_pc (pc' := 59) rfl ?_)
            refine ar_aI dX12_seen_59 h ?_
            clear h
            intro x13 h
            refine aw_pc (pc' := 60) rfl ?_
            refine aw_imul dX12_seen_60 (aw_pc (pc' := 61) rfl ?_)
            refine aw_iadd dX12_seen_61 (aw_pc (pc' := 62) rfl ?_)
            generalize hv_v14 : (91 + (3 * x13)) = v14
            replace h := h v14 hv_v14.symm
            refine aw_istore dX12_seen_62 (by decide) (aw_pc (pc' := 64) rfl ?_)
            refine aw_aload_n dX12_seen_64 rfl rfl (aw_pc (pc' := 65) rfl ?_)
            refine ar_gR fl_RX12_7 dX12_seen_65 h ?_
            clear h
            intro x15 h
            refine aw_pc (pc' := 68) rfl ?_
            refine aw_iload dX12_seen_68 rfl (aw_pc (pc' := 70) rfl ?_)
            refine aw_iload_n dX12_seen_70 rfl rfl (aw_pc (pc' := 71) rfl ?_)
            refine ar_sI dX12_seen_71 h ?_
            clear h
            intro F16 h
            refine aw_pc (pc' := 72) rfl ?_
            refine aw_aload_n dX12_seen_72 rfl rfl (aw_pc (pc' := 73) rfl ?_)
            refine ar_gR fl_RX12_7 dX12_seen_73 h ?_
            clear h
            intro x17 h
            refine aw_pc (pc' := 76) rfl ?_
            refine aw_iload dX12_seen_76 rfl (aw_pc (pc' := 78) rfl ?_)
            refine aw_iconst dX12_seen_78 (aw_pc (pc' := 79) rfl ?_)
            refine aw_iadd dX12_seen_79 (aw_pc (pc' := 80) rfl ?_)
            refine aw_iload_n dX12_seen_80 rfl rfl (aw_pc (pc' := 81) rfl ?_)
            refine ar_sI dX12_seen_81 h ?_
            clear h
            intro F18 h
            refine aw_pc (pc' := 82) rfl ?_
            refine aw_aload_n dX12_seen_82 rfl rfl (aw_pc (pc' := 83) rfl ?_)
            refine ar_gR fl_RX12_7 dX12_seen_83 h ?_
            clear h
            intro x19 h
            refine aw_pc (pc' := 86) rfl ?_
            refine aw_iload dX12_seen_86 rfl (aw_pc (pc' := 88) rfl ?_)
            refine aw_iconst dX12_seen_88 (aw_pc (pc' := 89) rfl ?_)
            refine aw_iadd dX12_seen_89 (aw_pc (pc' := 90) rfl ?_)
            refine aw_iload_n dX12_seen_90 rfl rfl (aw_pc (pc' := 91) rfl ?_)
            refine ar_sI dX12_seen_91 h ?_
            clear h
            intro F20 h
            refine aw_pc (pc' := 92) rfl ?_
            refine aw_aload_n dX12_seen_92 rfl rfl (aw_pc (pc' := 93) rfl ?_)
            refine ar_gR fl_RX12_7 dX12_seen_93 h ?_
            clear h
            intro x21 h
            refine aw_pc (pc' := 96) rfl ?_
            refine aw_iconst dX12_seen_96 (aw_pc (pc' := 97) rfl ?_)
            refine aw_dup2 dX12_seen_97 trivial trivial (aw_pc (pc' := 98) rfl ?_)
            refine ar_aI dX12_seen_98 h ?_
            clear h
            intro x22 h
            refine aw_pc (pc' := 99) rfl ?_
            refine aw_iconst dX12_seen_99 (aw_pc (pc' := 100) rfl ?_)
            refine aw_iadd dX12_seen_100 (aw_pc (pc' := 101) rfl ?_)
            refine ar_sI dX12_seen_101 h ?_
            clear h
            intro F23 h
            refine aw_pc (pc' := 102) rfl ?_
            refine aw_aload_n dX12_seen_102 rfl rfl (aw_pc (pc' := 103) rfl ?_)
            refine ar_gR fl_RX12_7 dX12_seen_103 h ?_
            clear h
            intro x24 h
            refine aw_pc (pc' := 106) rfl ?_
            refine aw_iconst dX12_seen_106 (aw_pc (pc' := 107) rfl ?_)
            refine ar_aI dX12_seen_107 h ?_
            clear h
            intro x25 h
            refine aw_pc (pc' := 108) rfl ?_
            exact aw_iret rfl dX12_seen_108 ⟨_, rfl, h⟩
def mX12_isThere_L13 (Q : Int → hp → Prop) : Nat → Nat → Int → Int → Int → hp → Prop
  | 0, _, _, _, _, _ => False
  | k + 1, o, a1, a2, a3, F => rcv F (some o) 12 (fun o3 => mX12_endOf o3 a2 F (fun x2 F1 => (w32 a3 < w32 x2 → gR F1 (some o) 12 27 (fun x4 => aI F1 x4 0 a3 (fun x5 => (w32 x5 = w32 a1 → Q 1 F1) ∧ (¬ w32 x5 = w32 a1 → mX12_isThere_L13 Q k o a1 a2 (a3 + 1) F1)))) ∧ (¬ w32 a3 < w32 x2 → Q 0 F1)))
set_option maxHeartbeats 4000000 in
theorem tX12_isThere_L13 {d : Nat} {Q : Int → hp → Prop} : ∀ (k : Nat) (o : Nat) (a1 : Int) (a2 : Int) (a3 : Int) (F : hp), mX12_isThere_L13 Q k o a1 a2 a3 F → aw nX12_isThere (d + 2) 0 0 13 [some (vr (some o)), some (vi a1), some (vi a2), some (vi a3)] [] F (qI Q) := by
  intro k
  induction k with
  | zero => intro o a1 a2 a3 F h; exact h.elim
  | succ k ih =>
    intro o a1 a2 a3 F h
    simp only [mX12_isThere_L13] at h
    refine aw_iload_n dX12_isThere_13 rfl rfl (aw_pc (pc' := 14) rfl ?_)
    refine aw_aload_n dX12_isThere_14 rfl rfl (aw_pc (pc' := 15) rfl ?_)
    refine aw_iload_n dX12_isThere_15 rfl rfl (aw_pc (pc' := 16) rfl ?_)
    have h0 := rcv_inv h
    clear h
    obtain ⟨o3, fs_o3, hr_o3, he_o3, h⟩ := h0
    obtain rfl : o = o3 := Option.some.inj hr_o3
    refine ar_VI (kc' := 0) (ks' := 0) (kc := 0) (ks := 0) (a := o) (ci := 12) (as := [vi a2]) (st := [vi a3]) (tX12_endOf h) mt_X12_endOf rfl qM_RX12_416 qI_X12_endOf qV_X12_endOf he_o3 rfl (Nat.le_of_ble_eq_true rfl) dX12_isThere_16 ?_
    clear h
    intro x2 F1 h
    refine aw_pc (pc' := 19) rfl ?_
    refine ac_ge rfl rfl dX12_isThere_19 rfl (fun c => ?_) (fun c => ?_)
    · replace h := h.1 c
      refine aw_aload_n dX12_isThere_22 rfl rfl (aw_pc (pc' := 23) rfl ?_)
      refine ar_gR fl_RX12_53 dX12_isThere_23 h ?_
      clear h
      intro x4 h
      refine aw_pc (pc' := 26) rfl ?_
      refine aw_iload_n dX12_isThere_26 rfl rfl (aw_pc (pc' := 27) rfl ?_)
      refine ar_aI dX12_isThere_27 h ?_
      clear h
      intro x5 h
      refine aw_pc (pc' := 28) rfl ?_
      refine aw_iload_n dX12_isThere_28 rfl rfl (aw_pc (pc' := 29) rfl ?_)
      refine ac_ne rfl rfl dX12_isThere_29 rfl (fun c => ?_) (fun c => ?_)
      · replace h := h.1 c
        refine aw_iconst dX12_isThere_32 (aw_pc (pc' := 33) rfl ?_)
        exact aw_zret rfl (by decide) dX12_isThere_33 ⟨_, rfl, h⟩
      · replace h := h.2 c
        refine aw_iinc dX12_isThere_34 rfl (by decide) (aw_pc (pc' := 37) rfl ?_)
        refine aw_goto (tgt := 13) dX12_isThere_37 rfl ?_
        exact aw_mask [true, true, true, true] (ih _ _ _ _ _ h)
    · replace h := h.2 c
      refine aw_iconst dX12_isThere_40 (aw_pc (pc' := 41) rfl ?_)
      exact aw_zret rfl (by decide) dX12_isThere_41 ⟨_, rfl, h⟩
def mX12_isThere (o : Nat) (a1 : Int) (a2 : Int) (F : hp) (Q : Int → hp → Prop) : Prop := rcv F (some o) 12 (fun o3 => mX12_endOf o3 a2 F (fun x2 F1 => gR F1 (some o) 12 28 (fun x4 => aI F1 x4 0 a2 (fun x5 => ∀ v6 : Int, v6 = (x2 - x5) → (∃ k7, mX12_isThere_L13 Q k7 o a1 a2 v6 F1)))))
set_option maxHeartbeats 4000000 in
theorem tX12_isThere {d : Nat} {o : Nat} {a1 : Int} {a2 : Int} {F : hp} {Q : Int → hp → Prop} (h : mX12_isThere o a1 a2 F Q) : am nX12_isThere (d + 2) 0 0 [vr (some o), vi a1, vi a2] F (qI Q) := by
  refine am_of (by decide +kernel) (Nat.le_of_ble_eq_true rfl) ?_
  show aw nX12_isThere (d + 2) 0 0 0 [some (vr (some o)), some (vi a1), some (vi a2), none] [] F (qI Q)
  unfold mX12_isThere at h
  refine aw_aload_n dX12_isThere_0 rfl rfl (aw_pc (pc' := 1) rfl ?_)
  refine aw_iload_n dX12_isThere_1 rfl rfl (aw_pc (pc' := 2) rfl ?_)
  have h0 := rcv_inv h
  clear h
  obtain ⟨o3, fs_o3, hr_o3, he_o3, h⟩ := h0
  obtain rfl : o = o3 := Option.some.inj hr_o3
  refine ar_VI (kc' := 0) (ks' := 0) (kc := 0) (ks := 0) (a := o) (ci := 12) (as := [vi a2]) (st := []) (tX12_endOf h) mt_X12_endOf rfl qM_RX12_416 qI_X12_endOf qV_X12_endOf he_o3 rfl (Nat.le_of_ble_eq_true rfl) dX12_isThere_2 ?_
  clear h
  intro x2 F1 h
  refine aw_pc (pc' := 5) rfl ?_
  refine aw_aload_n dX12_isThere_5 rfl rfl (aw_pc (pc' := 6) rfl ?_)
  refine ar_gR fl_RX12_56 dX12_isThere_6 h ?_
  clear h
  intro x4 h
  refine aw_pc (pc' := 9) rfl ?_
  refine aw_iload_n dX12_isThere_9 rfl rfl (aw_pc (pc' := 10) rfl ?_)
  refine ar_aI dX12_isThere_10 h ?_
  clear h
  intro x5 h
  refine aw_pc (pc' := 11) rfl ?_
  refine aw_isub dX12_isThere_11 (aw_pc (pc' := 12) rfl ?_)
  generalize hv_v6 : (x2 - x5) = v6
  replace h := h v6 hv_v6.symm
  refine aw_istore_n dX12_isThere_12 rfl (by decide) (aw_pc (pc' := 13) rfl ?_)
  obtain ⟨k7, h⟩ := h
  exact aw_mask [true, true, true, true] (tX12_isThere_L13 k7 _ _ _ _ _ h)
def mX12_isSeenAt_J53 (X3 : Nat → Int → Int → hp → Prop) (Q : Int → hp → Prop) (o : Nat) (a1 : Int) (a2 : Int) (F : hp) : Prop := X3 o a1 (a2 + 3) F
set_option maxHeartbeats 4000000 in
theorem tX12_isSeenAt_J53 {d : Nat} {X3 : Nat → Int → Int → hp → Prop} {Q : Int → hp → Prop} (hX3 : ∀ (o : Nat) (a1 : Int) (a2 : Int) (F : hp), X3 o a1 a2 F → aw nX12_isSeenAt (d + 3) 0 0 3 [some (vr (some o)), some (vi a1), some (vi a2)] [] F (qI Q)) {o : Nat} {a1 : Int} {a2 : Int} {F : hp} (h : mX12_isSeenAt_J53 X3 Q o a1 a2 F) : aw nX12_isSeenAt (d + 3) 0 0 53 [some (vr (some o)), some (vi a1), some (vi a2)] [] F (qI Q) := by
  unfold mX12_isSeenAt_J53 at h
  refine aw_iinc dX12_isSeenAt_53 rfl (by decide) (aw_pc (pc' := 56) rfl ?_)
  refine aw_goto (tgt := 3) dX12_isSeenAt_56 rfl ?_
  exact aw_mask [true, true, true] (hX3 _ _ _ _ h)
def mX12_isSeenAt_L3 (Q : Int → hp → Prop) : Nat → Nat → Int → Int → hp → Prop
  | 0, _, _, _, _ => False
  | k + 1, o, a1, a2, F => gR F (some o) 12 0 (fun x1 => aI F x1 0 5 (fun x2 => (w32 a2 < w32 (91 + (3 * x2)) → gR F (some o) 12 0 (fun x3 => aI F x3 0 a2 (fun x4 => (w32 x4 = w32 a1 → gR F (some o) 12 0 (fun x5 => aI F x5 0 (a2 + 1) (fun x6 => gR F (some o) 12 0 (fun x7 => aI F x7 0 (a2 + 2) (fun x8 => rcv F (some o) 12 (fun o11 => mX12_isThere o11 x6 x8 F (fun x10 F9 => (w32 x10 = 0 → Q 0 F9) ∧ (¬ w32 x10 = 0 → mX12_isSeenAt_J53 (fun o' a1' a2' F' => mX12_isSeenAt_L3 Q k o' a1' a2' F') Q o a1 a2 F9)))))))) ∧ (¬ w32 x4 = w32 a1 → mX12_isSeenAt_J53 (fun o' a1' a2' F' => mX12_isSeenAt_L3 Q k o' a1' a2' F') Q o a1 a2 F)))) ∧ (¬ w32 a2 < w32 (91 + (3 * x2)) → Q 1 F)))
set_option maxHeartbeats 4000000 in
theorem tX12_isSeenAt_L3 {d : Nat} {Q : Int → hp → Prop} : ∀ (k : Nat) (o : Nat) (a1 : Int) (a2 : Int) (F : hp), mX12_isSeenAt_L3 Q k o a1 a2 F → aw nX12_isSeenAt (d + 3) 0 0 3 [some (vr (some o)), some (vi a1), some (vi a2)] [] F (qI Q) := by
  intro k
  induction k with
  | zero => intro o a1 a2 F h; exact h.elim
  | succ k ih =>
    intro o a1 a2 F h
    simp only [mX12_isSeenAt_L3] at h
    refine aw_iload_n dX12_isSeenAt_3 rfl rfl (aw_pc (pc' := 4) rfl ?_)
    refine aw_bipush dX12_isSeenAt_4 (by decide) (aw_pc (pc' := 6) rfl ?_)
    refine aw_iconst dX12_isSeenAt_6 (aw_pc (pc' := 7) rfl ?_)
    refine aw_aload_n dX12_isSeenAt_7 rfl rfl (aw_pc (pc' := 8) rfl ?_)
    refine ar_gR fl_RX12_7 dX12_isSeenAt_8 h ?_
    clear h
    intro x1 h
    refine aw_pc (pc' := 11) rfl ?_
    refine aw_iconst dX12_isSeenAt_11 (aw_pc (pc' := 12) rfl ?_)
    refine ar_aI dX12_isSeenAt_12 h ?_
    clear h
    intro x2 h
    refine aw_pc (pc' := 13) rfl ?_
    refine aw_imul dX12_isSeenAt_13 (aw_pc (pc' := 14) rfl ?_)
    refine aw_iadd dX12_isSeenAt_14 (aw_pc (pc' := 15) rfl ?_)
    refine ac_ge rfl rfl dX12_isSeenAt_15 rfl (fun c => ?_) (fun c => ?_)
    · replace h := h.1 c
      refine aw_aload_n dX12_isSeenAt_18 rfl rfl (aw_pc (pc' := 19) rfl ?_)
      refine ar_gR fl_RX12_7 dX12_isSeenAt_19 h ?_
      clear h
      intro x3 h
      refine aw_pc (pc' := 22) rfl ?_
      refine aw_iload_n dX12_isSeenAt_22 rfl rfl (aw_pc (pc' := 23) rfl ?_)
      refine ar_aI dX12_isSeenAt_23 h ?_
      clear h
      intro x4 h
      refine aw_pc (pc' := 24) rfl ?_
      refine aw_iload_n dX12_isSeenAt_24 rfl rfl (aw_pc (pc' := 25) rfl ?_)
      refine ac_ne rfl rfl dX12_isSeenAt_25 rfl (fun c => ?_) (fun c => ?_)
      · replace h := h.1 c
        refine aw_aload_n dX12_isSeenAt_28 rfl rfl (aw_pc (pc' := 29) rfl ?_)
        refine aw_aload_n dX12_isSeenAt_29 rfl rfl (aw_pc (pc' := 30) rfl ?_)
        refine ar_gR fl_RX12_7 dX12_isSeenAt_30 h ?_
        clear h
        intro x5 h
        refine aw_pc (pc' := 33) rfl ?_
        refine aw_iload_n dX12_isSeenAt_33 rfl rfl (aw_pc (pc' := 34) rfl ?_)
        refine aw_iconst dX12_isSeenAt_34 (aw_pc (pc' := 35) rfl ?_)
        refine aw_iadd dX12_isSeenAt_35 (aw_pc (pc' := 36) rfl ?_)
        refine ar_aI dX12_isSeenAt_36 h ?_
        clear h
        intro x6 h
        refine aw_pc (pc' := 37) rfl ?_
        refine aw_aload_n dX12_isSeenAt_37 rfl rfl (aw_pc (pc' := 38) rfl ?_)
        refine ar_gR fl_RX12_7 dX12_isSeenAt_38 h ?_
        clear h
        intro x7 h
        refine aw_pc (pc' := 41) rfl ?_
        refine aw_iload_n dX12_isSeenAt_41 rfl rfl (aw_pc (pc' := 42) rfl ?_)
        refine aw_iconst dX12_isSeenAt_42 (aw_pc (pc' := 43) rfl ?_)
        refine aw_iadd dX12_isSeenAt_43 (aw_pc (pc' := 44) rfl ?_)
        refine ar_aI dX12_isSeenAt_44 h ?_
        clear h
        intro x8 h
        refine aw_pc (pc' := 45) rfl ?_
        have h0 := rcv_inv h
        clear h
        obtain ⟨o11, fs_o11, hr_o11, he_o11, h⟩ := h0
        obtain rfl : o = o11 := Option.some.inj hr_o11
        refine ar_VI (kc' := 0) (ks' := 0) (kc := 0) (ks := 0) (a := o) (ci := 12) (as := [vi x6, vi x8]) (st := []) (tX12_isThere h) mt_X12_isThere rfl qM_RX12_474 qI_X12_isThere qV_X12_isThere he_o11 rfl (Nat.le_of_ble_eq_true rfl) dX12_isSeenAt_45 ?_
        clear h
        intro x10 F9 h
        refine aw_pc (pc' := 48) rfl ?_
        refine aw_if_ne dX12_isSeenAt_48 rfl (fun c => ?_) (fun c => ?_)
        · replace h := h.1 c
          refine aw_iconst dX12_isSeenAt_51 (aw_pc (pc' := 52) rfl ?_)
          exact aw_zret rfl (by decide) dX12_isSeenAt_52 ⟨_, rfl, h⟩
        · replace h := h.2 c
          exact aw_mask [true, true, true] (tX12_isSeenAt_J53 (fun o' a1' a2' F' h' => ih o' a1' a2' F' h') h)
      · replace h := h.2 c
        exact aw_mask [true, true, true] (tX12_isSeenAt_J53 (fun o' a1' a2' F' h' => ih o' a1' a2' F' h') h)
    · replace h := h.2 c
      refine aw_iconst dX12_isSeenAt_59 (aw_pc (pc' := 60) rfl ?_)
      exact aw_zret rfl (by decide) dX12_isSeenAt_60 ⟨_, rfl, h⟩
def mX12_isSeenAt (o : Nat) (a1 : Int) (F : hp) (Q : Int → hp → Prop) : Prop := (∃ k1, mX12_isSeenAt_L3 Q k1 o a1 91 F)
set_option maxHeartbeats 4000000 in
theorem tX12_isSeenAt {d : Nat} {o : Nat} {a1 : Int} {F : hp} {Q : Int → hp → Prop} (h : mX12_isSeenAt o a1 F Q) : am nX12_isSeenAt (d + 3) 0 0 [vr (some o), vi a1] F (qI Q) := by
  refine am_of (by decide +kernel) (Nat.le_of_ble_eq_true rfl) ?_
  show aw nX12_isSeenAt (d + 3) 0 0 0 [some (vr (some o)), some (vi a1), none] [] F (qI Q)
  unfold mX12_isSeenAt at h
  refine aw_bipush dX12_isSeenAt_0 (by decide) (aw_pc (pc' := 2) rfl ?_)
  refine aw_istore_n dX12_isSeenAt_2 rfl (by decide) (aw_pc (pc' := 3) rfl ?_)
  obtain ⟨k1, h⟩ := h
  exact aw_mask [true, true, true] (tX12_isSeenAt_L3 k1 _ _ _ _ h)
def mX12_isHistory_J58 (X20 : Nat → Int → Int → Int → hp → Prop) (Q : Int → hp → Prop) (o : Nat) (a1 : Int) (a2 : Int) (a3 : Int) (s0 : Int) (F : hp) : Prop := rcv F (some o) 12 (fun o3 => mX12_isShunted o3 ((w32 s0).tdiv 3) ((w32 s0).tmod 3) F (fun x2 F1 => (w32 x2 = 0 → Q 0 F1) ∧ (¬ w32 x2 = 0 → rcv F1 (some o) 12 (fun o6 => mX12_isSeenAt o6 a3 F1 (fun x5 F4 => (w32 x5 = 0 → Q 0 F4) ∧ (¬ w32 x5 = 0 → X20 o a1 a2 (a3 + 1) F4))))))
set_option maxHeartbeats 4000000 in
theorem tX12_isHistory_J58 {d : Nat} {X20 : Nat → Int → Int → Int → hp → Prop} {Q : Int → hp → Prop} (hX20 : ∀ (o : Nat) (a1 : Int) (a2 : Int) (a3 : Int) (F : hp), X20 o a1 a2 a3 F → aw nX12_isHistory (d + 4) 0 0 20 [some (vr (some o)), some (vi a1), some (vi a2), some (vi a3), none] [] F (qI Q)) {o : Nat} {a1 : Int} {a2 : Int} {a3 : Int} {s0 : Int} {F : hp} (h : mX12_isHistory_J58 X20 Q o a1 a2 a3 s0 F) : aw nX12_isHistory (d + 4) 0 0 58 [some (vr (some o)), some (vi a1), some (vi a2), some (vi a3), none] [vi s0] F (qI Q) := by
  unfold mX12_isHistory_J58 at h
  refine aw_istore dX12_isHistory_58 (by decide) (aw_pc (pc' := 60) rfl ?_)
  refine aw_aload_n dX12_isHistory_60 rfl rfl (aw_pc (pc' := 61) rfl ?_)
  refine aw_iload dX12_isHistory_61 rfl (aw_pc (pc' := 63) rfl ?_)
  refine aw_iconst dX12_isHistory_63 (aw_pc (pc' := 64) rfl ?_)
  refine ac_div wl_3 (by decide) dX12_isHistory_64 (aw_pc (pc' := 65) rfl ?_)
  refine aw_iload dX12_isHistory_65 rfl (aw_pc (pc' := 67) rfl ?_)
  refine aw_iconst dX12_isHistory_67 (aw_pc (pc' := 68) rfl ?_)
  refine ac_rem wl_3 (by decide) dX12_isHistory_68 (aw_pc (pc' := 69) rfl ?_)
  have h0 := rcv_inv h
  clear h
  obtain ⟨o3, fs_o3, hr_o3, he_o3, h⟩ := h0
  obtain rfl : o = o3 := Option.some.inj hr_o3
  refine ar_VI (kc' := 0) (ks' := 0) (kc := 0) (ks := 0) (a := o) (ci := 12) (as := [vi ((w32 s0).tdiv 3), vi ((w32 s0).tmod 3)]) (st := []) (tX12_isShunted h) mt_X12_isShunted rfl qM_RX12_435 qI_X12_isShunted qV_X12_isShunted he_o3 rfl (Nat.le_of_ble_eq_true rfl) dX12_isHistory_69 ?_
  clear h
  intro x2 F1 h
  refine aw_pc (pc' := 72) rfl ?_
  refine aw_if_eq dX12_isHistory_72 rfl (fun c => ?_) (fun c => ?_)
  · replace h := h.1 c
    refine aw_iconst dX12_isHistory_83 (aw_pc (pc' := 84) rfl ?_)
    exact aw_zret rfl (by decide) dX12_isHistory_84 ⟨_, rfl, h⟩
  · replace h := h.2 c
    refine aw_aload_n dX12_isHistory_75 rfl rfl (aw_pc (pc' := 76) rfl ?_)
    refine aw_iload_n dX12_isHistory_76 rfl rfl (aw_pc (pc' := 77) rfl ?_)
    have h0 := rcv_inv h
    clear h
    obtain ⟨o6, fs_o6, hr_o6, he_o6, h⟩ := h0
    obtain rfl : o = o6 := Option.some.inj hr_o6
    refine ar_VI (kc' := 0) (ks' := 0) (kc := 0) (ks := 0) (a := o) (ci := 12) (as := [vi a3]) (st := []) (tX12_isSeenAt h) mt_X12_isSeenAt rfl qM_RX12_477 qI_X12_isSeenAt qV_X12_isSeenAt he_o6 rfl (Nat.le_of_ble_eq_true rfl) dX12_isHistory_77 ?_
    clear h
    intro x5 F4 h
    refine aw_pc (pc' := 80) rfl ?_
    refine aw_if_ne dX12_isHistory_80 rfl (fun c => ?_) (fun c => ?_)
    · replace h := h.1 c
      refine aw_iconst dX12_isHistory_83 (aw_pc (pc' := 84) rfl ?_)
      exact aw_zret rfl (by decide) dX12_isHistory_84 ⟨_, rfl, h⟩
    · replace h := h.2 c
      refine aw_iinc dX12_isHistory_85 rfl (by decide) (aw_pc (pc' := 88) rfl ?_)
      refine aw_goto (tgt := 20) dX12_isHistory_88 rfl ?_
      exact aw_mask [true, true, true, true, false] (hX20 _ _ _ _ _ h)
def mX12_isHistory_L20 (Q : Int → hp → Prop) : Nat → Nat → Int → Int → Int → hp → Prop
  | 0, _, _, _, _, _ => False
  | k + 1, o, a1, a2, a3, F => (w32 a2 < w32 a3 → Q 1 F) ∧ (¬ w32 a2 < w32 a3 → (w32 a3 = w32 a2 → mX12_isHistory_J58 (fun o' a1' a2' a3' F' => mX12_isHistory_L20 Q k o' a1' a2' a3' F') Q o a1 a2 a3 ((w32 a1).tmod 9) F) ∧ (¬ w32 a3 = w32 a2 → (w32 a3 = w32 (a2 - 1) → mX12_isHistory_J58 (fun o' a1' a2' a3' F' => mX12_isHistory_L20 Q k o' a1' a2' a3' F') Q o a1 a2 a3 ((w32 ((w32 a1).tdiv 9)).tmod 9) F) ∧ (¬ w32 a3 = w32 (a2 - 1) → mX12_isHistory_J58 (fun o' a1' a2' a3' F' => mX12_isHistory_L20 Q k o' a1' a2' a3' F') Q o a1 a2 a3 ((w32 a1).tdiv 81) F)))
set_option maxHeartbeats 4000000 in
theorem tX12_isHistory_L20 {d : Nat} {Q : Int → hp → Prop} : ∀ (k : Nat) (o : Nat) (a1 : Int) (a2 : Int) (a3 : Int) (F : hp), mX12_isHistory_L20 Q k o a1 a2 a3 F → aw nX12_isHistory (d + 4) 0 0 20 [some (vr (some o)), some (vi a1), some (vi a2), some (vi a3), none] [] F (qI Q) := by
  intro k
  induction k with
  | zero => intro o a1 a2 a3 F h; exact h.elim
  | succ k ih =>
    intro o a1 a2 a3 F h
    simp only [mX12_isHistory_L20] at h
    refine aw_iload_n dX12_isHistory_20 rfl rfl (aw_pc (pc' := 21) rfl ?_)
    refine aw_iload_n dX12_isHistory_21 rfl rfl (aw_pc (pc' := 22) rfl ?_)
    refine ac_gt rfl rfl dX12_isHistory_22 rfl (fun c => ?_) (fun c => ?_)
    · replace h := h.1 c
      refine aw_iconst dX12_isHistory_91 (aw_pc (pc' := 92) rfl ?_)
      exact aw_zret rfl (by decide) dX12_isHistory_92 ⟨_, rfl, h⟩
    · replace h := h.2 c
      refine aw_iload_n dX12_isHistory_25 rfl rfl (aw_pc (pc' := 26) rfl ?_)
      refine aw_iload_n dX12_isHistory_26 rfl rfl (aw_pc (pc' := 27) rfl ?_)
      refine ac_ne rfl rfl dX12_isHistory_27 rfl (fun c => ?_) (fun c => ?_)
      · replace h := h.1 c
        refine aw_iload_n dX12_isHistory_30 rfl rfl (aw_pc (pc' := 31) rfl ?_)
        refine aw_bipush dX12_isHistory_31 (by decide) (aw_pc (pc' := 33) rfl ?_)
        refine ac_rem wl_9 (by decide) dX12_isHistory_33 (aw_pc (pc' := 34) rfl ?_)
        refine aw_goto (tgt := 58) dX12_isHistory_34 rfl ?_
        exact aw_mask [true, true, true, true, false] (tX12_isHistory_J58 (fun o' a1' a2' a3' F' h' => ih o' a1' a2' a3' F' h') h)
      · replace h := h.2 c
        refine aw_iload_n dX12_isHistory_37 rfl rfl (aw_pc (pc' := 38) rfl ?_)
        refine aw_iload_n dX12_isHistory_38 rfl rfl (aw_pc (pc' := 39) rfl ?_)
        refine aw_iconst dX12_isHistory_39 (aw_pc (pc' := 40) rfl ?_)
        refine aw_isub dX12_isHistory_40 (aw_pc (pc' := 41) rfl ?_)
        refine ac_ne rfl rfl dX12_isHistory_41 rfl (fun c => ?_) (fun c => ?_)
        · replace h := h.1 c
          refine aw_iload_n dX12_isHistory_44 rfl rfl (aw_pc (pc' := 45) rfl ?_)
          refine aw_bipush dX12_isHistory_45 (by decide) (aw_pc (pc' := 47) rfl ?_)
          refine ac_div wl_9 (by decide) dX12_isHistory_47 (aw_pc (pc' := 48) rfl ?_)
          refine aw_bipush dX12_isHistory_48 (by decide) (aw_pc (pc' := 50) rfl ?_)
          refine ac_rem wl_9 (by decide) dX12_isHistory_50 (aw_pc (pc' := 51) rfl ?_)
          refine aw_goto (tgt := 58) dX12_isHistory_51 rfl ?_
          exact aw_mask [true, true, true, true, false] (tX12_isHistory_J58 (fun o' a1' a2' a3' F' h' => ih o' a1' a2' a3' F' h') h)
        · replace h := h.2 c
          refine aw_iload_n dX12_isHistory_54 rfl rfl (aw_pc (pc' := 55) rfl ?_)
          refine aw_bipush dX12_isHistory_55 (by decide) (aw_pc (pc' := 57) rfl ?_)
          refine ac_div wl_81 (by decide) dX12_isHistory_57 (aw_pc (pc' := 58) rfl ?_)
          exact aw_mask [true, true, true, true, false] (tX12_isHistory_J58 (fun o' a1' a2' a3' F' h' => ih o' a1' a2' a3' F' h') h)
def mX12_isHistory (o : Nat) (a1 : Int) (a2 : Int) (F : hp) (Q : Int → hp → Prop) : Prop := gR F (some o) 12 1 (fun x1 => rcv F (some o) 12 (fun o3 => mX12_takeFrom o3 x1 F (fun F2 => rcv F2 (some o) 12 (fun o6 => mX12_isSeenAt o6 0 F2 (fun x5 F4 => (w32 x5 = 0 → Q 0 F4) ∧ (¬ w32 x5 = 0 → (∃ k7, mX12_isHistory_L20 Q k7 o a1 a2 1 F4)))))))
set_option maxHeartbeats 4000000 in
theorem tX12_isHistory {d : Nat} {o : Nat} {a1 : Int} {a2 : Int} {F : hp} {Q : Int → hp → Prop} (h : mX12_isHistory o a1 a2 F Q) : am nX12_isHistory (d + 4) 0 0 [vr (some o), vi a1, vi a2] F (qI Q) := by
  refine am_of (by decide +kernel) (Nat.le_of_ble_eq_true rfl) ?_
  show aw nX12_isHistory (d + 4) 0 0 0 [some (vr (some o)), some (vi a1), some (vi a2), none, none] [] F (qI Q)
  unfold mX12_isHistory at h
  refine aw_aload_n dX12_isHistory_0 rfl rfl (aw_pc (pc' := 1) rfl ?_)
  refine aw_aload_n dX12_isHistory_1 rfl rfl (aw_pc (pc' := 2) rfl ?_)
  refine ar_gR fl_RX12_13 dX12_isHistory_2 h ?_
  clear h
  intro x1 h
  refine aw_pc (pc' := 5) rfl ?_
  have h0 := rcv_inv h
  clear h
  obtain ⟨o3, fs_o3, hr_o3, he_o3, h⟩ := h0
  obtain rfl : o = o3 := Option.some.inj hr_o3
  refine ar_VV (kc' := 0) (ks' := 0) (kc := 0) (ks := 0) (a := o) (ci := 12) (as := [vr x1]) (st := []) (tX12_takeFrom h) mt_X12_takeFrom rfl qM_RX12_419 qI_X12_takeFrom qV_X12_takeFrom he_o3 rfl (Nat.le_of_ble_eq_true rfl) dX12_isHistory_5 ?_
  clear h
  intro F2 h
  refine aw_pc (pc' := 8) rfl ?_
  refine aw_aload_n dX12_isHistory_8 rfl rfl (aw_pc (pc' := 9) rfl ?_)
  refine aw_iconst dX12_isHistory_9 (aw_pc (pc' := 10) rfl ?_)
  have h0 := rcv_inv h
  clear h
  obtain ⟨o6, fs_o6, hr_o6, he_o6, h⟩ := h0
  obtain rfl : o = o6 := Option.some.inj hr_o6
  refine ar_VI (kc' := 0) (ks' := 0) (kc := 0) (ks := 0) (a := o) (ci := 12) (as := [vi 0]) (st := []) (tX12_isSeenAt h) mt_X12_isSeenAt rfl qM_RX12_477 qI_X12_isSeenAt qV_X12_isSeenAt he_o6 rfl (Nat.le_of_ble_eq_true rfl) dX12_isHistory_10 ?_
  clear h
  intro x5 F4 h
  refine aw_pc (pc' := 13) rfl ?_
  refine aw_if_ne dX12_isHistory_13 rfl (fun c => ?_) (fun c => ?_)
  · replace h := h.1 c
    refine aw_iconst dX12_isHistory_16 (aw_pc (pc' := 17) rfl ?_)
    exact aw_zret rfl (by decide) dX12_isHistory_17 ⟨_, rfl, h⟩
  · replace h := h.2 c
    refine aw_iconst dX12_isHistory_18 (aw_pc (pc' := 19) rfl ?_)
    refine aw_istore_n dX12_isHistory_19 rfl (by decide) (aw_pc (pc' := 20) rfl ?_)
    obtain ⟨k7, h⟩ := h
    exact aw_mask [true, true, true, true, false] (tX12_isHistory_L20 k7 _ _ _ _ _ h)
def mX12_histories_J114 (X85 : Nat → Int → Int → Int → Int → Int → hp → Prop) (Q : Int → hp → Prop) (o : Nat) (a1 : Int) (a2 : Int) (a3 : Int) (a4 : Int) (a5 : Int) (F : hp) : Prop := X85 o a1 a2 a3 a4 (a5 + 1) F
set_option maxHeartbeats 4000000 in
theorem tX12_histories_J114 {d : Nat} {X85 : Nat → Int → Int → Int → Int → Int → hp → Prop} {Q : Int → hp → Prop} (hX85 : ∀ (o : Nat) (a1 : Int) (a2 : Int) (a3 : Int) (a4 : Int) (a5 : Int) (F : hp), X85 o a1 a2 a3 a4 a5 F → aw nX12_histories (d + 5) 0 0 85 [some (vr (some o)), some (vi a1), some (vi a2), some (vi a3), some (vi a4), some (vi a5)] [] F (qI Q)) {o : Nat} {a1 : Int} {a2 : Int} {a3 : Int} {a4 : Int} {a5 : Int} {F : hp} (h : mX12_histories_J114 X85 Q o a1 a2 a3 a4 a5 F) : aw nX12_histories (d + 5) 0 0 114 [some (vr (some o)), some (vi a1), some (vi a2), some (vi a3), some (vi a4), some (vi a5)] [] F (qI Q) := by
  unfold mX12_histories_J114 at h
  refine aw_iinc dX12_histories_114 rfl (by decide) (aw_pc (pc' := 117) rfl ?_)
  refine aw_goto (tgt := 85) dX12_histories_117 rfl ?_
  exact aw_mask [true, true, true, true, true, true] (hX85 _ _ _ _ _ _ _ h)
def mX12_histories_L85 (Q : Int → hp → Prop) : Nat → Nat → Int → Int → Int → Int → Int → hp → Prop
  | 0, _, _, _, _, _, _, _ => False
  | k + 1, o, a1, a2, a3, a4, a5, F => (w32 a5 < w32 a3 → rcv F (some o) 12 (fun o3 => mX12_isHistory o3 a5 a2 F (fun x2 F1 => (w32 x2 = 0 → mX12_histories_J114 (fun o' a1' a2' a3' a4' a5' F' => mX12_histories_L85 Q k o' a1' a2' a3' a4' a5' F') Q o a1 a2 a3 a4 a5 F1) ∧ (¬ w32 x2 = 0 → (w32 a1 = 0 → mX12_histories_J114 (fun o' a1' a2' a3' a4' a5' F' => mX12_histories_L85 Q k o' a1' a2' a3' a4' a5' F') Q o a1 a2 a3 (a4 + 1) a5 F1) ∧ (¬ w32 a1 = 0 → Q a5 F1))))) ∧ (¬ w32 a5 < w32 a3 → (w32 a1 = 0 → Q a4 F) ∧ (¬ w32 a1 = 0 → Q (-1) F))
set_option maxHeartbeats 4000000 in
theorem tX12_histories_L85 {d : Nat} {Q : Int → hp → Prop} : ∀ (k : Nat) (o : Nat) (a1 : Int) (a2 : Int) (a3 : Int) (a4 : Int) (a5 : Int) (F : hp), mX12_histories_L85 Q k o a1 a2 a3 a4 a5 F → aw nX12_histories (d + 5) 0 0 85 [some (vr (some o)), some (vi a1), some (vi a2), some (vi a3), some (vi a4), some (vi a5)] [] F (qI Q) := by
  intro k
  induction k with
  | zero => intro o a1 a2 a3 a4 a5 F h; exact h.elim
  | succ k ih =>
    intro o a1 a2 a3 a4 a5 F h
    simp only [mX12_histories_L85] at h
    refine aw_iload dX12_histories_85 rfl (aw_pc (pc' := 87) rfl ?_)
    refine aw_iload_n dX12_histories_87 rfl rfl (aw_pc (pc' := 88) rfl ?_)
    refine ac_ge rfl rfl dX12_histories_88 rfl (fun c => ?_) (fun c => ?_)
    · replace h := h.1 c
      refine aw_aload_n dX12_histories_91 rfl rfl (aw_pc (pc' := 92) rfl ?_)
      refine aw_iload dX12_histories_92 rfl (aw_pc (pc' := 94) rfl ?_)
      refine aw_iload_n dX12_histories_94 rfl rfl (aw_pc (pc' := 95) rfl ?_)
      have h0 := rcv_inv h
      clear h
      obtain ⟨o3, fs_o3, hr_o3, he_o3, h⟩ := h0
      obtain rfl : o = o3 := Option.some.inj hr_o3
      refine ar_VI (kc' := 0) (ks' := 0) (kc := 0) (ks := 0) (a := o) (ci := 12) (as := [vi a5, vi a2]) (st := []) (tX12_isHistory h) mt_X12_isHistory rfl qM_RX12_480 qI_X12_isHistory qV_X12_isHistory he_o3 rfl (Nat.le_of_ble_eq_true rfl) dX12_histories_95 ?_
      clear h
      intro x2 F1 h
      refine aw_pc (pc' := 98) rfl ?_
      refine aw_if_ne dX12_histories_98 rfl (fun c => ?_) (fun c => ?_)
      · replace h := h.1 c
        refine aw_goto (tgt := 114) dX12_histories_101 rfl ?_
        exact aw_mask [true, true, true, true, true, true] (tX12_histories_J114 (fun o' a1' a2' a3' a4' a5' F' h' => ih o' a1' a2' a3' a4' a5' F' h') h)
      · replace h := h.2 c
        refine aw_iload_n dX12_histories_104 rfl rfl (aw_pc (pc' := 105) rfl ?_)
        refine aw_if_eq dX12_histories_105 rfl (fun c => ?_) (fun c => ?_)
        · replace h := h.1 c
          refine aw_iinc dX12_histories_111 rfl (by decide) (aw_pc (pc' := 114) rfl ?_)
          exact aw_mask [true, true, true, true, true, true] (tX12_histories_J114 (fun o' a1' a2' a3' a4' a5' F' h' => ih o' a1' a2' a3' a4' a5' F' h') h)
        · replace h := h.2 c
          refine aw_iload dX12_histories_108 rfl (aw_pc (pc' := 110) rfl ?_)
          exact aw_iret rfl dX12_histories_110 ⟨_, rfl, h⟩
    · replace h := h.2 c
      refine aw_iload_n dX12_histories_120 rfl rfl (aw_pc (pc' := 121) rfl ?_)
      refine aw_if_eq dX12_histories_121 rfl (fun c => ?_) (fun c => ?_)
      · replace h := h.1 c
        refine aw_iload dX12_histories_128 rfl (aw_pc (pc' := 130) rfl ?_)
        exact aw_iret rfl dX12_histories_130 ⟨_, rfl, h⟩
      · replace h := h.2 c
        refine aw_iconst dX12_histories_124 (aw_pc (pc' := 125) rfl ?_)
        refine aw_goto (tgt := 130) dX12_histories_125 rfl ?_
        exact aw_iret rfl dX12_histories_130 ⟨_, rfl, h⟩
def mX12_histories_J78 (Q : Int → hp → Prop) (o : Nat) (a1 : Int) (a2 : Int) (s0 : Int) (F : hp) : Prop := (∃ k1, mX12_histories_L85 Q k1 o a1 a2 s0 0 0 F)
set_option maxHeartbeats 4000000 in
theorem tX12_histories_J78 {d : Nat} {Q : Int → hp → Prop} {o : Nat} {a1 : Int} {a2 : Int} {s0 : Int} {F : hp} (h : mX12_histories_J78 Q o a1 a2 s0 F) : aw nX12_histories (d + 5) 0 0 78 [some (vr (some o)), some (vi a1), some (vi a2), none, none, none] [vi s0] F (qI Q) := by
  unfold mX12_histories_J78 at h
  refine aw_istore_n dX12_histories_78 rfl (by decide) (aw_pc (pc' := 79) rfl ?_)
  refine aw_iconst dX12_histories_79 (aw_pc (pc' := 80) rfl ?_)
  refine aw_istore dX12_histories_80 (by decide) (aw_pc (pc' := 82) rfl ?_)
  refine aw_iconst dX12_histories_82 (aw_pc (pc' := 83) rfl ?_)
  refine aw_istore dX12_histories_83 (by decide) (aw_pc (pc' := 85) rfl ?_)
  obtain ⟨k1, h⟩ := h
  exact aw_mask [true, true, true, true, true, true] (tX12_histories_L85 k1 _ _ _ _ _ _ _ h)
def mX12_histories_J40 (X5 : Nat → Int → Int → Int → hp → Prop) (Q : Int → hp → Prop) (o : Nat) (a1 : Int) (a3 : Int) (s0 : Int) (F : hp) : Prop := X5 o a1 s0 (a3 + 3) F
set_option maxHeartbeats 4000000 in
theorem tX12_histories_J40 {d : Nat} {X5 : Nat → Int → Int → Int → hp → Prop} {Q : Int → hp → Prop} (hX5 : ∀ (o : Nat) (a1 : Int) (a2 : Int) (a3 : Int) (F : hp), X5 o a1 a2 a3 F → aw nX12_histories (d + 5) 0 0 5 [some (vr (some o)), some (vi a1), some (vi a2), some (vi a3), none, none] [] F (qI Q)) {o : Nat} {a1 : Int} {a3 : Int} {s0 : Int} {F : hp} (h : mX12_histories_J40 X5 Q o a1 a3 s0 F) : aw nX12_histories (d + 5) 0 0 40 [some (vr (some o)), some (vi a1), none, some (vi a3), none, none] [vi s0] F (qI Q) := by
  unfold mX12_histories_J40 at h
  refine aw_istore_n dX12_histories_40 rfl (by decide) (aw_pc (pc' := 41) rfl ?_)
  refine aw_iinc dX12_histories_41 rfl (by decide) (aw_pc (pc' := 44) rfl ?_)
  refine aw_goto (tgt := 5) dX12_histories_44 rfl ?_
  exact aw_mask [true, true, true, true, false, false] (hX5 _ _ _ _ _ h)
def mX12_histories_L5 (Q : Int → hp → Prop) : Nat → Nat → Int → Int → Int → hp → Prop
  | 0, _, _, _, _, _ => False
  | k + 1, o, a1, a2, a3, F => gR F (some o) 12 0 (fun x1 => aI F x1 0 5 (fun x2 => (w32 a3 < w32 (91 + (3 * x2)) → gR F (some o) 12 0 (fun x3 => aI F x3 0 a3 (fun x4 => (w32 a2 < w32 x4 → gR F (some o) 12 0 (fun x5 => aI F x5 0 a3 (fun x6 => mX12_histories_J40 (fun o' a1' a2' a3' F' => mX12_histories_L5 Q k o' a1' a2' a3' F') Q o a1 a3 x6 F))) ∧ (¬ w32 a2 < w32 x4 → mX12_histories_J40 (fun o' a1' a2' a3' F' => mX12_histories_L5 Q k o' a1' a2' a3' F') Q o a1 a3 a2 F)))) ∧ (¬ w32 a3 < w32 (91 + (3 * x2)) → (w32 a2 = 0 → mX12_histories_J78 Q o a1 a2 1 F) ∧ (¬ w32 a2 = 0 → (w32 a2 = 1 → mX12_histories_J78 Q o a1 a2 9 F) ∧ (¬ w32 a2 = 1 → (w32 a2 = 2 → mX12_histories_J78 Q o a1 a2 81 F) ∧ (¬ w32 a2 = 2 → mX12_histories_J78 Q o a1 a2 729 F))))))
set_option maxHeartbeats 4000000 in
theorem tX12_histories_L5 {d : Nat} {Q : Int → hp → Prop} : ∀ (k : Nat) (o : Nat) (a1 : Int) (a2 : Int) (a3 : Int) (F : hp), mX12_histories_L5 Q k o a1 a2 a3 F → aw nX12_histories (d + 5) 0 0 5 [some (vr (some o)), some (vi a1), some (vi a2), some (vi a3), none, none] [] F (qI Q) := by
  intro k
  induction k with
  | zero => intro o a1 a2 a3 F h; exact h.elim
  | succ k ih =>
    intro o a1 a2 a3 F h
    simp only [mX12_histories_L5] at h
    refine aw_iload_n dX12_histories_5 rfl rfl (aw_pc (pc' := 6) rfl ?_)
    refine aw_bipush dX12_histories_6 (by decide) (aw_pc (pc' := 8) rfl ?_)
    refine aw_iconst dX12_histories_8 (aw_pc (pc' := 9) rfl ?_)
    refine aw_aload_n dX12_histories_9 rfl rfl (aw_pc (pc' := 10) rfl ?_)
    refine ar_gR fl_RX12_7 dX12_histories_10 h ?_
    clear h
    intro x1 h
    refine aw_pc (pc' := 13) rfl ?_
    refine aw_iconst dX12_histories_13 (aw_pc (pc' := 14) rfl ?_)
    refine ar_aI dX12_histories_14 h ?_
    clear h
    intro x2 h
    refine aw_pc (pc' := 15) rfl ?_
    refine aw_imul dX12_histories_15 (aw_pc (pc' := 16) rfl ?_)
    refine aw_iadd dX12_histories_16 (aw_pc (pc' := 17) rfl ?_)
    refine ac_ge rfl rfl dX12_histories_17 rfl (fun c => ?_) (fun c => ?_)
    · replace h := h.1 c
      refine aw_aload_n dX12_histories_20 rfl rfl (aw_pc (pc' := 21) rfl ?_)
      refine ar_gR fl_RX12_7 dX12_histories_21 h ?_
      clear h
      intro x3 h
      refine aw_pc (pc' := 24) rfl ?_
      refine aw_iload_n dX12_histories_24 rfl rfl (aw_pc (pc' := 25) rfl ?_)
      refine ar_aI dX12_histories_25 h ?_
      clear h
      intro x4 h
      refine aw_pc (pc' := 26) rfl ?_
      refine aw_iload_n dX12_histories_26 rfl rfl (aw_pc (pc' := 27) rfl ?_)
      refine ac_le rfl rfl dX12_histories_27 rfl (fun c => ?_) (fun c => ?_)
      · replace h := h.1 c
        refine aw_aload_n dX12_histories_30 rfl rfl (aw_pc (pc' := 31) rfl ?_)
        refine ar_gR fl_RX12_7 dX12_histories_31 h ?_
        clear h
        intro x5 h
        refine aw_pc (pc' := 34) rfl ?_
        refine aw_iload_n dX12_histories_34 rfl rfl (aw_pc (pc' := 35) rfl ?_)
        refine ar_aI dX12_histories_35 h ?_
        clear h
        intro x6 h
        refine aw_pc (pc' := 36) rfl ?_
        refine aw_goto (tgt := 40) dX12_histories_36 rfl ?_
        exact aw_mask [true, true, false, true, false, false] (tX12_histories_J40 (fun o' a1' a2' a3' F' h' => ih o' a1' a2' a3' F' h') h)
      · replace h := h.2 c
        refine aw_iload_n dX12_histories_39 rfl rfl (aw_pc (pc' := 40) rfl ?_)
        exact aw_mask [true, true, false, true, false, false] (tX12_histories_J40 (fun o' a1' a2' a3' F' h' => ih o' a1' a2' a3' F' h') h)
    · replace h := h.2 c
      refine aw_iload_n dX12_histories_47 rfl rfl (aw_pc (pc' := 48) rfl ?_)
      refine aw_if_ne dX12_histories_48 rfl (fun c => ?_) (fun c => ?_)
      · replace h := h.1 c
        refine aw_iconst dX12_histories_51 (aw_pc (pc' := 52) rfl ?_)
        refine aw_goto (tgt := 78) dX12_histories_52 rfl ?_
        exact aw_mask [true, true, true, false, false, false] (tX12_histories_J78 h)
      · replace h := h.2 c
        refine aw_iload_n dX12_histories_55 rfl rfl (aw_pc (pc' := 56) rfl ?_)
        refine aw_iconst dX12_histories_56 (aw_pc (pc' := 57) rfl ?_)
        refine ac_ne rfl wl_1 dX12_histories_57 rfl (fun c => ?_) (fun c => ?_)
        · replace h := h.1 c
          refine aw_bipush dX12_histories_60 (by decide) (aw_pc (pc' := 62) rfl ?_)
          refine aw_goto (tgt := 78) dX12_histories_62 rfl ?_
          exact aw_mask [true, true, true, false, false, false] (tX12_histories_J78 h)
        · replace h := h.2 c
          refine aw_iload_n dX12_histories_65 rfl rfl (aw_pc (pc' := 66) rfl ?_)
          refine aw_iconst dX12_histories_66 (aw_pc (pc' := 67) rfl ?_)
          refine ac_ne rfl wl_2 dX12_histories_67 rfl (fun c => ?_) (fun c => ?_)
          · replace h := h.1 c
            refine aw_bipush dX12_histories_70 (by decide) (aw_pc (pc' := 72) rfl ?_)
            refine aw_goto (tgt := 78) dX12_histories_72 rfl ?_
            exact aw_mask [true, true, true, false, false, false] (tX12_histories_J78 h)
          · replace h := h.2 c
            refine aw_sipush dX12_histories_75 (by decide) (aw_pc (pc' := 78) rfl ?_)
            exact aw_mask [true, true, true, false, false, false] (tX12_histories_J78 h)
def mX12_histories (o : Nat) (a1 : Int) (F : hp) (Q : Int → hp → Prop) : Prop := (∃ k1, mX12_histories_L5 Q k1 o a1 0 91 F)
set_option maxHeartbeats 4000000 in
theorem tX12_histories {d : Nat} {o : Nat} {a1 : Int} {F : hp} {Q : Int → hp → Prop} (h : mX12_histories o a1 F Q) : am nX12_histories (d + 5) 0 0 [vr (some o), vi a1] F (qI Q) := by
  refine am_of (by decide +kernel) (Nat.le_of_ble_eq_true rfl) ?_
  show aw nX12_histories (d + 5) 0 0 0 [some (vr (some o)), some (vi a1), none, none, none, none] [] F (qI Q)
  unfold mX12_histories at h
  refine aw_iconst dX12_histories_0 (aw_pc (pc' := 1) rfl ?_)
  refine aw_istore_n dX12_histories_1 rfl (by decide) (aw_pc (pc' := 2) rfl ?_)
  refine aw_bipush dX12_histories_2 (by decide) (aw_pc (pc' := 4) rfl ?_)
  refine aw_istore_n dX12_histories_4 rfl (by decide) (aw_pc (pc' := 5) rfl ?_)
  obtain ⟨k1, h⟩ := h
  exact aw_mask [true, true, true, true, false, false] (tX12_histories_L5 k1 _ _ _ _ _ h)
def mX12_late (o : Nat) (a1 : Int) (a2 : Int) (F : hp) (Q : Int → hp → Prop) : Prop := rcv F (some o) 12 (fun o3 => mX12_isCar o3 a1 F (fun x2 F1 => (w32 x2 = 0 → Q 0 F1) ∧ (¬ w32 x2 = 0 → mX12_isIn a2 0 10 F1 (fun x5 F4 => (w32 x5 = 0 → Q 0 F4) ∧ (¬ w32 x5 = 0 → gR F4 (some o) 12 0 (fun x6 => sI F4 x6 0 (103 + a1) a2 (fun F7 => Q 1 F7)))))))
set_option maxHeartbeats 4000000 in
theorem tX12_late {d : Nat} {o : Nat} {a1 : Int} {a2 : Int} {F : hp} {Q : Int → hp → Prop} (h : mX12_late o a1 a2 F Q) : am nX12_late (d + 2) 0 0 [vr (some o), vi a1, vi a2] F (qI Q) := by
  refine am_of (by decide +kernel) (Nat.le_of_ble_eq_true rfl) ?_
  show aw nX12_late (d + 2) 0 0 0 [some (vr (some o)), some (vi a1), some (vi a2)] [] F (qI Q)
  unfold mX12_late at h
  refine aw_aload_n dX12_late_0 rfl rfl (aw_pc (pc' := 1) rfl ?_)
  refine aw_iload_n dX12_late_1 rfl rfl (aw_pc (pc' := 2) rfl ?_)
  have h0 := rcv_inv h
  clear h
  obtain ⟨o3, fs_o3, hr_o3, he_o3, h⟩ := h0
  obtain rfl : o = o3 := Option.some.inj hr_o3
  refine ar_VI (kc' := 0) (ks' := 0) (kc := 0) (ks := 0) (a := o) (ci := 12) (as := [vi a1]) (st := []) (tX12_isCar h) mt_X12_isCar rfl qM_RX12_102 qI_X12_isCar qV_X12_isCar he_o3 rfl (Nat.le_of_ble_eq_true rfl) dX12_late_2 ?_
  clear h
  intro x2 F1 h
  refine aw_pc (pc' := 5) rfl ?_
  refine aw_if_eq dX12_late_5 rfl (fun c => ?_) (fun c => ?_)
  · replace h := h.1 c
    refine aw_iconst dX12_late_18 (aw_pc (pc' := 19) rfl ?_)
    exact aw_zret rfl (by decide) dX12_late_19 ⟨_, rfl, h⟩
  · replace h := h.2 c
    refine aw_iload_n dX12_late_8 rfl rfl (aw_pc (pc' := 9) rfl ?_)
    refine aw_iconst dX12_late_9 (aw_pc (pc' := 10) rfl ?_)
    refine aw_bipush dX12_late_10 (by decide) (aw_pc (pc' := 12) rfl ?_)
    refine ar_SI (kc' := 0) (ks' := 0) (kc := 0) (ks := 0) (as := [vi a2, vi 0, vi 10]) (st := []) (tX12_isIn h) mt_X12_isIn qM_RX12_78 qS_X12_isIn rfl (Nat.le_of_ble_eq_true rfl) dX12_late_12 ?_
    clear h
    intro x5 F4 h
    refine aw_pc (pc' := 15) rfl ?_
    refine aw_if_ne dX12_late_15 rfl (fun c => ?_) (fun c => ?_)
    · replace h := h.1 c
      refine aw_iconst dX12_late_18 (aw_pc (pc' := 19) rfl ?_)
      exact aw_zret rfl (by decide) dX12_late_19 ⟨_, rfl, h⟩
    · replace h := h.2 c
      refine aw_aload_n dX12_late_20 rfl rfl (aw_pc (pc' := 21) rfl ?_)
      refine ar_gR fl_RX12_7 dX12_late_21 h ?_
      clear h
      intro x6 h
      refine aw_pc (pc' := 24) rfl ?_
      refine aw_bipush dX12_late_24 (by decide) (aw_pc (pc' := 26) rfl ?_)
      refine aw_iload_n dX12_late_26 rfl rfl (aw_pc (pc' := 27) rfl ?_)
      refine aw_iadd dX12_late_27 (aw_pc (pc' := 28) rfl ?_)
      refine aw_iload_n dX12_late_28 rfl rfl (aw_pc (pc' := 29) rfl ?_)
      refine ar_sI dX12_late_29 h ?_
      clear h
      intro F7 h
      refine aw_pc (pc' := 30) rfl ?_
      refine aw_iconst dX12_late_30 (aw_pc (pc' := 31) rfl ?_)
      exact aw_zret rfl (by decide) dX12_late_31 ⟨_, rfl, h⟩
def mX12_divisor_L6 (Q : Int → hp → Prop) : Nat → Int → Int → hp → Prop
  | 0, _, _, _ => False
  | k + 1, a4, a6, F => (w32 (iCmp a6 0) = 0 → Q a4 F) ∧ (¬ w32 (iCmp a6 0) = 0 → w64 a6 ≠ 0 ∧ ∀ v1 : Int, v1 = ((w64 a4).tmod (w64 a6)) → mX12_divisor_L6 Q k a6 v1 F)
set_option maxHeartbeats 4000000 in
theorem tX12_divisor_L6 {d : Nat} {Q : Int → hp → Prop} : ∀ (k : Nat) (a4 : Int) (a6 : Int) (F : hp), mX12_divisor_L6 Q k a4 a6 F → aw nX12_divisor d 0 0 6 [none, none, none, none, some (vl a4), none, some (vl a6), none, none, none] [] F (qL Q) := by
  intro k
  induction k with
  | zero => intro a4 a6 F h; exact h.elim
  | succ k ih =>
    intro a4 a6 F h
    simp only [mX12_divisor_L6] at h
    refine aw_lload dX12_divisor_6 rfl (aw_pc (pc' := 8) rfl ?_)
    refine aw_lconst (v := 0) dX12_divisor_8 (by decide) (aw_pc (pc' := 9) rfl ?_)
    refine aw_lcmp dX12_divisor_9 (aw_pc (pc' := 10) rfl ?_)
    refine aw_if_eq dX12_divisor_10 rfl (fun c => ?_) (fun c => ?_)
    · replace h := h.1 c
      refine aw_lload dX12_divisor_31 rfl (aw_pc (pc' := 33) rfl ?_)
      exact aw_lret rfl dX12_divisor_33 ⟨_, rfl, h⟩
    · replace h := h.2 c
      refine aw_lload dX12_divisor_13 rfl (aw_pc (pc' := 15) rfl ?_)
      refine aw_lload dX12_divisor_15 rfl (aw_pc (pc' := 17) rfl ?_)
      refine ac_lrem rfl h.1 dX12_divisor_17 (aw_pc (pc' := 18) rfl ?_)
      replace h := h.2
      generalize hv_v1 : ((w64 a4).tmod (w64 a6)) = v1
      replace h := h v1 hv_v1.symm
      refine aw_lstore dX12_divisor_18 (by decide) (aw_pc (pc' := 20) rfl ?_)
      refine aw_lload dX12_divisor_20 rfl (aw_pc (pc' := 22) rfl ?_)
      refine aw_lstore dX12_divisor_22 (by decide) (aw_pc (pc' := 24) rfl ?_)
      refine aw_lload dX12_divisor_24 rfl (aw_pc (pc' := 26) rfl ?_)
      refine aw_lstore dX12_divisor_26 (by decide) (aw_pc (pc' := 28) rfl ?_)
      refine aw_goto (tgt := 6) dX12_divisor_28 rfl ?_
      exact aw_mask [false, false, false, false, true, false, true, false, false, false] (ih _ _ _ h)
def mX12_divisor (a0 : Int) (a2 : Int) (F : hp) (Q : Int → hp → Prop) : Prop := (∃ k1, mX12_divisor_L6 Q k1 a0 a2 F)
set_option maxHeartbeats 4000000 in
theorem tX12_divisor {d : Nat} {a0 : Int} {a2 : Int} {F : hp} {Q : Int → hp → Prop} (h : mX12_divisor a0 a2 F Q) : am nX12_divisor d 0 0 [vl a0, vl a2] F (qL Q) := by
  refine am_of (by decide +kernel) (Nat.le_of_ble_eq_true rfl) ?_
  show aw nX12_divisor d 0 0 0 [some (vl a0), none, some (vl a2), none, none, none, none, none, none, none] [] F (qL Q)
  unfold mX12_divisor at h
  refine aw_lload_n dX12_divisor_0 rfl rfl (aw_pc (pc' := 1) rfl ?_)
  refine aw_lstore dX12_divisor_1 (by decide) (aw_pc (pc' := 3) rfl ?_)
  refine aw_lload_n dX12_divisor_3 rfl rfl (aw_pc (pc' := 4) rfl ?_)
  refine aw_lstore dX12_divisor_4 (by decide) (aw_pc (pc' := 6) rfl ?_)
  obtain ⟨k1, h⟩ := h
  exact aw_mask [false, false, false, false, true, false, true, false, false, false] (tX12_divisor_L6 k1 _ _ _ h)
def mX12_likely_J94 (Q : Int → hp → Prop) (a3 : Int) (a5 : Int) (s0 : Int) (F : hp) : Prop := mX12_divisor a3 a5 F (fun x2 F1 => w64 x2 ≠ 0 ∧ Q ((w64 s0).tdiv (w64 x2)) F1)
set_option maxHeartbeats 4000000 in
theorem tX12_likely_J94 {d : Nat} {Q : Int → hp → Prop} {a3 : Int} {a5 : Int} {s0 : Int} {F : hp} (h : mX12_likely_J94 Q a3 a5 s0 F) : aw nX12_likely (d + 1) 0 0 94 [none, none, none, some (vl a3), none, some (vl a5), none, none] [vl s0] F (qL Q) := by
  unfold mX12_likely_J94 at h
  refine aw_lload_n dX12_likely_94 rfl rfl (aw_pc (pc' := 95) rfl ?_)
  refine aw_lload dX12_likely_95 rfl (aw_pc (pc' := 97) rfl ?_)
  refine ar_SL (kc' := 0) (ks' := 0) (kc := 0) (ks := 0) (as := [vl a3, vl a5]) (st := [vl s0]) (tX12_divisor h) mt_X12_divisor qM_RX12_485 qS_X12_divisor rfl (Nat.le_of_ble_eq_true rfl) dX12_likely_97 ?_
  clear h
  intro x2 F1 h
  refine aw_pc (pc' := 100) rfl ?_
  refine ac_ldiv rfl h.1 dX12_likely_100 (aw_pc (pc' := 101) rfl ?_)
  replace h := h.2
  exact aw_lret rfl dX12_likely_101 ⟨_, rfl, h⟩
def mX12_likely_J78 (X30 : Nat → Int → Int → Int → Int → Int → hp → Prop) (Q : Int → hp → Prop) (o : Nat) (a1 : Int) (a2 : Int) (a3 : Int) (a5 : Int) (a7 : Int) (F : hp) : Prop := X30 o a1 a2 a3 a5 (a7 + 1) F
set_option maxHeartbeats 4000000 in
theorem tX12_likely_J78 {d : Nat} {X30 : Nat → Int → Int → Int → Int → Int → hp → Prop} {Q : Int → hp → Prop} (hX30 : ∀ (o : Nat) (a1 : Int) (a2 : Int) (a3 : Int) (a5 : Int) (a7 : Int) (F : hp), X30 o a1 a2 a3 a5 a7 F → aw nX12_likely (d + 1) 0 0 30 [some (vr (some o)), some (vi a1), some (vi a2), some (vl a3), none, some (vl a5), none, some (vi a7)] [] F (qL Q)) {o : Nat} {a1 : Int} {a2 : Int} {a3 : Int} {a5 : Int} {a7 : Int} {F : hp} (h : mX12_likely_J78 X30 Q o a1 a2 a3 a5 a7 F) : aw nX12_likely (d + 1) 0 0 78 [some (vr (some o)), some (vi a1), some (vi a2), some (vl a3), none, some (vl a5), none, some (vi a7)] [] F (qL Q) := by
  unfold mX12_likely_J78 at h
  refine aw_iinc dX12_likely_78 rfl (by decide) (aw_pc (pc' := 81) rfl ?_)
  refine aw_goto (tgt := 30) dX12_likely_81 rfl ?_
  exact aw_mask [true, true, true, true, false, true, false, true] (hX30 _ _ _ _ _ _ _ h)
def mX12_likely_L30 (Q : Int → hp → Prop) : Nat → Nat → Int → Int → Int → Int → Int → hp → Prop
  | 0, _, _, _, _, _, _, _ => False
  | k + 1, o, a1, a2, a3, a5, a7, F => gR F (some o) 12 0 (fun x1 => aI F x1 0 0 (fun x2 => (w32 a7 < w32 x2 → mX12_has a1 a7 F (fun x4 F3 => (w32 x4 = 0 → mX12_likely_J78 (fun o' a1' a2' a3' a5' a7' F' => mX12_likely_L30 Q k o' a1' a2' a3' a5' a7' F') Q o a1 a2 a3 a5 a7 F3) ∧ (¬ w32 x4 = 0 → gR F3 (some o) 12 0 (fun x5 => aI F3 x5 0 (103 + a7) (fun x6 => ∀ v7 : Int, v7 = (a3 * (w32 (10 - x6))) → ∀ v8 : Int, v8 = (a5 * 10) → mX12_likely_J78 (fun o' a1' a2' a3' a5' a7' F' => mX12_likely_L30 Q k o' a1' a2' a3' a5' a7' F') Q o a1 a2 v7 v8 a7 F3))))) ∧ (¬ w32 a7 < w32 x2 → (w32 a2 = 0 → mX12_likely_J94 Q a3 a5 a3 F) ∧ (¬ w32 a2 = 0 → mX12_likely_J94 Q a3 a5 a5 F))))
set_option maxHeartbeats 4000000 in
theorem tX12_likely_L30 {d : Nat} {Q : Int → hp → Prop} : ∀ (k : Nat) (o : Nat) (a1 : Int) (a2 : Int) (a3 : Int) (a5 : Int) (a7 : Int) (F : hp), mX12_likely_L30 Q k o a1 a2 a3 a5 a7 F → aw nX12_likely (d + 1) 0 0 30 [some (vr (some o)), some (vi a1), some (vi a2), some (vl a3), none, some (vl a5), none, some (vi a7)] [] F (qL Q) := by
  intro k
  induction k with
  | zero => intro o a1 a2 a3 a5 a7 F h; exact h.elim
  | succ k ih =>
    intro o a1 a2 a3 a5 a7 F h
    simp only [mX12_likely_L30] at h
    refine aw_iload dX12_likely_30 rfl (aw_pc (pc' := 32) rfl ?_)
    refine aw_aload_n dX12_likely_32 rfl rfl (aw_pc (pc' := 33) rfl ?_)
    refine ar_gR fl_RX12_7 dX12_likely_33 h ?_
    clear h
    intro x1 h
    refine aw_pc (pc' := 36) rfl ?_
    refine aw_iconst dX12_likely_36 (aw_pc (pc' := 37) rfl ?_)
    refine ar_aI dX12_likely_37 h ?_
    clear h
    intro x2 h
    refine aw_pc (pc' := 38) rfl ?_
    refine ac_ge rfl rfl dX12_likely_38 rfl (fun c => ?_) (fun c => ?_)
    · replace h := h.1 c
      refine aw_iload_n dX12_likely_41 rfl rfl (aw_pc (pc' := 42) rfl ?_)
      refine aw_iload dX12_likely_42 rfl (aw_pc (pc' := 44) rfl ?_)
      refine ar_SI (kc' := 0) (ks' := 0) (kc := 0) (ks := 0) (as := [vi a1, vi a7]) (st := []) (tX12_has h) mt_X12_has qM_RX12_90 qS_X12_has rfl (Nat.le_of_ble_eq_true rfl) dX12_likely_44 ?_
      clear h
      intro x4 F3 h
      refine aw_pc (pc' := 47) rfl ?_
      refine aw_if_ne dX12_likely_47 rfl (fun c => ?_) (fun c => ?_)
      · replace h := h.1 c
        refine aw_goto (tgt := 78) dX12_likely_50 rfl ?_
        exact aw_mask [true, true, true, true, false, true, false, true] (tX12_likely_J78 (fun o' a1' a2' a3' a5' a7' F' h' => ih o' a1' a2' a3' a5' a7' F' h') h)
      · replace h := h.2 c
        refine aw_lload_n dX12_likely_53 rfl rfl (aw_pc (pc' := 54) rfl ?_)
        refine aw_bipush dX12_likely_54 (by decide) (aw_pc (pc' := 56) rfl ?_)
        refine aw_aload_n dX12_likely_56 rfl rfl (aw_pc (pc' := 57) rfl ?_)
        refine ar_gR fl_RX12_7 dX12_likely_57 h ?_
        clear h
        intro x5 h
        refine aw_pc (pc' := 60) rfl ?_
        refine aw_bipush dX12_likely_60 (by decide) (aw_pc (pc' := 62) rfl ?_)
        refine aw_iload dX12_likely_62 rfl (aw_pc (pc' := 64) rfl ?_)
        refine aw_iadd dX12_likely_64 (aw_pc (pc' := 65) rfl ?_)
        refine ar_aI dX12_likely_65 h ?_
        clear h
        intro x6 h
        refine aw_pc (pc' := 66) rfl ?_
        refine aw_isub dX12_likely_66 (aw_pc (pc' := 67) rfl ?_)
        refine aw_i2l dX12_likely_67 (aw_pc (pc' := 68) rfl ?_)
        refine aw_lmul dX12_likely_68 (aw_pc (pc' := 69) rfl ?_)
        generalize hv_v7 : (a3 * (w32 (10 - x6))) = v7
        replace h := h v7 hv_v7.symm
        refine aw_lstore_n dX12_likely_69 rfl (by decide) (aw_pc (pc' := 70) rfl ?_)
        refine aw_lload dX12_likely_70 rfl (aw_pc (pc' := 72) rfl ?_)
        refine aw_ldc2 (n := 10) dX12_likely_72 qK_RX12_483 (aw_pc (pc' := 75) rfl ?_)
        refine aw_lmul dX12_likely_75 (aw_pc (pc' := 76) rfl ?_)
        generalize hv_v8 : (a5 * 10) = v8
        replace h := h v8 hv_v8.symm
        refine aw_lstore dX12_likely_76 (by decide) (aw_pc (pc' := 78) rfl ?_)
        exact aw_mask [true, true, true, true, false, true, false, true] (tX12_likely_J78 (fun o' a1' a2' a3' a5' a7' F' h' => ih o' a1' a2' a3' a5' a7' F' h') h)
    · replace h := h.2 c
      refine aw_iload_n dX12_likely_84 rfl rfl (aw_pc (pc' := 85) rfl ?_)
      refine aw_if_eq dX12_likely_85 rfl (fun c => ?_) (fun c => ?_)
      · replace h := h.1 c
        refine aw_lload_n dX12_likely_93 rfl rfl (aw_pc (pc' := 94) rfl ?_)
        exact aw_mask [false, false, false, true, false, true, false, false] (tX12_likely_J94 h)
      · replace h := h.2 c
        refine aw_lload dX12_likely_88 rfl (aw_pc (pc' := 90) rfl ?_)
        refine aw_goto (tgt := 94) dX12_likely_90 rfl ?_
        exact aw_mask [false, false, false, true, false, true, false, false] (tX12_likely_J94 h)
def mX12_likely (o : Nat) (a1 : Int) (a2 : Int) (F : hp) (Q : Int → hp → Prop) : Prop := gR F (some o) 12 0 (fun x1 => aI F x1 0 0 (fun x2 => mX12_isIn a1 0 ((iShl 1 x2) - 1) F (fun x4 F3 => (w32 x4 = 0 → Q (-1) F3) ∧ (¬ w32 x4 = 0 → (∃ k5, mX12_likely_L30 Q k5 o a1 a2 1 1 0 F3)))))
set_option maxHeartbeats 4000000 in
theorem tX12_likely {d : Nat} {o : Nat} {a1 : Int} {a2 : Int} {F : hp} {Q : Int → hp → Prop} (h : mX12_likely o a1 a2 F Q) : am nX12_likely (d + 1) 0 0 [vr (some o), vi a1, vi a2] F (qL Q) := by
  refine am_of (by decide +kernel) (Nat.le_of_ble_eq_true rfl) ?_
  show aw nX12_likely (d + 1) 0 0 0 [some (vr (some o)), some (vi a1), some (vi a2), none, none, none, none, none] [] F (qL Q)
  unfold mX12_likely at h
  refine aw_iload_n dX12_likely_0 rfl rfl (aw_pc (pc' := 1) rfl ?_)
  refine aw_iconst dX12_likely_1 (aw_pc (pc' := 2) rfl ?_)
  refine aw_iconst dX12_likely_2 (aw_pc (pc' := 3) rfl ?_)
  refine aw_aload_n dX12_likely_3 rfl rfl (aw_pc (pc' := 4) rfl ?_)
  refine ar_gR fl_RX12_7 dX12_likely_4 h ?_
  clear h
  intro x1 h
  refine aw_pc (pc' := 7) rfl ?_
  refine aw_iconst dX12_likely_7 (aw_pc (pc' := 8) rfl ?_)
  refine ar_aI dX12_likely_8 h ?_
  clear h
  intro x2 h
  refine aw_pc (pc' := 9) rfl ?_
  refine aw_ishl dX12_likely_9 (aw_pc (pc' := 10) rfl ?_)
  refine aw_iconst dX12_likely_10 (aw_pc (pc' := 11) rfl ?_)
  refine aw_isub dX12_likely_11 (aw_pc (pc' := 12) rfl ?_)
  refine ar_SI (kc' := 0) (ks' := 0) (kc := 0) (ks := 0) (as := [vi a1, vi 0, vi ((iShl 1 x2) - 1)]) (st := []) (tX12_isIn h) mt_X12_isIn qM_RX12_78 qS_X12_isIn rfl (Nat.le_of_ble_eq_true rfl) dX12_likely_12 ?_
  clear h
  intro x4 F3 h
  refine aw_pc (pc' := 15) rfl ?_
  refine aw_if_ne dX12_likely_15 rfl (fun c => ?_) (fun c => ?_)
  · replace h := h.1 c
    refine aw_ldc2 (n := (-1)) dX12_likely_18 qK_RX12_447 (aw_pc (pc' := 21) rfl ?_)
    exact aw_lret rfl dX12_likely_21 ⟨_, rfl, h⟩
  · replace h := h.2 c
    refine aw_lconst (v := 1) dX12_likely_22 (by decide) (aw_pc (pc' := 23) rfl ?_)
    refine aw_lstore_n dX12_likely_23 rfl (by decide) (aw_pc (pc' := 24) rfl ?_)
    refine aw_lconst (v := 1) dX12_likely_24 (by decide) (aw_pc (pc' := 25) rfl ?_)
    refine aw_lstore dX12_likely_25 (by decide) (aw_pc (pc' := 27) rfl ?_)
    refine aw_iconst dX12_likely_27 (aw_pc (pc' := 28) rfl ?_)
    refine aw_istore dX12_likely_28 (by decide) (aw_pc (pc' := 30) rfl ?_)
    obtain ⟨k5, h⟩ := h
    exact aw_mask [true, true, true, true, false, true, false, true] (tX12_likely_L30 k5 _ _ _ _ _ _ _ h)
def mX12_said (o : Nat) (a1 : Int) (a2 : Int) (F : hp) (Q : Int → hp → Prop) : Prop := (w32 a1 = (-1) → gR F (some o) 12 0 (fun x1 => sI F x1 0 6 0 (fun F2 => Q 0 F2))) ∧ (¬ w32 a1 = (-1) → rcv F (some o) 12 (fun o5 => mX12_isCar o5 a1 F (fun x4 F3 => (w32 x4 = 0 → Q (-2) F3) ∧ (¬ w32 x4 = 0 → mX12_isIn a2 (-9) 9 F3 (fun x7 F6 => (w32 x7 = 0 → Q (-2) F6) ∧ (¬ w32 x7 = 0 → gR F6 (some o) 12 0 (fun x8 => aI F6 x8 0 6 (fun x9 => (w32 x9 = 8 → Q (-2) F6) ∧ (¬ w32 x9 = 8 → gR F6 (some o) 12 0 (fun x10 => gR F6 (some o) 12 0 (fun x11 => aI F6 x11 0 6 (fun x12 => sI F6 x10 0 (108 + (2 * x12)) a1 (fun F13 => gR F13 (some o) 12 0 (fun x14 => gR F13 (some o) 12 0 (fun x15 => aI F13 x15 0 6 (fun x16 => sI F13 x14 0 ((108 + (2 * x16)) + 1) a2 (fun F17 => gR F17 (some o) 12 0 (fun x18 => aI F17 x18 0 6 (fun x19 => sI F17 x18 0 6 (x19 + 1) (fun F20 => gR F20 (some o) 12 0 (fun x21 => aI F20 x21 0 6 (fun x22 => Q x22 F20))))))))))))))))))))))
set_option maxHeartbeats 4000000 in
theorem tX12_said {d : Nat} {o : Nat} {a1 : Int} {a2 : Int} {F : hp} {Q : Int → hp → Prop} (h : mX12_said o a1 a2 F Q) : am nX12_said (d + 2) 0 0 [vr (some o), vi a1, vi a2] F (qI Q) := by
  refine am_of (by decide +kernel) (Nat.le_of_ble_eq_true rfl) ?_
  show aw nX12_said (d + 2) 0 0 0 [some (vr (some o)), some (vi a1), some (vi a2)] [] F (qI Q)
  unfold mX12_said at h
  refine aw_iload_n dX12_said_0 rfl rfl (aw_pc (pc' := 1) rfl ?_)
  refine aw_iconst dX12_said_1 (aw_pc (pc' := 2) rfl ?_)
  refine ac_ne rfl wl_m1 dX12_said_2 rfl (fun c => ?_) (fun c => ?_)
  · replace h := h.1 c
    refine aw_aload_n dX12_said_5 rfl rfl (aw_pc (pc' := 6) rfl ?_)
    refine ar_gR fl_RX12_7 dX12_said_6 h ?_
    clear h
    intro x1 h
    refine aw_pc (pc' := 9) rfl ?_
    refine aw_bipush dX12_said_9 (by decide) (aw_pc (pc' := 11) rfl ?_)
    refine aw_iconst dX12_said_11 (aw_pc (pc' := 12) rfl ?_)
    refine ar_sI dX12_said_12 h ?_
    clear h
    intro F2 h
    refine aw_pc (pc' := 13) rfl ?_
    refine aw_iconst dX12_said_13 (aw_pc (pc' := 14) rfl ?_)
    exact aw_iret rfl dX12_said_14 ⟨_, rfl, h⟩
  · replace h := h.2 c
    refine aw_aload_n dX12_said_15 rfl rfl (aw_pc (pc' := 16) rfl ?_)
    refine aw_iload_n dX12_said_16 rfl rfl (aw_pc (pc' := 17) rfl ?_)
    have h0 := rcv_inv h
    clear h
    obtain ⟨o5, fs_o5, hr_o5, he_o5, h⟩ := h0
    obtain rfl : o = o5 := Option.some.inj hr_o5
    refine ar_VI (kc' := 0) (ks' := 0) (kc := 0) (ks := 0) (a := o) (ci := 12) (as := [vi a1]) (st := []) (tX12_isCar h) mt_X12_isCar rfl qM_RX12_102 qI_X12_isCar qV_X12_isCar he_o5 rfl (Nat.le_of_ble_eq_true rfl) dX12_said_17 ?_
    clear h
    intro x4 F3 h
    refine aw_pc (pc' := 20) rfl ?_
    refine aw_if_eq dX12_said_20 rfl (fun c => ?_) (fun c => ?_)
    · replace h := h.1 c
      refine aw_bipush dX12_said_46 (by decide) (aw_pc (pc' := 48) rfl ?_)
      exact aw_iret rfl dX12_said_48 ⟨_, rfl, h⟩
    · replace h := h.2 c
      refine aw_iload_n dX12_said_23 rfl rfl (aw_pc (pc' := 24) rfl ?_)
      refine aw_bipush dX12_said_24 (by decide) (aw_pc (pc' := 26) rfl ?_)
      refine aw_bipush dX12_said_26 (by decide) (aw_pc (pc' := 28) rfl ?_)
      refine ar_SI (kc' := 0) (ks' := 0) (kc := 0) (ks := 0) (as := [vi a2, vi (-9), vi 9]) (st := []) (tX12_isIn h) mt_X12_isIn qM_RX12_78 qS_X12_isIn rfl (Nat.le_of_ble_eq_true rfl) dX12_said_28 ?_
      clear h
      intro x7 F6 h
      refine aw_pc (pc' := 31) rfl ?_
      refine aw_if_eq dX12_said_31 rfl (fun c => ?_) (fun c => ?_)
      · replace h := h.1 c
        refine aw_bipush dX12_said_46 (by decide) (aw_pc (pc' := 48) rfl ?_)
        exact aw_iret rfl dX12_said_48 ⟨_, rfl, h⟩
      · replace h := h.2 c
        refine aw_aload_n dX12_said_34 rfl rfl (aw_pc (pc' := 35) rfl ?_)
        refine ar_gR fl_RX12_7 dX12_said_35 h ?_
        clear h
        intro x8 h
        refine aw_pc (pc' := 38) rfl ?_
        refine aw_bipush dX12_said_38 (by decide) (aw_pc (pc' := 40) rfl ?_)
        refine ar_aI dX12_said_40 h ?_
        clear h
        intro x9 h
        refine aw_pc (pc' := 41) rfl ?_
        refine aw_bipush dX12_said_41 (by decide) (aw_pc (pc' := 43) rfl ?_)
        refine ac_ne rfl wl_8 dX12_said_43 rfl (fun c => ?_) (fun c => ?_)
        · replace h := h.1 c
          refine aw_bipush dX12_said_46 (by decide) (aw_pc (pc' := 48) rfl ?_)
          exact aw_iret rfl dX12_said_48 ⟨_, rfl, h⟩
        · replace h := h.2 c
          refine aw_aload_n dX12_said_49 rfl rfl (aw_pc (pc' := 50) rfl ?_)
          refine ar_gR fl_RX12_7 dX12_said_50 h ?_
          clear h
          intro x10 h
          refine aw_pc (pc' := 53) rfl ?_
          refine aw_bipush dX12_said_53 (by decide) (aw_pc (pc' := 55) rfl ?_)
          refine aw_iconst dX12_said_55 (aw_pc (pc' := 56) rfl ?_)
          refine aw_aload_n dX12_said_56 rfl rfl (aw_pc (pc' := 57) rfl ?_)
          refine ar_gR fl_RX12_7 dX12_said_57 h ?_
          clear h
          intro x11 h
          refine aw_pc (pc' := 60) rfl ?_
          refine aw_bipush dX12_said_60 (by decide) (aw_pc (pc' := 62) rfl ?_)
          refine ar_aI dX12_said_62 h ?_
          clear h
          intro x12 h
          refine aw_pc (pc' := 63) rfl ?_
          refine aw_imul dX12_said_63 (aw_pc (pc' := 64) rfl ?_)
          refine aw_iadd dX12_said_64 (aw_pc (pc' := 65) rfl ?_)
          refine aw_iload_n dX12_said_65 rfl rfl (aw_pc (pc' := 66) rfl ?_)
          refine ar_sI dX12_said_66 h ?_
          clear h
          intro F13 h
          refine aw_pc (pc' := 67) rfl ?_
          refine aw_aload_n dX12_said_67 rfl rfl (aw_pc (pc' := 68) rfl ?_)
          refine ar_gR fl_RX12_7 dX12_said_68 h ?_
          clear h
          intro x14 h
          refine aw_pc (pc' := 71) rfl ?_
          refine aw_bipush dX12_said_71 (by decide) (aw_pc (pc' := 73) rfl ?_)
          refine aw_iconst dX12_said_73 (aw_pc (pc' := 74) rfl ?_)
          refine aw_aload_n dX12_said_74 rfl rfl (aw_pc (pc' := 75) rfl ?_)
          refine ar_gR fl_RX12_7 dX12_said_75 h ?_
          clear h
          intro x15 h
          refine aw_pc (pc' := 78) rfl ?_
          refine aw_bipush dX12_said_78 (by decide) (aw_pc (pc' := 80) rfl ?_)
          refine ar_aI dX12_said_80 h ?_
          clear h
          intro x16 h
          refine aw_pc (pc' := 81) rfl ?_
          refine aw_imul dX12_said_81 (aw_pc (pc' := 82) rfl ?_)
          refine aw_iadd dX12_said_82 (aw_pc (pc' := 83) rfl ?_)
          refine aw_iconst dX12_said_83 (aw_pc (pc' := 84) rfl ?_)
          refine aw_iadd dX12_said_84 (aw_pc (pc' := 85) rfl ?_)
          refine aw_iload_n dX12_said_85 rfl rfl (aw_pc (pc' := 86) rfl ?_)
          refine ar_sI dX12_said_86 h ?_
          clear h
          intro F17 h
          refine aw_pc (pc' := 87) rfl ?_
          refine aw_aload_n dX12_said_87 rfl rfl (aw_pc (pc' := 88) rfl ?_)
          refine ar_gR fl_RX12_7 dX12_said_88 h ?_
          clear h
          intro x18 h
          refine aw_pc (pc' := 91) rfl ?_
          refine aw_bipush dX12_said_91 (by decide) (aw_pc (pc' := 93) rfl ?_)
          refine aw_dup2 dX12_said_93 trivial trivial (aw_pc (pc' := 94) rfl ?_)
          refine ar_aI dX12_said_94 h ?_
          clear h
          intro x19 h
          refine aw_pc (pc' := 95) rfl ?_
          refine aw_iconst dX12_said_95 (aw_pc (pc' := 96) rfl ?_)
          refine aw_iadd dX12_said_96 (aw_pc (pc' := 97) rfl ?_)
          refine ar_sI dX12_said_97 h ?_
          clear h
          intro F20 h
          refine aw_pc (pc' := 98) rfl ?_
          refine aw_aload_n dX12_said_98 rfl rfl (aw_pc (pc' := 99) rfl ?_)
          refine ar_gR fl_RX12_7 dX12_said_99 h ?_
          clear h
          intro x21 h
          refine aw_pc (pc' := 102) rfl ?_
          refine aw_bipush dX12_said_102 (by decide) (aw_pc (pc' := 104) rfl ?_)
          refine ar_aI dX12_said_104 h ?_
          clear h
          intro x22 h
          refine aw_pc (pc' := 105) rfl ?_
          exact aw_iret rfl dX12_said_105 ⟨_, rfl, h⟩
def mX12_whose_J89 (X4 : Nat → Int → Int → hp → Prop) (Q : Int → hp → Prop) (o : Nat) (a2 : Int) (s0 : Int) (s1 : Int) (F : hp) : Prop := ∀ v1 : Int, v1 = (iOr s0 s1) → X4 o v1 (a2 + 1) F
set_option maxHeartbeats 4000000 in
theorem tX12_whose_J89 {d : Nat} {X4 : Nat → Int → Int → hp → Prop} {Q : Int → hp → Prop} (hX4 : ∀ (o : Nat) (a1 : Int) (a2 : Int) (F : hp), X4 o a1 a2 F → aw nX12_whose (d + 7) 0 0 4 [some (vr (some o)), some (vi a1), some (vi a2), none, none] [] F (qI Q)) {o : Nat} {a2 : Int} {s0 : Int} {s1 : Int} {F : hp} (h : mX12_whose_J89 X4 Q o a2 s0 s1 F) : aw nX12_whose (d + 7) 0 0 89 [some (vr (some o)), none, some (vi a2), none, none] [vi s1, vi s0] F (qI Q) := by
  unfold mX12_whose_J89 at h
  refine aw_ior dX12_whose_89 (aw_pc (pc' := 90) rfl ?_)
  generalize hv_v1 : (iOr s0 s1) = v1
  replace h := h v1 hv_v1.symm
  refine aw_istore_n dX12_whose_90 rfl (by decide) (aw_pc (pc' := 91) rfl ?_)
  refine aw_iinc dX12_whose_91 rfl (by decide) (aw_pc (pc' := 94) rfl ?_)
  refine aw_goto (tgt := 4) dX12_whose_94 rfl ?_
  exact aw_mask [true, true, true, false, false] (hX4 _ _ _ _ h)
def mX12_whose_J70 (X4 : Nat → Int → Int → hp → Prop) (X20 : Nat → Int → Int → Int → Int → hp → Prop) (Q : Int → hp → Prop) (o : Nat) (a1 : Int) (a2 : Int) (a4 : Int) (s0 : Int) (F : hp) : Prop := X20 o a1 a2 s0 (a4 + 2) F
set_option maxHeartbeats 4000000 in
theorem tX12_whose_J70 {d : Nat} {X4 : Nat → Int → Int → hp → Prop} {X20 : Nat → Int → Int → Int → Int → hp → Prop} {Q : Int → hp → Prop} (hX4 : ∀ (o : Nat) (a1 : Int) (a2 : Int) (F : hp), X4 o a1 a2 F → aw nX12_whose (d + 7) 0 0 4 [some (vr (some o)), some (vi a1), some (vi a2), none, none] [] F (qI Q)) (hX20 : ∀ (o : Nat) (a1 : Int) (a2 : Int) (a3 : Int) (a4 : Int) (F : hp), X20 o a1 a2 a3 a4 F → aw nX12_whose (d + 7) 0 0 20 [some (vr (some o)), some (vi a1), some (vi a2), some (vi a3), some (vi a4)] [] F (qI Q)) {o : Nat} {a1 : Int} {a2 : Int} {a4 : Int} {s0 : Int} {F : hp} (h : mX12_whose_J70 X4 X20 Q o a1 a2 a4 s0 F) : aw nX12_whose (d + 7) 0 0 70 [some (vr (some o)), some (vi a1), some (vi a2), none, some (vi a4)] [vi s0] F (qI Q) := by
  unfold mX12_whose_J70 at h
  refine aw_istore_n dX12_whose_70 rfl (by decide) (aw_pc (pc' := 71) rfl ?_)
  refine aw_iinc dX12_whose_71 rfl (by decide) (aw_pc (pc' := 74) rfl ?_)
  refine aw_goto (tgt := 20) dX12_whose_74 rfl ?_
  exact aw_mask [true, true, true, true, true] (hX20 _ _ _ _ _ _ h)
def mX12_whose_J69 (X4 : Nat → Int → Int → hp → Prop) (X20 : Nat → Int → Int → Int → Int → hp → Prop) (Q : Int → hp → Prop) (o : Nat) (a1 : Int) (a2 : Int) (a4 : Int) (F : hp) : Prop := mX12_whose_J70 X4 X20 Q o a1 a2 a4 0 F
set_option maxHeartbeats 4000000 in
theorem tX12_whose_J69 {d : Nat} {X4 : Nat → Int → Int → hp → Prop} {X20 : Nat → Int → Int → Int → Int → hp → Prop} {Q : Int → hp → Prop} (hX4 : ∀ (o : Nat) (a1 : Int) (a2 : Int) (F : hp), X4 o a1 a2 F → aw nX12_whose (d + 7) 0 0 4 [some (vr (some o)), some (vi a1), some (vi a2), none, none] [] F (qI Q)) (hX20 : ∀ (o : Nat) (a1 : Int) (a2 : Int) (a3 : Int) (a4 : Int) (F : hp), X20 o a1 a2 a3 a4 F → aw nX12_whose (d + 7) 0 0 20 [some (vr (some o)), some (vi a1), some (vi a2), some (vi a3), some (vi a4)] [] F (qI Q)) {o : Nat} {a1 : Int} {a2 : Int} {a4 : Int} {F : hp} (h : mX12_whose_J69 X4 X20 Q o a1 a2 a4 F) : aw nX12_whose (d + 7) 0 0 69 [some (vr (some o)), some (vi a1), some (vi a2), none, some (vi a4)] [] F (qI Q) := by
  unfold mX12_whose_J69 at h
  refine aw_iconst dX12_whose_69 (aw_pc (pc' := 70) rfl ?_)
  exact aw_mask [true, true, true, false, true] (tX12_whose_J70 hX4 hX20 h)
def mX12_whose_L20 (X4 : Nat → Int → Int → hp → Prop) (Q : Int → hp → Prop) : Nat → Nat → Int → Int → Int → Int → hp → Prop
  | 0, _, _, _, _, _, _ => False
  | k + 1, o, a1, a2, a3, a4, F => gR F (some o) 12 0 (fun x1 => aI F x1 0 6 (fun x2 => (w32 a4 < w32 (108 + (2 * x2)) → (w32 a3 = 0 → mX12_whose_J69 X4 (fun o' a1' a2' a3' a4' F' => mX12_whose_L20 X4 Q k o' a1' a2' a3' a4' F') Q o a1 a2 a4 F) ∧ (¬ w32 a3 = 0 → gR F (some o) 12 0 (fun x3 => aI F x3 0 a4 (fun x4 => rcv F (some o) 12 (fun o7 => mX12_changesOf o7 a2 x4 F (fun x6 F5 => gR F5 (some o) 12 0 (fun x8 => aI F5 x8 0 (a4 + 1) (fun x9 => (w32 x6 = w32 x9 → mX12_whose_J70 X4 (fun o' a1' a2' a3' a4' F' => mX12_whose_L20 X4 Q k o' a1' a2' a3' a4' F') Q o a1 a2 a4 1 F5) ∧ (¬ w32 x6 = w32 x9 → mX12_whose_J69 X4 (fun o' a1' a2' a3' a4' F' => mX12_whose_L20 X4 Q k o' a1' a2' a3' a4' F') Q o a1 a2 a4 F5))))))))) ∧ (¬ w32 a4 < w32 (108 + (2 * x2)) → (w32 a3 = 0 → mX12_whose_J89 X4 Q o a2 a1 0 F) ∧ (¬ w32 a3 = 0 → mX12_whose_J89 X4 Q o a2 a1 (iShl 1 a2) F))))
set_option maxHeartbeats 4000000 in
theorem tX12_whose_L20 {d : Nat} {X4 : Nat → Int → Int → hp → Prop} {Q : Int → hp → Prop} (hX4 : ∀ (o : Nat) (a1 : Int) (a2 : Int) (F : hp), X4 o a1 a2 F → aw nX12_whose (d + 7) 0 0 4 [some (vr (some o)), some (vi a1), some (vi a2), none, none] [] F (qI Q)) : ∀ (k : Nat) (o : Nat) (a1 : Int) (a2 : Int) (a3 : Int) (a4 : Int) (F : hp), mX12_whose_L20 X4 Q k o a1 a2 a3 a4 F → aw nX12_whose (d + 7) 0 0 20 [some (vr (some o)), some (vi a1), some (vi a2), some (vi a3), some (vi a4)] [] F (qI Q) := by
  intro k
  induction k with
  | zero => intro o a1 a2 a3 a4 F h; exact h.elim
  | succ k ih =>
    intro o a1 a2 a3 a4 F h
    simp only [mX12_whose_L20] at h
    refine aw_iload dX12_whose_20 rfl (aw_pc (pc' := 22) rfl ?_)
    refine aw_bipush dX12_whose_22 (by decide) (aw_pc (pc' := 24) rfl ?_)
    refine aw_iconst dX12_whose_24 (aw_pc (pc' := 25) rfl ?_)
    refine aw_aload_n dX12_whose_25 rfl rfl (aw_pc (pc' := 26) rfl ?_)
    refine ar_gR fl_RX12_7 dX12_whose_26 h ?_
    clear h
    intro x1 h
    refine aw_pc (pc' := 29) rfl ?_
    refine aw_bipush dX12_whose_29 (by decide) (aw_pc (pc' := 31) rfl ?_)
    refine ar_aI dX12_whose_31 h ?_
    clear h
    intro x2 h
    refine aw_pc (pc' := 32) rfl ?_
    refine aw_imul dX12_whose_32 (aw_pc (pc' := 33) rfl ?_)
    refine aw_iadd dX12_whose_33 (aw_pc (pc' := 34) rfl ?_)
    refine ac_ge rfl rfl dX12_whose_34 rfl (fun c => ?_) (fun c => ?_)
    · replace h := h.1 c
      refine aw_iload_n dX12_whose_37 rfl rfl (aw_pc (pc' := 38) rfl ?_)
      refine aw_if_eq dX12_whose_38 rfl (fun c => ?_) (fun c => ?_)
      · replace h := h.1 c
        exact aw_mask [true, true, true, false, true] (tX12_whose_J69 hX4 (fun o' a1' a2' a3' a4' F' h' => ih o' a1' a2' a3' a4' F' h') h)
      · replace h := h.2 c
        refine aw_aload_n dX12_whose_41 rfl rfl (aw_pc (pc' := 42) rfl ?_)
        refine aw_iload_n dX12_whose_42 rfl rfl (aw_pc (pc' := 43) rfl ?_)
        refine aw_aload_n dX12_whose_43 rfl rfl (aw_pc (pc' := 44) rfl ?_)
        refine ar_gR fl_RX12_7 dX12_whose_44 h ?_
        clear h
        intro x3 h
        refine aw_pc (pc' := 47) rfl ?_
        refine aw_iload dX12_whose_47 rfl (aw_pc (pc' := 49) rfl ?_)
        refine ar_aI dX12_whose_49 h ?_
        clear h
        intro x4 h
        refine aw_pc (pc' := 50) rfl ?_
        have h0 := rcv_inv h
        clear h
        obtain ⟨o7, fs_o7, hr_o7, he_o7, h⟩ := h0
        obtain rfl : o = o7 := Option.some.inj hr_o7
        refine ar_VI (kc' := 0) (ks' := 0) (kc := 0) (ks := 0) (a := o) (ci := 12) (as := [vi a2, vi x4]) (st := []) (tX12_changesOf h) mt_X12_changesOf rfl qM_RX12_340 qI_X12_changesOf qV_X12_changesOf he_o7 rfl (Nat.le_of_ble_eq_true rfl) dX12_whose_50 ?_
        clear h
        intro x6 F5 h
        refine aw_pc (pc' := 53) rfl ?_
        refine aw_aload_n dX12_whose_53 rfl rfl (aw_pc (pc' := 54) rfl ?_)
        refine ar_gR fl_RX12_7 dX12_whose_54 h ?_
        clear h
        intro x8 h
        refine aw_pc (pc' := 57) rfl ?_
        refine aw_iload dX12_whose_57 rfl (aw_pc (pc' := 59) rfl ?_)
        refine aw_iconst dX12_whose_59 (aw_pc (pc' := 60) rfl ?_)
        refine aw_iadd dX12_whose_60 (aw_pc (pc' := 61) rfl ?_)
        refine ar_aI dX12_whose_61 h ?_
        clear h
        intro x9 h
        refine aw_pc (pc' := 62) rfl ?_
        refine ac_ne rfl rfl dX12_whose_62 rfl (fun c => ?_) (fun c => ?_)
        · replace h := h.1 c
          refine aw_iconst dX12_whose_65 (aw_pc (pc' := 66) rfl ?_)
          refine aw_goto (tgt := 70) dX12_whose_66 rfl ?_
          exact aw_mask [true, true, true, false, true] (tX12_whose_J70 hX4 (fun o' a1' a2' a3' a4' F' h' => ih o' a1' a2' a3' a4' F' h') h)
        · replace h := h.2 c
          exact aw_mask [true, true, true, false, true] (tX12_whose_J69 hX4 (fun o' a1' a2' a3' a4' F' h' => ih o' a1' a2' a3' a4' F' h') h)
    · replace h := h.2 c
      refine aw_iload_n dX12_whose_77 rfl rfl (aw_pc (pc' := 78) rfl ?_)
      refine aw_iload_n dX12_whose_78 rfl rfl (aw_pc (pc' := 79) rfl ?_)
      refine aw_if_eq dX12_whose_79 rfl (fun c => ?_) (fun c => ?_)
      · replace h := h.1 c
        refine aw_iconst dX12_whose_88 (aw_pc (pc' := 89) rfl ?_)
        exact aw_mask [true, false, true, false, false] (tX12_whose_J89 hX4 h)
      · replace h := h.2 c
        refine aw_iconst dX12_whose_82 (aw_pc (pc' := 83) rfl ?_)
        refine aw_iload_n dX12_whose_83 rfl rfl (aw_pc (pc' := 84) rfl ?_)
        refine aw_ishl dX12_whose_84 (aw_pc (pc' := 85) rfl ?_)
        refine aw_goto (tgt := 89) dX12_whose_85 rfl ?_
        exact aw_mask [true, false, true, false, false] (tX12_whose_J89 hX4 h)
def mX12_whose_L4 (Q : Int → hp → Prop) : Nat → Nat → Int → Int → hp → Prop
  | 0, _, _, _, _ => False
  | k + 1, o, a1, a2, F => gR F (some o) 12 0 (fun x1 => aI F x1 0 1 (fun x2 => (w32 a2 < w32 x2 → (∃ k3, mX12_whose_L20 (fun o' a1' a2' F' => mX12_whose_L4 Q k o' a1' a2' F') Q k3 o a1 a2 1 108 F)) ∧ (¬ w32 a2 < w32 x2 → Q a1 F)))
set_option maxHeartbeats 4000000 in
theorem tX12_whose_L4 {d : Nat} {Q : Int → hp → Prop} : ∀ (k : Nat) (o : Nat) (a1 : Int) (a2 : Int) (F : hp), mX12_whose_L4 Q k o a1 a2 F → aw nX12_whose (d + 7) 0 0 4 [some (vr (some o)), some (vi a1), some (vi a2), none, none] [] F (qI Q) := by
  intro k
  induction k with
  | zero => intro o a1 a2 F h; exact h.elim
  | succ k ih =>
    intro o a1 a2 F h
    simp only [mX12_whose_L4] at h
    refine aw_iload_n dX12_whose_4 rfl rfl (aw_pc (pc' := 5) rfl ?_)
    refine aw_aload_n dX12_whose_5 rfl rfl (aw_pc (pc' := 6) rfl ?_)
    refine ar_gR fl_RX12_7 dX12_whose_6 h ?_
    clear h
    intro x1 h
    refine aw_pc (pc' := 9) rfl ?_
    refine aw_iconst dX12_whose_9 (aw_pc (pc' := 10) rfl ?_)
    refine ar_aI dX12_whose_10 h ?_
    clear h
    intro x2 h
    refine aw_pc (pc' := 11) rfl ?_
    refine ac_ge rfl rfl dX12_whose_11 rfl (fun c => ?_) (fun c => ?_)
    · replace h := h.1 c
      refine aw_iconst dX12_whose_14 (aw_pc (pc' := 15) rfl ?_)
      refine aw_istore_n dX12_whose_15 rfl (by decide) (aw_pc (pc' := 16) rfl ?_)
      refine aw_bipush dX12_whose_16 (by decide) (aw_pc (pc' := 18) rfl ?_)
      refine aw_istore dX12_whose_18 (by decide) (aw_pc (pc' := 20) rfl ?_)
      obtain ⟨k3, h⟩ := h
      exact aw_mask [true, true, true, true, true] (tX12_whose_L20 (fun o' a1' a2' F' h' => ih o' a1' a2' F' h') k3 _ _ _ _ _ _ h)
    · replace h := h.2 c
      refine aw_iload_n dX12_whose_97 rfl rfl (aw_pc (pc' := 98) rfl ?_)
      exact aw_iret rfl dX12_whose_98 ⟨_, rfl, h⟩
def mX12_whose (o : Nat) (F : hp) (Q : Int → hp → Prop) : Prop := (∃ k1, mX12_whose_L4 Q k1 o 0 0 F)
set_option maxHeartbeats 4000000 in
theorem tX12_whose {d : Nat} {o : Nat} {F : hp} {Q : Int → hp → Prop} (h : mX12_whose o F Q) : am nX12_whose (d + 7) 0 0 [vr (some o)] F (qI Q) := by
  refine am_of (by decide +kernel) (Nat.le_of_ble_eq_true rfl) ?_
  show aw nX12_whose (d + 7) 0 0 0 [some (vr (some o)), none, none, none, none] [] F (qI Q)
  unfold mX12_whose at h
  refine aw_iconst dX12_whose_0 (aw_pc (pc' := 1) rfl ?_)
  refine aw_istore_n dX12_whose_1 rfl (by decide) (aw_pc (pc' := 2) rfl ?_)
  refine aw_iconst dX12_whose_2 (aw_pc (pc' := 3) rfl ?_)
  refine aw_istore_n dX12_whose_3 rfl (by decide) (aw_pc (pc' := 4) rfl ?_)
  obtain ⟨k1, h⟩ := h
  exact aw_mask [true, true, true, false, false] (tX12_whose_L4 k1 _ _ _ _ h)
def mX12_image (o : Nat) (F : hp) (Q : Int → hp → Prop) : Prop := gR F (some o) 12 0 (fun x1 => gR F (some o) 12 1 (fun x2 => mX12_copy x1 x2 F (fun F3 => gR F3 (some o) 12 0 (fun x4 => aI F3 x4 0 7 (fun x5 => Q x5 F3)))))
set_option maxHeartbeats 4000000 in
theorem tX12_image {d : Nat} {o : Nat} {F : hp} {Q : Int → hp → Prop} (h : mX12_image o F Q) : am nX12_image (d + 1) 0 0 [vr (some o)] F (qI Q) := by
  refine am_of (by decide +kernel) (Nat.le_of_ble_eq_true rfl) ?_
  show aw nX12_image (d + 1) 0 0 0 [some (vr (some o))] [] F (qI Q)
  unfold mX12_image at h
  refine aw_aload_n dX12_image_0 rfl rfl (aw_pc (pc' := 1) rfl ?_)
  refine ar_gR fl_RX12_7 dX12_image_1 h ?_
  clear h
  intro x1 h
  refine aw_pc (pc' := 4) rfl ?_
  refine aw_aload_n dX12_image_4 rfl rfl (aw_pc (pc' := 5) rfl ?_)
  refine ar_gR fl_RX12_13 dX12_image_5 h ?_
  clear h
  intro x2 h
  refine aw_pc (pc' := 8) rfl ?_
  refine ar_SV (kc' := 0) (ks' := 0) (kc := 0) (ks := 0) (as := [vr x1, vr x2]) (st := []) (tX12_copy h) mt_X12_copy qM_RX12_74 qS_X12_copy rfl (Nat.le_of_ble_eq_true rfl) dX12_image_8 ?_
  clear h
  intro F3 h
  refine aw_pc (pc' := 11) rfl ?_
  refine aw_aload_n dX12_image_11 rfl rfl (aw_pc (pc' := 12) rfl ?_)
  refine ar_gR fl_RX12_7 dX12_image_12 h ?_
  clear h
  intro x4 h
  refine aw_pc (pc' := 15) rfl ?_
  refine aw_bipush dX12_image_15 (by decide) (aw_pc (pc' := 17) rfl ?_)
  refine ar_aI dX12_image_17 h ?_
  clear h
  intro x5 h
  refine aw_pc (pc' := 18) rfl ?_
  exact aw_iret rfl dX12_image_18 ⟨_, rfl, h⟩
def mX12_back (o : Nat) (F : hp) (Q : Int → hp → Prop) : Prop := gR F (some o) 12 1 (fun x1 => gR F (some o) 12 0 (fun x2 => mX12_copy x1 x2 F (fun F3 => gR F3 (some o) 12 0 (fun x4 => aI F3 x4 0 7 (fun x5 => Q x5 F3)))))
set_option maxHeartbeats 4000000 in
theorem tX12_back {d : Nat} {o : Nat} {F : hp} {Q : Int → hp → Prop} (h : mX12_back o F Q) : am nX12_back (d + 1) 0 0 [vr (some o)] F (qI Q) := by
  refine am_of (by decide +kernel) (Nat.le_of_ble_eq_true rfl) ?_
  show aw nX12_back (d + 1) 0 0 0 [some (vr (some o))] [] F (qI Q)
  unfold mX12_back at h
  refine aw_aload_n dX12_back_0 rfl rfl (aw_pc (pc' := 1) rfl ?_)
  refine ar_gR fl_RX12_13 dX12_back_1 h ?_
  clear h
  intro x1 h
  refine aw_pc (pc' := 4) rfl ?_
  refine aw_aload_n dX12_back_4 rfl rfl (aw_pc (pc' := 5) rfl ?_)
  refine ar_gR fl_RX12_7 dX12_back_5 h ?_
  clear h
  intro x2 h
  refine aw_pc (pc' := 8) rfl ?_
  refine ar_SV (kc' := 0) (ks' := 0) (kc := 0) (ks := 0) (as := [vr x1, vr x2]) (st := []) (tX12_copy h) mt_X12_copy qM_RX12_74 qS_X12_copy rfl (Nat.le_of_ble_eq_true rfl) dX12_back_8 ?_
  clear h
  intro F3 h
  refine aw_pc (pc' := 11) rfl ?_
  refine aw_aload_n dX12_back_11 rfl rfl (aw_pc (pc' := 12) rfl ?_)
  refine ar_gR fl_RX12_7 dX12_back_12 h ?_
  clear h
  intro x4 h
  refine aw_pc (pc' := 15) rfl ?_
  refine aw_bipush dX12_back_15 (by decide) (aw_pc (pc' := 17) rfl ?_)
  refine ar_aI dX12_back_17 h ?_
  clear h
  intro x5 h
  refine aw_pc (pc' := 18) rfl ?_
  exact aw_iret rfl dX12_back_18 ⟨_, rfl, h⟩
def mX12_about (o : Nat) (a1 : Int) (F : hp) (Q : Int → hp → Prop) : Prop := mX12_isIn a1 0 6 F (fun x2 F1 => (w32 x2 = 0 → (w32 a1 = 7 → gI F1 (some o) 12 4 (fun x3 => Q x3 F1)) ∧ (¬ w32 a1 = 7 → Q (-2) F1)) ∧ (¬ w32 x2 = 0 → gR F1 (some o) 12 0 (fun x4 => aI F1 x4 0 a1 (fun x5 => Q x5 F1))))
set_option maxHeartbeats 4000000 in
theorem tX12_about {d : Nat} {o : Nat} {a1 : Int} {F : hp} {Q : Int → hp → Prop} (h : mX12_about o a1 F Q) : am nX12_about (d + 1) 0 0 [vr (some o), vi a1] F (qI Q) := by
  refine am_of (by decide +kernel) (Nat.le_of_ble_eq_true rfl) ?_
  show aw nX12_about (d + 1) 0 0 0 [some (vr (some o)), some (vi a1)] [] F (qI Q)
  unfold mX12_about at h
  refine aw_iload_n dX12_about_0 rfl rfl (aw_pc (pc' := 1) rfl ?_)
  refine aw_iconst dX12_about_1 (aw_pc (pc' := 2) rfl ?_)
  refine aw_bipush dX12_about_2 (by decide) (aw_pc (pc' := 4) rfl ?_)
  refine ar_SI (kc' := 0) (ks' := 0) (kc := 0) (ks := 0) (as := [vi a1, vi 0, vi 6]) (st := []) (tX12_isIn h) mt_X12_isIn qM_RX12_78 qS_X12_isIn rfl (Nat.le_of_ble_eq_true rfl) dX12_about_4 ?_
  clear h
  intro x2 F1 h
  refine aw_pc (pc' := 7) rfl ?_
  refine aw_if_eq dX12_about_7 rfl (fun c => ?_) (fun c => ?_)
  · replace h := h.1 c
    refine aw_iload_n dX12_about_19 rfl rfl (aw_pc (pc' := 20) rfl ?_)
    refine aw_bipush dX12_about_20 (by decide) (aw_pc (pc' := 22) rfl ?_)
    refine ac_ne rfl wl_7 dX12_about_22 rfl (fun c => ?_) (fun c => ?_)
    · replace h := h.1 c
      refine aw_aload_n dX12_about_25 rfl rfl (aw_pc (pc' := 26) rfl ?_)
      refine ar_gI fl_RX12_106 dX12_about_26 h ?_
      clear h
      intro x3 h
      refine aw_pc (pc' := 29) rfl ?_
      refine aw_goto (tgt := 34) dX12_about_29 rfl ?_
      exact aw_iret rfl dX12_about_34 ⟨_, rfl, h⟩
    · replace h := h.2 c
      refine aw_bipush dX12_about_32 (by decide) (aw_pc (pc' := 34) rfl ?_)
      exact aw_iret rfl dX12_about_34 ⟨_, rfl, h⟩
  · replace h := h.2 c
    refine aw_aload_n dX12_about_10 rfl rfl (aw_pc (pc' := 11) rfl ?_)
    refine ar_gR fl_RX12_7 dX12_about_11 h ?_
    clear h
    intro x4 h
    refine aw_pc (pc' := 14) rfl ?_
    refine aw_iload_n dX12_about_14 rfl rfl (aw_pc (pc' := 15) rfl ?_)
    refine ar_aI dX12_about_15 h ?_
    clear h
    intro x5 h
    refine aw_pc (pc' := 16) rfl ?_
    refine aw_goto (tgt := 34) dX12_about_16 rfl ?_
    exact aw_iret rfl dX12_about_34 ⟨_, rfl, h⟩
