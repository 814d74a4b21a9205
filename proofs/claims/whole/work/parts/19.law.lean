abbrev nL_law : mi := (yL_law, cL_law, 4, some .boolean)
def lex (b L : Nat) (xs : Nat → Int32) : State → (Nat → Nat) → Nat → Prop := fun s sa base => va_X b L xs s s.heap ∧ b < s.heap.size ∧ base = s.heap.size ∧ sa 6 = b
def sx (xs : Nat → Int32) (i : Int) : Int := (xs i.toNat).toInt
section ALW
variable {b L : Nat} {xs : Nat → Int32} {M : mi} {d kc ks pc : Nat} {lo : List (Option av)} {st : List av} {F : hp} {Q : Option av → hp → Prop}
theorem ar_scl (hL : L ≤ 384) (hd : decode M.2.1 pc = .ok (.arraylength, 1)) (kk : awx (lex b L xs) M d kc ks (pc + 1) lo (vi (L : Int) :: st) F Q) : awx (lex b L xs) M d kc ks pc lo (vr (some 6) :: st) F Q := by
  intro l p e R s m args below meth c H locs cells slots sa base ca D N ls k0 n0 X
  obtain ⟨hX, h1, h2, h3⟩ := X.2.2.2.2.2.2.2.2.2.2.2
  have e6 : cv (ad sa base) (vr (some 6)) = .ref b := by show Value.ref (ad sa base 6) = _; unfold ad; rw [if_pos (by decide), h3]
  have k2 := kk l p e R s m args below meth c H locs cells slots sa base ca D N ls k0 n0 X
  show W p l e R s m args below meth c H locs cells slots _ (F0 m pc ls (cv (ad sa base) (vr (some 6)) :: st.map (cv (ad sa base))))
  rw [e6]
  refine va_slen (A := bs base) X.1.1 X.1.2.1 hX h1 (by show ¬ base ≤ b; omega) X.2.2.2.1 hd ?_
  have e1 : Int32.ofNat L = Int32.ofInt (L : Int) := by rw [Int32.ofInt_eq_ofNat]
  have k2 : W p l e R s m args below meth c H locs cells slots _ (F0 m (pc + 1) ls (.int (Int32.ofInt (L : Int)) :: st.map (cv (ad sa base)))) := k2
  rw [← e1] at k2
  exact k2
theorem ar_sld {i : Int} (hL : L ≤ 384) (h : 0 ≤ i ∧ i < (L : Int)) (hd : decode M.2.1 pc = .ok (.iaload, 1)) (kk : awx (lex b L xs) M d kc ks (pc + 1) lo (vi (sx xs i) :: st) F Q) : awx (lex b L xs) M d kc ks pc lo (vi i :: vr (some 6) :: st) F Q := by
  intro l p e R s m args below meth c H locs cells slots sa base ca D N ls k0 n0 X
  obtain ⟨hX, h1, h2, h3⟩ := X.2.2.2.2.2.2.2.2.2.2.2
  have e6 : cv (ad sa base) (vr (some 6)) = .ref b := by show Value.ref (ad sa base 6) = _; unfold ad; rw [if_pos (by decide), h3]
  have k2 := kk l p e R s m args below meth c H locs cells slots sa base ca D N ls k0 n0 X
  show W p l e R s m args below meth c H locs cells slots _ (F0 m pc ls (cv (ad sa base) (vi i) :: cv (ad sa base) (vr (some 6)) :: st.map (cv (ad sa base))))
  rw [e6]
  have hin : vp_in (Int32.ofInt i) L := by have := ix_in (n := (L : Int)) h.1 h.2 (by omega); simpa using this
  refine va_sld (A := bs base) X.1.1 X.1.2.1 hX h1 (by show ¬ base ≤ b; omega) X.2.2.2.1 hin hd ?_
  rw [ix_cl h.1 (by omega)]
  have k2 : W p l e R s m args below meth c H locs cells slots _ (F0 m (pc + 1) ls (.int (Int32.ofInt (xs i.toNat).toInt) :: st.map (cv (ad sa base)))) := k2
  rw [Int32.ofInt_toInt] at k2
  exact k2
end ALW
def mL_law_J1596 (L : Nat) (xs : Nat → Int32) (X18 : Option Nat → Option Nat → Int → hp → Prop) (Q : Int → hp → Prop) (a1 : Option Nat) (a2 : Option Nat) (a3 : Int) (F : hp) : Prop := X18 a1 a2 (a3 + 6) F
set_option maxHeartbeats 4000000 in
theorem tL_law_J1596 {k : Nat} {b L : Nat} {xs : Nat → Int32} (hL : L ≤ 384) {X18 : Option Nat → Option Nat → Int → hp → Prop} {Q : Int → hp → Prop} (hX18 : ∀ (a1 : Option Nat) (a2 : Option Nat) (a3 : Int) (F : hp), X18 a1 a2 a3 F → awx (lex b L xs) nL_law 1000 (4 * k) (379 * k) 18 [some (vr (some 6)), some (vr a1), some (vr a2), some (vi a3)] [] F (qI Q)) {a1 : Option Nat} {a2 : Option Nat} {a3 : Int} {F : hp} (h : mL_law_J1596 L xs X18 Q a1 a2 a3 F) : awx (lex b L xs) nL_law 1000 (4 * k) (379 * k) 1596 [some (vr (some 6)), some (vr a1), some (vr a2), some (vi a3)] [] F (qI Q) := by
  unfold mL_law_J1596 at h
  refine aw_iinc dL_law_1596 rfl (by decide) (aw_pc (pc' := 1599) rfl ?_)
  refine aw_goto (tgt := 18) dL_law_1599 rfl ?_
  refine aw_less (kc' := 4 * k) (ks' := 379 * k) (by omega) (by omega) ?_
  exact aw_mask [true, true, true, true] (hX18 _ _ _ _ h)
def mL_law_J1430 (L : Nat) (xs : Nat → Int32) (X18 : Option Nat → Option Nat → Int → hp → Prop) (Q : Int → hp → Prop) (a1 : Option Nat) (a2 : Option Nat) (a3 : Int) (s0 : Int) (s1 : Option Nat) (s2 : Int) (s3 : Int) (F : hp) : Prop := rcv F s1 12 (fun o3 => mX12_likely o3 s2 s3 F (fun x2 F1 => (w32 (iCmp s0 x2) = 0 → mL_law_J1596 L xs X18 Q a1 a2 a3 F1) ∧ (¬ w32 (iCmp s0 x2) = 0 → Q 0 F1)))
set_option maxHeartbeats 4000000 in
theorem tL_law_J1430 {k : Nat} {b L : Nat} {xs : Nat → Int32} (hL : L ≤ 384) {X18 : Option Nat → Option Nat → Int → hp → Prop} {Q : Int → hp → Prop} (hX18 : ∀ (a1 : Option Nat) (a2 : Option Nat) (a3 : Int) (F : hp), X18 a1 a2 a3 F → awx (lex b L xs) nL_law 1000 (4 * k) (379 * k) 18 [some (vr (some 6)), some (vr a1), some (vr a2), some (vi a3)] [] F (qI Q)) {a1 : Option Nat} {a2 : Option Nat} {a3 : Int} {s0 : Int} {s1 : Option Nat} {s2 : Int} {s3 : Int} {F : hp} (h : mL_law_J1430 L xs X18 Q a1 a2 a3 s0 s1 s2 s3 F) : awx (lex b L xs) nL_law 1000 (4 * k) (379 * k) 1430 [some (vr (some 6)), some (vr a1), some (vr a2), some (vi a3)] [vi s3, vi s2, vr s1, vl s0] F (qI Q) := by
  unfold mL_law_J1430 at h
  refine aw_less (kc' := 0 + 4 * k) (ks' := 0 + 379 * k) (by omega) (by omega) ?_
  have h0 := rcv_inv h
  clear h
  obtain ⟨o3, fs_o3, hr_o3, he_o3, h⟩ := h0
  subst hr_o3
  refine ar_VL (d := 999) (kc' := 0) (ks' := 0) (kc := 4 * k) (ks := 379 * k) (a := o3) (ci := 12) (as := [vi s2, vi s3]) (st := [vl s0]) (tX12_likely h) mt_X12_likely rfl qM_RL_180 qI_X12_likely qV_X12_likely he_o3 rfl (Nat.le_of_ble_eq_true rfl) dL_law_1430 ?_
  clear h
  intro x2 F1 h
  refine aw_pc (pc' := 1433) rfl ?_
  refine aw_lcmp dL_law_1433 (aw_pc (pc' := 1434) rfl ?_)
  refine aw_if_eq dL_law_1434 rfl (fun c => ?_) (fun c => ?_)
  · replace h := h.1 c
    refine aw_less (kc' := 4 * k) (ks' := 379 * k) (by omega) (by omega) ?_
    exact aw_mask [true, true, true, true] (tL_law_J1596 hL hX18 h)
  · replace h := h.2 c
    refine aw_iconst dL_law_1437 (aw_pc (pc' := 1438) rfl ?_)
    exact aw_zret rfl (by decide) dL_law_1438 ⟨_, rfl, h⟩
def mL_law_J1408 (L : Nat) (xs : Nat → Int32) (X18 : Option Nat → Option Nat → Int → hp → Prop) (Q : Int → hp → Prop) (a1 : Option Nat) (a2 : Option Nat) (a3 : Int) (s0 : Option Nat) (s1 : Int) (s2 : Int) (F : hp) : Prop := rcv F s0 11 (fun o3 => mX11_likely o3 s1 s2 F (fun x2 F1 => (0 ≤ (a3 + 1) ∧ (a3 + 1) < (L : Int)) ∧ (0 ≤ (a3 + 2) ∧ (a3 + 2) < (L : Int)) ∧ (w32 (sx xs (a3 + 2)) = 0 → mL_law_J1430 L xs X18 Q a1 a2 a3 x2 a2 (sx xs (a3 + 1)) 0 F1) ∧ (¬ w32 (sx xs (a3 + 2)) = 0 → mL_law_J1430 L xs X18 Q a1 a2 a3 x2 a2 (sx xs (a3 + 1)) 1 F1)))
set_option maxHeartbeats 4000000 in
theorem tL_law_J1408 {k : Nat} {b L : Nat} {xs : Nat → Int32} (hL : L ≤ 384) {X18 : Option Nat → Option Nat → Int → hp → Prop} {Q : Int → hp → Prop} (hX18 : ∀ (a1 : Option Nat) (a2 : Option Nat) (a3 : Int) (F : hp), X18 a1 a2 a3 F → awx (lex b L xs) nL_law 1000 (4 * k) (379 * k) 18 [some (vr (some 6)), some (vr a1), some (vr a2), some (vi a3)] [] F (qI Q)) {a1 : Option Nat} {a2 : Option Nat} {a3 : Int} {s0 : Option Nat} {s1 : Int} {s2 : Int} {F : hp} (h : mL_law_J1408 L xs X18 Q a1 a2 a3 s0 s1 s2 F) : awx (lex b L xs) nL_law 1000 (4 * k) (379 * k) 1408 [some (vr (some 6)), some (vr a1), some (vr a2), some (vi a3)] [vi s2, vi s1, vr s0] F (qI Q) := by
  unfold mL_law_J1408 at h
  refine aw_less (kc' := 0 + 4 * k) (ks' := 0 + 379 * k) (by omega) (by omega) ?_
  have h0 := rcv_inv h
  clear h
  obtain ⟨o3, fs_o3, hr_o3, he_o3, h⟩ := h0
  subst hr_o3
  refine ar_VL (d := 999) (kc' := 0) (ks' := 0) (kc := 4 * k) (ks := 379 * k) (a := o3) (ci := 11) (as := [vi s1, vi s2]) (st := []) (tX11_likely h) mt_X11_likely rfl qM_RL_176 qI_X11_likely qV_X11_likely he_o3 rfl (Nat.le_of_ble_eq_true rfl) dL_law_1408 ?_
  clear h
  intro x2 F1 h
  refine aw_pc (pc' := 1411) rfl ?_
  refine aw_aload_n dL_law_1411 rfl rfl (aw_pc (pc' := 1412) rfl ?_)
  refine aw_aload_n dL_law_1412 rfl rfl (aw_pc (pc' := 1413) rfl ?_)
  refine aw_iload_n dL_law_1413 rfl rfl (aw_pc (pc' := 1414) rfl ?_)
  refine aw_iconst dL_law_1414 (aw_pc (pc' := 1415) rfl ?_)
  refine aw_iadd dL_law_1415 (aw_pc (pc' := 1416) rfl ?_)
  refine ar_sld hL h.1 dL_law_1416 (aw_pc (pc' := 1417) rfl ?_)
  replace h := h.2
  refine aw_aload_n dL_law_1417 rfl rfl (aw_pc (pc' := 1418) rfl ?_)
  refine aw_iload_n dL_law_1418 rfl rfl (aw_pc (pc' := 1419) rfl ?_)
  refine aw_iconst dL_law_1419 (aw_pc (pc' := 1420) rfl ?_)
  refine aw_iadd dL_law_1420 (aw_pc (pc' := 1421) rfl ?_)
  refine ar_sld hL h.1 dL_law_1421 (aw_pc (pc' := 1422) rfl ?_)
  replace h := h.2
  refine aw_if_eq dL_law_1422 rfl (fun c => ?_) (fun c => ?_)
  · replace h := h.1 c
    refine aw_iconst dL_law_1429 (aw_pc (pc' := 1430) rfl ?_)
    refine aw_less (kc' := 4 * k) (ks' := 379 * k) (by omega) (by omega) ?_
    exact aw_mask [true, true, true, true] (tL_law_J1430 hL hX18 h)
  · replace h := h.2 c
    refine aw_iconst dL_law_1425 (aw_pc (pc' := 1426) rfl ?_)
    refine aw_goto (tgt := 1430) dL_law_1426 rfl ?_
    refine aw_less (kc' := 4 * k) (ks' := 379 * k) (by omega) (by omega) ?_
    exact aw_mask [true, true, true, true] (tL_law_J1430 hL hX18 h)
def mL_law_J1348 (L : Nat) (xs : Nat → Int32) (X18 : Option Nat → Option Nat → Int → hp → Prop) (Q : Int → hp → Prop) (a1 : Option Nat) (a2 : Option Nat) (a3 : Int) (s0 : Int) (s1 : Option Nat) (s2 : Int) (F : hp) : Prop := rcv F s1 12 (fun o3 => mX12_histories o3 s2 F (fun x2 F1 => (w32 s0 = w32 x2 → mL_law_J1596 L xs X18 Q a1 a2 a3 F1) ∧ (¬ w32 s0 = w32 x2 → Q 0 F1)))
set_option maxHeartbeats 4000000 in
theorem tL_law_J1348 {k : Nat} {b L : Nat} {xs : Nat → Int32} (hL : L ≤ 384) {X18 : Option Nat → Option Nat → Int → hp → Prop} {Q : Int → hp → Prop} (hX18 : ∀ (a1 : Option Nat) (a2 : Option Nat) (a3 : Int) (F : hp), X18 a1 a2 a3 F → awx (lex b L xs) nL_law 1000 (4 * k) (379 * k) 18 [some (vr (some 6)), some (vr a1), some (vr a2), some (vi a3)] [] F (qI Q)) {a1 : Option Nat} {a2 : Option Nat} {a3 : Int} {s0 : Int} {s1 : Option Nat} {s2 : Int} {F : hp} (h : mL_law_J1348 L xs X18 Q a1 a2 a3 s0 s1 s2 F) : awx (lex b L xs) nL_law 1000 (4 * k) (379 * k) 1348 [some (vr (some 6)), some (vr a1), some (vr a2), some (vi a3)] [vi s2, vr s1, vi s0] F (qI Q) := by
  unfold mL_law_J1348 at h
  refine aw_less (kc' := 0 + 4 * k) (ks' := 0 + 379 * k) (by omega) (by omega) ?_
  have h0 := rcv_inv h
  clear h
  obtain ⟨o3, fs_o3, hr_o3, he_o3, h⟩ := h0
  subst hr_o3
  refine ar_VI (d := 999) (kc' := 0) (ks' := 0) (kc := 4 * k) (ks := 379 * k) (a := o3) (ci := 12) (as := [vi s2]) (st := [vi s0]) (tX12_histories h) mt_X12_histories rfl qM_RL_171 qI_X12_histories qV_X12_histories he_o3 rfl (Nat.le_of_ble_eq_true rfl) dL_law_1348 ?_
  clear h
  intro x2 F1 h
  refine aw_pc (pc' := 1351) rfl ?_
  refine ac_eq rfl rfl dL_law_1351 rfl (fun c => ?_) (fun c => ?_)
  · replace h := h.1 c
    refine aw_less (kc' := 4 * k) (ks' := 379 * k) (by omega) (by omega) ?_
    exact aw_mask [true, true, true, true] (tL_law_J1596 hL hX18 h)
  · replace h := h.2 c
    refine aw_iconst dL_law_1354 (aw_pc (pc' := 1355) rfl ?_)
    exact aw_zret rfl (by decide) dL_law_1355 ⟨_, rfl, h⟩
def mL_law_J1331 (L : Nat) (xs : Nat → Int32) (X18 : Option Nat → Option Nat → Int → hp → Prop) (Q : Int → hp → Prop) (a1 : Option Nat) (a2 : Option Nat) (a3 : Int) (s0 : Option Nat) (s1 : Int) (F : hp) : Prop := rcv F s0 11 (fun o3 => mX11_histories o3 s1 F (fun x2 F1 => (0 ≤ (a3 + 1) ∧ (a3 + 1) < (L : Int)) ∧ (w32 (sx xs (a3 + 1)) = 0 → mL_law_J1348 L xs X18 Q a1 a2 a3 x2 a2 0 F1) ∧ (¬ w32 (sx xs (a3 + 1)) = 0 → mL_law_J1348 L xs X18 Q a1 a2 a3 x2 a2 1 F1)))
set_option maxHeartbeats 4000000 in
theorem tL_law_J1331 {k : Nat} {b L : Nat} {xs : Nat → Int32} (hL : L ≤ 384) {X18 : Option Nat → Option Nat → Int → hp → Prop} {Q : Int → hp → Prop} (hX18 : ∀ (a1 : Option Nat) (a2 : Option Nat) (a3 : Int) (F : hp), X18 a1 a2 a3 F → awx (lex b L xs) nL_law 1000 (4 * k) (379 * k) 18 [some (vr (some 6)), some (vr a1), some (vr a2), some (vi a3)] [] F (qI Q)) {a1 : Option Nat} {a2 : Option Nat} {a3 : Int} {s0 : Option Nat} {s1 : Int} {F : hp} (h : mL_law_J1331 L xs X18 Q a1 a2 a3 s0 s1 F) : awx (lex b L xs) nL_law 1000 (4 * k) (379 * k) 1331 [some (vr (some 6)), some (vr a1), some (vr a2), some (vi a3)] [vi s1, vr s0] F (qI Q) := by
  unfold mL_law_J1331 at h
  refine aw_less (kc' := 0 + 4 * k) (ks' := 0 + 379 * k) (by omega) (by omega) ?_
  have h0 := rcv_inv h
  clear h
  obtain ⟨o3, fs_o3, hr_o3, he_o3, h⟩ := h0
  subst hr_o3
  refine ar_VI (d := 999) (kc' := 0) (ks' := 0) (kc := 4 * k) (ks := 379 * k) (a := o3) (ci := 11) (as := [vi s1]) (st := []) (tX11_histories h) mt_X11_histories rfl qM_RL_168 qI_X11_histories qV_X11_histories he_o3 rfl (Nat.le_of_ble_eq_true rfl) dL_law_1331 ?_
  clear h
  intro x2 F1 h
  refine aw_pc (pc' := 1334) rfl ?_
  refine aw_aload_n dL_law_1334 rfl rfl (aw_pc (pc' := 1335) rfl ?_)
  refine aw_aload_n dL_law_1335 rfl rfl (aw_pc (pc' := 1336) rfl ?_)
  refine aw_iload_n dL_law_1336 rfl rfl (aw_pc (pc' := 1337) rfl ?_)
  refine aw_iconst dL_law_1337 (aw_pc (pc' := 1338) rfl ?_)
  refine aw_iadd dL_law_1338 (aw_pc (pc' := 1339) rfl ?_)
  refine ar_sld hL h.1 dL_law_1339 (aw_pc (pc' := 1340) rfl ?_)
  replace h := h.2
  refine aw_if_eq dL_law_1340 rfl (fun c => ?_) (fun c => ?_)
  · replace h := h.1 c
    refine aw_iconst dL_law_1347 (aw_pc (pc' := 1348) rfl ?_)
    refine aw_less (kc' := 4 * k) (ks' := 379 * k) (by omega) (by omega) ?_
    exact aw_mask [true, true, true, true] (tL_law_J1348 hL hX18 h)
  · replace h := h.2 c
    refine aw_iconst dL_law_1343 (aw_pc (pc' := 1344) rfl ?_)
    refine aw_goto (tgt := 1348) dL_law_1344 rfl ?_
    refine aw_less (kc' := 4 * k) (ks' := 379 * k) (by omega) (by omega) ?_
    exact aw_mask [true, true, true, true] (tL_law_J1348 hL hX18 h)
def mL_law_J1266 (L : Nat) (xs : Nat → Int32) (X18 : Option Nat → Option Nat → Int → hp → Prop) (Q : Int → hp → Prop) (a1 : Option Nat) (a2 : Option Nat) (a3 : Int) (s0 : Int) (s1 : Option Nat) (s2 : Int) (F : hp) : Prop := rcv F s1 12 (fun o3 => mX12_stock o3 s2 F (fun x2 F1 => (w32 s0 = w32 x2 → mL_law_J1596 L xs X18 Q a1 a2 a3 F1) ∧ (¬ w32 s0 = w32 x2 → Q 0 F1)))
set_option maxHeartbeats 4000000 in
theorem tL_law_J1266 {k : Nat} {b L : Nat} {xs : Nat → Int32} (hL : L ≤ 384) {X18 : Option Nat → Option Nat → Int → hp → Prop} {Q : Int → hp → Prop} (hX18 : ∀ (a1 : Option Nat) (a2 : Option Nat) (a3 : Int) (F : hp), X18 a1 a2 a3 F → awx (lex b L xs) nL_law 1000 (4 * k) (379 * k) 18 [some (vr (some 6)), some (vr a1), some (vr a2), some (vi a3)] [] F (qI Q)) {a1 : Option Nat} {a2 : Option Nat} {a3 : Int} {s0 : Int} {s1 : Option Nat} {s2 : Int} {F : hp} (h : mL_law_J1266 L xs X18 Q a1 a2 a3 s0 s1 s2 F) : awx (lex b L xs) nL_law 1000 (4 * k) (379 * k) 1266 [some (vr (some 6)), some (vr a1), some (vr a2), some (vi a3)] [vi s2, vr s1, vi s0] F (qI Q) := by
  unfold mL_law_J1266 at h
  refine aw_less (kc' := 0 + 4 * k) (ks' := 0 + 379 * k) (by omega) (by omega) ?_
  have h0 := rcv_inv h
  clear h
  obtain ⟨o3, fs_o3, hr_o3, he_o3, h⟩ := h0
  subst hr_o3
  refine ar_VI (d := 999) (kc' := 0) (ks' := 0) (kc := 4 * k) (ks := 379 * k) (a := o3) (ci := 12) (as := [vi s2]) (st := [vi s0]) (tX12_stock h) mt_X12_stock rfl qM_RL_163 qI_X12_stock qV_X12_stock he_o3 rfl (Nat.le_of_ble_eq_true rfl) dL_law_1266 ?_
  clear h
  intro x2 F1 h
  refine aw_pc (pc' := 1269) rfl ?_
  refine ac_eq rfl rfl dL_law_1269 rfl (fun c => ?_) (fun c => ?_)
  · replace h := h.1 c
    refine aw_less (kc' := 4 * k) (ks' := 379 * k) (by omega) (by omega) ?_
    exact aw_mask [true, true, true, true] (tL_law_J1596 hL hX18 h)
  · replace h := h.2 c
    refine aw_iconst dL_law_1272 (aw_pc (pc' := 1273) rfl ?_)
    exact aw_zret rfl (by decide) dL_law_1273 ⟨_, rfl, h⟩
def mL_law_J1249 (L : Nat) (xs : Nat → Int32) (X18 : Option Nat → Option Nat → Int → hp → Prop) (Q : Int → hp → Prop) (a1 : Option Nat) (a2 : Option Nat) (a3 : Int) (s0 : Option Nat) (s1 : Int) (F : hp) : Prop := rcv F s0 11 (fun o3 => mX11_stock o3 s1 F (fun x2 F1 => (0 ≤ (a3 + 1) ∧ (a3 + 1) < (L : Int)) ∧ (w32 (sx xs (a3 + 1)) = 0 → mL_law_J1266 L xs X18 Q a1 a2 a3 x2 a2 0 F1) ∧ (¬ w32 (sx xs (a3 + 1)) = 0 → mL_law_J1266 L xs X18 Q a1 a2 a3 x2 a2 1 F1)))
set_option maxHeartbeats 4000000 in
theorem tL_law_J1249 {k : Nat} {b L : Nat} {xs : Nat → Int32} (hL : L ≤ 384) {X18 : Option Nat → Option Nat → Int → hp → Prop} {Q : Int → hp → Prop} (hX18 : ∀ (a1 : Option Nat) (a2 : Option Nat) (a3 : Int) (F : hp), X18 a1 a2 a3 F → awx (lex b L xs) nL_law 1000 (4 * k) (379 * k) 18 [some (vr (some 6)), some (vr a1), some (vr a2), some (vi a3)] [] F (qI Q)) {a1 : Option Nat} {a2 : Option Nat} {a3 : Int} {s0 : Option Nat} {s1 : Int} {F : hp} (h : mL_law_J1249 L xs X18 Q a1 a2 a3 s0 s1 F) : awx (lex b L xs) nL_law 1000 (4 * k) (379 * k) 1249 [some (vr (some 6)), some (vr a1), some (vr a2), some (vi a3)] [vi s1, vr s0] F (qI Q) := by
  unfold mL_law_J1249 at h
  refine aw_less (kc' := 0 + 4 * k) (ks' := 0 + 379 * k) (by omega) (by omega) ?_
  have h0 := rcv_inv h
  clear h
  obtain ⟨o3, fs_o3, hr_o3, he_o3, h⟩ := h0
  subst hr_o3
  refine ar_VI (d := 999) (kc' := 0) (ks' := 0) (kc := 4 * k) (ks := 379 * k) (a := o3) (ci := 11) (as := [vi s1]) (st := []) (tX11_stock h) mt_X11_stock rfl qM_RL_160 qI_X11_stock qV_X11_stock he_o3 rfl (Nat.le_of_ble_eq_true rfl) dL_law_1249 ?_
  clear h
  intro x2 F1 h
  refine aw_pc (pc' := 1252) rfl ?_
  refine aw_aload_n dL_law_1252 rfl rfl (aw_pc (pc' := 1253) rfl ?_)
  refine aw_aload_n dL_law_1253 rfl rfl (aw_pc (pc' := 1254) rfl ?_)
  refine aw_iload_n dL_law_1254 rfl rfl (aw_pc (pc' := 1255) rfl ?_)
  refine aw_iconst dL_law_1255 (aw_pc (pc' := 1256) rfl ?_)
  refine aw_iadd dL_law_1256 (aw_pc (pc' := 1257) rfl ?_)
  refine ar_sld hL h.1 dL_law_1257 (aw_pc (pc' := 1258) rfl ?_)
  replace h := h.2
  refine aw_if_eq dL_law_1258 rfl (fun c => ?_) (fun c => ?_)
  · replace h := h.1 c
    refine aw_iconst dL_law_1265 (aw_pc (pc' := 1266) rfl ?_)
    refine aw_less (kc' := 4 * k) (ks' := 379 * k) (by omega) (by omega) ?_
    exact aw_mask [true, true, true, true] (tL_law_J1266 hL hX18 h)
  · replace h := h.2 c
    refine aw_iconst dL_law_1261 (aw_pc (pc' := 1262) rfl ?_)
    refine aw_goto (tgt := 1266) dL_law_1262 rfl ?_
    refine aw_less (kc' := 4 * k) (ks' := 379 * k) (by omega) (by omega) ?_
    exact aw_mask [true, true, true, true] (tL_law_J1266 hL hX18 h)
def mL_law_J1059 (L : Nat) (xs : Nat → Int32) (X18 : Option Nat → Option Nat → Int → hp → Prop) (Q : Int → hp → Prop) (a1 : Option Nat) (a2 : Option Nat) (a3 : Int) (s0 : Int) (s1 : Option Nat) (s2 : Int) (F : hp) : Prop := rcv F s1 12 (fun o3 => mX12_crane o3 s2 F (fun x2 F1 => (w32 s0 = w32 x2 → mL_law_J1596 L xs X18 Q a1 a2 a3 F1) ∧ (¬ w32 s0 = w32 x2 → Q 0 F1)))
set_option maxHeartbeats 4000000 in
theorem tL_law_J1059 {k : Nat} {b L : Nat} {xs : Nat → Int32} (hL : L ≤ 384) {X18 : Option Nat → Option Nat → Int → hp → Prop} {Q : Int → hp → Prop} (hX18 : ∀ (a1 : Option Nat) (a2 : Option Nat) (a3 : Int) (F : hp), X18 a1 a2 a3 F → awx (lex b L xs) nL_law 1000 (4 * k) (379 * k) 18 [some (vr (some 6)), some (vr a1), some (vr a2), some (vi a3)] [] F (qI Q)) {a1 : Option Nat} {a2 : Option Nat} {a3 : Int} {s0 : Int} {s1 : Option Nat} {s2 : Int} {F : hp} (h : mL_law_J1059 L xs X18 Q a1 a2 a3 s0 s1 s2 F) : awx (lex b L xs) nL_law 1000 (4 * k) (379 * k) 1059 [some (vr (some 6)), some (vr a1), some (vr a2), some (vi a3)] [vi s2, vr s1, vi s0] F (qI Q) := by
  unfold mL_law_J1059 at h
  refine aw_less (kc' := 0 + 4 * k) (ks' := 0 + 379 * k) (by omega) (by omega) ?_
  have h0 := rcv_inv h
  clear h
  obtain ⟨o3, fs_o3, hr_o3, he_o3, h⟩ := h0
  subst hr_o3
  refine ar_VI (d := 999) (kc' := 0) (ks' := 0) (kc := 4 * k) (ks := 379 * k) (a := o3) (ci := 12) (as := [vi s2]) (st := [vi s0]) (tX12_crane h) mt_X12_crane rfl qM_RL_134 qI_X12_crane qV_X12_crane he_o3 rfl (Nat.le_of_ble_eq_true rfl) dL_law_1059 ?_
  clear h
  intro x2 F1 h
  refine aw_pc (pc' := 1062) rfl ?_
  refine ac_eq rfl rfl dL_law_1062 rfl (fun c => ?_) (fun c => ?_)
  · replace h := h.1 c
    refine aw_less (kc' := 4 * k) (ks' := 379 * k) (by omega) (by omega) ?_
    exact aw_mask [true, true, true, true] (tL_law_J1596 hL hX18 h)
  · replace h := h.2 c
    refine aw_iconst dL_law_1065 (aw_pc (pc' := 1066) rfl ?_)
    exact aw_zret rfl (by decide) dL_law_1066 ⟨_, rfl, h⟩
def mL_law_J1042 (L : Nat) (xs : Nat → Int32) (X18 : Option Nat → Option Nat → Int → hp → Prop) (Q : Int → hp → Prop) (a1 : Option Nat) (a2 : Option Nat) (a3 : Int) (s0 : Option Nat) (s1 : Int) (F : hp) : Prop := rcv F s0 11 (fun o3 => mX11_crane o3 s1 F (fun x2 F1 => (0 ≤ (a3 + 1) ∧ (a3 + 1) < (L : Int)) ∧ (w32 (sx xs (a3 + 1)) = 0 → mL_law_J1059 L xs X18 Q a1 a2 a3 x2 a2 0 F1) ∧ (¬ w32 (sx xs (a3 + 1)) = 0 → mL_law_J1059 L xs X18 Q a1 a2 a3 x2 a2 1 F1)))
set_option maxHeartbeats 4000000 in
theorem tL_law_J1042 {k : Nat} {b L : Nat} {xs : Nat → Int32} (hL : L ≤ 384) {X18 : Option Nat → Option Nat → Int → hp → Prop} {Q : Int → hp → Prop} (hX18 : ∀ (a1 : Option Nat) (a2 : Option Nat) (a3 : Int) (F : hp), X18 a1 a2 a3 F → awx (lex b L xs) nL_law 1000 (4 * k) (379 * k) 18 [some (vr (some 6)), some (vr a1), some (vr a2), some (vi a3)] [] F (qI Q)) {a1 : Option Nat} {a2 : Option Nat} {a3 : Int} {s0 : Option Nat} {s1 : Int} {F : hp} (h : mL_law_J1042 L xs X18 Q a1 a2 a3 s0 s1 F) : awx (lex b L xs) nL_law 1000 (4 * k) (379 * k) 1042 [some (vr (some 6)), some (vr a1), some (vr a2), some (vi a3)] [vi s1, vr s0] F (qI Q) := by
  unfold mL_law_J1042 at h
  refine aw_less (kc' := 0 + 4 * k) (ks' := 0 + 379 * k) (by omega) (by omega) ?_
  have h0 := rcv_inv h
  clear h
  obtain ⟨o3, fs_o3, hr_o3, he_o3, h⟩ := h0
  subst hr_o3
  refine ar_VI (d := 999) (kc' := 0) (ks' := 0) (kc := 4 * k) (ks := 379 * k) (a := o3) (ci := 11) (as := [vi s1]) (st := []) (tX11_crane h) mt_X11_crane rfl qM_RL_130 qI_X11_crane qV_X11_crane he_o3 rfl (Nat.le_of_ble_eq_true rfl) dL_law_1042 ?_
  clear h
  intro x2 F1 h
  refine aw_pc (pc' := 1045) rfl ?_
  refine aw_aload_n dL_law_1045 rfl rfl (aw_pc (pc' := 1046) rfl ?_)
  refine aw_aload_n dL_law_1046 rfl rfl (aw_pc (pc' := 1047) rfl ?_)
  refine aw_iload_n dL_law_1047 rfl rfl (aw_pc (pc' := 1048) rfl ?_)
  refine aw_iconst dL_law_1048 (aw_pc (pc' := 1049) rfl ?_)
  refine aw_iadd dL_law_1049 (aw_pc (pc' := 1050) rfl ?_)
  refine ar_sld hL h.1 dL_law_1050 (aw_pc (pc' := 1051) rfl ?_)
  replace h := h.2
  refine aw_if_eq dL_law_1051 rfl (fun c => ?_) (fun c => ?_)
  · replace h := h.1 c
    refine aw_iconst dL_law_1058 (aw_pc (pc' := 1059) rfl ?_)
    refine aw_less (kc' := 4 * k) (ks' := 379 * k) (by omega) (by omega) ?_
    exact aw_mask [true, true, true, true] (tL_law_J1059 hL hX18 h)
  · replace h := h.2 c
    refine aw_iconst dL_law_1054 (aw_pc (pc' := 1055) rfl ?_)
    refine aw_goto (tgt := 1059) dL_law_1055 rfl ?_
    refine aw_less (kc' := 4 * k) (ks' := 379 * k) (by omega) (by omega) ?_
    exact aw_mask [true, true, true, true] (tL_law_J1059 hL hX18 h)
def mL_law_J324 (L : Nat) (xs : Nat → Int32) (X18 : Option Nat → Option Nat → Int → hp → Prop) (Q : Int → hp → Prop) (a1 : Option Nat) (a2 : Option Nat) (a3 : Int) (s0 : Int) (s1 : Option Nat) (s2 : Int) (s3 : Int) (s4 : Int) (F : hp) : Prop := rcv F s1 12 (fun o3 => mX12_forbid o3 s2 s3 s4 F (fun x2 F1 => (w32 s0 = w32 x2 → mL_law_J1596 L xs X18 Q a1 a2 a3 F1) ∧ (¬ w32 s0 = w32 x2 → Q 0 F1)))
set_option maxHeartbeats 4000000 in
theorem tL_law_J324 {k : Nat} {b L : Nat} {xs : Nat → Int32} (hL : L ≤ 384) {X18 : Option Nat → Option Nat → Int → hp → Prop} {Q : Int → hp → Prop} (hX18 : ∀ (a1 : Option Nat) (a2 : Option Nat) (a3 : Int) (F : hp), X18 a1 a2 a3 F → awx (lex b L xs) nL_law 1000 (4 * k) (379 * k) 18 [some (vr (some 6)), some (vr a1), some (vr a2), some (vi a3)] [] F (qI Q)) {a1 : Option Nat} {a2 : Option Nat} {a3 : Int} {s0 : Int} {s1 : Option Nat} {s2 : Int} {s3 : Int} {s4 : Int} {F : hp} (h : mL_law_J324 L xs X18 Q a1 a2 a3 s0 s1 s2 s3 s4 F) : awx (lex b L xs) nL_law 1000 (4 * k) (379 * k) 324 [some (vr (some 6)), some (vr a1), some (vr a2), some (vi a3)] [vi s4, vi s3, vi s2, vr s1, vi s0] F (qI Q) := by
  unfold mL_law_J324 at h
  refine aw_less (kc' := 0 + 4 * k) (ks' := 0 + 379 * k) (by omega) (by omega) ?_
  have h0 := rcv_inv h
  clear h
  obtain ⟨o3, fs_o3, hr_o3, he_o3, h⟩ := h0
  subst hr_o3
  refine ar_VI (d := 999) (kc' := 0) (ks' := 0) (kc := 4 * k) (ks := 379 * k) (a := o3) (ci := 12) (as := [vi s2, vi s3, vi s4]) (st := [vi s0]) (tX12_forbid h) mt_X12_forbid rfl qM_RL_22 qI_X12_forbid qV_X12_forbid he_o3 rfl (Nat.le_of_ble_eq_true rfl) dL_law_324 ?_
  clear h
  intro x2 F1 h
  refine aw_pc (pc' := 327) rfl ?_
  refine ac_eq rfl rfl dL_law_327 rfl (fun c => ?_) (fun c => ?_)
  · replace h := h.1 c
    refine aw_less (kc' := 4 * k) (ks' := 379 * k) (by omega) (by omega) ?_
    exact aw_mask [true, true, true, true] (tL_law_J1596 hL hX18 h)
  · replace h := h.2 c
    refine aw_iconst dL_law_330 (aw_pc (pc' := 331) rfl ?_)
    exact aw_zret rfl (by decide) dL_law_331 ⟨_, rfl, h⟩
def mL_law_J297 (L : Nat) (xs : Nat → Int32) (X18 : Option Nat → Option Nat → Int → hp → Prop) (Q : Int → hp → Prop) (a1 : Option Nat) (a2 : Option Nat) (a3 : Int) (s0 : Option Nat) (s1 : Int) (s2 : Int) (s3 : Int) (F : hp) : Prop := rcv F s0 11 (fun o3 => mX11_forbid o3 s1 s2 s3 F (fun x2 F1 => (0 ≤ (a3 + 1) ∧ (a3 + 1) < (L : Int)) ∧ (0 ≤ (a3 + 2) ∧ (a3 + 2) < (L : Int)) ∧ (0 ≤ (a3 + 3) ∧ (a3 + 3) < (L : Int)) ∧ (w32 (sx xs (a3 + 3)) = 0 → mL_law_J324 L xs X18 Q a1 a2 a3 x2 a2 (sx xs (a3 + 1)) (sx xs (a3 + 2)) 0 F1) ∧ (¬ w32 (sx xs (a3 + 3)) = 0 → mL_law_J324 L xs X18 Q a1 a2 a3 x2 a2 (sx xs (a3 + 1)) (sx xs (a3 + 2)) 1 F1)))
set_option maxHeartbeats 4000000 in
theorem tL_law_J297 {k : Nat} {b L : Nat} {xs : Nat → Int32} (hL : L ≤ 384) {X18 : Option Nat → Option Nat → Int → hp → Prop} {Q : Int → hp → Prop} (hX18 : ∀ (a1 : Option Nat) (a2 : Option Nat) (a3 : Int) (F : hp), X18 a1 a2 a3 F → awx (lex b L xs) nL_law 1000 (4 * k) (379 * k) 18 [some (vr (some 6)), some (vr a1), some (vr a2), some (vi a3)] [] F (qI Q)) {a1 : Option Nat} {a2 : Option Nat} {a3 : Int} {s0 : Option Nat} {s1 : Int} {s2 : Int} {s3 : Int} {F : hp} (h : mL_law_J297 L xs X18 Q a1 a2 a3 s0 s1 s2 s3 F) : awx (lex b L xs) nL_law 1000 (4 * k) (379 * k) 297 [some (vr (some 6)), some (vr a1), some (vr a2), some (vi a3)] [vi s3, vi s2, vi s1, vr s0] F (qI Q) := by
  unfold mL_law_J297 at h
  refine aw_less (kc' := 0 + 4 * k) (ks' := 0 + 379 * k) (by omega) (by omega) ?_
  have h0 := rcv_inv h
  clear h
  obtain ⟨o3, fs_o3, hr_o3, he_o3, h⟩ := h0
  subst hr_o3
  refine ar_VI (d := 999) (kc' := 0) (ks' := 0) (kc := 4 * k) (ks := 379 * k) (a := o3) (ci := 11) (as := [vi s1, vi s2, vi s3]) (st := []) (tX11_forbid h) mt_X11_forbid rfl qM_RL_18 qI_X11_forbid qV_X11_forbid he_o3 rfl (Nat.le_of_ble_eq_true rfl) dL_law_297 ?_
  clear h
  intro x2 F1 h
  refine aw_pc (pc' := 300) rfl ?_
  refine aw_aload_n dL_law_300 rfl rfl (aw_pc (pc' := 301) rfl ?_)
  refine aw_aload_n dL_law_301 rfl rfl (aw_pc (pc' := 302) rfl ?_)
  refine aw_iload_n dL_law_302 rfl rfl (aw_pc (pc' := 303) rfl ?_)
  refine aw_iconst dL_law_303 (aw_pc (pc' := 304) rfl ?_)
  refine aw_iadd dL_law_304 (aw_pc (pc' := 305) rfl ?_)
  refine ar_sld hL h.1 dL_law_305 (aw_pc (pc' := 306) rfl ?_)
  replace h := h.2
  refine aw_aload_n dL_law_306 rfl rfl (aw_pc (pc' := 307) rfl ?_)
  refine aw_iload_n dL_law_307 rfl rfl (aw_pc (pc' := 308) rfl ?_)
  refine aw_iconst dL_law_308 (aw_pc (pc' := 309) rfl ?_)
  refine aw_iadd dL_law_309 (aw_pc (pc' := 310) rfl ?_)
  refine ar_sld hL h.1 dL_law_310 (aw_pc (pc' := 311) rfl ?_)
  replace h := h.2
  refine aw_aload_n dL_law_311 rfl rfl (aw_pc (pc' := 312) rfl ?_)
  refine aw_iload_n dL_law_312 rfl rfl (aw_pc (pc' := 313) rfl ?_)
  refine aw_iconst dL_law_313 (aw_pc (pc' := 314) rfl ?_)
  refine aw_iadd dL_law_314 (aw_pc (pc' := 315) rfl ?_)
  refine ar_sld hL h.1 dL_law_315 (aw_pc (pc' := 316) rfl ?_)
  replace h := h.2
  refine aw_if_eq dL_law_316 rfl (fun c => ?_) (fun c => ?_)
  · replace h := h.1 c
    refine aw_iconst dL_law_323 (aw_pc (pc' := 324) rfl ?_)
    refine aw_less (kc' := 4 * k) (ks' := 379 * k) (by omega) (by omega) ?_
    exact aw_mask [true, true, true, true] (tL_law_J324 hL hX18 h)
  · replace h := h.2 c
    refine aw_iconst dL_law_319 (aw_pc (pc' := 320) rfl ?_)
    refine aw_goto (tgt := 324) dL_law_320 rfl ?_
    refine aw_less (kc' := 4 * k) (ks' := 379 * k) (by omega) (by omega) ?_
    exact aw_mask [true, true, true, true] (tL_law_J324 hL hX18 h)
def mL_law_L18 (L : Nat) (xs : Nat → Int32) (Q : Int → hp → Prop) : Nat → Option Nat → Option Nat → Int → hp → Prop
  | 0, _, _, _, _ => False
  | k + 1, a1, a2, a3, F => (w32 ((L : Int) - 6) < w32 a3 → Q 1 F) ∧ (¬ w32 ((L : Int) - 6) < w32 a3 → (0 ≤ a3 ∧ a3 < (L : Int)) ∧ (w32 (iAnd (sx xs a3) 63) = 0 → (0 ≤ (a3 + 1) ∧ (a3 + 1) < (L : Int)) ∧ (0 ≤ (a3 + 2) ∧ (a3 + 2) < (L : Int)) ∧ rcv F a1 11 (fun o3 => mX11_car o3 (sx xs (a3 + 1)) (sx xs (a3 + 2)) F (fun x2 F1 => (0 ≤ (a3 + 1) ∧ (a3 + 1) < (L : Int)) ∧ (0 ≤ (a3 + 2) ∧ (a3 + 2) < (L : Int)) ∧ rcv F1 a2 12 (fun o6 => mX12_car o6 (sx xs (a3 + 1)) (sx xs (a3 + 2)) F1 (fun x5 F4 => (w32 x2 = w32 x5 → mL_law_J1596 L xs (fun a1' a2' a3' F' => mL_law_L18 L xs Q k a1' a2' a3' F') Q (some o3) (some o6) a3 F4) ∧ (¬ w32 x2 = w32 x5 → Q 0 F4)))))) ∧ (w32 (iAnd (sx xs a3) 63) = 1 → (0 ≤ (a3 + 1) ∧ (a3 + 1) < (L : Int)) ∧ (0 ≤ (a3 + 2) ∧ (a3 + 2) < (L : Int)) ∧ (0 ≤ (a3 + 3) ∧ (a3 + 3) < (L : Int)) ∧ (w32 (sx xs (a3 + 3)) = 0 → mL_law_J297 L xs (fun a1' a2' a3' F' => mL_law_L18 L xs Q k a1' a2' a3' F') Q a1 a2 a3 a1 (sx xs (a3 + 1)) (sx xs (a3 + 2)) 0 F) ∧ (¬ w32 (sx xs (a3 + 3)) = 0 → mL_law_J297 L xs (fun a1' a2' a3' F' => mL_law_L18 L xs Q k a1' a2' a3' F') Q a1 a2 a3 a1 (sx xs (a3 + 1)) (sx xs (a3 + 2)) 1 F)) ∧ (w32 (iAnd (sx xs a3) 63) = 2 → (0 ≤ (a3 + 1) ∧ (a3 + 1) < (L : Int)) ∧ (0 ≤ (a3 + 2) ∧ (a3 + 2) < (L : Int)) ∧ (0 ≤ (a3 + 3) ∧ (a3 + 3) < (L : Int)) ∧ rcv F a1 11 (fun o9 => mX11_times o9 (sx xs (a3 + 1)) (sx xs (a3 + 2)) (sx xs (a3 + 3)) F (fun x8 F7 => (0 ≤ (a3 + 1) ∧ (a3 + 1) < (L : Int)) ∧ (0 ≤ (a3 + 2) ∧ (a3 + 2) < (L : Int)) ∧ (0 ≤ (a3 + 3) ∧ (a3 + 3) < (L : Int)) ∧ rcv F7 a2 12 (fun o12 => mX12_times o12 (sx xs (a3 + 1)) (sx xs (a3 + 2)) (sx xs (a3 + 3)) F7 (fun x11 F10 => (w32 x8 = w32 x11 → mL_law_J1596 L xs (fun a1' a2' a3' F' => mL_law_L18 L xs Q k a1' a2' a3' F') Q (some o9) (some o12) a3 F10) ∧ (¬ w32 x8 = w32 x11 → Q 0 F10)))))) ∧ (w32 (iAnd (sx xs a3) 63) = 3 → (0 ≤ (a3 + 1) ∧ (a3 + 1) < (L : Int)) ∧ (0 ≤ (a3 + 2) ∧ (a3 + 2) < (L : Int)) ∧ (0 ≤ (a3 + 3) ∧ (a3 + 3) < (L : Int)) ∧ (0 ≤ (a3 + 4) ∧ (a3 + 4) < (L : Int)) ∧ (0 ≤ (a3 + 5) ∧ (a3 + 5) < (L : Int)) ∧ rcv F a1 11 (fun o15 => mX11_feed o15 (sx xs (a3 + 1)) (sx xs (a3 + 2)) (sx xs (a3 + 3)) (sx xs (a3 + 4)) (sx xs (a3 + 5)) F (fun x14 F13 => (0 ≤ (a3 + 1) ∧ (a3 + 1) < (L : Int)) ∧ (0 ≤ (a3 + 2) ∧ (a3 + 2) < (L : Int)) ∧ (0 ≤ (a3 + 3) ∧ (a3 + 3) < (L : Int)) ∧ (0 ≤ (a3 + 4) ∧ (a3 + 4) < (L : Int)) ∧ (0 ≤ (a3 + 5) ∧ (a3 + 5) < (L : Int)) ∧ rcv F13 a2 12 (fun o18 => mX12_feed o18 (sx xs (a3 + 1)) (sx xs (a3 + 2)) (sx xs (a3 + 3)) (sx xs (a3 + 4)) (sx xs (a3 + 5)) F13 (fun x17 F16 => (w32 x14 = w32 x17 → mL_law_J1596 L xs (fun a1' a2' a3' F' => mL_law_L18 L xs Q k a1' a2' a3' F') Q (some o15) (some o18) a3 F16) ∧ (¬ w32 x14 = w32 x17 → Q 0 F16)))))) ∧ (w32 (iAnd (sx xs a3) 63) = 4 → (0 ≤ (a3 + 1) ∧ (a3 + 1) < (L : Int)) ∧ rcv F a1 11 (fun o21 => mX11_end o21 (sx xs (a3 + 1)) F (fun x20 F19 => (0 ≤ (a3 + 1) ∧ (a3 + 1) < (L : Int)) ∧ rcv F19 a2 12 (fun o24 => mX12_end o24 (sx xs (a3 + 1)) F19 (fun x23 F22 => (w32 x20 = w32 x23 → mL_law_J1596 L xs (fun a1' a2' a3' F' => mL_law_L18 L xs Q k a1' a2' a3' F') Q (some o21) (some o24) a3 F22) ∧ (¬ w32 x20 = w32 x23 → Q 0 F22)))))) ∧ (w32 (iAnd (sx xs a3) 63) = 5 → rcv F a1 11 (fun o27 => mX11_text o27 F (fun x26 F25 => rcv F25 a2 12 (fun o30 => mX12_text o30 F25 (fun x29 F28 => (w32 x26 = w32 x29 → mL_law_J1596 L xs (fun a1' a2' a3' F' => mL_law_L18 L xs Q k a1' a2' a3' F') Q (some o27) (some o30) a3 F28) ∧ (¬ w32 x26 = w32 x29 → Q 0 F28)))))) ∧ (w32 (iAnd (sx xs a3) 63) = 6 → (0 ≤ (a3 + 1) ∧ (a3 + 1) < (L : Int)) ∧ rcv F a1 11 (fun o33 => mX11_fault o33 (sx xs (a3 + 1)) F (fun x32 F31 => (0 ≤ (a3 + 1) ∧ (a3 + 1) < (L : Int)) ∧ rcv F31 a2 12 (fun o36 => mX12_fault o36 (sx xs (a3 + 1)) F31 (fun x35 F34 => (w32 x32 = w32 x35 → mL_law_J1596 L xs (fun a1' a2' a3' F' => mL_law_L18 L xs Q k a1' a2' a3' F') Q (some o33) (some o36) a3 F34) ∧ (¬ w32 x32 = w32 x35 → Q 0 F34)))))) ∧ (w32 (iAnd (sx xs a3) 63) = 7 → (0 ≤ (a3 + 1) ∧ (a3 + 1) < (L : Int)) ∧ rcv F a1 11 (fun o39 => mX11_by o39 (sx xs (a3 + 1)) F (fun x38 F37 => (0 ≤ (a3 + 1) ∧ (a3 + 1) < (L : Int)) ∧ rcv F37 a2 12 (fun o42 => mX12_by o42 (sx xs (a3 + 1)) F37 (fun x41 F40 => (w32 x38 = w32 x41 → mL_law_J1596 L xs (fun a1' a2' a3' F' => mL_law_L18 L xs Q k a1' a2' a3' F') Q (some o39) (some o42) a3 F40) ∧ (¬ w32 x38 = w32 x41 → Q 0 F40)))))) ∧ (w32 (iAnd (sx xs a3) 63) = 8 → (0 ≤ (a3 + 1) ∧ (a3 + 1) < (L : Int)) ∧ (0 ≤ (a3 + 2) ∧ (a3 + 2) < (L : Int)) ∧ rcv F a1 11 (fun o45 => mX11_move o45 (sx xs (a3 + 1)) (sx xs (a3 + 2)) F (fun x44 F43 => (0 ≤ (a3 + 1) ∧ (a3 + 1) < (L : Int)) ∧ (0 ≤ (a3 + 2) ∧ (a3 + 2) < (L : Int)) ∧ rcv F43 a2 12 (fun o48 => mX12_move o48 (sx xs (a3 + 1)) (sx xs (a3 + 2)) F43 (fun x47 F46 => (w32 x44 = w32 x47 → mL_law_J1596 L xs (fun a1' a2' a3' F' => mL_law_L18 L xs Q k a1' a2' a3' F') Q (some o45) (some o48) a3 F46) ∧ (¬ w32 x44 = w32 x47 → Q 0 F46)))))) ∧ (w32 (iAnd (sx xs a3) 63) = 9 → rcv F a1 11 (fun o51 => mX11_change o51 F (fun x50 F49 => rcv F49 a2 12 (fun o54 => mX12_change o54 F49 (fun x53 F52 => (w32 x50 = w32 x53 → mL_law_J1596 L xs (fun a1' a2' a3' F' => mL_law_L18 L xs Q k a1' a2' a3' F') Q (some o51) (some o54) a3 F52) ∧ (¬ w32 x50 = w32 x53 → Q 0 F52)))))) ∧ (w32 (iAnd (sx xs a3) 63) = 10 → (0 ≤ (a3 + 1) ∧ (a3 + 1) < (L : Int)) ∧ (0 ≤ (a3 + 2) ∧ (a3 + 2) < (L : Int)) ∧ rcv F a1 11 (fun o57 => mX11_lend o57 (sx xs (a3 + 1)) (sx xs (a3 + 2)) F (fun x56 F55 => (0 ≤ (a3 + 1) ∧ (a3 + 1) < (L : Int)) ∧ (0 ≤ (a3 + 2) ∧ (a3 + 2) < (L : Int)) ∧ rcv F55 a2 12 (fun o60 => mX12_lend o60 (sx xs (a3 + 1)) (sx xs (a3 + 2)) F55 (fun x59 F58 => (w32 x56 = w32 x59 → mL_law_J1596 L xs (fun a1' a2' a3' F' => mL_law_L18 L xs Q k a1' a2' a3' F') Q (some o57) (some o60) a3 F58) ∧ (¬ w32 x56 = w32 x59 → Q 0 F58)))))) ∧ (w32 (iAnd (sx xs a3) 63) = 11 → (0 ≤ (a3 + 1) ∧ (a3 + 1) < (L : Int)) ∧ rcv F a1 11 (fun o63 => mX11_hour o63 (sx xs (a3 + 1)) F (fun x62 F61 => (0 ≤ (a3 + 1) ∧ (a3 + 1) < (L : Int)) ∧ rcv F61 a2 12 (fun o66 => mX12_hour o66 (sx xs (a3 + 1)) F61 (fun x65 F64 => (w32 x62 = w32 x65 → mL_law_J1596 L xs (fun a1' a2' a3' F' => mL_law_L18 L xs Q k a1' a2' a3' F') Q (some o63) (some o66) a3 F64) ∧ (¬ w32 x62 = w32 x65 → Q 0 F64)))))) ∧ (w32 (iAnd (sx xs a3) 63) = 12 → (0 ≤ (a3 + 1) ∧ (a3 + 1) < (L : Int)) ∧ rcv F a1 11 (fun o69 => mX11_played o69 (sx xs (a3 + 1)) F (fun x68 F67 => (0 ≤ (a3 + 1) ∧ (a3 + 1) < (L : Int)) ∧ rcv F67 a2 12 (fun o72 => mX12_played o72 (sx xs (a3 + 1)) F67 (fun x71 F70 => (w32 x68 = w32 x71 → mL_law_J1596 L xs (fun a1' a2' a3' F' => mL_law_L18 L xs Q k a1' a2' a3' F') Q (some o69) (some o72) a3 F70) ∧ (¬ w32 x68 = w32 x71 → Q 0 F70)))))) ∧ (w32 (iAnd (sx xs a3) 63) = 13 → (0 ≤ (a3 + 1) ∧ (a3 + 1) < (L : Int)) ∧ (0 ≤ (a3 + 2) ∧ (a3 + 2) < (L : Int)) ∧ rcv F a1 11 (fun o75 => mX11_years o75 (sx xs (a3 + 1)) (sx xs (a3 + 2)) F (fun x74 F73 => (0 ≤ (a3 + 1) ∧ (a3 + 1) < (L : Int)) ∧ (0 ≤ (a3 + 2) ∧ (a3 + 2) < (L : Int)) ∧ rcv F73 a2 12 (fun o78 => mX12_years o78 (sx xs (a3 + 1)) (sx xs (a3 + 2)) F73 (fun x77 F76 => (w32 x74 = w32 x77 → mL_law_J1596 L xs (fun a1' a2' a3' F' => mL_law_L18 L xs Q k a1' a2' a3' F') Q (some o75) (some o78) a3 F76) ∧ (¬ w32 x74 = w32 x77 → Q 0 F76)))))) ∧ (w32 (iAnd (sx xs a3) 63) = 14 → rcv F a1 11 (fun o81 => mX11_undo o81 F (fun x80 F79 => rcv F79 a2 12 (fun o84 => mX12_undo o84 F79 (fun x83 F82 => (w32 x80 = w32 x83 → mL_law_J1596 L xs (fun a1' a2' a3' F' => mL_law_L18 L xs Q k a1' a2' a3' F') Q (some o81) (some o84) a3 F82) ∧ (¬ w32 x80 = w32 x83 → Q 0 F82)))))) ∧ (w32 (iAnd (sx xs a3) 63) = 15 → (0 ≤ (a3 + 1) ∧ (a3 + 1) < (L : Int)) ∧ (0 ≤ (a3 + 2) ∧ (a3 + 2) < (L : Int)) ∧ rcv F a1 11 (fun o87 => mX11_of o87 (sx xs (a3 + 1)) (sx xs (a3 + 2)) F (fun x86 F85 => (0 ≤ (a3 + 1) ∧ (a3 + 1) < (L : Int)) ∧ (0 ≤ (a3 + 2) ∧ (a3 + 2) < (L : Int)) ∧ rcv F85 a2 12 (fun o90 => mX12_of o90 (sx xs (a3 + 1)) (sx xs (a3 + 2)) F85 (fun x89 F88 => (w32 x86 = w32 x89 → mL_law_J1596 L xs (fun a1' a2' a3' F' => mL_law_L18 L xs Q k a1' a2' a3' F') Q (some o87) (some o90) a3 F88) ∧ (¬ w32 x86 = w32 x89 → Q 0 F88)))))) ∧ (w32 (iAnd (sx xs a3) 63) = 16 → (0 ≤ (a3 + 1) ∧ (a3 + 1) < (L : Int)) ∧ (0 ≤ (a3 + 2) ∧ (a3 + 2) < (L : Int)) ∧ rcv F a1 11 (fun o93 => mX11_track o93 (sx xs (a3 + 1)) (sx xs (a3 + 2)) F (fun x92 F91 => (0 ≤ (a3 + 1) ∧ (a3 + 1) < (L : Int)) ∧ (0 ≤ (a3 + 2) ∧ (a3 + 2) < (L : Int)) ∧ rcv F91 a2 12 (fun o96 => mX12_track o96 (sx xs (a3 + 1)) (sx xs (a3 + 2)) F91 (fun x95 F94 => (w32 x92 = w32 x95 → mL_law_J1596 L xs (fun a1' a2' a3' F' => mL_law_L18 L xs Q k a1' a2' a3' F') Q (some o93) (some o96) a3 F94) ∧ (¬ w32 x92 = w32 x95 → Q 0 F94)))))) ∧ (w32 (iAnd (sx xs a3) 63) = 17 → (0 ≤ (a3 + 1) ∧ (a3 + 1) < (L : Int)) ∧ (0 ≤ (a3 + 2) ∧ (a3 + 2) < (L : Int)) ∧ rcv F a1 11 (fun o99 => mX11_law o99 (sx xs (a3 + 1)) (sx xs (a3 + 2)) F (fun x98 F97 => (0 ≤ (a3 + 1) ∧ (a3 + 1) < (L : Int)) ∧ (0 ≤ (a3 + 2) ∧ (a3 + 2) < (L : Int)) ∧ rcv F97 a2 12 (fun o102 => mX12_law o102 (sx xs (a3 + 1)) (sx xs (a3 + 2)) F97 (fun x101 F100 => (w32 x98 = w32 x101 → mL_law_J1596 L xs (fun a1' a2' a3' F' => mL_law_L18 L xs Q k a1' a2' a3' F') Q (some o99) (some o102) a3 F100) ∧ (¬ w32 x98 = w32 x101 → Q 0 F100)))))) ∧ (w32 (iAnd (sx xs a3) 63) = 18 → (0 ≤ (a3 + 1) ∧ (a3 + 1) < (L : Int)) ∧ rcv F a1 11 (fun o105 => mX11_is o105 (sx xs (a3 + 1)) F (fun x104 F103 => (0 ≤ (a3 + 1) ∧ (a3 + 1) < (L : Int)) ∧ rcv F103 a2 12 (fun o108 => mX12_is o108 (sx xs (a3 + 1)) F103 (fun x107 F106 => (w32 x104 = w32 x107 → mL_law_J1596 L xs (fun a1' a2' a3' F' => mL_law_L18 L xs Q k a1' a2' a3' F') Q (some o105) (some o108) a3 F106) ∧ (¬ w32 x104 = w32 x107 → Q 0 F106)))))) ∧ (w32 (iAnd (sx xs a3) 63) = 19 → (0 ≤ (a3 + 1) ∧ (a3 + 1) < (L : Int)) ∧ (0 ≤ (a3 + 2) ∧ (a3 + 2) < (L : Int)) ∧ rcv F a1 11 (fun o111 => mX11_book o111 (sx xs (a3 + 1)) (sx xs (a3 + 2)) F (fun x110 F109 => (0 ≤ (a3 + 1) ∧ (a3 + 1) < (L : Int)) ∧ (0 ≤ (a3 + 2) ∧ (a3 + 2) < (L : Int)) ∧ rcv F109 a2 12 (fun o114 => mX12_book o114 (sx xs (a3 + 1)) (sx xs (a3 + 2)) F109 (fun x113 F112 => (w32 x110 = w32 x113 → mL_law_J1596 L xs (fun a1' a2' a3' F' => mL_law_L18 L xs Q k a1' a2' a3' F') Q (some o111) (some o114) a3 F112) ∧ (¬ w32 x110 = w32 x113 → Q 0 F112)))))) ∧ (w32 (iAnd (sx xs a3) 63) = 20 → (0 ≤ (a3 + 1) ∧ (a3 + 1) < (L : Int)) ∧ (0 ≤ (a3 + 2) ∧ (a3 + 2) < (L : Int)) ∧ rcv F a1 11 (fun o117 => mX11_foretold o117 (sx xs (a3 + 1)) (sx xs (a3 + 2)) F (fun x116 F115 => (0 ≤ (a3 + 1) ∧ (a3 + 1) < (L : Int)) ∧ (0 ≤ (a3 + 2) ∧ (a3 + 2) < (L : Int)) ∧ rcv F115 a2 12 (fun o120 => mX12_foretold o120 (sx xs (a3 + 1)) (sx xs (a3 + 2)) F115 (fun x119 F118 => (w32 x116 = w32 x119 → mL_law_J1596 L xs (fun a1' a2' a3' F' => mL_law_L18 L xs Q k a1' a2' a3' F') Q (some o117) (some o120) a3 F118) ∧ (¬ w32 x116 = w32 x119 → Q 0 F118)))))) ∧ (w32 (iAnd (sx xs a3) 63) = 21 → (0 ≤ (a3 + 1) ∧ (a3 + 1) < (L : Int)) ∧ rcv F a1 11 (fun o123 => mX11_want o123 (sx xs (a3 + 1)) F (fun x122 F121 => (0 ≤ (a3 + 1) ∧ (a3 + 1) < (L : Int)) ∧ rcv F121 a2 12 (fun o126 => mX12_want o126 (sx xs (a3 + 1)) F121 (fun x125 F124 => (w32 x122 = w32 x125 → mL_law_J1596 L xs (fun a1' a2' a3' F' => mL_law_L18 L xs Q k a1' a2' a3' F') Q (some o123) (some o126) a3 F124) ∧ (¬ w32 x122 = w32 x125 → Q 0 F124)))))) ∧ (w32 (iAnd (sx xs a3) 63) = 22 → (0 ≤ (a3 + 1) ∧ (a3 + 1) < (L : Int)) ∧ rcv F a1 11 (fun o129 => mX11_shunts o129 (sx xs (a3 + 1)) F (fun x128 F127 => (0 ≤ (a3 + 1) ∧ (a3 + 1) < (L : Int)) ∧ rcv F127 a2 12 (fun o132 => mX12_shunts o132 (sx xs (a3 + 1)) F127 (fun x131 F130 => (w32 x128 = w32 x131 → mL_law_J1596 L xs (fun a1' a2' a3' F' => mL_law_L18 L xs Q k a1' a2' a3' F') Q (some o129) (some o132) a3 F130) ∧ (¬ w32 x128 = w32 x131 → Q 0 F130)))))) ∧ (w32 (iAnd (sx xs a3) 63) = 23 → rcv F a1 11 (fun o135 => mX11_reach o135 F (fun x134 F133 => rcv F133 a2 12 (fun o138 => mX12_reach o138 F133 (fun x137 F136 => (w32 x134 = w32 x137 → mL_law_J1596 L xs (fun a1' a2' a3' F' => mL_law_L18 L xs Q k a1' a2' a3' F') Q (some o135) (some o138) a3 F136) ∧ (¬ w32 x134 = w32 x137 → Q 0 F136)))))) ∧ (w32 (iAnd (sx xs a3) 63) = 24 → (0 ≤ (a3 + 1) ∧ (a3 + 1) < (L : Int)) ∧ (0 ≤ (a3 + 2) ∧ (a3 + 2) < (L : Int)) ∧ rcv F a1 11 (fun o141 => mX11_order o141 (sx xs (a3 + 1)) (sx xs (a3 + 2)) F (fun x140 F139 => (0 ≤ (a3 + 1) ∧ (a3 + 1) < (L : Int)) ∧ (0 ≤ (a3 + 2) ∧ (a3 + 2) < (L : Int)) ∧ rcv F139 a2 12 (fun o144 => mX12_order o144 (sx xs (a3 + 1)) (sx xs (a3 + 2)) F139 (fun x143 F142 => (w32 x140 = w32 x143 → mL_law_J1596 L xs (fun a1' a2' a3' F' => mL_law_L18 L xs Q k a1' a2' a3' F') Q (some o141) (some o144) a3 F142) ∧ (¬ w32 x140 = w32 x143 → Q 0 F142)))))) ∧ (w32 (iAnd (sx xs a3) 63) = 25 → (0 ≤ (a3 + 1) ∧ (a3 + 1) < (L : Int)) ∧ rcv F a1 11 (fun o147 => mX11_rows o147 (sx xs (a3 + 1)) F (fun x146 F145 => (0 ≤ (a3 + 1) ∧ (a3 + 1) < (L : Int)) ∧ rcv F145 a2 12 (fun o150 => mX12_rows o150 (sx xs (a3 + 1)) F145 (fun x149 F148 => (w32 (iCmp x146 x149) = 0 → mL_law_J1596 L xs (fun a1' a2' a3' F' => mL_law_L18 L xs Q k a1' a2' a3' F') Q (some o147) (some o150) a3 F148) ∧ (¬ w32 (iCmp x146 x149) = 0 → Q 0 F148)))))) ∧ (w32 (iAnd (sx xs a3) 63) = 26 → (0 ≤ (a3 + 1) ∧ (a3 + 1) < (L : Int)) ∧ (0 ≤ (a3 + 2) ∧ (a3 + 2) < (L : Int)) ∧ rcv F a1 11 (fun o153 => mX11_lowest o153 (sx xs (a3 + 1)) (sx xs (a3 + 2)) F (fun x152 F151 => (0 ≤ (a3 + 1) ∧ (a3 + 1) < (L : Int)) ∧ (0 ≤ (a3 + 2) ∧ (a3 + 2) < (L : Int)) ∧ rcv F151 a2 12 (fun o156 => mX12_lowest o156 (sx xs (a3 + 1)) (sx xs (a3 + 2)) F151 (fun x155 F154 => (w32 x152 = w32 x155 → mL_law_J1596 L xs (fun a1' a2' a3' F' => mL_law_L18 L xs Q k a1' a2' a3' F') Q (some o153) (some o156) a3 F154) ∧ (¬ w32 x152 = w32 x155 → Q 0 F154)))))) ∧ (w32 (iAnd (sx xs a3) 63) = 27 → (0 ≤ (a3 + 1) ∧ (a3 + 1) < (L : Int)) ∧ (w32 (sx xs (a3 + 1)) = 0 → mL_law_J1042 L xs (fun a1' a2' a3' F' => mL_law_L18 L xs Q k a1' a2' a3' F') Q a1 a2 a3 a1 0 F) ∧ (¬ w32 (sx xs (a3 + 1)) = 0 → mL_law_J1042 L xs (fun a1' a2' a3' F' => mL_law_L18 L xs Q k a1' a2' a3' F') Q a1 a2 a3 a1 1 F)) ∧ (w32 (iAnd (sx xs a3) 63) = 28 → rcv F a1 11 (fun o159 => mX11_idle o159 F (fun x158 F157 => rcv F157 a2 12 (fun o162 => mX12_idle o162 F157 (fun x161 F160 => (w32 x158 = w32 x161 → mL_law_J1596 L xs (fun a1' a2' a3' F' => mL_law_L18 L xs Q k a1' a2' a3' F') Q (some o159) (some o162) a3 F160) ∧ (¬ w32 x158 = w32 x161 → Q 0 F160)))))) ∧ (w32 (iAnd (sx xs a3) 63) = 29 → (0 ≤ (a3 + 1) ∧ (a3 + 1) < (L : Int)) ∧ (0 ≤ (a3 + 2) ∧ (a3 + 2) < (L : Int)) ∧ (0 ≤ (a3 + 3) ∧ (a3 + 3) < (L : Int)) ∧ rcv F a1 11 (fun o165 => mX11_owe o165 (sx xs (a3 + 1)) (sx xs (a3 + 2)) (sx xs (a3 + 3)) F (fun x164 F163 => (0 ≤ (a3 + 1) ∧ (a3 + 1) < (L : Int)) ∧ (0 ≤ (a3 + 2) ∧ (a3 + 2) < (L : Int)) ∧ (0 ≤ (a3 + 3) ∧ (a3 + 3) < (L : Int)) ∧ rcv F163 a2 12 (fun o168 => mX12_owe o168 (sx xs (a3 + 1)) (sx xs (a3 + 2)) (sx xs (a3 + 3)) F163 (fun x167 F166 => (w32 x164 = w32 x167 → mL_law_J1596 L xs (fun a1' a2' a3' F' => mL_law_L18 L xs Q k a1' a2' a3' F') Q (some o165) (some o168) a3 F166) ∧ (¬ w32 x164 = w32 x167 → Q 0 F166)))))) ∧ (w32 (iAnd (sx xs a3) 63) = 30 → (0 ≤ (a3 + 1) ∧ (a3 + 1) < (L : Int)) ∧ rcv F a1 11 (fun o171 => mX11_balance o171 (sx xs (a3 + 1)) F (fun x170 F169 => (0 ≤ (a3 + 1) ∧ (a3 + 1) < (L : Int)) ∧ rcv F169 a2 12 (fun o174 => mX12_balance o174 (sx xs (a3 + 1)) F169 (fun x173 F172 => (w32 x170 = w32 x173 → mL_law_J1596 L xs (fun a1' a2' a3' F' => mL_law_L18 L xs Q k a1' a2' a3' F') Q (some o171) (some o174) a3 F172) ∧ (¬ w32 x170 = w32 x173 → Q 0 F172)))))) ∧ (w32 (iAnd (sx xs a3) 63) = 31 → (0 ≤ (a3 + 1) ∧ (a3 + 1) < (L : Int)) ∧ rcv F a1 11 (fun o177 => mX11_settled o177 (sx xs (a3 + 1)) F (fun x176 F175 => (0 ≤ (a3 + 1) ∧ (a3 + 1) < (L : Int)) ∧ rcv F175 a2 12 (fun o180 => mX12_settled o180 (sx xs (a3 + 1)) F175 (fun x179 F178 => (w32 x176 = w32 x179 → mL_law_J1596 L xs (fun a1' a2' a3' F' => mL_law_L18 L xs Q k a1' a2' a3' F') Q (some o177) (some o180) a3 F178) ∧ (¬ w32 x176 = w32 x179 → Q 0 F178)))))) ∧ (w32 (iAnd (sx xs a3) 63) = 32 → (0 ≤ (a3 + 1) ∧ (a3 + 1) < (L : Int)) ∧ rcv F a1 11 (fun o183 => mX11_group o183 (sx xs (a3 + 1)) F (fun x182 F181 => (0 ≤ (a3 + 1) ∧ (a3 + 1) < (L : Int)) ∧ rcv F181 a2 12 (fun o186 => mX12_group o186 (sx xs (a3 + 1)) F181 (fun x185 F184 => (w32 x182 = w32 x185 → mL_law_J1596 L xs (fun a1' a2' a3' F' => mL_law_L18 L xs Q k a1' a2' a3' F') Q (some o183) (some o186) a3 F184) ∧ (¬ w32 x182 = w32 x185 → Q 0 F184)))))) ∧ (w32 (iAnd (sx xs a3) 63) = 33 → (0 ≤ (a3 + 1) ∧ (a3 + 1) < (L : Int)) ∧ (0 ≤ (a3 + 2) ∧ (a3 + 2) < (L : Int)) ∧ (0 ≤ (a3 + 3) ∧ (a3 + 3) < (L : Int)) ∧ rcv F a1 11 (fun o189 => mX11_trip o189 (sx xs (a3 + 1)) (sx xs (a3 + 2)) (sx xs (a3 + 3)) F (fun x188 F187 => (0 ≤ (a3 + 1) ∧ (a3 + 1) < (L : Int)) ∧ (0 ≤ (a3 + 2) ∧ (a3 + 2) < (L : Int)) ∧ (0 ≤ (a3 + 3) ∧ (a3 + 3) < (L : Int)) ∧ rcv F187 a2 12 (fun o192 => mX12_trip o192 (sx xs (a3 + 1)) (sx xs (a3 + 2)) (sx xs (a3 + 3)) F187 (fun x191 F190 => (w32 x188 = w32 x191 → mL_law_J1596 L xs (fun a1' a2' a3' F' => mL_law_L18 L xs Q k a1' a2' a3' F') Q (some o189) (some o192) a3 F190) ∧ (¬ w32 x188 = w32 x191 → Q 0 F190)))))) ∧ (w32 (iAnd (sx xs a3) 63) = 34 → (0 ≤ (a3 + 1) ∧ (a3 + 1) < (L : Int)) ∧ (w32 (sx xs (a3 + 1)) = 0 → mL_law_J1249 L xs (fun a1' a2' a3' F' => mL_law_L18 L xs Q k a1' a2' a3' F') Q a1 a2 a3 a1 0 F) ∧ (¬ w32 (sx xs (a3 + 1)) = 0 → mL_law_J1249 L xs (fun a1' a2' a3' F' => mL_law_L18 L xs Q k a1' a2' a3' F') Q a1 a2 a3 a1 1 F)) ∧ (w32 (iAnd (sx xs a3) 63) = 35 → (0 ≤ (a3 + 1) ∧ (a3 + 1) < (L : Int)) ∧ (0 ≤ (a3 + 2) ∧ (a3 + 2) < (L : Int)) ∧ (0 ≤ (a3 + 3) ∧ (a3 + 3) < (L : Int)) ∧ rcv F a1 11 (fun o195 => mX11_seen o195 (sx xs (a3 + 1)) (sx xs (a3 + 2)) (sx xs (a3 + 3)) F (fun x194 F193 => (0 ≤ (a3 + 1) ∧ (a3 + 1) < (L : Int)) ∧ (0 ≤ (a3 + 2) ∧ (a3 + 2) < (L : Int)) ∧ (0 ≤ (a3 + 3) ∧ (a3 + 3) < (L : Int)) ∧ rcv F193 a2 12 (fun o198 => mX12_seen o198 (sx xs (a3 + 1)) (sx xs (a3 + 2)) (sx xs (a3 + 3)) F193 (fun x197 F196 => (w32 x194 = w32 x197 → mL_law_J1596 L xs (fun a1' a2' a3' F' => mL_law_L18 L xs Q k a1' a2' a3' F') Q (some o195) (some o198) a3 F196) ∧ (¬ w32 x194 = w32 x197 → Q 0 F196)))))) ∧ (w32 (iAnd (sx xs a3) 63) = 36 → (0 ≤ (a3 + 1) ∧ (a3 + 1) < (L : Int)) ∧ (w32 (sx xs (a3 + 1)) = 0 → mL_law_J1331 L xs (fun a1' a2' a3' F' => mL_law_L18 L xs Q k a1' a2' a3' F') Q a1 a2 a3 a1 0 F) ∧ (¬ w32 (sx xs (a3 + 1)) = 0 → mL_law_J1331 L xs (fun a1' a2' a3' F' => mL_law_L18 L xs Q k a1' a2' a3' F') Q a1 a2 a3 a1 1 F)) ∧ (w32 (iAnd (sx xs a3) 63) = 37 → (0 ≤ (a3 + 1) ∧ (a3 + 1) < (L : Int)) ∧ (0 ≤ (a3 + 2) ∧ (a3 + 2) < (L : Int)) ∧ rcv F a1 11 (fun o201 => mX11_late o201 (sx xs (a3 + 1)) (sx xs (a3 + 2)) F (fun x200 F199 => (0 ≤ (a3 + 1) ∧ (a3 + 1) < (L : Int)) ∧ (0 ≤ (a3 + 2) ∧ (a3 + 2) < (L : Int)) ∧ rcv F199 a2 12 (fun o204 => mX12_late o204 (sx xs (a3 + 1)) (sx xs (a3 + 2)) F199 (fun x203 F202 => (w32 x200 = w32 x203 → mL_law_J1596 L xs (fun a1' a2' a3' F' => mL_law_L18 L xs Q k a1' a2' a3' F') Q (some o201) (some o204) a3 F202) ∧ (¬ w32 x200 = w32 x203 → Q 0 F202)))))) ∧ (w32 (iAnd (sx xs a3) 63) = 38 → (0 ≤ (a3 + 1) ∧ (a3 + 1) < (L : Int)) ∧ (0 ≤ (a3 + 2) ∧ (a3 + 2) < (L : Int)) ∧ (w32 (sx xs (a3 + 2)) = 0 → mL_law_J1408 L xs (fun a1' a2' a3' F' => mL_law_L18 L xs Q k a1' a2' a3' F') Q a1 a2 a3 a1 (sx xs (a3 + 1)) 0 F) ∧ (¬ w32 (sx xs (a3 + 2)) = 0 → mL_law_J1408 L xs (fun a1' a2' a3' F' => mL_law_L18 L xs Q k a1' a2' a3' F') Q a1 a2 a3 a1 (sx xs (a3 + 1)) 1 F)) ∧ (w32 (iAnd (sx xs a3) 63) = 39 → (0 ≤ (a3 + 1) ∧ (a3 + 1) < (L : Int)) ∧ (0 ≤ (a3 + 2) ∧ (a3 + 2) < (L : Int)) ∧ rcv F a1 11 (fun o207 => mX11_said o207 (sx xs (a3 + 1)) (sx xs (a3 + 2)) F (fun x206 F205 => (0 ≤ (a3 + 1) ∧ (a3 + 1) < (L : Int)) ∧ (0 ≤ (a3 + 2) ∧ (a3 + 2) < (L : Int)) ∧ rcv F205 a2 12 (fun o210 => mX12_said o210 (sx xs (a3 + 1)) (sx xs (a3 + 2)) F205 (fun x209 F208 => (w32 x206 = w32 x209 → mL_law_J1596 L xs (fun a1' a2' a3' F' => mL_law_L18 L xs Q k a1' a2' a3' F') Q (some o207) (some o210) a3 F208) ∧ (¬ w32 x206 = w32 x209 → Q 0 F208)))))) ∧ (w32 (iAnd (sx xs a3) 63) = 40 → rcv F a1 11 (fun o213 => mX11_whose o213 F (fun x212 F211 => rcv F211 a2 12 (fun o216 => mX12_whose o216 F211 (fun x215 F214 => (w32 x212 = w32 x215 → mL_law_J1596 L xs (fun a1' a2' a3' F' => mL_law_L18 L xs Q k a1' a2' a3' F') Q (some o213) (some o216) a3 F214) ∧ (¬ w32 x212 = w32 x215 → Q 0 F214)))))) ∧ (w32 (iAnd (sx xs a3) 63) = 41 → rcv F a1 11 (fun o219 => mX11_heaviest o219 F (fun x218 F217 => rcv F217 a2 12 (fun o222 => mX12_heaviest o222 F217 (fun x221 F220 => (w32 x218 = w32 x221 → mL_law_J1596 L xs (fun a1' a2' a3' F' => mL_law_L18 L xs Q k a1' a2' a3' F') Q (some o219) (some o222) a3 F220) ∧ (¬ w32 x218 = w32 x221 → Q 0 F220)))))) ∧ (w32 (iAnd (sx xs a3) 63) = 42 → rcv F a1 11 (fun o225 => mX11_worn o225 F (fun x224 F223 => rcv F223 a2 12 (fun o228 => mX12_worn o228 F223 (fun x227 F226 => (w32 x224 = w32 x227 → mL_law_J1596 L xs (fun a1' a2' a3' F' => mL_law_L18 L xs Q k a1' a2' a3' F') Q (some o225) (some o228) a3 F226) ∧ (¬ w32 x224 = w32 x227 → Q 0 F226)))))) ∧ (w32 (iAnd (sx xs a3) 63) = 43 → rcv F a1 11 (fun o231 => mX11_amiss o231 F (fun x230 F229 => rcv F229 a2 12 (fun o234 => mX12_amiss o234 F229 (fun x233 F232 => (w32 x230 = w32 x233 → mL_law_J1596 L xs (fun a1' a2' a3' F' => mL_law_L18 L xs Q k a1' a2' a3' F') Q (some o231) (some o234) a3 F232) ∧ (¬ w32 x230 = w32 x233 → Q 0 F232)))))) ∧ (w32 (iAnd (sx xs a3) 63) = 44 → (0 ≤ (a3 + 1) ∧ (a3 + 1) < (L : Int)) ∧ rcv F a1 11 (fun o237 => mX11_ledger o237 (sx xs (a3 + 1)) F (fun x236 F235 => (0 ≤ (a3 + 1) ∧ (a3 + 1) < (L : Int)) ∧ rcv F235 a2 12 (fun o240 => mX12_ledger o240 (sx xs (a3 + 1)) F235 (fun x239 F238 => (w32 x236 = w32 x239 → mL_law_J1596 L xs (fun a1' a2' a3' F' => mL_law_L18 L xs Q k a1' a2' a3' F') Q (some o237) (some o240) a3 F238) ∧ (¬ w32 x236 = w32 x239 → Q 0 F238)))))) ∧ (w32 (iAnd (sx xs a3) 63) = 45 → rcv F a1 11 (fun o243 => mX11_image o243 F (fun x242 F241 => rcv F241 a2 12 (fun o246 => mX12_image o246 F241 (fun x245 F244 => (w32 x242 = w32 x245 → mL_law_J1596 L xs (fun a1' a2' a3' F' => mL_law_L18 L xs Q k a1' a2' a3' F') Q (some o243) (some o246) a3 F244) ∧ (¬ w32 x242 = w32 x245 → Q 0 F244)))))) ∧ (w32 (iAnd (sx xs a3) 63) = 46 → rcv F a1 11 (fun o249 => mX11_back o249 F (fun x248 F247 => rcv F247 a2 12 (fun o252 => mX12_back o252 F247 (fun x251 F250 => (w32 x248 = w32 x251 → mL_law_J1596 L xs (fun a1' a2' a3' F' => mL_law_L18 L xs Q k a1' a2' a3' F') Q (some o249) (some o252) a3 F250) ∧ (¬ w32 x248 = w32 x251 → Q 0 F250)))))) ∧ (w32 (iAnd (sx xs a3) 63) = 47 → (0 ≤ (a3 + 1) ∧ (a3 + 1) < (L : Int)) ∧ rcv F a1 11 (fun o255 => mX11_about o255 (sx xs (a3 + 1)) F (fun x254 F253 => (0 ≤ (a3 + 1) ∧ (a3 + 1) < (L : Int)) ∧ rcv F253 a2 12 (fun o258 => mX12_about o258 (sx xs (a3 + 1)) F253 (fun x257 F256 => (w32 x254 = w32 x257 → mL_law_J1596 L xs (fun a1' a2' a3' F' => mL_law_L18 L xs Q k a1' a2' a3' F') Q (some o255) (some o258) a3 F256) ∧ (¬ w32 x254 = w32 x257 → Q 0 F256)))))) ∧ (w32 (iAnd (sx xs a3) 63) < 0 ∨ 47 < w32 (iAnd (sx xs a3) 63) → mL_law_J1596 L xs (fun a1' a2' a3' F' => mL_law_L18 L xs Q k a1' a2' a3' F') Q a1 a2 a3 F))
set_option maxHeartbeats 4000000 in
theorem tL_law_L18 {b L : Nat} {xs : Nat → Int32} (hL : L ≤ 384) {Q : Int → hp → Prop} : ∀ (k : Nat) (a1 : Option Nat) (a2 : Option Nat) (a3 : Int) (F : hp), mL_law_L18 L xs Q k a1 a2 a3 F → awx (lex b L xs) nL_law 1000 (4 * k) (379 * k) 18 [some (vr (some 6)), some (vr a1), some (vr a2), some (vi a3)] [] F (qI Q) := by
  intro k
  induction k with
  | zero => intro a1 a2 a3 F h; exact h.elim
  | succ k ih =>
    intro a1 a2 a3 F h
    simp only [mL_law_L18] at h
    refine aw_iload_n dL_law_18 rfl rfl (aw_pc (pc' := 19) rfl ?_)
    refine aw_aload_n dL_law_19 rfl rfl (aw_pc (pc' := 20) rfl ?_)
    refine ar_scl hL dL_law_20 (aw_pc (pc' := 21) rfl ?_)
    refine aw_bipush dL_law_21 (by decide) (aw_pc (pc' := 23) rfl ?_)
    refine aw_isub dL_law_23 (aw_pc (pc' := 24) rfl ?_)
    refine ac_gt rfl rfl dL_law_24 rfl (fun c => ?_) (fun c => ?_)
    · replace h := h.1 c
      refine aw_iconst dL_law_1602 (aw_pc (pc' := 1603) rfl ?_)
      exact aw_zret rfl (by decide) dL_law_1603 ⟨_, rfl, h⟩
    · replace h := h.2 c
      refine aw_aload_n dL_law_27 rfl rfl (aw_pc (pc' := 28) rfl ?_)
      refine aw_iload_n dL_law_28 rfl rfl (aw_pc (pc' := 29) rfl ?_)
      refine ar_sld hL h.1 dL_law_29 (aw_pc (pc' := 30) rfl ?_)
      replace h := h.2
      refine aw_bipush dL_law_30 (by decide) (aw_pc (pc' := 32) rfl ?_)
      refine aw_iand dL_law_32 (aw_pc (pc' := 33) rfl ?_)
      refine aw_table dL_law_33 (td := 1596) rfl (fun j => [240, 273, 332, 375, 438, 461, 474, 497, 520, 553, 566, 599, 622, 645, 678, 691, 724, 757, 790, 813, 846, 879, 902, 925, 938, 971, 995, 1028, 1067, 1080, 1123, 1146, 1169, 1192, 1235, 1274, 1317, 1356, 1389, 1439, 1472, 1485, 1498, 1511, 1524, 1547, 1560, 1573].getD j 0) rfl (by decide) (fun j hj hx => ?_) (fun hx => ?_)
      · have hj : j = 0 ∨ j = 1 ∨ j = 2 ∨ j = 3 ∨ j = 4 ∨ j = 5 ∨ j = 6 ∨ j = 7 ∨ j = 8 ∨ j = 9 ∨ j = 10 ∨ j = 11 ∨ j = 12 ∨ j = 13 ∨ j = 14 ∨ j = 15 ∨ j = 16 ∨ j = 17 ∨ j = 18 ∨ j = 19 ∨ j = 20 ∨ j = 21 ∨ j = 22 ∨ j = 23 ∨ j = 24 ∨ j = 25 ∨ j = 26 ∨ j = 27 ∨ j = 28 ∨ j = 29 ∨ j = 30 ∨ j = 31 ∨ j = 32 ∨ j = 33 ∨ j = 34 ∨ j = 35 ∨ j = 36 ∨ j = 37 ∨ j = 38 ∨ j = 39 ∨ j = 40 ∨ j = 41 ∨ j = 42 ∨ j = 43 ∨ j = 44 ∨ j = 45 ∨ j = 46 ∨ j = 47 := by (simp at hj; omega)
        rcases hj with rfl | rfl | rfl | rfl | rfl | rfl | rfl | rfl | rfl | rfl | rfl | rfl | rfl | rfl | rfl | rfl | rfl | rfl | rfl | rfl | rfl | rfl | rfl | rfl | rfl | rfl | rfl | rfl | rfl | rfl | rfl | rfl | rfl | rfl | rfl | rfl | rfl | rfl | rfl | rfl | rfl | rfl | rfl | rfl | rfl | rfl | rfl | rfl
        · replace h := h.1 (by omega)
          refine aw_pc (pc' := 240) rfl ?_
          refine aw_aload_n dL_law_240 rfl rfl (aw_pc (pc' := 241) rfl ?_)
          refine aw_aload_n dL_law_241 rfl rfl (aw_pc (pc' := 242) rfl ?_)
          refine aw_iload_n dL_law_242 rfl rfl (aw_pc (pc' := 243) rfl ?_)
          refine aw_iconst dL_law_243 (aw_pc (pc' := 244) rfl ?_)
          refine aw_iadd dL_law_244 (aw_pc (pc' := 245) rfl ?_)
          refine ar_sld hL h.1 dL_law_245 (aw_pc (pc' := 246) rfl ?_)
          replace h := h.2
          refine aw_aload_n dL_law_246 rfl rfl (aw_pc (pc' := 247) rfl ?_)
          refine aw_iload_n dL_law_247 rfl rfl (aw_pc (pc' := 248) rfl ?_)
          refine aw_iconst dL_law_248 (aw_pc (pc' := 249) rfl ?_)
          refine aw_iadd dL_law_249 (aw_pc (pc' := 250) rfl ?_)
          refine ar_sld hL h.1 dL_law_250 (aw_pc (pc' := 251) rfl ?_)
          replace h := h.2
          refine aw_less (kc' := 0 + 4 * k) (ks' := 0 + 379 * k) (by omega) (by omega) ?_
          have h0 := rcv_inv h
          clear h
          obtain ⟨o3, fs_o3, hr_o3, he_o3, h⟩ := h0
          subst hr_o3
          refine ar_VI (d := 999) (kc' := 0) (ks' := 0) (kc := 4 * k) (ks := 379 * k) (a := o3) (ci := 11) (as := [vi (sx xs (a3 + 1)), vi (sx xs (a3 + 2))]) (st := []) (tX11_car h) mt_X11_car rfl qM_RL_13 qI_X11_car qV_X11_car he_o3 rfl (Nat.le_of_ble_eq_true rfl) dL_law_251 ?_
          clear h
          intro x2 F1 h
          refine aw_pc (pc' := 254) rfl ?_
          refine aw_aload_n dL_law_254 rfl rfl (aw_pc (pc' := 255) rfl ?_)
          refine aw_aload_n dL_law_255 rfl rfl (aw_pc (pc' := 256) rfl ?_)
          refine aw_iload_n dL_law_256 rfl rfl (aw_pc (pc' := 257) rfl ?_)
          refine aw_iconst dL_law_257 (aw_pc (pc' := 258) rfl ?_)
          refine aw_iadd dL_law_258 (aw_pc (pc' := 259) rfl ?_)
          refine ar_sld hL h.1 dL_law_259 (aw_pc (pc' := 260) rfl ?_)
          replace h := h.2
          refine aw_aload_n dL_law_260 rfl rfl (aw_pc (pc' := 261) rfl ?_)
          refine aw_iload_n dL_law_261 rfl rfl (aw_pc (pc' := 262) rfl ?_)
          refine aw_iconst dL_law_262 (aw_pc (pc' := 263) rfl ?_)
          refine aw_iadd dL_law_263 (aw_pc (pc' := 264) rfl ?_)
          refine ar_sld hL h.1 dL_law_264 (aw_pc (pc' := 265) rfl ?_)
          replace h := h.2
          refine aw_less (kc' := 0 + 4 * k) (ks' := 0 + 379 * k) (by omega) (by omega) ?_
          have h0 := rcv_inv h
          clear h
          obtain ⟨o6, fs_o6, hr_o6, he_o6, h⟩ := h0
          subst hr_o6
          refine ar_VI (d := 999) (kc' := 0) (ks' := 0) (kc := 4 * k) (ks := 379 * k) (a := o6) (ci := 12) (as := [vi (sx xs (a3 + 1)), vi (sx xs (a3 + 2))]) (st := [vi x2]) (tX12_car h) mt_X12_car rfl qM_RL_17 qI_X12_car qV_X12_car he_o6 rfl (Nat.le_of_ble_eq_true rfl) dL_law_265 ?_
          clear h
          intro x5 F4 h
          refine aw_pc (pc' := 268) rfl ?_
          refine ac_eq rfl rfl dL_law_268 rfl (fun c => ?_) (fun c => ?_)
          · replace h := h.1 c
            refine aw_less (kc' := 4 * k) (ks' := 379 * k) (by omega) (by omega) ?_
            exact aw_mask [true, true, true, true] (tL_law_J1596 hL (fun a1' a2' a3' F' h' => ih a1' a2' a3' F' h') h)
          · replace h := h.2 c
            refine aw_iconst dL_law_271 (aw_pc (pc' := 272) rfl ?_)
            exact aw_zret rfl (by decide) dL_law_272 ⟨_, rfl, h⟩
        · replace h := h.2.1 (by omega)
          refine aw_pc (pc' := 273) rfl ?_
          refine aw_aload_n dL_law_273 rfl rfl (aw_pc (pc' := 274) rfl ?_)
          refine aw_aload_n dL_law_274 rfl rfl (aw_pc (pc' := 275) rfl ?_)
          refine aw_iload_n dL_law_275 rfl rfl (aw_pc (pc' := 276) rfl ?_)
          refine aw_iconst dL_law_276 (aw_pc (pc' := 277) rfl ?_)
          refine aw_iadd dL_law_277 (aw_pc (pc' := 278) rfl ?_)
          refine ar_sld hL h.1 dL_law_278 (aw_pc (pc' := 279) rfl ?_)
          replace h := h.2
          refine aw_aload_n dL_law_279 rfl rfl (aw_pc (pc' := 280) rfl ?_)
          refine aw_iload_n dL_law_280 rfl rfl (aw_pc (pc' := 281) rfl ?_)
          refine aw_iconst dL_law_281 (aw_pc (pc' := 282) rfl ?_)
          refine aw_iadd dL_law_282 (aw_pc (pc' := 283) rfl ?_)
          refine ar_sld hL h.1 dL_law_283 (aw_pc (pc' := 284) rfl ?_)
          replace h := h.2
          refine aw_aload_n dL_law_284 rfl rfl (aw_pc (pc' := 285) rfl ?_)
          refine aw_iload_n dL_law_285 rfl rfl (aw_pc (pc' := 286) rfl ?_)
          refine aw_iconst dL_law_286 (aw_pc (pc' := 287) rfl ?_)
          refine aw_iadd dL_law_287 (aw_pc (pc' := 288) rfl ?_)
          refine ar_sld hL h.1 dL_law_288 (aw_pc (pc' := 289) rfl ?_)
          replace h := h.2
          refine aw_if_eq dL_law_289 rfl (fun c => ?_) (fun c => ?_)
          · replace h := h.1 c
            refine aw_iconst dL_law_296 (aw_pc (pc' := 297) rfl ?_)
            refine aw_less (kc' := 4 * k) (ks' := 379 * k) (by omega) (by omega) ?_
            exact aw_mask [true, true, true, true] (tL_law_J297 hL (fun a1' a2' a3' F' h' => ih a1' a2' a3' F' h') h)
          · replace h := h.2 c
            refine aw_iconst dL_law_292 (aw_pc (pc' := 293) rfl ?_)
            refine aw_goto (tgt := 297) dL_law_293 rfl ?_
            refine aw_less (kc' := 4 * k) (ks' := 379 * k) (by omega) (by omega) ?_
            exact aw_mask [true, true, true, true] (tL_law_J297 hL (fun a1' a2' a3' F' h' => ih a1' a2' a3' F' h') h)
        · replace h := h.2.2.1 (by omega)
          refine aw_pc (pc' := 332) rfl ?_
          refine aw_aload_n dL_law_332 rfl rfl (aw_pc (pc' := 333) rfl ?_)
          refine aw_aload_n dL_law_333 rfl rfl (aw_pc (pc' := 334) rfl ?_)
          refine aw_iload_n dL_law_334 rfl rfl (aw_pc (pc' := 335) rfl ?_)
          refine aw_iconst dL_law_335 (aw_pc (pc' := 336) rfl ?_)
          refine aw_iadd dL_law_336 (aw_pc (pc' := 337) rfl ?_)
          refine ar_sld hL h.1 dL_law_337 (aw_pc (pc' := 338) rfl ?_)
          replace h := h.2
          refine aw_aload_n dL_law_338 rfl rfl (aw_pc (pc' := 339) rfl ?_)
          refine aw_iload_n dL_law_339 rfl rfl (aw_pc (pc' := 340) rfl ?_)
          refine aw_iconst dL_law_340 (aw_pc (pc' := 341) rfl ?_)
          refine aw_iadd dL_law_341 (aw_pc (pc' := 342) rfl ?_)
          refine ar_sld hL h.1 dL_law_342 (aw_pc (pc' := 343) rfl ?_)
          replace h := h.2
          refine aw_aload_n dL_law_343 rfl rfl (aw_pc (pc' := 344) rfl ?_)
          refine aw_iload_n dL_law_344 rfl rfl (aw_pc (pc' := 345) rfl ?_)
          refine aw_iconst dL_law_345 (aw_pc (pc' := 346) rfl ?_)
          refine aw_iadd dL_law_346 (aw_pc (pc' := 347) rfl ?_)
          refine ar_sld hL h.1 dL_law_347 (aw_pc (pc' := 348) rfl ?_)
          replace h := h.2
          refine aw_less (kc' := 0 + 4 * k) (ks' := 0 + 379 * k) (by omega) (by omega) ?_
          have h0 := rcv_inv h
          clear h
          obtain ⟨o9, fs_o9, hr_o9, he_o9, h⟩ := h0
          subst hr_o9
          refine ar_VI (d := 999) (kc' := 0) (ks' := 0) (kc := 4 * k) (ks := 379 * k) (a := o9) (ci := 11) (as := [vi (sx xs (a3 + 1)), vi (sx xs (a3 + 2)), vi (sx xs (a3 + 3))]) (st := []) (tX11_times h) mt_X11_times rfl qM_RL_23 qI_X11_times qV_X11_times he_o9 rfl (Nat.le_of_ble_eq_true rfl) dL_law_348 ?_
          clear h
          intro x8 F7 h
          refine aw_pc (pc' := 351) rfl ?_
          refine aw_aload_n dL_law_351 rfl rfl (aw_pc (pc' := 352) rfl ?_)
          refine aw_aload_n dL_law_352 rfl rfl (aw_pc (pc' := 353) rfl ?_)
          refine aw_iload_n dL_law_353 rfl rfl (aw_pc (pc' := 354) rfl ?_)
          refine aw_iconst dL_law_354 (aw_pc (pc' := 355) rfl ?_)
          refine aw_iadd dL_law_355 (aw_pc (pc' := 356) rfl ?_)
          refine ar_sld hL h.1 dL_law_356 (aw_pc (pc' := 357) rfl ?_)
          replace h := h.2
          refine aw_aload_n dL_law_357 rfl rfl (aw_pc (pc' := 358) rfl ?_)
          refine aw_iload_n dL_law_358 rfl rfl (aw_pc (pc' := 359) rfl ?_)
          refine aw_iconst dL_law_359 (aw_pc (pc' := 360) rfl ?_)
          refine aw_iadd dL_law_360 (aw_pc (pc' := 361) rfl ?_)
          refine ar_sld hL h.1 dL_law_361 (aw_pc (pc' := 362) rfl ?_)
          replace h := h.2
          refine aw_aload_n dL_law_362 rfl rfl (aw_pc (pc' := 363) rfl ?_)
          refine aw_iload_n dL_law_363 rfl rfl (aw_pc (pc' := 364) rfl ?_)
          refine aw_iconst dL_law_364 (aw_pc (pc' := 365) rfl ?_)
          refine aw_iadd dL_law_365 (aw_pc (pc' := 366) rfl ?_)
          refine ar_sld hL h.1 dL_law_366 (aw_pc (pc' := 367) rfl ?_)
          replace h := h.2
          refine aw_less (kc' := 0 + 4 * k) (ks' := 0 + 379 * k) (by omega) (by omega) ?_
          have h0 := rcv_inv h
          clear h
          obtain ⟨o12, fs_o12, hr_o12, he_o12, h⟩ := h0
          subst hr_o12
          refine ar_VI (d := 999) (kc' := 0) (ks' := 0) (kc := 4 * k) (ks := 379 * k) (a := o12) (ci := 12) (as := [vi (sx xs (a3 + 1)), vi (sx xs (a3 + 2)), vi (sx xs (a3 + 3))]) (st := [vi x8]) (tX12_times h) mt_X12_times rfl qM_RL_27 qI_X12_times qV_X12_times he_o12 rfl (Nat.le_of_ble_eq_true rfl) dL_law_367 ?_
          clear h
          intro x11 F10 h
          refine aw_pc (pc' := 370) rfl ?_
          refine ac_eq rfl rfl dL_law_370 rfl (fun c => ?_) (fun c => ?_)
          · replace h := h.1 c
            refine aw_less (kc' := 4 * k) (ks' := 379 * k) (by omega) (by omega) ?_
            exact aw_mask [true, true, true, true] (tL_law_J1596 hL (fun a1' a2' a3' F' h' => ih a1' a2' a3' F' h') h)
          · replace h := h.2 c
            refine aw_iconst dL_law_373 (aw_pc (pc' := 374) rfl ?_)
            exact aw_zret rfl (by decide) dL_law_374 ⟨_, rfl, h⟩
        · replace h := h.2.2.2.1 (by omega)
          refine aw_pc (pc' := 375) rfl ?_
          refine aw_aload_n dL_law_375 rfl rfl (aw_pc (pc' := 376) rfl ?_)
          refine aw_aload_n dL_law_376 rfl rfl (aw_pc (pc' := 377) rfl ?_)
          refine aw_iload_n dL_law_377 rfl rfl (aw_pc (pc' := 378) rfl ?_)
          refine aw_iconst dL_law_378 (aw_pc (pc' := 379) rfl ?_)
          refine aw_iadd dL_law_379 (aw_pc (pc' := 380) rfl ?_)
          refine ar_sld hL h.1 dL_law_380 (aw_pc (pc' := 381) rfl ?_)
          replace h := h.2
          refine aw_aload_n dL_law_381 rfl rfl (aw_pc (pc' := 382) rfl ?_)
          refine aw_iload_n dL_law_382 rfl rfl (aw_pc (pc' := 383) rfl ?_)
          refine aw_iconst dL_law_383 (aw_pc (pc' := 384) rfl ?_)
          refine aw_iadd dL_law_384 (aw_pc (pc' := 385) rfl ?_)
          refine ar_sld hL h.1 dL_law_385 (aw_pc (pc' := 386) rfl ?_)
          replace h := h.2
          refine aw_aload_n dL_law_386 rfl rfl (aw_pc (pc' := 387) rfl ?_)
          refine aw_iload_n dL_law_387 rfl rfl (aw_pc (pc' := 388) rfl ?_)
          refine aw_iconst dL_law_388 (aw_pc (pc' := 389) rfl ?_)
          refine aw_iadd dL_law_389 (aw_pc (pc' := 390) rfl ?_)
          refine ar_sld hL h.1 dL_law_390 (aw_pc (pc' := 391) rfl ?_)
          replace h := h.2
          refine aw_aload_n dL_law_391 rfl rfl (aw_pc (pc' := 392) rfl ?_)
          refine aw_iload_n dL_law_392 rfl rfl (aw_pc (pc' := 393) rfl ?_)
          refine aw_iconst dL_law_393 (aw_pc (pc' := 394) rfl ?_)
          refine aw_iadd dL_law_394 (aw_pc (pc' := 395) rfl ?_)
          refine ar_sld hL h.1 dL_law_395 (aw_pc (pc' := 396) rfl ?_)
          replace h := h.2
          refine aw_aload_n dL_law_396 rfl rfl (aw_pc (pc' := 397) rfl ?_)
          refine aw_iload_n dL_law_397 rfl rfl (aw_pc (pc' := 398) rfl ?_)
          refine aw_iconst dL_law_398 (aw_pc (pc' := 399) rfl ?_)
          refine aw_iadd dL_law_399 (aw_pc (pc' := 400) rfl ?_)
          refine ar_sld hL h.1 dL_law_400 (aw_pc (pc' := 401) rfl ?_)
          replace h := h.2
          refine aw_less (kc' := 0 + 4 * k) (ks' := 0 + 379 * k) (by omega) (by omega) ?_
          have h0 := rcv_inv h
          clear h
          obtain ⟨o15, fs_o15, hr_o15, he_o15, h⟩ := h0
          subst hr_o15
          refine ar_VI (d := 999) (kc' := 0) (ks' := 0) (kc := 4 * k) (ks := 379 * k) (a := o15) (ci := 11) (as := [vi (sx xs (a3 + 1)), vi (sx xs (a3 + 2)), vi (sx xs (a3 + 3)), vi (sx xs (a3 + 4)), vi (sx xs (a3 + 5))]) (st := []) (tX11_feed h) mt_X11_feed rfl qM_RL_28 qI_X11_feed qV_X11_feed he_o15 rfl (Nat.le_of_ble_eq_true rfl) dL_law_401 ?_
          clear h
          intro x14 F13 h
          refine aw_pc (pc' := 404) rfl ?_
          refine aw_aload_n dL_law_404 rfl rfl (aw_pc (pc' := 405) rfl ?_)
          refine aw_aload_n dL_law_405 rfl rfl (aw_pc (pc' := 406) rfl ?_)
          refine aw_iload_n dL_law_406 rfl rfl (aw_pc (pc' := 407) rfl ?_)
          refine aw_iconst dL_law_407 (aw_pc (pc' := 408) rfl ?_)
          refine aw_iadd dL_law_408 (aw_pc (pc' := 409) rfl ?_)
          refine ar_sld hL h.1 dL_law_409 (aw_pc (pc' := 410) rfl ?_)
          replace h := h.2
          refine aw_aload_n dL_law_410 rfl rfl (aw_pc (pc' := 411) rfl ?_)
          refine aw_iload_n dL_law_411 rfl rfl (aw_pc (pc' := 412) rfl ?_)
          refine aw_iconst dL_law_412 (aw_pc (pc' := 413) rfl ?_)
          refine aw_iadd dL_law_413 (aw_pc (pc' := 414) rfl ?_)
          refine ar_sld hL h.1 dL_law_414 (aw_pc (pc' := 415) rfl ?_)
          replace h := h.2
          refine aw_aload_n dL_law_415 rfl rfl (aw_pc (pc' := 416) rfl ?_)
          refine aw_iload_n dL_law_416 rfl rfl (aw_pc (pc' := 417) rfl ?_)
          refine aw_iconst dL_law_417 (aw_pc (pc' := 418) rfl ?_)
          refine aw_iadd dL_law_418 (aw_pc (pc' := 419) rfl ?_)
          refine ar_sld hL h.1 dL_law_419 (aw_pc (pc' := 420) rfl ?_)
          replace h := h.2
          refine aw_aload_n dL_law_420 rfl rfl (aw_pc (pc' := 421) rfl ?_)
          refine aw_iload_n dL_law_421 rfl rfl (aw_pc (pc' := 422) rfl ?_)
          refine aw_iconst dL_law_422 (aw_pc (pc' := 423) rfl ?_)
          refine aw_iadd dL_law_423 (aw_pc (pc' := 424) rfl ?_)
          refine ar_sld hL h.1 dL_law_424 (aw_pc (pc' := 425) rfl ?_)
          replace h := h.2
          refine aw_aload_n dL_law_425 rfl rfl (aw_pc (pc' := 426) rfl ?_)
          refine aw_iload_n dL_law_426 rfl rfl (aw_pc (pc' := 427) rfl ?_)
          refine aw_iconst dL_law_427 (aw_pc (pc' := 428) rfl ?_)
          refine aw_iadd dL_law_428 (aw_pc (pc' := 429) rfl ?_)
          refine ar_sld hL h.1 dL_law_429 (aw_pc (pc' := 430) rfl ?_)
          replace h := h.2
          refine aw_less (kc' := 0 + 4 * k) (ks' := 0 + 379 * k) (by omega) (by omega) ?_
          have h0 := rcv_inv h
          clear h
          obtain ⟨o18, fs_o18, hr_o18, he_o18, h⟩ := h0
          subst hr_o18
          refine ar_VI (d := 999) (kc' := 0) (ks' := 0) (kc := 4 * k) (ks := 379 * k) (a := o18) (ci := 12) (as := [vi (sx xs (a3 + 1)), vi (sx xs (a3 + 2)), vi (sx xs (a3 + 3)), vi (sx xs (a3 + 4)), vi (sx xs (a3 + 5))]) (st := [vi x14]) (tX12_feed h) mt_X12_feed rfl qM_RL_32 qI_X12_feed qV_X12_feed he_o18 rfl (Nat.le_of_ble_eq_true rfl) dL_law_430 ?_
          clear h
          intro x17 F16 h
          refine aw_pc (pc' := 433) rfl ?_
          refine ac_eq rfl rfl dL_law_433 rfl (fun c => ?_) (fun c => ?_)
          · replace h := h.1 c
            refine aw_less (kc' := 4 * k) (ks' := 379 * k) (by omega) (by omega) ?_
            exact aw_mask [true, true, true, true] (tL_law_J1596 hL (fun a1' a2' a3' F' h' => ih a1' a2' a3' F' h') h)
          · replace h := h.2 c
            refine aw_iconst dL_law_436 (aw_pc (pc' := 437) rfl ?_)
            exact aw_zret rfl (by decide) dL_law_437 ⟨_, rfl, h⟩
        · replace h := h.2.2.2.2.1 (by omega)
          refine aw_pc (pc' := 438) rfl ?_
          refine aw_aload_n dL_law_438 rfl rfl (aw_pc (pc' := 439) rfl ?_)
          refine aw_aload_n dL_law_439 rfl rfl (aw_pc (pc' := 440) rfl ?_)
          refine aw_iload_n dL_law_440 rfl rfl (aw_pc (pc' := 441) rfl ?_)
          refine aw_iconst dL_law_441 (aw_pc (pc' := 442) rfl ?_)
          refine aw_iadd dL_law_442 (aw_pc (pc' := 443) rfl ?_)
          refine ar_sld hL h.1 dL_law_443 (aw_pc (pc' := 444) rfl ?_)
          replace h := h.2
          refine aw_less (kc' := 0 + 4 * k) (ks' := 0 + 379 * k) (by omega) (by omega) ?_
          have h0 := rcv_inv h
          clear h
          obtain ⟨o21, fs_o21, hr_o21, he_o21, h⟩ := h0
          subst hr_o21
          refine ar_VI (d := 999) (kc' := 0) (ks' := 0) (kc := 4 * k) (ks := 379 * k) (a := o21) (ci := 11) (as := [vi (sx xs (a3 + 1))]) (st := []) (tX11_end h) mt_X11_end rfl qM_RL_33 qI_X11_end qV_X11_end he_o21 rfl (Nat.le_of_ble_eq_true rfl) dL_law_444 ?_
          clear h
          intro x20 F19 h
          refine aw_pc (pc' := 447) rfl ?_
          refine aw_aload_n dL_law_447 rfl rfl (aw_pc (pc' := 448) rfl ?_)
          refine aw_aload_n dL_law_448 rfl rfl (aw_pc (pc' := 449) rfl ?_)
          refine aw_iload_n dL_law_449 rfl rfl (aw_pc (pc' := 450) rfl ?_)
          refine aw_iconst dL_law_450 (aw_pc (pc' := 451) rfl ?_)
          refine aw_iadd dL_law_451 (aw_pc (pc' := 452) rfl ?_)
          refine ar_sld hL h.1 dL_law_452 (aw_pc (pc' := 453) rfl ?_)
          replace h := h.2
          refine aw_less (kc' := 0 + 4 * k) (ks' := 0 + 379 * k) (by omega) (by omega) ?_
          have h0 := rcv_inv h
          clear h
          obtain ⟨o24, fs_o24, hr_o24, he_o24, h⟩ := h0
          subst hr_o24
          refine ar_VI (d := 999) (kc' := 0) (ks' := 0) (kc := 4 * k) (ks := 379 * k) (a := o24) (ci := 12) (as := [vi (sx xs (a3 + 1))]) (st := [vi x20]) (tX12_end h) mt_X12_end rfl qM_RL_37 qI_X12_end qV_X12_end he_o24 rfl (Nat.le_of_ble_eq_true rfl) dL_law_453 ?_
          clear h
          intro x23 F22 h
          refine aw_pc (pc' := 456) rfl ?_
          refine ac_eq rfl rfl dL_law_456 rfl (fun c => ?_) (fun c => ?_)
          · replace h := h.1 c
            refine aw_less (kc' := 4 * k) (ks' := 379 * k) (by omega) (by omega) ?_
            exact aw_mask [true, true, true, true] (tL_law_J1596 hL (fun a1' a2' a3' F' h' => ih a1' a2' a3' F' h') h)
          · replace h := h.2 c
            refine aw_iconst dL_law_459 (aw_pc (pc' := 460) rfl ?_)
            exact aw_zret rfl (by decide) dL_law_460 ⟨_, rfl, h⟩
        · replace h := h.2.2.2.2.2.1 (by omega)
          refine aw_pc (pc' := 461) rfl ?_
          refine aw_aload_n dL_law_461 rfl rfl (aw_pc (pc' := 462) rfl ?_)
          refine aw_less (kc' := 4 + 4 * k) (ks' := 379 + 379 * k) (by omega) (by omega) ?_
          have h0 := rcv_inv h
          clear h
          obtain ⟨o27, fs_o27, hr_o27, he_o27, h⟩ := h0
          subst hr_o27
          refine ar_VI (d := 999) (kc' := 4) (ks' := 379) (kc := 4 * k) (ks := 379 * k) (a := o27) (ci := 11) (as := []) (st := []) (tX11_text h) mt_X11_text rfl qM_RL_38 qI_X11_text qV_X11_text he_o27 rfl (Nat.le_of_ble_eq_true rfl) dL_law_462 ?_
          clear h
          intro x26 F25 h
          refine aw_pc (pc' := 465) rfl ?_
          refine aw_aload_n dL_law_465 rfl rfl (aw_pc (pc' := 466) rfl ?_)
          refine aw_less (kc' := 0 + 4 * k) (ks' := 0 + 379 * k) (by omega) (by omega) ?_
          have h0 := rcv_inv h
          clear h
          obtain ⟨o30, fs_o30, hr_o30, he_o30, h⟩ := h0
          subst hr_o30
          refine ar_VI (d := 999) (kc' := 0) (ks' := 0) (kc := 4 * k) (ks := 379 * k) (a := o30) (ci := 12) (as := []) (st := [vi x26]) (tX12_text h) mt_X12_text rfl qM_RL_42 qI_X12_text qV_X12_text he_o30 rfl (Nat.le_of_ble_eq_true rfl) dL_law_466 ?_
          clear h
          intro x29 F28 h
          refine aw_pc (pc' := 469) rfl ?_
          refine ac_eq rfl rfl dL_law_469 rfl (fun c => ?_) (fun c => ?_)
          · replace h := h.1 c
            refine aw_less (kc' := 4 * k) (ks' := 379 * k) (by omega) (by omega) ?_
            exact aw_mask [true, true, true, true] (tL_law_J1596 hL (fun a1' a2' a3' F' h' => ih a1' a2' a3' F' h') h)
          · replace h := h.2 c
            refine aw_iconst dL_law_472 (aw_pc (pc' := 473) rfl ?_)
            exact aw_zret rfl (by decide) dL_law_473 ⟨_, rfl, h⟩
        · replace h := h.2.2.2.2.2.2.1 (by omega)
          refine aw_pc (pc' := 474) rfl ?_
          refine aw_aload_n dL_law_474 rfl rfl (aw_pc (pc' := 475) rfl ?_)
          refine aw_aload_n dL_law_475 rfl rfl (aw_pc (pc' := 476) rfl ?_)
          refine aw_iload_n dL_law_476 rfl rfl (aw_pc (pc' := 477) rfl ?_)
          refine aw_iconst dL_law_477 (aw_pc (pc' := 478) rfl ?_)
          refine aw_iadd dL_law_478 (aw_pc (pc' := 479) rfl ?_)
          refine ar_sld hL h.1 dL_law_479 (aw_pc (pc' := 480) rfl ?_)
          replace h := h.2
          refine aw_less (kc' := 0 + 4 * k) (ks' := 0 + 379 * k) (by omega) (by omega) ?_
          have h0 := rcv_inv h
          clear h
          obtain ⟨o33, fs_o33, hr_o33, he_o33, h⟩ := h0
          subst hr_o33
          refine ar_VI (d := 999) (kc' := 0) (ks' := 0) (kc := 4 * k) (ks := 379 * k) (a := o33) (ci := 11) (as := [vi (sx xs (a3 + 1))]) (st := []) (tX11_fault h) mt_X11_fault rfl qM_RL_43 qI_X11_fault qV_X11_fault he_o33 rfl (Nat.le_of_ble_eq_true rfl) dL_law_480 ?_
          clear h
          intro x32 F31 h
          refine aw_pc (pc' := 483) rfl ?_
          refine aw_aload_n dL_law_483 rfl rfl (aw_pc (pc' := 484) rfl ?_)
          refine aw_aload_n dL_law_484 rfl rfl (aw_pc (pc' := 485) rfl ?_)
          refine aw_iload_n dL_law_485 rfl rfl (aw_pc (pc' := 486) rfl ?_)
          refine aw_iconst dL_law_486 (aw_pc (pc' := 487) rfl ?_)
          refine aw_iadd dL_law_487 (aw_pc (pc' := 488) rfl ?_)
          refine ar_sld hL h.1 dL_law_488 (aw_pc (pc' := 489) rfl ?_)
          replace h := h.2
          refine aw_less (kc' := 0 + 4 * k) (ks' := 0 + 379 * k) (by omega) (by omega) ?_
          have h0 := rcv_inv h
          clear h
          obtain ⟨o36, fs_o36, hr_o36, he_o36, h⟩ := h0
          subst hr_o36
          refine ar_VI (d := 999) (kc' := 0) (ks' := 0) (kc := 4 * k) (ks := 379 * k) (a := o36) (ci := 12) (as := [vi (sx xs (a3 + 1))]) (st := [vi x32]) (tX12_fault h) mt_X12_fault rfl qM_RL_46 qI_X12_fault qV_X12_fault he_o36 rfl (Nat.le_of_ble_eq_true rfl) dL_law_489 ?_
          clear h
          intro x35 F34 h
          refine aw_pc (pc' := 492) rfl ?_
          refine ac_eq rfl rfl dL_law_492 rfl (fun c => ?_) (fun c => ?_)
          · replace h := h.1 c
            refine aw_less (kc' := 4 * k) (ks' := 379 * k) (by omega) (by omega) ?_
            exact aw_mask [true, true, true, true] (tL_law_J1596 hL (fun a1' a2' a3' F' h' => ih a1' a2' a3' F' h') h)
          · replace h := h.2 c
            refine aw_iconst dL_law_495 (aw_pc (pc' := 496) rfl ?_)
            exact aw_zret rfl (by decide) dL_law_496 ⟨_, rfl, h⟩
        · replace h := h.2.2.2.2.2.2.2.1 (by omega)
          refine aw_pc (pc' := 497) rfl ?_
          refine aw_aload_n dL_law_497 rfl rfl (aw_pc (pc' := 498) rfl ?_)
          refine aw_aload_n dL_law_498 rfl rfl (aw_pc (pc' := 499) rfl ?_)
          refine aw_iload_n dL_law_499 rfl rfl (aw_pc (pc' := 500) rfl ?_)
          refine aw_iconst dL_law_500 (aw_pc (pc' := 501) rfl ?_)
          refine aw_iadd dL_law_501 (aw_pc (pc' := 502) rfl ?_)
          refine ar_sld hL h.1 dL_law_502 (aw_pc (pc' := 503) rfl ?_)
          replace h := h.2
          refine aw_less (kc' := 0 + 4 * k) (ks' := 0 + 379 * k) (by omega) (by omega) ?_
          have h0 := rcv_inv h
          clear h
          obtain ⟨o39, fs_o39, hr_o39, he_o39, h⟩ := h0
          subst hr_o39
          refine ar_VI (d := 999) (kc' := 0) (ks' := 0) (kc := 4 * k) (ks := 379 * k) (a := o39) (ci := 11) (as := [vi (sx xs (a3 + 1))]) (st := []) (tX11_by h) mt_X11_by rfl qM_RL_47 qI_X11_by qV_X11_by he_o39 rfl (Nat.le_of_ble_eq_true rfl) dL_law_503 ?_
          clear h
          intro x38 F37 h
          refine aw_pc (pc' := 506) rfl ?_
          refine aw_aload_n dL_law_506 rfl rfl (aw_pc (pc' := 507) rfl ?_)
          refine aw_aload_n dL_law_507 rfl rfl (aw_pc (pc' := 508) rfl ?_)
          refine aw_iload_n dL_law_508 rfl rfl (aw_pc (pc' := 509) rfl ?_)
          refine aw_iconst dL_law_509 (aw_pc (pc' := 510) rfl ?_)
          refine aw_iadd dL_law_510 (aw_pc (pc' := 511) rfl ?_)
          refine ar_sld hL h.1 dL_law_511 (aw_pc (pc' := 512) rfl ?_)
          replace h := h.2
          refine aw_less (kc' := 0 + 4 * k) (ks' := 0 + 379 * k) (by omega) (by omega) ?_
          have h0 := rcv_inv h
          clear h
          obtain ⟨o42, fs_o42, hr_o42, he_o42, h⟩ := h0
          subst hr_o42
          refine ar_VI (d := 999) (kc' := 0) (ks' := 0) (kc := 4 * k) (ks := 379 * k) (a := o42) (ci := 12) (as := [vi (sx xs (a3 + 1))]) (st := [vi x38]) (tX12_by h) mt_X12_by rfl qM_RL_51 qI_X12_by qV_X12_by he_o42 rfl (Nat.le_of_ble_eq_true rfl) dL_law_512 ?_
          clear h
          intro x41 F40 h
          refine aw_pc (pc' := 515) rfl ?_
          refine ac_eq rfl rfl dL_law_515 rfl (fun c => ?_) (fun c => ?_)
          · replace h := h.1 c
            refine aw_less (kc' := 4 * k) (ks' := 379 * k) (by omega) (by omega) ?_
            exact aw_mask [true, true, true, true] (tL_law_J1596 hL (fun a1' a2' a3' F' h' => ih a1' a2' a3' F' h') h)
          · replace h := h.2 c
            refine aw_iconst dL_law_518 (aw_pc (pc' := 519) rfl ?_)
            exact aw_zret rfl (by decide) dL_law_519 ⟨_, rfl, h⟩
        · replace h := h.2.2.2.2.2.2.2.2.1 (by omega)
          refine aw_pc (pc' := 520) rfl ?_
          refine aw_aload_n dL_law_520 rfl rfl (aw_pc (pc' := 521) rfl ?_)
          refine aw_aload_n dL_law_521 rfl rfl (aw_pc (pc' := 522) rfl ?_)
          refine aw_iload_n dL_law_522 rfl rfl (aw_pc (pc' := 523) rfl ?_)
          refine aw_iconst dL_law_523 (aw_pc (pc' := 524) rfl ?_)
          refine aw_iadd dL_law_524 (aw_pc (pc' := 525) rfl ?_)
          refine ar_sld hL h.1 dL_law_525 (aw_pc (pc' := 526) rfl ?_)
          replace h := h.2
          refine aw_aload_n dL_law_526 rfl rfl (aw_pc (pc' := 527) rfl ?_)
          refine aw_iload_n dL_law_527 rfl rfl (aw_pc (pc' := 528) rfl ?_)
          refine aw_iconst dL_law_528 (aw_pc (pc' := 529) rfl ?_)
          refine aw_iadd dL_law_529 (aw_pc (pc' := 530) rfl ?_)
          refine ar_sld hL h.1 dL_law_530 (aw_pc (pc' := 531) rfl ?_)
          replace h := h.2
          refine aw_less (kc' := 0 + 4 * k) (ks' := 0 + 379 * k) (by omega) (by omega) ?_
          have h0 := rcv_inv h
          clear h
          obtain ⟨o45, fs_o45, hr_o45, he_o45, h⟩ := h0
          subst hr_o45
          refine ar_VI (d := 999) (kc' := 0) (ks' := 0) (kc := 4 * k) (ks := 379 * k) (a := o45) (ci := 11) (as := [vi (sx xs (a3 + 1)), vi (sx xs (a3 + 2))]) (st := []) (tX11_move h) mt_X11_move rfl qM_RL_52 qI_X11_move qV_X11_move he_o45 rfl (Nat.le_of_ble_eq_true rfl) dL_law_531 ?_
          clear h
          intro x44 F43 h
          refine aw_pc (pc' := 534) rfl ?_
          refine aw_aload_n dL_law_534 rfl rfl (aw_pc (pc' := 535) rfl ?_)
          refine aw_aload_n dL_law_535 rfl rfl (aw_pc (pc' := 536) rfl ?_)
          refine aw_iload_n dL_law_536 rfl rfl (aw_pc (pc' := 537) rfl ?_)
          refine aw_iconst dL_law_537 (aw_pc (pc' := 538) rfl ?_)
          refine aw_iadd dL_law_538 (aw_pc (pc' := 539) rfl ?_)
          refine ar_sld hL h.1 dL_law_539 (aw_pc (pc' := 540) rfl ?_)
          replace h := h.2
          refine aw_aload_n dL_law_540 rfl rfl (aw_pc (pc' := 541) rfl ?_)
          refine aw_iload_n dL_law_541 rfl rfl (aw_pc (pc' := 542) rfl ?_)
          refine aw_iconst dL_law_542 (aw_pc (pc' := 543) rfl ?_)
          refine aw_iadd dL_law_543 (aw_pc (pc' := 544) rfl ?_)
          refine ar_sld hL h.1 dL_law_544 (aw_pc (pc' := 545) rfl ?_)
          replace h := h.2
          refine aw_less (kc' := 0 + 4 * k) (ks' := 0 + 379 * k) (by omega) (by omega) ?_
          have h0 := rcv_inv h
          clear h
          obtain ⟨o48, fs_o48, hr_o48, he_o48, h⟩ := h0
          subst hr_o48
          refine ar_VI (d := 999) (kc' := 0) (ks' := 0) (kc := 4 * k) (ks := 379 * k) (a := o48) (ci := 12) (as := [vi (sx xs (a3 + 1)), vi (sx xs (a3 + 2))]) (st := [vi x44]) (tX12_move h) mt_X12_move rfl qM_RL_55 qI_X12_move qV_X12_move he_o48 rfl (Nat.le_of_ble_eq_true rfl) dL_law_545 ?_
          clear h
          intro x47 F46 h
          refine aw_pc (pc' := 548) rfl ?_
          refine ac_eq rfl rfl dL_law_548 rfl (fun c => ?_) (fun c => ?_)
          · replace h := h.1 c
            refine aw_less (kc' := 4 * k) (ks' := 379 * k) (by omega) (by omega) ?_
            exact aw_mask [true, true, true, true] (tL_law_J1596 hL (fun a1' a2' a3' F' h' => ih a1' a2' a3' F' h') h)
          · replace h := h.2 c
            refine aw_iconst dL_law_551 (aw_pc (pc' := 552) rfl ?_)
            exact aw_zret rfl (by decide) dL_law_552 ⟨_, rfl, h⟩
        · replace h := h.2.2.2.2.2.2.2.2.2.1 (by omega)
          refine aw_pc (pc' := 553) rfl ?_
          refine aw_aload_n dL_law_553 rfl rfl (aw_pc (pc' := 554) rfl ?_)
          refine aw_less (kc' := 0 + 4 * k) (ks' := 0 + 379 * k) (by omega) (by omega) ?_
          have h0 := rcv_inv h
          clear h
          obtain ⟨o51, fs_o51, hr_o51, he_o51, h⟩ := h0
          subst hr_o51
          refine ar_VI (d := 999) (kc' := 0) (ks' := 0) (kc := 4 * k) (ks := 379 * k) (a := o51) (ci := 11) (as := []) (st := []) (tX11_change h) mt_X11_change rfl qM_RL_56 qI_X11_change qV_X11_change he_o51 rfl (Nat.le_of_ble_eq_true rfl) dL_law_554 ?_
          clear h
          intro x50 F49 h
          refine aw_pc (pc' := 557) rfl ?_
          refine aw_aload_n dL_law_557 rfl rfl (aw_pc (pc' := 558) rfl ?_)
          refine aw_less (kc' := 0 + 4 * k) (ks' := 0 + 379 * k) (by omega) (by omega) ?_
          have h0 := rcv_inv h
          clear h
          obtain ⟨o54, fs_o54, hr_o54, he_o54, h⟩ := h0
          subst hr_o54
          refine ar_VI (d := 999) (kc' := 0) (ks' := 0) (kc := 4 * k) (ks := 379 * k) (a := o54) (ci := 12) (as := []) (st := [vi x50]) (tX12_change h) mt_X12_change rfl qM_RL_59 qI_X12_change qV_X12_change he_o54 rfl (Nat.le_of_ble_eq_true rfl) dL_law_558 ?_
          clear h
          intro x53 F52 h
          refine aw_pc (pc' := 561) rfl ?_
          refine ac_eq rfl rfl dL_law_561 rfl (fun c => ?_) (fun c => ?_)
          · replace h := h.1 c
            refine aw_less (kc' := 4 * k) (ks' := 379 * k) (by omega) (by omega) ?_
            exact aw_mask [true, true, true, true] (tL_law_J1596 hL (fun a1' a2' a3' F' h' => ih a1' a2' a3' F' h') h)
          · replace h := h.2 c
            refine aw_iconst dL_law_564 (aw_pc (pc' := 565) rfl ?_)
            exact aw_zret rfl (by decide) dL_law_565 ⟨_, rfl, h⟩
        · replace h := h.2.2.2.2.2.2.2.2.2.2.1 (by omega)
          refine aw_pc (pc' := 566) rfl ?_
          refine aw_aload_n dL_law_566 rfl rfl (aw_pc (pc' := 567) rfl ?_)
          refine aw_aload_n dL_law_567 rfl rfl (aw_pc (pc' := 568) rfl ?_)
          refine aw_iload_n dL_law_568 rfl rfl (aw_pc (pc' := 569) rfl ?_)
          refine aw_iconst dL_law_569 (aw_pc (pc' := 570) rfl ?_)
          refine aw_iadd dL_law_570 (aw_pc (pc' := 571) rfl ?_)
          refine ar_sld hL h.1 dL_law_571 (aw_pc (pc' := 572) rfl ?_)
          replace h := h.2
          refine aw_aload_n dL_law_572 rfl rfl (aw_pc (pc' := 573) rfl ?_)
          refine aw_iload_n dL_law_573 rfl rfl (aw_pc (pc' := 574) rfl ?_)
          refine aw_iconst dL_law_574 (aw_pc (pc' := 575) rfl ?_)
          refine aw_iadd dL_law_575 (aw_pc (pc' := 576) rfl ?_)
          refine ar_sld hL h.1 dL_law_576 (aw_pc (pc' := 577) rfl ?_)
          replace h := h.2
          refine aw_less (kc' := 0 + 4 * k) (ks' := 0 + 379 * k) (by omega) (by omega) ?_
          have h0 := rcv_inv h
          clear h
          obtain ⟨o57, fs_o57, hr_o57, he_o57, h⟩ := h0
          subst hr_o57
          refine ar_VI (d := 999) (kc' := 0) (ks' := 0) (kc := 4 * k) (ks := 379 * k) (a := o57) (ci := 11) (as := [vi (sx xs (a3 + 1)), vi (sx xs (a3 + 2))]) (st := []) (tX11_lend h) mt_X11_lend rfl qM_RL_60 qI_X11_lend qV_X11_lend he_o57 rfl (Nat.le_of_ble_eq_true rfl) dL_law_577 ?_
          clear h
          intro x56 F55 h
          refine aw_pc (pc' := 580) rfl ?_
          refine aw_aload_n dL_law_580 rfl rfl (aw_pc (pc' := 581) rfl ?_)
          refine aw_aload_n dL_law_581 rfl rfl (aw_pc (pc' := 582) rfl ?_)
          refine aw_iload_n dL_law_582 rfl rfl (aw_pc (pc' := 583) rfl ?_)
          refine aw_iconst dL_law_583 (aw_pc (pc' := 584) rfl ?_)
          refine aw_iadd dL_law_584 (aw_pc (pc' := 585) rfl ?_)
          refine ar_sld hL h.1 dL_law_585 (aw_pc (pc' := 586) rfl ?_)
          replace h := h.2
          refine aw_aload_n dL_law_586 rfl rfl (aw_pc (pc' := 587) rfl ?_)
          refine aw_iload_n dL_law_587 rfl rfl (aw_pc (pc' := 588) rfl ?_)
          refine aw_iconst dL_law_588 (aw_pc (pc' := 589) rfl ?_)
          refine aw_iadd dL_law_589 (aw_pc (pc' := 590) rfl ?_)
          refine ar_sld hL h.1 dL_law_590 (aw_pc (pc' := 591) rfl ?_)
          replace h := h.2
          refine aw_less (kc' := 0 + 4 * k) (ks' := 0 + 379 * k) (by omega) (by omega) ?_
          have h0 := rcv_inv h
          clear h
          obtain ⟨o60, fs_o60, hr_o60, he_o60, h⟩ := h0
          subst hr_o60
          refine ar_VI (d := 999) (kc' := 0) (ks' := 0) (kc := 4 * k) (ks := 379 * k) (a := o60) (ci := 12) (as := [vi (sx xs (a3 + 1)), vi (sx xs (a3 + 2))]) (st := [vi x56]) (tX12_lend h) mt_X12_lend rfl qM_RL_64 qI_X12_lend qV_X12_lend he_o60 rfl (Nat.le_of_ble_eq_true rfl) dL_law_591 ?_
          clear h
          intro x59 F58 h
          refine aw_pc (pc' := 594) rfl ?_
          refine ac_eq rfl rfl dL_law_594 rfl (fun c => ?_) (fun c => ?_)
          · replace h := h.1 c
            refine aw_less (kc' := 4 * k) (ks' := 379 * k) (by omega) (by omega) ?_
            exact aw_mask [true, true, true, true] (tL_law_J1596 hL (fun a1' a2' a3' F' h' => ih a1' a2' a3' F' h') h)
          · replace h := h.2 c
            refine aw_iconst dL_law_597 (aw_pc (pc' := 598) rfl ?_)
            exact aw_zret rfl (by decide) dL_law_598 ⟨_, rfl, h⟩
        · replace h := h.2.2.2.2.2.2.2.2.2.2.2.1 (by omega)
          refine aw_pc (pc' := 599) rfl ?_
          refine aw_aload_n dL_law_599 rfl rfl (aw_pc (pc' := 600) rfl ?_)
          refine aw_aload_n dL_law_600 rfl rfl (aw_pc (pc' := 601) rfl ?_)
          refine aw_iload_n dL_law_601 rfl rfl (aw_pc (pc' := 602) rfl ?_)
          refine aw_iconst dL_law_602 (aw_pc (pc' := 603) rfl ?_)
          refine aw_iadd dL_law_603 (aw_pc (pc' := 604) rfl ?_)
          refine ar_sld hL h.1 dL_law_604 (aw_pc (pc' := 605) rfl ?_)
          replace h := h.2
          refine aw_less (kc' := 0 + 4 * k) (ks' := 0 + 379 * k) (by omega) (by omega) ?_
          have h0 := rcv_inv h
          clear h
          obtain ⟨o63, fs_o63, hr_o63, he_o63, h⟩ := h0
          subst hr_o63
          refine ar_VI (d := 999) (kc' := 0) (ks' := 0) (kc := 4 * k) (ks := 379 * k) (a := o63) (ci := 11) (as := [vi (sx xs (a3 + 1))]) (st := []) (tX11_hour h) mt_X11_hour rfl qM_RL_65 qI_X11_hour qV_X11_hour he_o63 rfl (Nat.le_of_ble_eq_true rfl) dL_law_605 ?_
          clear h
          intro x62 F61 h
          refine aw_pc (pc' := 608) rfl ?_
          refine aw_aload_n dL_law_608 rfl rfl (aw_pc (pc' := 609) rfl ?_)
          refine aw_aload_n dL_law_609 rfl rfl (aw_pc (pc' := 610) rfl ?_)
          refine aw_iload_n dL_law_610 rfl rfl (aw_pc (pc' := 611) rfl ?_)
          refine aw_iconst dL_law_611 (aw_pc (pc' := 612) rfl ?_)
          refine aw_iadd dL_law_612 (aw_pc (pc' := 613) rfl ?_)
          refine ar_sld hL h.1 dL_law_613 (aw_pc (pc' := 614) rfl ?_)
          replace h := h.2
          refine aw_less (kc' := 0 + 4 * k) (ks' := 0 + 379 * k) (by omega) (by omega) ?_
          have h0 := rcv_inv h
          clear h
          obtain ⟨o66, fs_o66, hr_o66, he_o66, h⟩ := h0
          subst hr_o66
          refine ar_VI (d := 999) (kc' := 0) (ks' := 0) (kc := 4 * k) (ks := 379 * k) (a := o66) (ci := 12) (as := [vi (sx xs (a3 + 1))]) (st := [vi x62]) (tX12_hour h) mt_X12_hour rfl qM_RL_68 qI_X12_hour qV_X12_hour he_o66 rfl (Nat.le_of_ble_eq_true rfl) dL_law_614 ?_
          clear h
          intro x65 F64 h
          refine aw_pc (pc' := 617) rfl ?_
          refine ac_eq rfl rfl dL_law_617 rfl (fun c => ?_) (fun c => ?_)
          · replace h := h.1 c
            refine aw_less (kc' := 4 * k) (ks' := 379 * k) (by omega) (by omega) ?_
            exact aw_mask [true, true, true, true] (tL_law_J1596 hL (fun a1' a2' a3' F' h' => ih a1' a2' a3' F' h') h)
          · replace h := h.2 c
            refine aw_iconst dL_law_620 (aw_pc (pc' := 621) rfl ?_)
            exact aw_zret rfl (by decide) dL_law_621 ⟨_, rfl, h⟩
        · replace h := h.2.2.2.2.2.2.2.2.2.2.2.2.1 (by omega)
          refine aw_pc (pc' := 622) rfl ?_
          refine aw_aload_n dL_law_622 rfl rfl (aw_pc (pc' := 623) rfl ?_)
          refine aw_aload_n dL_law_623 rfl rfl (aw_pc (pc' := 624) rfl ?_)
          refine aw_iload_n dL_law_624 rfl rfl (aw_pc (pc' := 625) rfl ?_)
          refine aw_iconst dL_law_625 (aw_pc (pc' := 626) rfl ?_)
          refine aw_iadd dL_law_626 (aw_pc (pc' := 627) rfl ?_)
          refine ar_sld hL h.1 dL_law_627 (aw_pc (pc' := 628) rfl ?_)
          replace h := h.2
          refine aw_less (kc' := 0 + 4 * k) (ks' := 0 + 379 * k) (by omega) (by omega) ?_
          have h0 := rcv_inv h
          clear h
          obtain ⟨o69, fs_o69, hr_o69, he_o69, h⟩ := h0
          subst hr_o69
          refine ar_VI (d := 999) (kc' := 0) (ks' := 0) (kc := 4 * k) (ks := 379 * k) (a := o69) (ci := 11) (as := [vi (sx xs (a3 + 1))]) (st := []) (tX11_played h) mt_X11_played rfl qM_RL_69 qI_X11_played qV_X11_played he_o69 rfl (Nat.le_of_ble_eq_true rfl) dL_law_628 ?_
          clear h
          intro x68 F67 h
          refine aw_pc (pc' := 631) rfl ?_
          refine aw_aload_n dL_law_631 rfl rfl (aw_pc (pc' := 632) rfl ?_)
          refine aw_aload_n dL_law_632 rfl rfl (aw_pc (pc' := 633) rfl ?_)
          refine aw_iload_n dL_law_633 rfl rfl (aw_pc (pc' := 634) rfl ?_)
          refine aw_iconst dL_law_634 (aw_pc (pc' := 635) rfl ?_)
          refine aw_iadd dL_law_635 (aw_pc (pc' := 636) rfl ?_)
          refine ar_sld hL h.1 dL_law_636 (aw_pc (pc' := 637) rfl ?_)
          replace h := h.2
          refine aw_less (kc' := 0 + 4 * k) (ks' := 0 + 379 * k) (by omega) (by omega) ?_
          have h0 := rcv_inv h
          clear h
          obtain ⟨o72, fs_o72, hr_o72, he_o72, h⟩ := h0
          subst hr_o72
          refine ar_VI (d := 999) (kc' := 0) (ks' := 0) (kc := 4 * k) (ks := 379 * k) (a := o72) (ci := 12) (as := [vi (sx xs (a3 + 1))]) (st := [vi x68]) (tX12_played h) mt_X12_played rfl qM_RL_72 qI_X12_played qV_X12_played he_o72 rfl (Nat.le_of_ble_eq_true rfl) dL_law_637 ?_
          clear h
          intro x71 F70 h
          refine aw_pc (pc' := 640) rfl ?_
          refine ac_eq rfl rfl dL_law_640 rfl (fun c => ?_) (fun c => ?_)
          · replace h := h.1 c
            refine aw_less (kc' := 4 * k) (ks' := 379 * k) (by omega) (by omega) ?_
            exact aw_mask [true, true, true, true] (tL_law_J1596 hL (fun a1' a2' a3' F' h' => ih a1' a2' a3' F' h') h)
          · replace h := h.2 c
            refine aw_iconst dL_law_643 (aw_pc (pc' := 644) rfl ?_)
            exact aw_zret rfl (by decide) dL_law_644 ⟨_, rfl, h⟩
        · replace h := h.2.2.2.2.2.2.2.2.2.2.2.2.2.1 (by omega)
          refine aw_pc (pc' := 645) rfl ?_
          refine aw_aload_n dL_law_645 rfl rfl (aw_pc (pc' := 646) rfl ?_)
          refine aw_aload_n dL_law_646 rfl rfl (aw_pc (pc' := 647) rfl ?_)
          refine aw_iload_n dL_law_647 rfl rfl (aw_pc (pc' := 648) rfl ?_)
          refine aw_iconst dL_law_648 (aw_pc (pc' := 649) rfl ?_)
          refine aw_iadd dL_law_649 (aw_pc (pc' := 650) rfl ?_)
          refine ar_sld hL h.1 dL_law_650 (aw_pc (pc' := 651) rfl ?_)
          replace h := h.2
          refine aw_aload_n dL_law_651 rfl rfl (aw_pc (pc' := 652) rfl ?_)
          refine aw_iload_n dL_law_652 rfl rfl (aw_pc (pc' := 653) rfl ?_)
          refine aw_iconst dL_law_653 (aw_pc (pc' := 654) rfl ?_)
          refine aw_iadd dL_law_654 (aw_pc (pc' := 655) rfl ?_)
          refine ar_sld hL h.1 dL_law_655 (aw_pc (pc' := 656) rfl ?_)
          replace h := h.2
          refine aw_less (kc' := 0 + 4 * k) (ks' := 0 + 379 * k) (by omega) (by omega) ?_
          have h0 := rcv_inv h
          clear h
          obtain ⟨o75, fs_o75, hr_o75, he_o75, h⟩ := h0
          subst hr_o75
          refine ar_VI (d := 999) (kc' := 0) (ks' := 0) (kc := 4 * k) (ks := 379 * k) (a := o75) (ci := 11) (as := [vi (sx xs (a3 + 1)), vi (sx xs (a3 + 2))]) (st := []) (tX11_years h) mt_X11_years rfl qM_RL_73 qI_X11_years qV_X11_years he_o75 rfl (Nat.le_of_ble_eq_true rfl) dL_law_656 ?_
          clear h
          intro x74 F73 h
          refine aw_pc (pc' := 659) rfl ?_
          refine aw_aload_n dL_law_659 rfl rfl (aw_pc (pc' := 660) rfl ?_)
          refine aw_aload_n dL_law_660 rfl rfl (aw_pc (pc' := 661) rfl ?_)
          refine aw_iload_n dL_law_661 rfl rfl (aw_pc (pc' := 662) rfl ?_)
          refine aw_iconst dL_law_662 (aw_pc (pc' := 663) rfl ?_)
          refine aw_iadd dL_law_663 (aw_pc (pc' := 664) rfl ?_)
          refine ar_sld hL h.1 dL_law_664 (aw_pc (pc' := 665) rfl ?_)
          replace h := h.2
          refine aw_aload_n dL_law_665 rfl rfl (aw_pc (pc' := 666) rfl ?_)
          refine aw_iload_n dL_law_666 rfl rfl (aw_pc (pc' := 667) rfl ?_)
          refine aw_iconst dL_law_667 (aw_pc (pc' := 668) rfl ?_)
          refine aw_iadd dL_law_668 (aw_pc (pc' := 669) rfl ?_)
          refine ar_sld hL h.1 dL_law_669 (aw_pc (pc' := 670) rfl ?_)
          replace h := h.2
          refine aw_less (kc' := 0 + 4 * k) (ks' := 0 + 379 * k) (by omega) (by omega) ?_
          have h0 := rcv_inv h
          clear h
          obtain ⟨o78, fs_o78, hr_o78, he_o78, h⟩ := h0
          subst hr_o78
          refine ar_VI (d := 999) (kc' := 0) (ks' := 0) (kc := 4 * k) (ks := 379 * k) (a := o78) (ci := 12) (as := [vi (sx xs (a3 + 1)), vi (sx xs (a3 + 2))]) (st := [vi x74]) (tX12_years h) mt_X12_years rfl qM_RL_76 qI_X12_years qV_X12_years he_o78 rfl (Nat.le_of_ble_eq_true rfl) dL_law_670 ?_
          clear h
          intro x77 F76 h
          refine aw_pc (pc' := 673) rfl ?_
          refine ac_eq rfl rfl dL_law_673 rfl (fun c => ?_) (fun c => ?_)
          · replace h := h.1 c
            refine aw_less (kc' := 4 * k) (ks' := 379 * k) (by omega) (by omega) ?_
            exact aw_mask [true, true, true, true] (tL_law_J1596 hL (fun a1' a2' a3' F' h' => ih a1' a2' a3' F' h') h)
          · replace h := h.2 c
            refine aw_iconst dL_law_676 (aw_pc (pc' := 677) rfl ?_)
            exact aw_zret rfl (by decide) dL_law_677 ⟨_, rfl, h⟩
        · replace h := h.2.2.2.2.2.2.2.2.2.2.2.2.2.2.1 (by omega)
          refine aw_pc (pc' := 678) rfl ?_
          refine aw_aload_n dL_law_678 rfl rfl (aw_pc (pc' := 679) rfl ?_)
          refine aw_less (kc' := 0 + 4 * k) (ks' := 0 + 379 * k) (by omega) (by omega) ?_
          have h0 := rcv_inv h
          clear h
          obtain ⟨o81, fs_o81, hr_o81, he_o81, h⟩ := h0
          subst hr_o81
          refine ar_VI (d := 999) (kc' := 0) (ks' := 0) (kc := 4 * k) (ks := 379 * k) (a := o81) (ci := 11) (as := []) (st := []) (tX11_undo h) mt_X11_undo rfl qM_RL_77 qI_X11_undo qV_X11_undo he_o81 rfl (Nat.le_of_ble_eq_true rfl) dL_law_679 ?_
          clear h
          intro x80 F79 h
          refine aw_pc (pc' := 682) rfl ?_
          refine aw_aload_n dL_law_682 rfl rfl (aw_pc (pc' := 683) rfl ?_)
          refine aw_less (kc' := 0 + 4 * k) (ks' := 0 + 379 * k) (by omega) (by omega) ?_
          have h0 := rcv_inv h
          clear h
          obtain ⟨o84, fs_o84, hr_o84, he_o84, h⟩ := h0
          subst hr_o84
          refine ar_VI (d := 999) (kc' := 0) (ks' := 0) (kc := 4 * k) (ks := 379 * k) (a := o84) (ci := 12) (as := []) (st := [vi x80]) (tX12_undo h) mt_X12_undo rfl qM_RL_80 qI_X12_undo qV_X12_undo he_o84 rfl (Nat.le_of_ble_eq_true rfl) dL_law_683 ?_
          clear h
          intro x83 F82 h
          refine aw_pc (pc' := 686) rfl ?_
          refine ac_eq rfl rfl dL_law_686 rfl (fun c => ?_) (fun c => ?_)
          · replace h := h.1 c
            refine aw_less (kc' := 4 * k) (ks' := 379 * k) (by omega) (by omega) ?_
            exact aw_mask [true, true, true, true] (tL_law_J1596 hL (fun a1' a2' a3' F' h' => ih a1' a2' a3' F' h') h)
          · replace h := h.2 c
            refine aw_iconst dL_law_689 (aw_pc (pc' := 690) rfl ?_)
            exact aw_zret rfl (by decide) dL_law_690 ⟨_, rfl, h⟩
        · replace h := h.2.2.2.2.2.2.2.2.2.2.2.2.2.2.2.1 (by omega)
          refine aw_pc (pc' := 691) rfl ?_
          refine aw_aload_n dL_law_691 rfl rfl (aw_pc (pc' := 692) rfl ?_)
          refine aw_aload_n dL_law_692 rfl rfl (aw_pc (pc' := 693) rfl ?_)
          refine aw_iload_n dL_law_693 rfl rfl (aw_pc (pc' := 694) rfl ?_)
          refine aw_iconst dL_law_694 (aw_pc (pc' := 695) rfl ?_)
          refine aw_iadd dL_law_695 (aw_pc (pc' := 696) rfl ?_)
          refine ar_sld hL h.1 dL_law_696 (aw_pc (pc' := 697) rfl ?_)
          replace h := h.2
          refine aw_aload_n dL_law_697 rfl rfl (aw_pc (pc' := 698) rfl ?_)
          refine aw_iload_n dL_law_698 rfl rfl (aw_pc (pc' := 699) rfl ?_)
          refine aw_iconst dL_law_699 (aw_pc (pc' := 700) rfl ?_)
          refine aw_iadd dL_law_700 (aw_pc (pc' := 701) rfl ?_)
          refine ar_sld hL h.1 dL_law_701 (aw_pc (pc' := 702) rfl ?_)
          replace h := h.2
          refine aw_less (kc' := 0 + 4 * k) (ks' := 0 + 379 * k) (by omega) (by omega) ?_
          have h0 := rcv_inv h
          clear h
          obtain ⟨o87, fs_o87, hr_o87, he_o87, h⟩ := h0
          subst hr_o87
          refine ar_VI (d := 999) (kc' := 0) (ks' := 0) (kc := 4 * k) (ks := 379 * k) (a := o87) (ci := 11) (as := [vi (sx xs (a3 + 1)), vi (sx xs (a3 + 2))]) (st := []) (tX11_of h) mt_X11_of rfl qM_RL_81 qI_X11_of qV_X11_of he_o87 rfl (Nat.le_of_ble_eq_true rfl) dL_law_702 ?_
          clear h
          intro x86 F85 h
          refine aw_pc (pc' := 705) rfl ?_
          refine aw_aload_n dL_law_705 rfl rfl (aw_pc (pc' := 706) rfl ?_)
          refine aw_aload_n dL_law_706 rfl rfl (aw_pc (pc' := 707) rfl ?_)
          refine aw_iload_n dL_law_707 rfl rfl (aw_pc (pc' := 708) rfl ?_)
          refine aw_iconst dL_law_708 (aw_pc (pc' := 709) rfl ?_)
          refine aw_iadd dL_law_709 (aw_pc (pc' := 710) rfl ?_)
          refine ar_sld hL h.1 dL_law_710 (aw_pc (pc' := 711) rfl ?_)
          replace h := h.2
          refine aw_aload_n dL_law_711 rfl rfl (aw_pc (pc' := 712) rfl ?_)
          refine aw_iload_n dL_law_712 rfl rfl (aw_pc (pc' := 713) rfl ?_)
          refine aw_iconst dL_law_713 (aw_pc (pc' := 714) rfl ?_)
          refine aw_iadd dL_law_714 (aw_pc (pc' := 715) rfl ?_)
          refine ar_sld hL h.1 dL_law_715 (aw_pc (pc' := 716) rfl ?_)
          replace h := h.2
          refine aw_less (kc' := 0 + 4 * k) (ks' := 0 + 379 * k) (by omega) (by omega) ?_
          have h0 := rcv_inv h
          clear h
          obtain ⟨o90, fs_o90, hr_o90, he_o90, h⟩ := h0
          subst hr_o90
          refine ar_VI (d := 999) (kc' := 0) (ks' := 0) (kc := 4 * k) (ks := 379 * k) (a := o90) (ci := 12) (as := [vi (sx xs (a3 + 1)), vi (sx xs (a3 + 2))]) (st := [vi x86]) (tX12_of h) mt_X12_of rfl qM_RL_84 qI_X12_of qV_X12_of he_o90 rfl (Nat.le_of_ble_eq_true rfl) dL_law_716 ?_
          clear h
          intro x89 F88 h
          refine aw_pc (pc' := 719) rfl ?_
          refine ac_eq rfl rfl dL_law_719 rfl (fun c => ?_) (fun c => ?_)
          · replace h := h.1 c
            refine aw_less (kc' := 4 * k) (ks' := 379 * k) (by omega) (by omega) ?_
            exact aw_mask [true, true, true, true] (tL_law_J1596 hL (fun a1' a2' a3' F' h' => ih a1' a2' a3' F' h') h)
          · replace h := h.2 c
            refine aw_iconst dL_law_722 (aw_pc (pc' := 723) rfl ?_)
            exact aw_zret rfl (by decide) dL_law_723 ⟨_, rfl, h⟩
        · replace h := h.2.2.2.2.2.2.2.2.2.2.2.2.2.2.2.2.1 (by omega)
          refine aw_pc (pc' := 724) rfl ?_
          refine aw_aload_n dL_law_724 rfl rfl (aw_pc (pc' := 725) rfl ?_)
          refine aw_aload_n dL_law_725 rfl rfl (aw_pc (pc' := 726) rfl ?_)
          refine aw_iload_n dL_law_726 rfl rfl (aw_pc (pc' := 727) rfl ?_)
          refine aw_iconst dL_law_727 (aw_pc (pc' := 728) rfl ?_)
          refine aw_iadd dL_law_728 (aw_pc (pc' := 729) rfl ?_)
          refine ar_sld hL h.1 dL_law_729 (aw_pc (pc' := 730) rfl ?_)
          replace h := h.2
          refine aw_aload_n dL_law_730 rfl rfl (aw_pc (pc' := 731) rfl ?_)
          refine aw_iload_n dL_law_731 rfl rfl (aw_pc (pc' := 732) rfl ?_)
          refine aw_iconst dL_law_732 (aw_pc (pc' := 733) rfl ?_)
          refine aw_iadd dL_law_733 (aw_pc (pc' := 734) rfl ?_)
          refine ar_sld hL h.1 dL_law_734 (aw_pc (pc' := 735) rfl ?_)
          replace h := h.2
          refine aw_less (kc' := 0 + 4 * k) (ks' := 0 + 379 * k) (by omega) (by omega) ?_
          have h0 := rcv_inv h
          clear h
          obtain ⟨o93, fs_o93, hr_o93, he_o93, h⟩ := h0
          subst hr_o93
          refine ar_VI (d := 999) (kc' := 0) (ks' := 0) (kc := 4 * k) (ks := 379 * k) (a := o93) (ci := 11) (as := [vi (sx xs (a3 + 1)), vi (sx xs (a3 + 2))]) (st := []) (tX11_track h) mt_X11_track rfl qM_RL_85 qI_X11_track qV_X11_track he_o93 rfl (Nat.le_of_ble_eq_true rfl) dL_law_735 ?_
          clear h
          intro x92 F91 h
          refine aw_pc (pc' := 738) rfl ?_
          refine aw_aload_n dL_law_738 rfl rfl (aw_pc (pc' := 739) rfl ?_)
          refine aw_aload_n dL_law_739 rfl rfl (aw_pc (pc' := 740) rfl ?_)
          refine aw_iload_n dL_law_740 rfl rfl (aw_pc (pc' := 741) rfl ?_)
          refine aw_iconst dL_law_741 (aw_pc (pc' := 742) rfl ?_)
          refine aw_iadd dL_law_742 (aw_pc (pc' := 743) rfl ?_)
          refine ar_sld hL h.1 dL_law_743 (aw_pc (pc' := 744) rfl ?_)
          replace h := h.2
          refine aw_aload_n dL_law_744 rfl rfl (aw_pc (pc' := 745) rfl ?_)
          refine aw_iload_n dL_law_745 rfl rfl (aw_pc (pc' := 746) rfl ?_)
          refine aw_iconst dL_law_746 (aw_pc (pc' := 747) rfl ?_)
          refine aw_iadd dL_law_747 (aw_pc (pc' := 748) rfl ?_)
          refine ar_sld hL h.1 dL_law_748 (aw_pc (pc' := 749) rfl ?_)
          replace h := h.2
          refine aw_less (kc' := 0 + 4 * k) (ks' := 0 + 379 * k) (by omega) (by omega) ?_
          have h0 := rcv_inv h
          clear h
          obtain ⟨o96, fs_o96, hr_o96, he_o96, h⟩ := h0
          subst hr_o96
          refine ar_VI (d := 999) (kc' := 0) (ks' := 0) (kc := 4 * k) (ks := 379 * k) (a := o96) (ci := 12) (as := [vi (sx xs (a3 + 1)), vi (sx xs (a3 + 2))]) (st := [vi x92]) (tX12_track h) mt_X12_track rfl qM_RL_88 qI_X12_track qV_X12_track he_o96 rfl (Nat.le_of_ble_eq_true rfl) dL_law_749 ?_
          clear h
          intro x95 F94 h
          refine aw_pc (pc' := 752) rfl ?_
          refine ac_eq rfl rfl dL_law_752 rfl (fun c => ?_) (fun c => ?_)
          · replace h := h.1 c
            refine aw_less (kc' := 4 * k) (ks' := 379 * k) (by omega) (by omega) ?_
            exact aw_mask [true, true, true, true] (tL_law_J1596 hL (fun a1' a2' a3' F' h' => ih a1' a2' a3' F' h') h)
          · replace h := h.2 c
            refine aw_iconst dL_law_755 (aw_pc (pc' := 756) rfl ?_)
            exact aw_zret rfl (by decide) dL_law_756 ⟨_, rfl, h⟩
        · replace h := h.2.2.2.2.2.2.2.2.2.2.2.2.2.2.2.2.2.1 (by omega)
          refine aw_pc (pc' := 757) rfl ?_
          refine aw_aload_n dL_law_757 rfl rfl (aw_pc (pc' := 758) rfl ?_)
          refine aw_aload_n dL_law_758 rfl rfl (aw_pc (pc' := 759) rfl ?_)
          refine aw_iload_n dL_law_759 rfl rfl (aw_pc (pc' := 760) rfl ?_)
          refine aw_iconst dL_law_760 (aw_pc (pc' := 761) rfl ?_)
          refine aw_iadd dL_law_761 (aw_pc (pc' := 762) rfl ?_)
          refine ar_sld hL h.1 dL_law_762 (aw_pc (pc' := 763) rfl ?_)
          replace h := h.2
          refine aw_aload_n dL_law_763 rfl rfl (aw_pc (pc' := 764) rfl ?_)
          refine aw_iload_n dL_law_764 rfl rfl (aw_pc (pc' := 765) rfl ?_)
          refine aw_iconst dL_law_765 (aw_pc (pc' := 766) rfl ?_)
          refine aw_iadd dL_law_766 (aw_pc (pc' := 767) rfl ?_)
          refine ar_sld hL h.1 dL_law_767 (aw_pc (pc' := 768) rfl ?_)
          replace h := h.2
          refine aw_less (kc' := 0 + 4 * k) (ks' := 0 + 379 * k) (by omega) (by omega) ?_
          have h0 := rcv_inv h
          clear h
          obtain ⟨o99, fs_o99, hr_o99, he_o99, h⟩ := h0
          subst hr_o99
          refine ar_VI (d := 999) (kc' := 0) (ks' := 0) (kc := 4 * k) (ks := 379 * k) (a := o99) (ci := 11) (as := [vi (sx xs (a3 + 1)), vi (sx xs (a3 + 2))]) (st := []) (tX11_law h) mt_X11_law rfl qM_RL_89 qI_X11_law qV_X11_law he_o99 rfl (Nat.le_of_ble_eq_true rfl) dL_law_768 ?_
          clear h
          intro x98 F97 h
          refine aw_pc (pc' := 771) rfl ?_
          refine aw_aload_n dL_law_771 rfl rfl (aw_pc (pc' := 772) rfl ?_)
          refine aw_aload_n dL_law_772 rfl rfl (aw_pc (pc' := 773) rfl ?_)
          refine aw_iload_n dL_law_773 rfl rfl (aw_pc (pc' := 774) rfl ?_)
          refine aw_iconst dL_law_774 (aw_pc (pc' := 775) rfl ?_)
          refine aw_iadd dL_law_775 (aw_pc (pc' := 776) rfl ?_)
          refine ar_sld hL h.1 dL_law_776 (aw_pc (pc' := 777) rfl ?_)
          replace h := h.2
          refine aw_aload_n dL_law_777 rfl rfl (aw_pc (pc' := 778) rfl ?_)
          refine aw_iload_n dL_law_778 rfl rfl (aw_pc (pc' := 779) rfl ?_)
          refine aw_iconst dL_law_779 (aw_pc (pc' := 780) rfl ?_)
          refine aw_iadd dL_law_780 (aw_pc (pc' := 781) rfl ?_)
          refine ar_sld hL h.1 dL_law_781 (aw_pc (pc' := 782) rfl ?_)
          replace h := h.2
          refine aw_less (kc' := 0 + 4 * k) (ks' := 0 + 379 * k) (by omega) (by omega) ?_
          have h0 := rcv_inv h
          clear h
          obtain ⟨o102, fs_o102, hr_o102, he_o102, h⟩ := h0
          subst hr_o102
          refine ar_VI (d := 999) (kc' := 0) (ks' := 0) (kc := 4 * k) (ks := 379 * k) (a := o102) (ci := 12) (as := [vi (sx xs (a3 + 1)), vi (sx xs (a3 + 2))]) (st := [vi x98]) (tX12_law h) mt_X12_law rfl qM_RL_92 qI_X12_law qV_X12_law he_o102 rfl (Nat.le_of_ble_eq_true rfl) dL_law_782 ?_
          clear h
          intro x101 F100 h
          refine aw_pc (pc' := 785) rfl ?_
          refine ac_eq rfl rfl dL_law_785 rfl (fun c => ?_) (fun c => ?_)
          · replace h := h.1 c
            refine aw_less (kc' := 4 * k) (ks' := 379 * k) (by omega) (by omega) ?_
            exact aw_mask [true, true, true, true] (tL_law_J1596 hL (fun a1' a2' a3' F' h' => ih a1' a2' a3' F' h') h)
          · replace h := h.2 c
            refine aw_iconst dL_law_788 (aw_pc (pc' := 789) rfl ?_)
            exact aw_zret rfl (by decide) dL_law_789 ⟨_, rfl, h⟩
        · replace h := h.2.2.2.2.2.2.2.2.2.2.2.2.2.2.2.2.2.2.1 (by omega)
          refine aw_pc (pc' := 790) rfl ?_
          refine aw_aload_n dL_law_790 rfl rfl (aw_pc (pc' := 791) rfl ?_)
          refine aw_aload_n dL_law_791 rfl rfl (aw_pc (pc' := 792) rfl ?_)
          refine aw_iload_n dL_law_792 rfl rfl (aw_pc (pc' := 793) rfl ?_)
          refine aw_iconst dL_law_793 (aw_pc (pc' := 794) rfl ?_)
          refine aw_iadd dL_law_794 (aw_pc (pc' := 795) rfl ?_)
          refine ar_sld hL h.1 dL_law_795 (aw_pc (pc' := 796) rfl ?_)
          replace h := h.2
          refine aw_less (kc' := 0 + 4 * k) (ks' := 0 + 379 * k) (by omega) (by omega) ?_
          have h0 := rcv_inv h
          clear h
          obtain ⟨o105, fs_o105, hr_o105, he_o105, h⟩ := h0
          subst hr_o105
          refine ar_VI (d := 999) (kc' := 0) (ks' := 0) (kc := 4 * k) (ks := 379 * k) (a := o105) (ci := 11) (as := [vi (sx xs (a3 + 1))]) (st := []) (tX11_is h) mt_X11_is rfl qM_RL_93 qI_X11_is qV_X11_is he_o105 rfl (Nat.le_of_ble_eq_true rfl) dL_law_796 ?_
          clear h
          intro x104 F103 h
          refine aw_pc (pc' := 799) rfl ?_
          refine aw_aload_n dL_law_799 rfl rfl (aw_pc (pc' := 800) rfl ?_)
          refine aw_aload_n dL_law_800 rfl rfl (aw_pc (pc' := 801) rfl ?_)
          refine aw_iload_n dL_law_801 rfl rfl (aw_pc (pc' := 802) rfl ?_)
          refine aw_iconst dL_law_802 (aw_pc (pc' := 803) rfl ?_)
          refine aw_iadd dL_law_803 (aw_pc (pc' := 804) rfl ?_)
          refine ar_sld hL h.1 dL_law_804 (aw_pc (pc' := 805) rfl ?_)
          replace h := h.2
          refine aw_less (kc' := 0 + 4 * k) (ks' := 0 + 379 * k) (by omega) (by omega) ?_
          have h0 := rcv_inv h
          clear h
          obtain ⟨o108, fs_o108, hr_o108, he_o108, h⟩ := h0
          subst hr_o108
          refine ar_VI (d := 999) (kc' := 0) (ks' := 0) (kc := 4 * k) (ks := 379 * k) (a := o108) (ci := 12) (as := [vi (sx xs (a3 + 1))]) (st := [vi x104]) (tX12_is h) mt_X12_is rfl qM_RL_96 qI_X12_is qV_X12_is he_o108 rfl (Nat.le_of_ble_eq_true rfl) dL_law_805 ?_
          clear h
          intro x107 F106 h
          refine aw_pc (pc' := 808) rfl ?_
          refine ac_eq rfl rfl dL_law_808 rfl (fun c => ?_) (fun c => ?_)
          · replace h := h.1 c
            refine aw_less (kc' := 4 * k) (ks' := 379 * k) (by omega) (by omega) ?_
            exact aw_mask [true, true, true, true] (tL_law_J1596 hL (fun a1' a2' a3' F' h' => ih a1' a2' a3' F' h') h)
          · replace h := h.2 c
            refine aw_iconst dL_law_811 (aw_pc (pc' := 812) rfl ?_)
            exact aw_zret rfl (by decide) dL_law_812 ⟨_, rfl, h⟩
        · replace h := h.2.2.2.2.2.2.2.2.2.2.2.2.2.2.2.2.2.2.2.1 (by omega)
          refine aw_pc (pc' := 813) rfl ?_
          refine aw_aload_n dL_law_813 rfl rfl (aw_pc (pc' := 814) rfl ?_)
          refine aw_aload_n dL_law_814 rfl rfl (aw_pc (pc' := 815) rfl ?_)
          refine aw_iload_n dL_law_815 rfl rfl (aw_pc (pc' := 816) rfl ?_)
          refine aw_iconst dL_law_816 (aw_pc (pc' := 817) rfl ?_)
          refine aw_iadd dL_law_817 (aw_pc (pc' := 818) rfl ?_)
          refine ar_sld hL h.1 dL_law_818 (aw_pc (pc' := 819) rfl ?_)
          replace h := h.2
          refine aw_aload_n dL_law_819 rfl rfl (aw_pc (pc' := 820) rfl ?_)
          refine aw_iload_n dL_law_820 rfl rfl (aw_pc (pc' := 821) rfl ?_)
          refine aw_iconst dL_law_821 (aw_pc (pc' := 822) rfl ?_)
          refine aw_iadd dL_law_822 (aw_pc (pc' := 823) rfl ?_)
          refine ar_sld hL h.1 dL_law_823 (aw_pc (pc' := 824) rfl ?_)
          replace h := h.2
          refine aw_less (kc' := 0 + 4 * k) (ks' := 0 + 379 * k) (by omega) (by omega) ?_
          have h0 := rcv_inv h
          clear h
          obtain ⟨o111, fs_o111, hr_o111, he_o111, h⟩ := h0
          subst hr_o111
          refine ar_VI (d := 999) (kc' := 0) (ks' := 0) (kc := 4 * k) (ks := 379 * k) (a := o111) (ci := 11) (as := [vi (sx xs (a3 + 1)), vi (sx xs (a3 + 2))]) (st := []) (tX11_book h) mt_X11_book rfl qM_RL_97 qI_X11_book qV_X11_book he_o111 rfl (Nat.le_of_ble_eq_true rfl) dL_law_824 ?_
          clear h
          intro x110 F109 h
          refine aw_pc (pc' := 827) rfl ?_
          refine aw_aload_n dL_law_827 rfl rfl (aw_pc (pc' := 828) rfl ?_)
          refine aw_aload_n dL_law_828 rfl rfl (aw_pc (pc' := 829) rfl ?_)
          refine aw_iload_n dL_law_829 rfl rfl (aw_pc (pc' := 830) rfl ?_)
          refine aw_iconst dL_law_830 (aw_pc (pc' := 831) rfl ?_)
          refine aw_iadd dL_law_831 (aw_pc (pc' := 832) rfl ?_)
          refine ar_sld hL h.1 dL_law_832 (aw_pc (pc' := 833) rfl ?_)
          replace h := h.2
          refine aw_aload_n dL_law_833 rfl rfl (aw_pc (pc' := 834) rfl ?_)
          refine aw_iload_n dL_law_834 rfl rfl (aw_pc (pc' := 835) rfl ?_)
          refine aw_iconst dL_law_835 (aw_pc (pc' := 836) rfl ?_)
          refine aw_iadd dL_law_836 (aw_pc (pc' := 837) rfl ?_)
          refine ar_sld hL h.1 dL_law_837 (aw_pc (pc' := 838) rfl ?_)
          replace h := h.2
          refine aw_less (kc' := 0 + 4 * k) (ks' := 0 + 379 * k) (by omega) (by omega) ?_
          have h0 := rcv_inv h
          clear h
          obtain ⟨o114, fs_o114, hr_o114, he_o114, h⟩ := h0
          subst hr_o114
          refine ar_VI (d := 999) (kc' := 0) (ks' := 0) (kc := 4 * k) (ks := 379 * k) (a := o114) (ci := 12) (as := [vi (sx xs (a3 + 1)), vi (sx xs (a3 + 2))]) (st := [vi x110]) (tX12_book h) mt_X12_book rfl qM_RL_100 qI_X12_book qV_X12_book he_o114 rfl (Nat.le_of_ble_eq_true rfl) dL_law_838 ?_
          clear h
          intro x113 F112 h
          refine aw_pc (pc' := 841) rfl ?_
          refine ac_eq rfl rfl dL_law_841 rfl (fun c => ?_) (fun c => ?_)
          · replace h := h.1 c
            refine aw_less (kc' := 4 * k) (ks' := 379 * k) (by omega) (by omega) ?_
            exact aw_mask [true, true, true, true] (tL_law_J1596 hL (fun a1' a2' a3' F' h' => ih a1' a2' a3' F' h') h)
          · replace h := h.2 c
            refine aw_iconst dL_law_844 (aw_pc (pc' := 845) rfl ?_)
            exact aw_zret rfl (by decide) dL_law_845 ⟨_, rfl, h⟩
        · replace h := h.2.2.2.2.2.2.2.2.2.2.2.2.2.2.2.2.2.2.2.2.1 (by omega)
          refine aw_pc (pc' := 846) rfl ?_
          refine aw_aload_n dL_law_846 rfl rfl (aw_pc (pc' := 847) rfl ?_)
          refine aw_aload_n dL_law_847 rfl rfl (aw_pc (pc' := 848) rfl ?_)
          refine aw_iload_n dL_law_848 rfl rfl (aw_pc (pc' := 849) rfl ?_)
          refine aw_iconst dL_law_849 (aw_pc (pc' := 850) rfl ?_)
          refine aw_iadd dL_law_850 (aw_pc (pc' := 851) rfl ?_)
          refine ar_sld hL h.1 dL_law_851 (aw_pc (pc' := 852) rfl ?_)
          replace h := h.2
          refine aw_aload_n dL_law_852 rfl rfl (aw_pc (pc' := 853) rfl ?_)
          refine aw_iload_n dL_law_853 rfl rfl (aw_pc (pc' := 854) rfl ?_)
          refine aw_iconst dL_law_854 (aw_pc (pc' := 855) rfl ?_)
          refine aw_iadd dL_law_855 (aw_pc (pc' := 856) rfl ?_)
          refine ar_sld hL h.1 dL_law_856 (aw_pc (pc' := 857) rfl ?_)
          replace h := h.2
          refine aw_less (kc' := 0 + 4 * k) (ks' := 0 + 379 * k) (by omega) (by omega) ?_
          have h0 := rcv_inv h
          clear h
          obtain ⟨o117, fs_o117, hr_o117, he_o117, h⟩ := h0
          subst hr_o117
          refine ar_VI (d := 999) (kc' := 0) (ks' := 0) (kc := 4 * k) (ks := 379 * k) (a := o117) (ci := 11) (as := [vi (sx xs (a3 + 1)), vi (sx xs (a3 + 2))]) (st := []) (tX11_foretold h) mt_X11_foretold rfl qM_RL_101 qI_X11_foretold qV_X11_foretold he_o117 rfl (Nat.le_of_ble_eq_true rfl) dL_law_857 ?_
          clear h
          intro x116 F115 h
          refine aw_pc (pc' := 860) rfl ?_
          refine aw_aload_n dL_law_860 rfl rfl (aw_pc (pc' := 861) rfl ?_)
          refine aw_aload_n dL_law_861 rfl rfl (aw_pc (pc' := 862) rfl ?_)
          refine aw_iload_n dL_law_862 rfl rfl (aw_pc (pc' := 863) rfl ?_)
          refine aw_iconst dL_law_863 (aw_pc (pc' := 864) rfl ?_)
          refine aw_iadd dL_law_864 (aw_pc (pc' := 865) rfl ?_)
          refine ar_sld hL h.1 dL_law_865 (aw_pc (pc' := 866) rfl ?_)
          replace h := h.2
          refine aw_aload_n dL_law_866 rfl rfl (aw_pc (pc' := 867) rfl ?_)
          refine aw_iload_n dL_law_867 rfl rfl (aw_pc (pc' := 868) rfl ?_)
          refine aw_iconst dL_law_868 (aw_pc (pc' := 869) rfl ?_)
          refine aw_iadd dL_law_869 (aw_pc (pc' := 870) rfl ?_)
          refine ar_sld hL h.1 dL_law_870 (aw_pc (pc' := 871) rfl ?_)
          replace h := h.2
          refine aw_less (kc' := 0 + 4 * k) (ks' := 0 + 379 * k) (by omega) (by omega) ?_
          have h0 := rcv_inv h
          clear h
          obtain ⟨o120, fs_o120, hr_o120, he_o120, h⟩ := h0
          subst hr_o120
          refine ar_VI (d := 999) (kc' := 0) (ks' := 0) (kc := 4 * k) (ks := 379 * k) (a := o120) (ci := 12) (as := [vi (sx xs (a3 + 1)), vi (sx xs (a3 + 2))]) (st := [vi x116]) (tX12_foretold h) mt_X12_foretold rfl qM_RL_104 qI_X12_foretold qV_X12_foretold he_o120 rfl (Nat.le_of_ble_eq_true rfl) dL_law_871 ?_
          clear h
          intro x119 F118 h
          refine aw_pc (pc' := 874) rfl ?_
          refine ac_eq rfl rfl dL_law_874 rfl (fun c => ?_) (fun c => ?_)
          · replace h := h.1 c
            refine aw_less (kc' := 4 * k) (ks' := 379 * k) (by omega) (by omega) ?_
            exact aw_mask [true, true, true, true] (tL_law_J1596 hL (fun a1' a2' a3' F' h' => ih a1' a2' a3' F' h') h)
          · replace h := h.2 c
            refine aw_iconst dL_law_877 (aw_pc (pc' := 878) rfl ?_)
            exact aw_zret rfl (by decide) dL_law_878 ⟨_, rfl, h⟩
        · replace h := h.2.2.2.2.2.2.2.2.2.2.2.2.2.2.2.2.2.2.2.2.2.1 (by omega)
          refine aw_pc (pc' := 879) rfl ?_
          refine aw_aload_n dL_law_879 rfl rfl (aw_pc (pc' := 880) rfl ?_)
          refine aw_aload_n dL_law_880 rfl rfl (aw_pc (pc' := 881) rfl ?_)
          refine aw_iload_n dL_law_881 rfl rfl (aw_pc (pc' := 882) rfl ?_)
          refine aw_iconst dL_law_882 (aw_pc (pc' := 883) rfl ?_)
          refine aw_iadd dL_law_883 (aw_pc (pc' := 884) rfl ?_)
          refine ar_sld hL h.1 dL_law_884 (aw_pc (pc' := 885) rfl ?_)
          replace h := h.2
          refine aw_less (kc' := 0 + 4 * k) (ks' := 0 + 379 * k) (by omega) (by omega) ?_
          have h0 := rcv_inv h
          clear h
          obtain ⟨o123, fs_o123, hr_o123, he_o123, h⟩ := h0
          subst hr_o123
          refine ar_VI (d := 999) (kc' := 0) (ks' := 0) (kc := 4 * k) (ks := 379 * k) (a := o123) (ci := 11) (as := [vi (sx xs (a3 + 1))]) (st := []) (tX11_want h) mt_X11_want rfl qM_RL_105 qI_X11_want qV_X11_want he_o123 rfl (Nat.le_of_ble_eq_true rfl) dL_law_885 ?_
          clear h
          intro x122 F121 h
          refine aw_pc (pc' := 888) rfl ?_
          refine aw_aload_n dL_law_888 rfl rfl (aw_pc (pc' := 889) rfl ?_)
          refine aw_aload_n dL_law_889 rfl rfl (aw_pc (pc' := 890) rfl ?_)
          refine aw_iload_n dL_law_890 rfl rfl (aw_pc (pc' := 891) rfl ?_)
          refine aw_iconst dL_law_891 (aw_pc (pc' := 892) rfl ?_)
          refine aw_iadd dL_law_892 (aw_pc (pc' := 893) rfl ?_)
          refine ar_sld hL h.1 dL_law_893 (aw_pc (pc' := 894) rfl ?_)
          replace h := h.2
          refine aw_less (kc' := 0 + 4 * k) (ks' := 0 + 379 * k) (by omega) (by omega) ?_
          have h0 := rcv_inv h
          clear h
          obtain ⟨o126, fs_o126, hr_o126, he_o126, h⟩ := h0
          subst hr_o126
          refine ar_VI (d := 999) (kc' := 0) (ks' := 0) (kc := 4 * k) (ks := 379 * k) (a := o126) (ci := 12) (as := [vi (sx xs (a3 + 1))]) (st := [vi x122]) (tX12_want h) mt_X12_want rfl qM_RL_108 qI_X12_want qV_X12_want he_o126 rfl (Nat.le_of_ble_eq_true rfl) dL_law_894 ?_
          clear h
          intro x125 F124 h
          refine aw_pc (pc' := 897) rfl ?_
          refine ac_eq rfl rfl dL_law_897 rfl (fun c => ?_) (fun c => ?_)
          · replace h := h.1 c
            refine aw_less (kc' := 4 * k) (ks' := 379 * k) (by omega) (by omega) ?_
            exact aw_mask [true, true, true, true] (tL_law_J1596 hL (fun a1' a2' a3' F' h' => ih a1' a2' a3' F' h') h)
          · replace h := h.2 c
            refine aw_iconst dL_law_900 (aw_pc (pc' := 901) rfl ?_)
            exact aw_zret rfl (by decide) dL_law_901 ⟨_, rfl, h⟩
        · replace h := h.2.2.2.2.2.2.2.2.2.2.2.2.2.2.2.2.2.2.2.2.2.2.1 (by omega)
          refine aw_pc (pc' := 902) rfl ?_
          refine aw_aload_n dL_law_902 rfl rfl (aw_pc (pc' := 903) rfl ?_)
          refine aw_aload_n dL_law_903 rfl rfl (aw_pc (pc' := 904) rfl ?_)
          refine aw_iload_n dL_law_904 rfl rfl (aw_pc (pc' := 905) rfl ?_)
          refine aw_iconst dL_law_905 (aw_pc (pc' := 906) rfl ?_)
          refine aw_iadd dL_law_906 (aw_pc (pc' := 907) rfl ?_)
          refine ar_sld hL h.1 dL_law_907 (aw_pc (pc' := 908) rfl ?_)
          replace h := h.2
          refine aw_less (kc' := 0 + 4 * k) (ks' := 0 + 379 * k) (by omega) (by omega) ?_
          have h0 := rcv_inv h
          clear h
          obtain ⟨o129, fs_o129, hr_o129, he_o129, h⟩ := h0
          subst hr_o129
          refine ar_VI (d := 999) (kc' := 0) (ks' := 0) (kc := 4 * k) (ks := 379 * k) (a := o129) (ci := 11) (as := [vi (sx xs (a3 + 1))]) (st := []) (tX11_shunts h) mt_X11_shunts rfl qM_RL_109 qI_X11_shunts qV_X11_shunts he_o129 rfl (Nat.le_of_ble_eq_true rfl) dL_law_908 ?_
          clear h
          intro x128 F127 h
          refine aw_pc (pc' := 911) rfl ?_
          refine aw_aload_n dL_law_911 rfl rfl (aw_pc (pc' := 912) rfl ?_)
          refine aw_aload_n dL_law_912 rfl rfl (aw_pc (pc' := 913) rfl ?_)
          refine aw_iload_n dL_law_913 rfl rfl (aw_pc (pc' := 914) rfl ?_)
          refine aw_iconst dL_law_914 (aw_pc (pc' := 915) rfl ?_)
          refine aw_iadd dL_law_915 (aw_pc (pc' := 916) rfl ?_)
          refine ar_sld hL h.1 dL_law_916 (aw_pc (pc' := 917) rfl ?_)
          replace h := h.2
          refine aw_less (kc' := 0 + 4 * k) (ks' := 0 + 379 * k) (by omega) (by omega) ?_
          have h0 := rcv_inv h
          clear h
          obtain ⟨o132, fs_o132, hr_o132, he_o132, h⟩ := h0
          subst hr_o132
          refine ar_VI (d := 999) (kc' := 0) (ks' := 0) (kc := 4 * k) (ks := 379 * k) (a := o132) (ci := 12) (as := [vi (sx xs (a3 + 1))]) (st := [vi x128]) (tX12_shunts h) mt_X12_shunts rfl qM_RL_112 qI_X12_shunts qV_X12_shunts he_o132 rfl (Nat.le_of_ble_eq_true rfl) dL_law_917 ?_
          clear h
          intro x131 F130 h
          refine aw_pc (pc' := 920) rfl ?_
          refine ac_eq rfl rfl dL_law_920 rfl (fun c => ?_) (fun c => ?_)
          · replace h := h.1 c
            refine aw_less (kc' := 4 * k) (ks' := 379 * k) (by omega) (by omega) ?_
            exact aw_mask [true, true, true, true] (tL_law_J1596 hL (fun a1' a2' a3' F' h' => ih a1' a2' a3' F' h') h)
          · replace h := h.2 c
            refine aw_iconst dL_law_923 (aw_pc (pc' := 924) rfl ?_)
            exact aw_zret rfl (by decide) dL_law_924 ⟨_, rfl, h⟩
        · replace h := h.2.2.2.2.2.2.2.2.2.2.2.2.2.2.2.2.2.2.2.2.2.2.2.1 (by omega)
          refine aw_pc (pc' := 925) rfl ?_
          refine aw_aload_n dL_law_925 rfl rfl (aw_pc (pc' := 926) rfl ?_)
          refine aw_less (kc' := 0 + 4 * k) (ks' := 0 + 379 * k) (by omega) (by omega) ?_
          have h0 := rcv_inv h
          clear h
          obtain ⟨o135, fs_o135, hr_o135, he_o135, h⟩ := h0
          subst hr_o135
          refine ar_VI (d := 999) (kc' := 0) (ks' := 0) (kc := 4 * k) (ks := 379 * k) (a := o135) (ci := 11) (as := []) (st := []) (tX11_reach h) mt_X11_reach rfl qM_RL_113 qI_X11_reach qV_X11_reach he_o135 rfl (Nat.le_of_ble_eq_true rfl) dL_law_926 ?_
          clear h
          intro x134 F133 h
          refine aw_pc (pc' := 929) rfl ?_
          refine aw_aload_n dL_law_929 rfl rfl (aw_pc (pc' := 930) rfl ?_)
          refine aw_less (kc' := 0 + 4 * k) (ks' := 0 + 379 * k) (by omega) (by omega) ?_
          have h0 := rcv_inv h
          clear h
          obtain ⟨o138, fs_o138, hr_o138, he_o138, h⟩ := h0
          subst hr_o138
          refine ar_VI (d := 999) (kc' := 0) (ks' := 0) (kc := 4 * k) (ks := 379 * k) (a := o138) (ci := 12) (as := []) (st := [vi x134]) (tX12_reach h) mt_X12_reach rfl qM_RL_116 qI_X12_reach qV_X12_reach he_o138 rfl (Nat.le_of_ble_eq_true rfl) dL_law_930 ?_
          clear h
          intro x137 F136 h
          refine aw_pc (pc' := 933) rfl ?_
          refine ac_eq rfl rfl dL_law_933 rfl (fun c => ?_) (fun c => ?_)
          · replace h := h.1 c
            refine aw_less (kc' := 4 * k) (ks' := 379 * k) (by omega) (by omega) ?_
            exact aw_mask [true, true, true, true] (tL_law_J1596 hL (fun a1' a2' a3' F' h' => ih a1' a2' a3' F' h') h)
          · replace h := h.2 c
            refine aw_iconst dL_law_936 (aw_pc (pc' := 937) rfl ?_)
            exact aw_zret rfl (by decide) dL_law_937 ⟨_, rfl, h⟩
        · replace h := h.2.2.2.2.2.2.2.2.2.2.2.2.2.2.2.2.2.2.2.2.2.2.2.2.1 (by omega)
          refine aw_pc (pc' := 938) rfl ?_
          refine aw_aload_n dL_law_938 rfl rfl (aw_pc (pc' := 939) rfl ?_)
          refine aw_aload_n dL_law_939 rfl rfl (aw_pc (pc' := 940) rfl ?_)
          refine aw_iload_n dL_law_940 rfl rfl (aw_pc (pc' := 941) rfl ?_)
          refine aw_iconst dL_law_941 (aw_pc (pc' := 942) rfl ?_)
          refine aw_iadd dL_law_942 (aw_pc (pc' := 943) rfl ?_)
          refine ar_sld hL h.1 dL_law_943 (aw_pc (pc' := 944) rfl ?_)
          replace h := h.2
          refine aw_aload_n dL_law_944 rfl rfl (aw_pc (pc' := 945) rfl ?_)
          refine aw_iload_n dL_law_945 rfl rfl (aw_pc (pc' := 946) rfl ?_)
          refine aw_iconst dL_law_946 (aw_pc (pc' := 947) rfl ?_)
          refine aw_iadd dL_law_947 (aw_pc (pc' := 948) rfl ?_)
          refine ar_sld hL h.1 dL_law_948 (aw_pc (pc' := 949) rfl ?_)
          replace h := h.2
          refine aw_less (kc' := 0 + 4 * k) (ks' := 0 + 379 * k) (by omega) (by omega) ?_
          have h0 := rcv_inv h
          clear h
          obtain ⟨o141, fs_o141, hr_o141, he_o141, h⟩ := h0
          subst hr_o141
          refine ar_VI (d := 999) (kc' := 0) (ks' := 0) (kc := 4 * k) (ks := 379 * k) (a := o141) (ci := 11) (as := [vi (sx xs (a3 + 1)), vi (sx xs (a3 + 2))]) (st := []) (tX11_order h) mt_X11_order rfl qM_RL_117 qI_X11_order qV_X11_order he_o141 rfl (Nat.le_of_ble_eq_true rfl) dL_law_949 ?_
          clear h
          intro x140 F139 h
          refine aw_pc (pc' := 952) rfl ?_
          refine aw_aload_n dL_law_952 rfl rfl (aw_pc (pc' := 953) rfl ?_)
          refine aw_aload_n dL_law_953 rfl rfl (aw_pc (pc' := 954) rfl ?_)
          refine aw_iload_n dL_law_954 rfl rfl (aw_pc (pc' := 955) rfl ?_)
          refine aw_iconst dL_law_955 (aw_pc (pc' := 956) rfl ?_)
          refine aw_iadd dL_law_956 (aw_pc (pc' := 957) rfl ?_)
          refine ar_sld hL h.1 dL_law_957 (aw_pc (pc' := 958) rfl ?_)
          replace h := h.2
          refine aw_aload_n dL_law_958 rfl rfl (aw_pc (pc' := 959) rfl ?_)
          refine aw_iload_n dL_law_959 rfl rfl (aw_pc (pc' := 960) rfl ?_)
          refine aw_iconst dL_law_960 (aw_pc (pc' := 961) rfl ?_)
          refine aw_iadd dL_law_961 (aw_pc (pc' := 962) rfl ?_)
          refine ar_sld hL h.1 dL_law_962 (aw_pc (pc' := 963) rfl ?_)
          replace h := h.2
          refine aw_less (kc' := 0 + 4 * k) (ks' := 0 + 379 * k) (by omega) (by omega) ?_
          have h0 := rcv_inv h
          clear h
          obtain ⟨o144, fs_o144, hr_o144, he_o144, h⟩ := h0
          subst hr_o144
          refine ar_VI (d := 999) (kc' := 0) (ks' := 0) (kc := 4 * k) (ks := 379 * k) (a := o144) (ci := 12) (as := [vi (sx xs (a3 + 1)), vi (sx xs (a3 + 2))]) (st := [vi x140]) (tX12_order h) mt_X12_order rfl qM_RL_120 qI_X12_order qV_X12_order he_o144 rfl (Nat.le_of_ble_eq_true rfl) dL_law_963 ?_
          clear h
          intro x143 F142 h
          refine aw_pc (pc' := 966) rfl ?_
          refine ac_eq rfl rfl dL_law_966 rfl (fun c => ?_) (fun c => ?_)
          · replace h := h.1 c
            refine aw_less (kc' := 4 * k) (ks' := 379 * k) (by omega) (by omega) ?_
            exact aw_mask [true, true, true, true] (tL_law_J1596 hL (fun a1' a2' a3' F' h' => ih a1' a2' a3' F' h') h)
          · replace h := h.2 c
            refine aw_iconst dL_law_969 (aw_pc (pc' := 970) rfl ?_)
            exact aw_zret rfl (by decide) dL_law_970 ⟨_, rfl, h⟩
        · replace h := h.2.2.2.2.2.2.2.2.2.2.2.2.2.2.2.2.2.2.2.2.2.2.2.2.2.1 (by omega)
          refine aw_pc (pc' := 971) rfl ?_
          refine aw_aload_n dL_law_971 rfl rfl (aw_pc (pc' := 972) rfl ?_)
          refine aw_aload_n dL_law_972 rfl rfl (aw_pc (pc' := 973) rfl ?_)
          refine aw_iload_n dL_law_973 rfl rfl (aw_pc (pc' := 974) rfl ?_)
          refine aw_iconst dL_law_974 (aw_pc (pc' := 975) rfl ?_)
          refine aw_iadd dL_law_975 (aw_pc (pc' := 976) rfl ?_)
          refine ar_sld hL h.1 dL_law_976 (aw_pc (pc' := 977) rfl ?_)
          replace h := h.2
          refine aw_less (kc' := 0 + 4 * k) (ks' := 0 + 379 * k) (by omega) (by omega) ?_
          have h0 := rcv_inv h
          clear h
          obtain ⟨o147, fs_o147, hr_o147, he_o147, h⟩ := h0
          subst hr_o147
          refine ar_VL (d := 999) (kc' := 0) (ks' := 0) (kc := 4 * k) (ks := 379 * k) (a := o147) (ci := 11) (as := [vi (sx xs (a3 + 1))]) (st := []) (tX11_rows h) mt_X11_rows rfl qM_RL_121 qI_X11_rows qV_X11_rows he_o147 rfl (Nat.le_of_ble_eq_true rfl) dL_law_977 ?_
          clear h
          intro x146 F145 h
          refine aw_pc (pc' := 980) rfl ?_
          refine aw_aload_n dL_law_980 rfl rfl (aw_pc (pc' := 981) rfl ?_)
          refine aw_aload_n dL_law_981 rfl rfl (aw_pc (pc' := 982) rfl ?_)
          refine aw_iload_n dL_law_982 rfl rfl (aw_pc (pc' := 983) rfl ?_)
          refine aw_iconst dL_law_983 (aw_pc (pc' := 984) rfl ?_)
          refine aw_iadd dL_law_984 (aw_pc (pc' := 985) rfl ?_)
          refine ar_sld hL h.1 dL_law_985 (aw_pc (pc' := 986) rfl ?_)
          replace h := h.2
          refine aw_less (kc' := 0 + 4 * k) (ks' := 0 + 379 * k) (by omega) (by omega) ?_
          have h0 := rcv_inv h
          clear h
          obtain ⟨o150, fs_o150, hr_o150, he_o150, h⟩ := h0
          subst hr_o150
          refine ar_VL (d := 999) (kc' := 0) (ks' := 0) (kc := 4 * k) (ks := 379 * k) (a := o150) (ci := 12) (as := [vi (sx xs (a3 + 1))]) (st := [vl x146]) (tX12_rows h) mt_X12_rows rfl qM_RL_125 qI_X12_rows qV_X12_rows he_o150 rfl (Nat.le_of_ble_eq_true rfl) dL_law_986 ?_
          clear h
          intro x149 F148 h
          refine aw_pc (pc' := 989) rfl ?_
          refine aw_lcmp dL_law_989 (aw_pc (pc' := 990) rfl ?_)
          refine aw_if_eq dL_law_990 rfl (fun c => ?_) (fun c => ?_)
          · replace h := h.1 c
            refine aw_less (kc' := 4 * k) (ks' := 379 * k) (by omega) (by omega) ?_
            exact aw_mask [true, true, true, true] (tL_law_J1596 hL (fun a1' a2' a3' F' h' => ih a1' a2' a3' F' h') h)
          · replace h := h.2 c
            refine aw_iconst dL_law_993 (aw_pc (pc' := 994) rfl ?_)
            exact aw_zret rfl (by decide) dL_law_994 ⟨_, rfl, h⟩
        · replace h := h.2.2.2.2.2.2.2.2.2.2.2.2.2.2.2.2.2.2.2.2.2.2.2.2.2.2.1 (by omega)
          refine aw_pc (pc' := 995) rfl ?_
          refine aw_aload_n dL_law_995 rfl rfl (aw_pc (pc' := 996) rfl ?_)
          refine aw_aload_n dL_law_996 rfl rfl (aw_pc (pc' := 997) rfl ?_)
          refine aw_iload_n dL_law_997 rfl rfl (aw_pc (pc' := 998) rfl ?_)
          refine aw_iconst dL_law_998 (aw_pc (pc' := 999) rfl ?_)
          refine aw_iadd dL_law_999 (aw_pc (pc' := 1000) rfl ?_)
          refine ar_sld hL h.1 dL_law_1000 (aw_pc (pc' := 1001) rfl ?_)
          replace h := h.2
          refine aw_aload_n dL_law_1001 rfl rfl (aw_pc (pc' := 1002) rfl ?_)
          refine aw_iload_n dL_law_1002 rfl rfl (aw_pc (pc' := 1003) rfl ?_)
          refine aw_iconst dL_law_1003 (aw_pc (pc' := 1004) rfl ?_)
          refine aw_iadd dL_law_1004 (aw_pc (pc' := 1005) rfl ?_)
          refine ar_sld hL h.1 dL_law_1005 (aw_pc (pc' := 1006) rfl ?_)
          replace h := h.2
          refine aw_less (kc' := 0 + 4 * k) (ks' := 0 + 379 * k) (by omega) (by omega) ?_
          have h0 := rcv_inv h
          clear h
          obtain ⟨o153, fs_o153, hr_o153, he_o153, h⟩ := h0
          subst hr_o153
          refine ar_VI (d := 999) (kc' := 0) (ks' := 0) (kc := 4 * k) (ks := 379 * k) (a := o153) (ci := 11) (as := [vi (sx xs (a3 + 1)), vi (sx xs (a3 + 2))]) (st := []) (tX11_lowest h) mt_X11_lowest rfl qM_RL_126 qI_X11_lowest qV_X11_lowest he_o153 rfl (Nat.le_of_ble_eq_true rfl) dL_law_1006 ?_
          clear h
          intro x152 F151 h
          refine aw_pc (pc' := 1009) rfl ?_
          refine aw_aload_n dL_law_1009 rfl rfl (aw_pc (pc' := 1010) rfl ?_)
          refine aw_aload_n dL_law_1010 rfl rfl (aw_pc (pc' := 1011) rfl ?_)
          refine aw_iload_n dL_law_1011 rfl rfl (aw_pc (pc' := 1012) rfl ?_)
          refine aw_iconst dL_law_1012 (aw_pc (pc' := 1013) rfl ?_)
          refine aw_iadd dL_law_1013 (aw_pc (pc' := 1014) rfl ?_)
          refine ar_sld hL h.1 dL_law_1014 (aw_pc (pc' := 1015) rfl ?_)
          replace h := h.2
          refine aw_aload_n dL_law_1015 rfl rfl (aw_pc (pc' := 1016) rfl ?_)
          refine aw_iload_n dL_law_1016 rfl rfl (aw_pc (pc' := 1017) rfl ?_)
          refine aw_iconst dL_law_1017 (aw_pc (pc' := 1018) rfl ?_)
          refine aw_iadd dL_law_1018 (aw_pc (pc' := 1019) rfl ?_)
          refine ar_sld hL h.1 dL_law_1019 (aw_pc (pc' := 1020) rfl ?_)
          replace h := h.2
          refine aw_less (kc' := 0 + 4 * k) (ks' := 0 + 379 * k) (by omega) (by omega) ?_
          have h0 := rcv_inv h
          clear h
          obtain ⟨o156, fs_o156, hr_o156, he_o156, h⟩ := h0
          subst hr_o156
          refine ar_VI (d := 999) (kc' := 0) (ks' := 0) (kc := 4 * k) (ks := 379 * k) (a := o156) (ci := 12) (as := [vi (sx xs (a3 + 1)), vi (sx xs (a3 + 2))]) (st := [vi x152]) (tX12_lowest h) mt_X12_lowest rfl qM_RL_129 qI_X12_lowest qV_X12_lowest he_o156 rfl (Nat.le_of_ble_eq_true rfl) dL_law_1020 ?_
          clear h
          intro x155 F154 h
          refine aw_pc (pc' := 1023) rfl ?_
          refine ac_eq rfl rfl dL_law_1023 rfl (fun c => ?_) (fun c => ?_)
          · replace h := h.1 c
            refine aw_less (kc' := 4 * k) (ks' := 379 * k) (by omega) (by omega) ?_
            exact aw_mask [true, true, true, true] (tL_law_J1596 hL (fun a1' a2' a3' F' h' => ih a1' a2' a3' F' h') h)
          · replace h := h.2 c
            refine aw_iconst dL_law_1026 (aw_pc (pc' := 1027) rfl ?_)
            exact aw_zret rfl (by decide) dL_law_1027 ⟨_, rfl, h⟩
        · replace h := h.2.2.2.2.2.2.2.2.2.2.2.2.2.2.2.2.2.2.2.2.2.2.2.2.2.2.2.1 (by omega)
          refine aw_pc (pc' := 1028) rfl ?_
          refine aw_aload_n dL_law_1028 rfl rfl (aw_pc (pc' := 1029) rfl ?_)
          refine aw_aload_n dL_law_1029 rfl rfl (aw_pc (pc' := 1030) rfl ?_)
          refine aw_iload_n dL_law_1030 rfl rfl (aw_pc (pc' := 1031) rfl ?_)
          refine aw_iconst dL_law_1031 (aw_pc (pc' := 1032) rfl ?_)
          refine aw_iadd dL_law_1032 (aw_pc (pc' := 1033) rfl ?_)
          refine ar_sld hL h.1 dL_law_1033 (aw_pc (pc' := 1034) rfl ?_)
          replace h := h.2
          refine aw_if_eq dL_law_1034 rfl (fun c => ?_) (fun c => ?_)
          · replace h := h.1 c
            refine aw_iconst dL_law_1041 (aw_pc (pc' := 1042) rfl ?_)
            refine aw_less (kc' := 4 * k) (ks' := 379 * k) (by omega) (by omega) ?_
            exact aw_mask [true, true, true, true] (tL_law_J1042 hL (fun a1' a2' a3' F' h' => ih a1' a2' a3' F' h') h)
          · replace h := h.2 c
            refine aw_iconst dL_law_1037 (aw_pc (pc' := 1038) rfl ?_)
            refine aw_goto (tgt := 1042) dL_law_1038 rfl ?_
            refine aw_less (kc' := 4 * k) (ks' := 379 * k) (by omega) (by omega) ?_
            exact aw_mask [true, true, true, true] (tL_law_J1042 hL (fun a1' a2' a3' F' h' => ih a1' a2' a3' F' h') h)
        · replace h := h.2.2.2.2.2.2.2.2.2.2.2.2.2.2.2.2.2.2.2.2.2.2.2.2.2.2.2.2.1 (by omega)
          refine aw_pc (pc' := 1067) rfl ?_
          refine aw_aload_n dL_law_1067 rfl rfl (aw_pc (pc' := 1068) rfl ?_)
          refine aw_less (kc' := 0 + 4 * k) (ks' := 0 + 379 * k) (by omega) (by omega) ?_
          have h0 := rcv_inv h
          clear h
          obtain ⟨o159, fs_o159, hr_o159, he_o159, h⟩ := h0
          subst hr_o159
          refine ar_VI (d := 999) (kc' := 0) (ks' := 0) (kc := 4 * k) (ks := 379 * k) (a := o159) (ci := 11) (as := []) (st := []) (tX11_idle h) mt_X11_idle rfl qM_RL_135 qI_X11_idle qV_X11_idle he_o159 rfl (Nat.le_of_ble_eq_true rfl) dL_law_1068 ?_
          clear h
          intro x158 F157 h
          refine aw_pc (pc' := 1071) rfl ?_
          refine aw_aload_n dL_law_1071 rfl rfl (aw_pc (pc' := 1072) rfl ?_)
          refine aw_less (kc' := 0 + 4 * k) (ks' := 0 + 379 * k) (by omega) (by omega) ?_
          have h0 := rcv_inv h
          clear h
          obtain ⟨o162, fs_o162, hr_o162, he_o162, h⟩ := h0
          subst hr_o162
          refine ar_VI (d := 999) (kc' := 0) (ks' := 0) (kc := 4 * k) (ks := 379 * k) (a := o162) (ci := 12) (as := []) (st := [vi x158]) (tX12_idle h) mt_X12_idle rfl qM_RL_138 qI_X12_idle qV_X12_idle he_o162 rfl (Nat.le_of_ble_eq_true rfl) dL_law_1072 ?_
          clear h
          intro x161 F160 h
          refine aw_pc (pc' := 1075) rfl ?_
          refine ac_eq rfl rfl dL_law_1075 rfl (fun c => ?_) (fun c => ?_)
          · replace h := h.1 c
            refine aw_less (kc' := 4 * k) (ks' := 379 * k) (by omega) (by omega) ?_
            exact aw_mask [true, true, true, true] (tL_law_J1596 hL (fun a1' a2' a3' F' h' => ih a1' a2' a3' F' h') h)
          · replace h := h.2 c
            refine aw_iconst dL_law_1078 (aw_pc (pc' := 1079) rfl ?_)
            exact aw_zret rfl (by decide) dL_law_1079 ⟨_, rfl, h⟩
        · replace h := h.2.2.2.2.2.2.2.2.2.2.2.2.2.2.2.2.2.2.2.2.2.2.2.2.2.2.2.2.2.1 (by omega)
          refine aw_pc (pc' := 1080) rfl ?_
          refine aw_aload_n dL_law_1080 rfl rfl (aw_pc (pc' := 1081) rfl ?_)
          refine aw_aload_n dL_law_1081 rfl rfl (aw_pc (pc' := 1082) rfl ?_)
          refine aw_iload_n dL_law_1082 rfl rfl (aw_pc (pc' := 1083) rfl ?_)
          refine aw_iconst dL_law_1083 (aw_pc (pc' := 1084) rfl ?_)
          refine aw_iadd dL_law_1084 (aw_pc (pc' := 1085) rfl ?_)
          refine ar_sld hL h.1 dL_law_1085 (aw_pc (pc' := 1086) rfl ?_)
          replace h := h.2
          refine aw_aload_n dL_law_1086 rfl rfl (aw_pc (pc' := 1087) rfl ?_)
          refine aw_iload_n dL_law_1087 rfl rfl (aw_pc (pc' := 1088) rfl ?_)
          refine aw_iconst dL_law_1088 (aw_pc (pc' := 1089) rfl ?_)
          refine aw_iadd dL_law_1089 (aw_pc (pc' := 1090) rfl ?_)
          refine ar_sld hL h.1 dL_law_1090 (aw_pc (pc' := 1091) rfl ?_)
          replace h := h.2
          refine aw_aload_n dL_law_1091 rfl rfl (aw_pc (pc' := 1092) rfl ?_)
          refine aw_iload_n dL_law_1092 rfl rfl (aw_pc (pc' := 1093) rfl ?_)
          refine aw_iconst dL_law_1093 (aw_pc (pc' := 1094) rfl ?_)
          refine aw_iadd dL_law_1094 (aw_pc (pc' := 1095) rfl ?_)
          refine ar_sld hL h.1 dL_law_1095 (aw_pc (pc' := 1096) rfl ?_)
          replace h := h.2
          refine aw_less (kc' := 0 + 4 * k) (ks' := 0 + 379 * k) (by omega) (by omega) ?_
          have h0 := rcv_inv h
          clear h
          obtain ⟨o165, fs_o165, hr_o165, he_o165, h⟩ := h0
          subst hr_o165
          refine ar_VI (d := 999) (kc' := 0) (ks' := 0) (kc := 4 * k) (ks := 379 * k) (a := o165) (ci := 11) (as := [vi (sx xs (a3 + 1)), vi (sx xs (a3 + 2)), vi (sx xs (a3 + 3))]) (st := []) (tX11_owe h) mt_X11_owe rfl qM_RL_139 qI_X11_owe qV_X11_owe he_o165 rfl (Nat.le_of_ble_eq_true rfl) dL_law_1096 ?_
          clear h
          intro x164 F163 h
          refine aw_pc (pc' := 1099) rfl ?_
          refine aw_aload_n dL_law_1099 rfl rfl (aw_pc (pc' := 1100) rfl ?_)
          refine aw_aload_n dL_law_1100 rfl rfl (aw_pc (pc' := 1101) rfl ?_)
          refine aw_iload_n dL_law_1101 rfl rfl (aw_pc (pc' := 1102) rfl ?_)
          refine aw_iconst dL_law_1102 (aw_pc (pc' := 1103) rfl ?_)
          refine aw_iadd dL_law_1103 (aw_pc (pc' := 1104) rfl ?_)
          refine ar_sld hL h.1 dL_law_1104 (aw_pc (pc' := 1105) rfl ?_)
          replace h := h.2
          refine aw_aload_n dL_law_1105 rfl rfl (aw_pc (pc' := 1106) rfl ?_)
          refine aw_iload_n dL_law_1106 rfl rfl (aw_pc (pc' := 1107) rfl ?_)
          refine aw_iconst dL_law_1107 (aw_pc (pc' := 1108) rfl ?_)
          refine aw_iadd dL_law_1108 (aw_pc (pc' := 1109) rfl ?_)
          refine ar_sld hL h.1 dL_law_1109 (aw_pc (pc' := 1110) rfl ?_)
          replace h := h.2
          refine aw_aload_n dL_law_1110 rfl rfl (aw_pc (pc' := 1111) rfl ?_)
          refine aw_iload_n dL_law_1111 rfl rfl (aw_pc (pc' := 1112) rfl ?_)
          refine aw_iconst dL_law_1112 (aw_pc (pc' := 1113) rfl ?_)
          refine aw_iadd dL_law_1113 (aw_pc (pc' := 1114) rfl ?_)
          refine ar_sld hL h.1 dL_law_1114 (aw_pc (pc' := 1115) rfl ?_)
          replace h := h.2
          refine aw_less (kc' := 0 + 4 * k) (ks' := 0 + 379 * k) (by omega) (by omega) ?_
          have h0 := rcv_inv h
          clear h
          obtain ⟨o168, fs_o168, hr_o168, he_o168, h⟩ := h0
          subst hr_o168
          refine ar_VI (d := 999) (kc' := 0) (ks' := 0) (kc := 4 * k) (ks := 379 * k) (a := o168) (ci := 12) (as := [vi (sx xs (a3 + 1)), vi (sx xs (a3 + 2)), vi (sx xs (a3 + 3))]) (st := [vi x164]) (tX12_owe h) mt_X12_owe rfl qM_RL_142 qI_X12_owe qV_X12_owe he_o168 rfl (Nat.le_of_ble_eq_true rfl) dL_law_1115 ?_
          clear h
          intro x167 F166 h
          refine aw_pc (pc' := 1118) rfl ?_
          refine ac_eq rfl rfl dL_law_1118 rfl (fun c => ?_) (fun c => ?_)
          · replace h := h.1 c
            refine aw_less (kc' := 4 * k) (ks' := 379 * k) (by omega) (by omega) ?_
            exact aw_mask [true, true, true, true] (tL_law_J1596 hL (fun a1' a2' a3' F' h' => ih a1' a2' a3' F' h') h)
          · replace h := h.2 c
            refine aw_iconst dL_law_1121 (aw_pc (pc' := 1122) rfl ?_)
            exact aw_zret rfl (by decide) dL_law_1122 ⟨_, rfl, h⟩
        · replace h := h.2.2.2.2.2.2.2.2.2.2.2.2.2.2.2.2.2.2.2.2.2.2.2.2.2.2.2.2.2.2.1 (by omega)
          refine aw_pc (pc' := 1123) rfl ?_
          refine aw_aload_n dL_law_1123 rfl rfl (aw_pc (pc' := 1124) rfl ?_)
          refine aw_aload_n dL_law_1124 rfl rfl (aw_pc (pc' := 1125) rfl ?_)
          refine aw_iload_n dL_law_1125 rfl rfl (aw_pc (pc' := 1126) rfl ?_)
          refine aw_iconst dL_law_1126 (aw_pc (pc' := 1127) rfl ?_)
          refine aw_iadd dL_law_1127 (aw_pc (pc' := 1128) rfl ?_)
          refine ar_sld hL h.1 dL_law_1128 (aw_pc (pc' := 1129) rfl ?_)
          replace h := h.2
          refine aw_less (kc' := 0 + 4 * k) (ks' := 0 + 379 * k) (by omega) (by omega) ?_
          have h0 := rcv_inv h
          clear h
          obtain ⟨o171, fs_o171, hr_o171, he_o171, h⟩ := h0
          subst hr_o171
          refine ar_VI (d := 999) (kc' := 0) (ks' := 0) (kc := 4 * k) (ks := 379 * k) (a := o171) (ci := 11) (as := [vi (sx xs (a3 + 1))]) (st := []) (tX11_balance h) mt_X11_balance rfl qM_RL_143 qI_X11_balance qV_X11_balance he_o171 rfl (Nat.le_of_ble_eq_true rfl) dL_law_1129 ?_
          clear h
          intro x170 F169 h
          refine aw_pc (pc' := 1132) rfl ?_
          refine aw_aload_n dL_law_1132 rfl rfl (aw_pc (pc' := 1133) rfl ?_)
          refine aw_aload_n dL_law_1133 rfl rfl (aw_pc (pc' := 1134) rfl ?_)
          refine aw_iload_n dL_law_1134 rfl rfl (aw_pc (pc' := 1135) rfl ?_)
          refine aw_iconst dL_law_1135 (aw_pc (pc' := 1136) rfl ?_)
          refine aw_iadd dL_law_1136 (aw_pc (pc' := 1137) rfl ?_)
          refine ar_sld hL h.1 dL_law_1137 (aw_pc (pc' := 1138) rfl ?_)
          replace h := h.2
          refine aw_less (kc' := 0 + 4 * k) (ks' := 0 + 379 * k) (by omega) (by omega) ?_
          have h0 := rcv_inv h
          clear h
          obtain ⟨o174, fs_o174, hr_o174, he_o174, h⟩ := h0
          subst hr_o174
          refine ar_VI (d := 999) (kc' := 0) (ks' := 0) (kc := 4 * k) (ks := 379 * k) (a := o174) (ci := 12) (as := [vi (sx xs (a3 + 1))]) (st := [vi x170]) (tX12_balance h) mt_X12_balance rfl qM_RL_146 qI_X12_balance qV_X12_balance he_o174 rfl (Nat.le_of_ble_eq_true rfl) dL_law_1138 ?_
          clear h
          intro x173 F172 h
          refine aw_pc (pc' := 1141) rfl ?_
          refine ac_eq rfl rfl dL_law_1141 rfl (fun c => ?_) (fun c => ?_)
          · replace h := h.1 c
            refine aw_less (kc' := 4 * k) (ks' := 379 * k) (by omega) (by omega) ?_
            exact aw_mask [true, true, true, true] (tL_law_J1596 hL (fun a1' a2' a3' F' h' => ih a1' a2' a3' F' h') h)
          · replace h := h.2 c
            refine aw_iconst dL_law_1144 (aw_pc (pc' := 1145) rfl ?_)
            exact aw_zret rfl (by decide) dL_law_1145 ⟨_, rfl, h⟩
        · replace h := h.2.2.2.2.2.2.2.2.2.2.2.2.2.2.2.2.2.2.2.2.2.2.2.2.2.2.2.2.2.2.2.1 (by omega)
          refine aw_pc (pc' := 1146) rfl ?_
          refine aw_aload_n dL_law_1146 rfl rfl (aw_pc (pc' := 1147) rfl ?_)
          refine aw_aload_n dL_law_1147 rfl rfl (aw_pc (pc' := 1148) rfl ?_)
          refine aw_iload_n dL_law_1148 rfl rfl (aw_pc (pc' := 1149) rfl ?_)
          refine aw_iconst dL_law_1149 (aw_pc (pc' := 1150) rfl ?_)
          refine aw_iadd dL_law_1150 (aw_pc (pc' := 1151) rfl ?_)
          refine ar_sld hL h.1 dL_law_1151 (aw_pc (pc' := 1152) rfl ?_)
          replace h := h.2
          refine aw_less (kc' := 0 + 4 * k) (ks' := 0 + 379 * k) (by omega) (by omega) ?_
          have h0 := rcv_inv h
          clear h
          obtain ⟨o177, fs_o177, hr_o177, he_o177, h⟩ := h0
          subst hr_o177
          refine ar_VI (d := 999) (kc' := 0) (ks' := 0) (kc := 4 * k) (ks := 379 * k) (a := o177) (ci := 11) (as := [vi (sx xs (a3 + 1))]) (st := []) (tX11_settled h) mt_X11_settled rfl qM_RL_147 qI_X11_settled qV_X11_settled he_o177 rfl (Nat.le_of_ble_eq_true rfl) dL_law_1152 ?_
          clear h
          intro x176 F175 h
          refine aw_pc (pc' := 1155) rfl ?_
          refine aw_aload_n dL_law_1155 rfl rfl (aw_pc (pc' := 1156) rfl ?_)
          refine aw_aload_n dL_law_1156 rfl rfl (aw_pc (pc' := 1157) rfl ?_)
          refine aw_iload_n dL_law_1157 rfl rfl (aw_pc (pc' := 1158) rfl ?_)
          refine aw_iconst dL_law_1158 (aw_pc (pc' := 1159) rfl ?_)
          refine aw_iadd dL_law_1159 (aw_pc (pc' := 1160) rfl ?_)
          refine ar_sld hL h.1 dL_law_1160 (aw_pc (pc' := 1161) rfl ?_)
          replace h := h.2
          refine aw_less (kc' := 0 + 4 * k) (ks' := 0 + 379 * k) (by omega) (by omega) ?_
          have h0 := rcv_inv h
          clear h
          obtain ⟨o180, fs_o180, hr_o180, he_o180, h⟩ := h0
          subst hr_o180
          refine ar_VI (d := 999) (kc' := 0) (ks' := 0) (kc := 4 * k) (ks := 379 * k) (a := o180) (ci := 12) (as := [vi (sx xs (a3 + 1))]) (st := [vi x176]) (tX12_settled h) mt_X12_settled rfl qM_RL_150 qI_X12_settled qV_X12_settled he_o180 rfl (Nat.le_of_ble_eq_true rfl) dL_law_1161 ?_
          clear h
          intro x179 F178 h
          refine aw_pc (pc' := 1164) rfl ?_
          refine ac_eq rfl rfl dL_law_1164 rfl (fun c => ?_) (fun c => ?_)
          · replace h := h.1 c
            refine aw_less (kc' := 4 * k) (ks' := 379 * k) (by omega) (by omega) ?_
            exact aw_mask [true, true, true, true] (tL_law_J1596 hL (fun a1' a2' a3' F' h' => ih a1' a2' a3' F' h') h)
          · replace h := h.2 c
            refine aw_iconst dL_law_1167 (aw_pc (pc' := 1168) rfl ?_)
            exact aw_zret rfl (by decide) dL_law_1168 ⟨_, rfl, h⟩
        · replace h := h.2.2.2.2.2.2.2.2.2.2.2.2.2.2.2.2.2.2.2.2.2.2.2.2.2.2.2.2.2.2.2.2.1 (by omega)
          refine aw_pc (pc' := 1169) rfl ?_
          refine aw_aload_n dL_law_1169 rfl rfl (aw_pc (pc' := 1170) rfl ?_)
          refine aw_aload_n dL_law_1170 rfl rfl (aw_pc (pc' := 1171) rfl ?_)
          refine aw_iload_n dL_law_1171 rfl rfl (aw_pc (pc' := 1172) rfl ?_)
          refine aw_iconst dL_law_1172 (aw_pc (pc' := 1173) rfl ?_)
          refine aw_iadd dL_law_1173 (aw_pc (pc' := 1174) rfl ?_)
          refine ar_sld hL h.1 dL_law_1174 (aw_pc (pc' := 1175) rfl ?_)
          replace h := h.2
          refine aw_less (kc' := 0 + 4 * k) (ks' := 0 + 379 * k) (by omega) (by omega) ?_
          have h0 := rcv_inv h
          clear h
          obtain ⟨o183, fs_o183, hr_o183, he_o183, h⟩ := h0
          subst hr_o183
          refine ar_VI (d := 999) (kc' := 0) (ks' := 0) (kc := 4 * k) (ks := 379 * k) (a := o183) (ci := 11) (as := [vi (sx xs (a3 + 1))]) (st := []) (tX11_group h) mt_X11_group rfl qM_RL_151 qI_X11_group qV_X11_group he_o183 rfl (Nat.le_of_ble_eq_true rfl) dL_law_1175 ?_
          clear h
          intro x182 F181 h
          refine aw_pc (pc' := 1178) rfl ?_
          refine aw_aload_n dL_law_1178 rfl rfl (aw_pc (pc' := 1179) rfl ?_)
          refine aw_aload_n dL_law_1179 rfl rfl (aw_pc (pc' := 1180) rfl ?_)
          refine aw_iload_n dL_law_1180 rfl rfl (aw_pc (pc' := 1181) rfl ?_)
          refine aw_iconst dL_law_1181 (aw_pc (pc' := 1182) rfl ?_)
          refine aw_iadd dL_law_1182 (aw_pc (pc' := 1183) rfl ?_)
          refine ar_sld hL h.1 dL_law_1183 (aw_pc (pc' := 1184) rfl ?_)
          replace h := h.2
          refine aw_less (kc' := 0 + 4 * k) (ks' := 0 + 379 * k) (by omega) (by omega) ?_
          have h0 := rcv_inv h
          clear h
          obtain ⟨o186, fs_o186, hr_o186, he_o186, h⟩ := h0
          subst hr_o186
          refine ar_VI (d := 999) (kc' := 0) (ks' := 0) (kc := 4 * k) (ks := 379 * k) (a := o186) (ci := 12) (as := [vi (sx xs (a3 + 1))]) (st := [vi x182]) (tX12_group h) mt_X12_group rfl qM_RL_154 qI_X12_group qV_X12_group he_o186 rfl (Nat.le_of_ble_eq_true rfl) dL_law_1184 ?_
          clear h
          intro x185 F184 h
          refine aw_pc (pc' := 1187) rfl ?_
          refine ac_eq rfl rfl dL_law_1187 rfl (fun c => ?_) (fun c => ?_)
          · replace h := h.1 c
            refine aw_less (kc' := 4 * k) (ks' := 379 * k) (by omega) (by omega) ?_
            exact aw_mask [true, true, true, true] (tL_law_J1596 hL (fun a1' a2' a3' F' h' => ih a1' a2' a3' F' h') h)
          · replace h := h.2 c
            refine aw_iconst dL_law_1190 (aw_pc (pc' := 1191) rfl ?_)
            exact aw_zret rfl (by decide) dL_law_1191 ⟨_, rfl, h⟩
        · replace h := h.2.2.2.2.2.2.2.2.2.2.2.2.2.2.2.2.2.2.2.2.2.2.2.2.2.2.2.2.2.2.2.2.2.1 (by omega)
          refine aw_pc (pc' := 1192) rfl ?_
          refine aw_aload_n dL_law_1192 rfl rfl (aw_pc (pc' := 1193) rfl ?_)
          refine aw_aload_n dL_law_1193 rfl rfl (aw_pc (pc' := 1194) rfl ?_)
          refine aw_iload_n dL_law_1194 rfl rfl (aw_pc (pc' := 1195) rfl ?_)
          refine aw_iconst dL_law_1195 (aw_pc (pc' := 1196) rfl ?_)
          refine aw_iadd dL_law_1196 (aw_pc (pc' := 1197) rfl ?_)
          refine ar_sld hL h.1 dL_law_1197 (aw_pc (pc' := 1198) rfl ?_)
          replace h := h.2
          refine aw_aload_n dL_law_1198 rfl rfl (aw_pc (pc' := 1199) rfl ?_)
          refine aw_iload_n dL_law_1199 rfl rfl (aw_pc (pc' := 1200) rfl ?_)
          refine aw_iconst dL_law_1200 (aw_pc (pc' := 1201) rfl ?_)
          refine aw_iadd dL_law_1201 (aw_pc (pc' := 1202) rfl ?_)
          refine ar_sld hL h.1 dL_law_1202 (aw_pc (pc' := 1203) rfl ?_)
          replace h := h.2
          refine aw_aload_n dL_law_1203 rfl rfl (aw_pc (pc' := 1204) rfl ?_)
          refine aw_iload_n dL_law_1204 rfl rfl (aw_pc (pc' := 1205) rfl ?_)
          refine aw_iconst dL_law_1205 (aw_pc (pc' := 1206) rfl ?_)
          refine aw_iadd dL_law_1206 (aw_pc (pc' := 1207) rfl ?_)
          refine ar_sld hL h.1 dL_law_1207 (aw_pc (pc' := 1208) rfl ?_)
          replace h := h.2
          refine aw_less (kc' := 0 + 4 * k) (ks' := 0 + 379 * k) (by omega) (by omega) ?_
          have h0 := rcv_inv h
          clear h
          obtain ⟨o189, fs_o189, hr_o189, he_o189, h⟩ := h0
          subst hr_o189
          refine ar_VI (d := 999) (kc' := 0) (ks' := 0) (kc := 4 * k) (ks := 379 * k) (a := o189) (ci := 11) (as := [vi (sx xs (a3 + 1)), vi (sx xs (a3 + 2)), vi (sx xs (a3 + 3))]) (st := []) (tX11_trip h) mt_X11_trip rfl qM_RL_155 qI_X11_trip qV_X11_trip he_o189 rfl (Nat.le_of_ble_eq_true rfl) dL_law_1208 ?_
          clear h
          intro x188 F187 h
          refine aw_pc (pc' := 1211) rfl ?_
          refine aw_aload_n dL_law_1211 rfl rfl (aw_pc (pc' := 1212) rfl ?_)
          refine aw_aload_n dL_law_1212 rfl rfl (aw_pc (pc' := 1213) rfl ?_)
          refine aw_iload_n dL_law_1213 rfl rfl (aw_pc (pc' := 1214) rfl ?_)
          refine aw_iconst dL_law_1214 (aw_pc (pc' := 1215) rfl ?_)
          refine aw_iadd dL_law_1215 (aw_pc (pc' := 1216) rfl ?_)
          refine ar_sld hL h.1 dL_law_1216 (aw_pc (pc' := 1217) rfl ?_)
          replace h := h.2
          refine aw_aload_n dL_law_1217 rfl rfl (aw_pc (pc' := 1218) rfl ?_)
          refine aw_iload_n dL_law_1218 rfl rfl (aw_pc (pc' := 1219) rfl ?_)
          refine aw_iconst dL_law_1219 (aw_pc (pc' := 1220) rfl ?_)
          refine aw_iadd dL_law_1220 (aw_pc (pc' := 1221) rfl ?_)
          refine ar_sld hL h.1 dL_law_1221 (aw_pc (pc' := 1222) rfl ?_)
          replace h := h.2
          refine aw_aload_n dL_law_1222 rfl rfl (aw_pc (pc' := 1223) rfl ?_)
          refine aw_iload_n dL_law_1223 rfl rfl (aw_pc (pc' := 1224) rfl ?_)
          refine aw_iconst dL_law_1224 (aw_pc (pc' := 1225) rfl ?_)
          refine aw_iadd dL_law_1225 (aw_pc (pc' := 1226) rfl ?_)
          refine ar_sld hL h.1 dL_law_1226 (aw_pc (pc' := 1227) rfl ?_)
          replace h := h.2
          refine aw_less (kc' := 0 + 4 * k) (ks' := 0 + 379 * k) (by omega) (by omega) ?_
          have h0 := rcv_inv h
          clear h
          obtain ⟨o192, fs_o192, hr_o192, he_o192, h⟩ := h0
          subst hr_o192
          refine ar_VI (d := 999) (kc' := 0) (ks' := 0) (kc := 4 * k) (ks := 379 * k) (a := o192) (ci := 12) (as := [vi (sx xs (a3 + 1)), vi (sx xs (a3 + 2)), vi (sx xs (a3 + 3))]) (st := [vi x188]) (tX12_trip h) mt_X12_trip rfl qM_RL_159 qI_X12_trip qV_X12_trip he_o192 rfl (Nat.le_of_ble_eq_true rfl) dL_law_1227 ?_
          clear h
          intro x191 F190 h
          refine aw_pc (pc' := 1230) rfl ?_
          refine ac_eq rfl rfl dL_law_1230 rfl (fun c => ?_) (fun c => ?_)
          · replace h := h.1 c
            refine aw_less (kc' := 4 * k) (ks' := 379 * k) (by omega) (by omega) ?_
            exact aw_mask [true, true, true, true] (tL_law_J1596 hL (fun a1' a2' a3' F' h' => ih a1' a2' a3' F' h') h)
          · replace h := h.2 c
            refine aw_iconst dL_law_1233 (aw_pc (pc' := 1234) rfl ?_)
            exact aw_zret rfl (by decide) dL_law_1234 ⟨_, rfl, h⟩
        · replace h := h.2.2.2.2.2.2.2.2.2.2.2.2.2.2.2.2.2.2.2.2.2.2.2.2.2.2.2.2.2.2.2.2.2.2.1 (by omega)
          refine aw_pc (pc' := 1235) rfl ?_
          refine aw_aload_n dL_law_1235 rfl rfl (aw_pc (pc' := 1236) rfl ?_)
          refine aw_aload_n dL_law_1236 rfl rfl (aw_pc (pc' := 1237) rfl ?_)
          refine aw_iload_n dL_law_1237 rfl rfl (aw_pc (pc' := 1238) rfl ?_)
          refine aw_iconst dL_law_1238 (aw_pc (pc' := 1239) rfl ?_)
          refine aw_iadd dL_law_1239 (aw_pc (pc' := 1240) rfl ?_)
          refine ar_sld hL h.1 dL_law_1240 (aw_pc (pc' := 1241) rfl ?_)
          replace h := h.2
          refine aw_if_eq dL_law_1241 rfl (fun c => ?_) (fun c => ?_)
          · replace h := h.1 c
            refine aw_iconst dL_law_1248 (aw_pc (pc' := 1249) rfl ?_)
            refine aw_less (kc' := 4 * k) (ks' := 379 * k) (by omega) (by omega) ?_
            exact aw_mask [true, true, true, true] (tL_law_J1249 hL (fun a1' a2' a3' F' h' => ih a1' a2' a3' F' h') h)
          · replace h := h.2 c
            refine aw_iconst dL_law_1244 (aw_pc (pc' := 1245) rfl ?_)
            refine aw_goto (tgt := 1249) dL_law_1245 rfl ?_
            refine aw_less (kc' := 4 * k) (ks' := 379 * k) (by omega) (by omega) ?_
            exact aw_mask [true, true, true, true] (tL_law_J1249 hL (fun a1' a2' a3' F' h' => ih a1' a2' a3' F' h') h)
        · replace h := h.2.2.2.2.2.2.2.2.2.2.2.2.2.2.2.2.2.2.2.2.2.2.2.2.2.2.2.2.2.2.2.2.2.2.2.1 (by omega)
          refine aw_pc (pc' := 1274) rfl ?_
          refine aw_aload_n dL_law_1274 rfl rfl (aw_pc (pc' := 1275) rfl ?_)
          refine aw_aload_n dL_law_1275 rfl rfl (aw_pc (pc' := 1276) rfl ?_)
          refine aw_iload_n dL_law_1276 rfl rfl (aw_pc (pc' := 1277) rfl ?_)
          refine aw_iconst dL_law_1277 (aw_pc (pc' := 1278) rfl ?_)
          refine aw_iadd dL_law_1278 (aw_pc (pc' := 1279) rfl ?_)
          refine ar_sld hL h.1 dL_law_1279 (aw_pc (pc' := 1280) rfl ?_)
          replace h := h.2
          refine aw_aload_n dL_law_1280 rfl rfl (aw_pc (pc' := 1281) rfl ?_)
          refine aw_iload_n dL_law_1281 rfl rfl (aw_pc (pc' := 1282) rfl ?_)
          refine aw_iconst dL_law_1282 (aw_pc (pc' := 1283) rfl ?_)
          refine aw_iadd dL_law_1283 (aw_pc (pc' := 1284) rfl ?_)
          refine ar_sld hL h.1 dL_law_1284 (aw_pc (pc' := 1285) rfl ?_)
          replace h := h.2
          refine aw_aload_n dL_law_1285 rfl rfl (aw_pc (pc' := 1286) rfl ?_)
          refine aw_iload_n dL_law_1286 rfl rfl (aw_pc (pc' := 1287) rfl ?_)
          refine aw_iconst dL_law_1287 (aw_pc (pc' := 1288) rfl ?_)
          refine aw_iadd dL_law_1288 (aw_pc (pc' := 1289) rfl ?_)
          refine ar_sld hL h.1 dL_law_1289 (aw_pc (pc' := 1290) rfl ?_)
          replace h := h.2
          refine aw_less (kc' := 0 + 4 * k) (ks' := 0 + 379 * k) (by omega) (by omega) ?_
          have h0 := rcv_inv h
          clear h
          obtain ⟨o195, fs_o195, hr_o195, he_o195, h⟩ := h0
          subst hr_o195
          refine ar_VI (d := 999) (kc' := 0) (ks' := 0) (kc := 4 * k) (ks := 379 * k) (a := o195) (ci := 11) (as := [vi (sx xs (a3 + 1)), vi (sx xs (a3 + 2)), vi (sx xs (a3 + 3))]) (st := []) (tX11_seen h) mt_X11_seen rfl qM_RL_164 qI_X11_seen qV_X11_seen he_o195 rfl (Nat.le_of_ble_eq_true rfl) dL_law_1290 ?_
          clear h
          intro x194 F193 h
          refine aw_pc (pc' := 1293) rfl ?_
          refine aw_aload_n dL_law_1293 rfl rfl (aw_pc (pc' := 1294) rfl ?_)
          refine aw_aload_n dL_law_1294 rfl rfl (aw_pc (pc' := 1295) rfl ?_)
          refine aw_iload_n dL_law_1295 rfl rfl (aw_pc (pc' := 1296) rfl ?_)
          refine aw_iconst dL_law_1296 (aw_pc (pc' := 1297) rfl ?_)
          refine aw_iadd dL_law_1297 (aw_pc (pc' := 1298) rfl ?_)
          refine ar_sld hL h.1 dL_law_1298 (aw_pc (pc' := 1299) rfl ?_)
          replace h := h.2
          refine aw_aload_n dL_law_1299 rfl rfl (aw_pc (pc' := 1300) rfl ?_)
          refine aw_iload_n dL_law_1300 rfl rfl (aw_pc (pc' := 1301) rfl ?_)
          refine aw_iconst dL_law_1301 (aw_pc (pc' := 1302) rfl ?_)
          refine aw_iadd dL_law_1302 (aw_pc (pc' := 1303) rfl ?_)
          refine ar_sld hL h.1 dL_law_1303 (aw_pc (pc' := 1304) rfl ?_)
          replace h := h.2
          refine aw_aload_n dL_law_1304 rfl rfl (aw_pc (pc' := 1305) rfl ?_)
          refine aw_iload_n dL_law_1305 rfl rfl (aw_pc (pc' := 1306) rfl ?_)
          refine aw_iconst dL_law_1306 (aw_pc (pc' := 1307) rfl ?_)
          refine aw_iadd dL_law_1307 (aw_pc (pc' := 1308) rfl ?_)
          refine ar_sld hL h.1 dL_law_1308 (aw_pc (pc' := 1309) rfl ?_)
          replace h := h.2
          refine aw_less (kc' := 0 + 4 * k) (ks' := 0 + 379 * k) (by omega) (by omega) ?_
          have h0 := rcv_inv h
          clear h
          obtain ⟨o198, fs_o198, hr_o198, he_o198, h⟩ := h0
          subst hr_o198
          refine ar_VI (d := 999) (kc' := 0) (ks' := 0) (kc := 4 * k) (ks := 379 * k) (a := o198) (ci := 12) (as := [vi (sx xs (a3 + 1)), vi (sx xs (a3 + 2)), vi (sx xs (a3 + 3))]) (st := [vi x194]) (tX12_seen h) mt_X12_seen rfl qM_RL_167 qI_X12_seen qV_X12_seen he_o198 rfl (Nat.le_of_ble_eq_true rfl) dL_law_1309 ?_
          clear h
          intro x197 F196 h
          refine aw_pc (pc' := 1312) rfl ?_
          refine ac_eq rfl rfl dL_law_1312 rfl (fun c => ?_) (fun c => ?_)
          · replace h := h.1 c
            refine aw_less (kc' := 4 * k) (ks' := 379 * k) (by omega) (by omega) ?_
            exact aw_mask [true, true, true, true] (tL_law_J1596 hL (fun a1' a2' a3' F' h' => ih a1' a2' a3' F' h') h)
          · replace h := h.2 c
            refine aw_iconst dL_law_1315 (aw_pc (pc' := 1316) rfl ?_)
            exact aw_zret rfl (by decide) dL_law_1316 ⟨_, rfl, h⟩
        · replace h := h.2.2.2.2.2.2.2.2.2.2.2.2.2.2.2.2.2.2.2.2.2.2.2.2.2.2.2.2.2.2.2.2.2.2.2.2.1 (by omega)
          refine aw_pc (pc' := 1317) rfl ?_
          refine aw_aload_n dL_law_1317 rfl rfl (aw_pc (pc' := 1318) rfl ?_)
          refine aw_aload_n dL_law_1318 rfl rfl (aw_pc (pc' := 1319) rfl ?_)
          refine aw_iload_n dL_law_1319 rfl rfl (aw_pc (pc' := 1320) rfl ?_)
          refine aw_iconst dL_law_1320 (aw_pc (pc' := 1321) rfl ?_)
          refine aw_iadd dL_law_1321 (aw_pc (pc' := 1322) rfl ?_)
          refine ar_sld hL h.1 dL_law_1322 (aw_pc (pc' := 1323) rfl ?_)
          replace h := h.2
          refine aw_if_eq dL_law_1323 rfl (fun c => ?_) (fun c => ?_)
          · replace h := h.1 c
            refine aw_iconst dL_law_1330 (aw_pc (pc' := 1331) rfl ?_)
            refine aw_less (kc' := 4 * k) (ks' := 379 * k) (by omega) (by omega) ?_
            exact aw_mask [true, true, true, true] (tL_law_J1331 hL (fun a1' a2' a3' F' h' => ih a1' a2' a3' F' h') h)
          · replace h := h.2 c
            refine aw_iconst dL_law_1326 (aw_pc (pc' := 1327) rfl ?_)
            refine aw_goto (tgt := 1331) dL_law_1327 rfl ?_
            refine aw_less (kc' := 4 * k) (ks' := 379 * k) (by omega) (by omega) ?_
            exact aw_mask [true, true, true, true] (tL_law_J1331 hL (fun a1' a2' a3' F' h' => ih a1' a2' a3' F' h') h)
        · replace h := h.2.2.2.2.2.2.2.2.2.2.2.2.2.2.2.2.2.2.2.2.2.2.2.2.2.2.2.2.2.2.2.2.2.2.2.2.2.1 (by omega)
          refine aw_pc (pc' := 1356) rfl ?_
          refine aw_aload_n dL_law_1356 rfl rfl (aw_pc (pc' := 1357) rfl ?_)
          refine aw_aload_n dL_law_1357 rfl rfl (aw_pc (pc' := 1358) rfl ?_)
          refine aw_iload_n dL_law_1358 rfl rfl (aw_pc (pc' := 1359) rfl ?_)
          refine aw_iconst dL_law_1359 (aw_pc (pc' := 1360) rfl ?_)
          refine aw_iadd dL_law_1360 (aw_pc (pc' := 1361) rfl ?_)
          refine ar_sld hL h.1 dL_law_1361 (aw_pc (pc' := 1362) rfl ?_)
          replace h := h.2
          refine aw_aload_n dL_law_1362 rfl rfl (aw_pc (pc' := 1363) rfl ?_)
          refine aw_iload_n dL_law_1363 rfl rfl (aw_pc (pc' := 1364) rfl ?_)
          refine aw_iconst dL_law_1364 (aw_pc (pc' := 1365) rfl ?_)
          refine aw_iadd dL_law_1365 (aw_pc (pc' := 1366) rfl ?_)
          refine ar_sld hL h.1 dL_law_1366 (aw_pc (pc' := 1367) rfl ?_)
          replace h := h.2
          refine aw_less (kc' := 0 + 4 * k) (ks' := 0 + 379 * k) (by omega) (by omega) ?_
          have h0 := rcv_inv h
          clear h
          obtain ⟨o201, fs_o201, hr_o201, he_o201, h⟩ := h0
          subst hr_o201
          refine ar_VI (d := 999) (kc' := 0) (ks' := 0) (kc := 4 * k) (ks := 379 * k) (a := o201) (ci := 11) (as := [vi (sx xs (a3 + 1)), vi (sx xs (a3 + 2))]) (st := []) (tX11_late h) mt_X11_late rfl qM_RL_172 qI_X11_late qV_X11_late he_o201 rfl (Nat.le_of_ble_eq_true rfl) dL_law_1367 ?_
          clear h
          intro x200 F199 h
          refine aw_pc (pc' := 1370) rfl ?_
          refine aw_aload_n dL_law_1370 rfl rfl (aw_pc (pc' := 1371) rfl ?_)
          refine aw_aload_n dL_law_1371 rfl rfl (aw_pc (pc' := 1372) rfl ?_)
          refine aw_iload_n dL_law_1372 rfl rfl (aw_pc (pc' := 1373) rfl ?_)
          refine aw_iconst dL_law_1373 (aw_pc (pc' := 1374) rfl ?_)
          refine aw_iadd dL_law_1374 (aw_pc (pc' := 1375) rfl ?_)
          refine ar_sld hL h.1 dL_law_1375 (aw_pc (pc' := 1376) rfl ?_)
          replace h := h.2
          refine aw_aload_n dL_law_1376 rfl rfl (aw_pc (pc' := 1377) rfl ?_)
          refine aw_iload_n dL_law_1377 rfl rfl (aw_pc (pc' := 1378) rfl ?_)
          refine aw_iconst dL_law_1378 (aw_pc (pc' := 1379) rfl ?_)
          refine aw_iadd dL_law_1379 (aw_pc (pc' := 1380) rfl ?_)
          refine ar_sld hL h.1 dL_law_1380 (aw_pc (pc' := 1381) rfl ?_)
          replace h := h.2
          refine aw_less (kc' := 0 + 4 * k) (ks' := 0 + 379 * k) (by omega) (by omega) ?_
          have h0 := rcv_inv h
          clear h
          obtain ⟨o204, fs_o204, hr_o204, he_o204, h⟩ := h0
          subst hr_o204
          refine ar_VI (d := 999) (kc' := 0) (ks' := 0) (kc := 4 * k) (ks := 379 * k) (a := o204) (ci := 12) (as := [vi (sx xs (a3 + 1)), vi (sx xs (a3 + 2))]) (st := [vi x200]) (tX12_late h) mt_X12_late rfl qM_RL_175 qI_X12_late qV_X12_late he_o204 rfl (Nat.le_of_ble_eq_true rfl) dL_law_1381 ?_
          clear h
          intro x203 F202 h
          refine aw_pc (pc' := 1384) rfl ?_
          refine ac_eq rfl rfl dL_law_1384 rfl (fun c => ?_) (fun c => ?_)
          · replace h := h.1 c
            refine aw_less (kc' := 4 * k) (ks' := 379 * k) (by omega) (by omega) ?_
            exact aw_mask [true, true, true, true] (tL_law_J1596 hL (fun a1' a2' a3' F' h' => ih a1' a2' a3' F' h') h)
          · replace h := h.2 c
            refine aw_iconst dL_law_1387 (aw_pc (pc' := 1388) rfl ?_)
            exact aw_zret rfl (by decide) dL_law_1388 ⟨_, rfl, h⟩
        · replace h := h.2.2.2.2.2.2.2.2.2.2.2.2.2.2.2.2.2.2.2.2.2.2.2.2.2.2.2.2.2.2.2.2.2.2.2.2.2.2.1 (by omega)
          refine aw_pc (pc' := 1389) rfl ?_
          refine aw_aload_n dL_law_1389 rfl rfl (aw_pc (pc' := 1390) rfl ?_)
          refine aw_aload_n dL_law_1390 rfl rfl (aw_pc (pc' := 1391) rfl ?_)
          refine aw_iload_n dL_law_1391 rfl rfl (aw_pc (pc' := 1392) rfl ?_)
          refine aw_iconst dL_law_1392 (aw_pc (pc' := 1393) rfl ?_)
          refine aw_iadd dL_law_1393 (aw_pc (pc' := 1394) rfl ?_)
          refine ar_sld hL h.1 dL_law_1394 (aw_pc (pc' := 1395) rfl ?_)
          replace h := h.2
          refine aw_aload_n dL_law_1395 rfl rfl (aw_pc (pc' := 1396) rfl ?_)
          refine aw_iload_n dL_law_1396 rfl rfl (aw_pc (pc' := 1397) rfl ?_)
          refine aw_iconst dL_law_1397 (aw_pc (pc' := 1398) rfl ?_)
          refine aw_iadd dL_law_1398 (aw_pc (pc' := 1399) rfl ?_)
          refine ar_sld hL h.1 dL_law_1399 (aw_pc (pc' := 1400) rfl ?_)
          replace h := h.2
          refine aw_if_eq dL_law_1400 rfl (fun c => ?_) (fun c => ?_)
          · replace h := h.1 c
            refine aw_iconst dL_law_1407 (aw_pc (pc' := 1408) rfl ?_)
            refine aw_less (kc' := 4 * k) (ks' := 379 * k) (by omega) (by omega) ?_
            exact aw_mask [true, true, true, true] (tL_law_J1408 hL (fun a1' a2' a3' F' h' => ih a1' a2' a3' F' h') h)
          · replace h := h.2 c
            refine aw_iconst dL_law_1403 (aw_pc (pc' := 1404) rfl ?_)
            refine aw_goto (tgt := 1408) dL_law_1404 rfl ?_
            refine aw_less (kc' := 4 * k) (ks' := 379 * k) (by omega) (by omega) ?_
            exact aw_mask [true, true, true, true] (tL_law_J1408 hL (fun a1' a2' a3' F' h' => ih a1' a2' a3' F' h') h)
        · replace h := h.2.2.2.2.2.2.2.2.2.2.2.2.2.2.2.2.2.2.2.2.2.2.2.2.2.2.2.2.2.2.2.2.2.2.2.2.2.2.2.1 (by omega)
          refine aw_pc (pc' := 1439) rfl ?_
          refine aw_aload_n dL_law_1439 rfl rfl (aw_pc (pc' := 1440) rfl ?_)
          refine aw_aload_n dL_law_1440 rfl rfl (aw_pc (pc' := 1441) rfl ?_)
          refine aw_iload_n dL_law_1441 rfl rfl (aw_pc (pc' := 1442) rfl ?_)
          refine aw_iconst dL_law_1442 (aw_pc (pc' := 1443) rfl ?_)
          refine aw_iadd dL_law_1443 (aw_pc (pc' := 1444) rfl ?_)
          refine ar_sld hL h.1 dL_law_1444 (aw_pc (pc' := 1445) rfl ?_)
          replace h := h.2
          refine aw_aload_n dL_law_1445 rfl rfl (aw_pc (pc' := 1446) rfl ?_)
          refine aw_iload_n dL_law_1446 rfl rfl (aw_pc (pc' := 1447) rfl ?_)
          refine aw_iconst dL_law_1447 (aw_pc (pc' := 1448) rfl ?_)
          refine aw_iadd dL_law_1448 (aw_pc (pc' := 1449) rfl ?_)
          refine ar_sld hL h.1 dL_law_1449 (aw_pc (pc' := 1450) rfl ?_)
          replace h := h.2
          refine aw_less (kc' := 0 + 4 * k) (ks' := 0 + 379 * k) (by omega) (by omega) ?_
          have h0 := rcv_inv h
          clear h
          obtain ⟨o207, fs_o207, hr_o207, he_o207, h⟩ := h0
          subst hr_o207
          refine ar_VI (d := 999) (kc' := 0) (ks' := 0) (kc := 4 * k) (ks := 379 * k) (a := o207) (ci := 11) (as := [vi (sx xs (a3 + 1)), vi (sx xs (a3 + 2))]) (st := []) (tX11_said h) mt_X11_said rfl qM_RL_181 qI_X11_said qV_X11_said he_o207 rfl (Nat.le_of_ble_eq_true rfl) dL_law_1450 ?_
          clear h
          intro x206 F205 h
          refine aw_pc (pc' := 1453) rfl ?_
          refine aw_aload_n dL_law_1453 rfl rfl (aw_pc (pc' := 1454) rfl ?_)
          refine aw_aload_n dL_law_1454 rfl rfl (aw_pc (pc' := 1455) rfl ?_)
          refine aw_iload_n dL_law_1455 rfl rfl (aw_pc (pc' := 1456) rfl ?_)
          refine aw_iconst dL_law_1456 (aw_pc (pc' := 1457) rfl ?_)
          refine aw_iadd dL_law_1457 (aw_pc (pc' := 1458) rfl ?_)
          refine ar_sld hL h.1 dL_law_1458 (aw_pc (pc' := 1459) rfl ?_)
          replace h := h.2
          refine aw_aload_n dL_law_1459 rfl rfl (aw_pc (pc' := 1460) rfl ?_)
          refine aw_iload_n dL_law_1460 rfl rfl (aw_pc (pc' := 1461) rfl ?_)
          refine aw_iconst dL_law_1461 (aw_pc (pc' := 1462) rfl ?_)
          refine aw_iadd dL_law_1462 (aw_pc (pc' := 1463) rfl ?_)
          refine ar_sld hL h.1 dL_law_1463 (aw_pc (pc' := 1464) rfl ?_)
          replace h := h.2
          refine aw_less (kc' := 0 + 4 * k) (ks' := 0 + 379 * k) (by omega) (by omega) ?_
          have h0 := rcv_inv h
          clear h
          obtain ⟨o210, fs_o210, hr_o210, he_o210, h⟩ := h0
          subst hr_o210
          refine ar_VI (d := 999) (kc' := 0) (ks' := 0) (kc := 4 * k) (ks := 379 * k) (a := o210) (ci := 12) (as := [vi (sx xs (a3 + 1)), vi (sx xs (a3 + 2))]) (st := [vi x206]) (tX12_said h) mt_X12_said rfl qM_RL_184 qI_X12_said qV_X12_said he_o210 rfl (Nat.le_of_ble_eq_true rfl) dL_law_1464 ?_
          clear h
          intro x209 F208 h
          refine aw_pc (pc' := 1467) rfl ?_
          refine ac_eq rfl rfl dL_law_1467 rfl (fun c => ?_) (fun c => ?_)
          · replace h := h.1 c
            refine aw_less (kc' := 4 * k) (ks' := 379 * k) (by omega) (by omega) ?_
            exact aw_mask [true, true, true, true] (tL_law_J1596 hL (fun a1' a2' a3' F' h' => ih a1' a2' a3' F' h') h)
          · replace h := h.2 c
            refine aw_iconst dL_law_1470 (aw_pc (pc' := 1471) rfl ?_)
            exact aw_zret rfl (by decide) dL_law_1471 ⟨_, rfl, h⟩
        · replace h := h.2.2.2.2.2.2.2.2.2.2.2.2.2.2.2.2.2.2.2.2.2.2.2.2.2.2.2.2.2.2.2.2.2.2.2.2.2.2.2.2.1 (by omega)
          refine aw_pc (pc' := 1472) rfl ?_
          refine aw_aload_n dL_law_1472 rfl rfl (aw_pc (pc' := 1473) rfl ?_)
          refine aw_less (kc' := 0 + 4 * k) (ks' := 0 + 379 * k) (by omega) (by omega) ?_
          have h0 := rcv_inv h
          clear h
          obtain ⟨o213, fs_o213, hr_o213, he_o213, h⟩ := h0
          subst hr_o213
          refine ar_VI (d := 999) (kc' := 0) (ks' := 0) (kc := 4 * k) (ks := 379 * k) (a := o213) (ci := 11) (as := []) (st := []) (tX11_whose h) mt_X11_whose rfl qM_RL_185 qI_X11_whose qV_X11_whose he_o213 rfl (Nat.le_of_ble_eq_true rfl) dL_law_1473 ?_
          clear h
          intro x212 F211 h
          refine aw_pc (pc' := 1476) rfl ?_
          refine aw_aload_n dL_law_1476 rfl rfl (aw_pc (pc' := 1477) rfl ?_)
          refine aw_less (kc' := 0 + 4 * k) (ks' := 0 + 379 * k) (by omega) (by omega) ?_
          have h0 := rcv_inv h
          clear h
          obtain ⟨o216, fs_o216, hr_o216, he_o216, h⟩ := h0
          subst hr_o216
          refine ar_VI (d := 999) (kc' := 0) (ks' := 0) (kc := 4 * k) (ks := 379 * k) (a := o216) (ci := 12) (as := []) (st := [vi x212]) (tX12_whose h) mt_X12_whose rfl qM_RL_188 qI_X12_whose qV_X12_whose he_o216 rfl (Nat.le_of_ble_eq_true rfl) dL_law_1477 ?_
          clear h
          intro x215 F214 h
          refine aw_pc (pc' := 1480) rfl ?_
          refine ac_eq rfl rfl dL_law_1480 rfl (fun c => ?_) (fun c => ?_)
          · replace h := h.1 c
            refine aw_less (kc' := 4 * k) (ks' := 379 * k) (by omega) (by omega) ?_
            exact aw_mask [true, true, true, true] (tL_law_J1596 hL (fun a1' a2' a3' F' h' => ih a1' a2' a3' F' h') h)
          · replace h := h.2 c
            refine aw_iconst dL_law_1483 (aw_pc (pc' := 1484) rfl ?_)
            exact aw_zret rfl (by decide) dL_law_1484 ⟨_, rfl, h⟩
        · replace h := h.2.2.2.2.2.2.2.2.2.2.2.2.2.2.2.2.2.2.2.2.2.2.2.2.2.2.2.2.2.2.2.2.2.2.2.2.2.2.2.2.2.1 (by omega)
          refine aw_pc (pc' := 1485) rfl ?_
          refine aw_aload_n dL_law_1485 rfl rfl (aw_pc (pc' := 1486) rfl ?_)
          refine aw_less (kc' := 0 + 4 * k) (ks' := 0 + 379 * k) (by omega) (by omega) ?_
          have h0 := rcv_inv h
          clear h
          obtain ⟨o219, fs_o219, hr_o219, he_o219, h⟩ := h0
          subst hr_o219
          refine ar_VI (d := 999) (kc' := 0) (ks' := 0) (kc := 4 * k) (ks := 379 * k) (a := o219) (ci := 11) (as := []) (st := []) (tX11_heaviest h) mt_X11_heaviest rfl qM_RL_189 qI_X11_heaviest qV_X11_heaviest he_o219 rfl (Nat.le_of_ble_eq_true rfl) dL_law_1486 ?_
          clear h
          intro x218 F217 h
          refine aw_pc (pc' := 1489) rfl ?_
          refine aw_aload_n dL_law_1489 rfl rfl (aw_pc (pc' := 1490) rfl ?_)
          refine aw_less (kc' := 0 + 4 * k) (ks' := 0 + 379 * k) (by omega) (by omega) ?_
          have h0 := rcv_inv h
          clear h
          obtain ⟨o222, fs_o222, hr_o222, he_o222, h⟩ := h0
          subst hr_o222
          refine ar_VI (d := 999) (kc' := 0) (ks' := 0) (kc := 4 * k) (ks := 379 * k) (a := o222) (ci := 12) (as := []) (st := [vi x218]) (tX12_heaviest h) mt_X12_heaviest rfl qM_RL_192 qI_X12_heaviest qV_X12_heaviest he_o222 rfl (Nat.le_of_ble_eq_true rfl) dL_law_1490 ?_
          clear h
          intro x221 F220 h
          refine aw_pc (pc' := 1493) rfl ?_
          refine ac_eq rfl rfl dL_law_1493 rfl (fun c => ?_) (fun c => ?_)
          · replace h := h.1 c
            refine aw_less (kc' := 4 * k) (ks' := 379 * k) (by omega) (by omega) ?_
            exact aw_mask [true, true, true, true] (tL_law_J1596 hL (fun a1' a2' a3' F' h' => ih a1' a2' a3' F' h') h)
          · replace h := h.2 c
            refine aw_iconst dL_law_1496 (aw_pc (pc' := 1497) rfl ?_)
            exact aw_zret rfl (by decide) dL_law_1497 ⟨_, rfl, h⟩
        · replace h := h.2.2.2.2.2.2.2.2.2.2.2.2.2.2.2.2.2.2.2.2.2.2.2.2.2.2.2.2.2.2.2.2.2.2.2.2.2.2.2.2.2.2.1 (by omega)
          refine aw_pc (pc' := 1498) rfl ?_
          refine aw_aload_n dL_law_1498 rfl rfl (aw_pc (pc' := 1499) rfl ?_)
          refine aw_less (kc' := 0 + 4 * k) (ks' := 0 + 379 * k) (by omega) (by omega) ?_
          have h0 := rcv_inv h
          clear h
          obtain ⟨o225, fs_o225, hr_o225, he_o225, h⟩ := h0
          subst hr_o225
          refine ar_VI (d := 999) (kc' := 0) (ks' := 0) (kc := 4 * k) (ks := 379 * k) (a := o225) (ci := 11) (as := []) (st := []) (tX11_worn h) mt_X11_worn rfl qM_RL_193 qI_X11_worn qV_X11_worn he_o225 rfl (Nat.le_of_ble_eq_true rfl) dL_law_1499 ?_
          clear h
          intro x224 F223 h
          refine aw_pc (pc' := 1502) rfl ?_
          refine aw_aload_n dL_law_1502 rfl rfl (aw_pc (pc' := 1503) rfl ?_)
          refine aw_less (kc' := 0 + 4 * k) (ks' := 0 + 379 * k) (by omega) (by omega) ?_
          have h0 := rcv_inv h
          clear h
          obtain ⟨o228, fs_o228, hr_o228, he_o228, h⟩ := h0
          subst hr_o228
          refine ar_VI (d := 999) (kc' := 0) (ks' := 0) (kc := 4 * k) (ks := 379 * k) (a := o228) (ci := 12) (as := []) (st := [vi x224]) (tX12_worn h) mt_X12_worn rfl qM_RL_196 qI_X12_worn qV_X12_worn he_o228 rfl (Nat.le_of_ble_eq_true rfl) dL_law_1503 ?_
          clear h
          intro x227 F226 h
          refine aw_pc (pc' := 1506) rfl ?_
          refine ac_eq rfl rfl dL_law_1506 rfl (fun c => ?_) (fun c => ?_)
          · replace h := h.1 c
            refine aw_less (kc' := 4 * k) (ks' := 379 * k) (by omega) (by omega) ?_
            exact aw_mask [true, true, true, true] (tL_law_J1596 hL (fun a1' a2' a3' F' h' => ih a1' a2' a3' F' h') h)
          · replace h := h.2 c
            refine aw_iconst dL_law_1509 (aw_pc (pc' := 1510) rfl ?_)
            exact aw_zret rfl (by decide) dL_law_1510 ⟨_, rfl, h⟩
        · replace h := h.2.2.2.2.2.2.2.2.2.2.2.2.2.2.2.2.2.2.2.2.2.2.2.2.2.2.2.2.2.2.2.2.2.2.2.2.2.2.2.2.2.2.2.1 (by omega)
          refine aw_pc (pc' := 1511) rfl ?_
          refine aw_aload_n dL_law_1511 rfl rfl (aw_pc (pc' := 1512) rfl ?_)
          refine aw_less (kc' := 0 + 4 * k) (ks' := 0 + 379 * k) (by omega) (by omega) ?_
          have h0 := rcv_inv h
          clear h
          obtain ⟨o231, fs_o231, hr_o231, he_o231, h⟩ := h0
          subst hr_o231
          refine ar_VI (d := 999) (kc' := 0) (ks' := 0) (kc := 4 * k) (ks := 379 * k) (a := o231) (ci := 11) (as := []) (st := []) (tX11_amiss h) mt_X11_amiss rfl qM_RL_197 qI_X11_amiss qV_X11_amiss he_o231 rfl (Nat.le_of_ble_eq_true rfl) dL_law_1512 ?_
          clear h
          intro x230 F229 h
          refine aw_pc (pc' := 1515) rfl ?_
          refine aw_aload_n dL_law_1515 rfl rfl (aw_pc (pc' := 1516) rfl ?_)
          refine aw_less (kc' := 0 + 4 * k) (ks' := 0 + 379 * k) (by omega) (by omega) ?_
          have h0 := rcv_inv h
          clear h
          obtain ⟨o234, fs_o234, hr_o234, he_o234, h⟩ := h0
          subst hr_o234
          refine ar_VI (d := 999) (kc' := 0) (ks' := 0) (kc := 4 * k) (ks := 379 * k) (a := o234) (ci := 12) (as := []) (st := [vi x230]) (tX12_amiss h) mt_X12_amiss rfl qM_RL_200 qI_X12_amiss qV_X12_amiss he_o234 rfl (Nat.le_of_ble_eq_true rfl) dL_law_1516 ?_
          clear h
          intro x233 F232 h
          refine aw_pc (pc' := 1519) rfl ?_
          refine ac_eq rfl rfl dL_law_1519 rfl (fun c => ?_) (fun c => ?_)
          · replace h := h.1 c
            refine aw_less (kc' := 4 * k) (ks' := 379 * k) (by omega) (by omega) ?_
            exact aw_mask [true, true, true, true] (tL_law_J1596 hL (fun a1' a2' a3' F' h' => ih a1' a2' a3' F' h') h)
          · replace h := h.2 c
            refine aw_iconst dL_law_1522 (aw_pc (pc' := 1523) rfl ?_)
            exact aw_zret rfl (by decide) dL_law_1523 ⟨_, rfl, h⟩
        · replace h := h.2.2.2.2.2.2.2.2.2.2.2.2.2.2.2.2.2.2.2.2.2.2.2.2.2.2.2.2.2.2.2.2.2.2.2.2.2.2.2.2.2.2.2.2.1 (by omega)
          refine aw_pc (pc' := 1524) rfl ?_
          refine aw_aload_n dL_law_1524 rfl rfl (aw_pc (pc' := 1525) rfl ?_)
          refine aw_aload_n dL_law_1525 rfl rfl (aw_pc (pc' := 1526) rfl ?_)
          refine aw_iload_n dL_law_1526 rfl rfl (aw_pc (pc' := 1527) rfl ?_)
          refine aw_iconst dL_law_1527 (aw_pc (pc' := 1528) rfl ?_)
          refine aw_iadd dL_law_1528 (aw_pc (pc' := 1529) rfl ?_)
          refine ar_sld hL h.1 dL_law_1529 (aw_pc (pc' := 1530) rfl ?_)
          replace h := h.2
          refine aw_less (kc' := 0 + 4 * k) (ks' := 0 + 379 * k) (by omega) (by omega) ?_
          have h0 := rcv_inv h
          clear h
          obtain ⟨o237, fs_o237, hr_o237, he_o237, h⟩ := h0
          subst hr_o237
          refine ar_VI (d := 999) (kc' := 0) (ks' := 0) (kc := 4 * k) (ks := 379 * k) (a := o237) (ci := 11) (as := [vi (sx xs (a3 + 1))]) (st := []) (tX11_ledger h) mt_X11_ledger rfl qM_RL_201 qI_X11_ledger qV_X11_ledger he_o237 rfl (Nat.le_of_ble_eq_true rfl) dL_law_1530 ?_
          clear h
          intro x236 F235 h
          refine aw_pc (pc' := 1533) rfl ?_
          refine aw_aload_n dL_law_1533 rfl rfl (aw_pc (pc' := 1534) rfl ?_)
          refine aw_aload_n dL_law_1534 rfl rfl (aw_pc (pc' := 1535) rfl ?_)
          refine aw_iload_n dL_law_1535 rfl rfl (aw_pc (pc' := 1536) rfl ?_)
          refine aw_iconst dL_law_1536 (aw_pc (pc' := 1537) rfl ?_)
          refine aw_iadd dL_law_1537 (aw_pc (pc' := 1538) rfl ?_)
          refine ar_sld hL h.1 dL_law_1538 (aw_pc (pc' := 1539) rfl ?_)
          replace h := h.2
          refine aw_less (kc' := 0 + 4 * k) (ks' := 0 + 379 * k) (by omega) (by omega) ?_
          have h0 := rcv_inv h
          clear h
          obtain ⟨o240, fs_o240, hr_o240, he_o240, h⟩ := h0
          subst hr_o240
          refine ar_VI (d := 999) (kc' := 0) (ks' := 0) (kc := 4 * k) (ks := 379 * k) (a := o240) (ci := 12) (as := [vi (sx xs (a3 + 1))]) (st := [vi x236]) (tX12_ledger h) mt_X12_ledger rfl qM_RL_204 qI_X12_ledger qV_X12_ledger he_o240 rfl (Nat.le_of_ble_eq_true rfl) dL_law_1539 ?_
          clear h
          intro x239 F238 h
          refine aw_pc (pc' := 1542) rfl ?_
          refine ac_eq rfl rfl dL_law_1542 rfl (fun c => ?_) (fun c => ?_)
          · replace h := h.1 c
            refine aw_less (kc' := 4 * k) (ks' := 379 * k) (by omega) (by omega) ?_
            exact aw_mask [true, true, true, true] (tL_law_J1596 hL (fun a1' a2' a3' F' h' => ih a1' a2' a3' F' h') h)
          · replace h := h.2 c
            refine aw_iconst dL_law_1545 (aw_pc (pc' := 1546) rfl ?_)
            exact aw_zret rfl (by decide) dL_law_1546 ⟨_, rfl, h⟩
        · replace h := h.2.2.2.2.2.2.2.2.2.2.2.2.2.2.2.2.2.2.2.2.2.2.2.2.2.2.2.2.2.2.2.2.2.2.2.2.2.2.2.2.2.2.2.2.2.1 (by omega)
          refine aw_pc (pc' := 1547) rfl ?_
          refine aw_aload_n dL_law_1547 rfl rfl (aw_pc (pc' := 1548) rfl ?_)
          refine aw_less (kc' := 0 + 4 * k) (ks' := 0 + 379 * k) (by omega) (by omega) ?_
          have h0 := rcv_inv h
          clear h
          obtain ⟨o243, fs_o243, hr_o243, he_o243, h⟩ := h0
          subst hr_o243
          refine ar_VI (d := 999) (kc' := 0) (ks' := 0) (kc := 4 * k) (ks := 379 * k) (a := o243) (ci := 11) (as := []) (st := []) (tX11_image h) mt_X11_image rfl qM_RL_205 qI_X11_image qV_X11_image he_o243 rfl (Nat.le_of_ble_eq_true rfl) dL_law_1548 ?_
          clear h
          intro x242 F241 h
          refine aw_pc (pc' := 1551) rfl ?_
          refine aw_aload_n dL_law_1551 rfl rfl (aw_pc (pc' := 1552) rfl ?_)
          refine aw_less (kc' := 0 + 4 * k) (ks' := 0 + 379 * k) (by omega) (by omega) ?_
          have h0 := rcv_inv h
          clear h
          obtain ⟨o246, fs_o246, hr_o246, he_o246, h⟩ := h0
          subst hr_o246
          refine ar_VI (d := 999) (kc' := 0) (ks' := 0) (kc := 4 * k) (ks := 379 * k) (a := o246) (ci := 12) (as := []) (st := [vi x242]) (tX12_image h) mt_X12_image rfl qM_RL_208 qI_X12_image qV_X12_image he_o246 rfl (Nat.le_of_ble_eq_true rfl) dL_law_1552 ?_
          clear h
          intro x245 F244 h
          refine aw_pc (pc' := 1555) rfl ?_
          refine ac_eq rfl rfl dL_law_1555 rfl (fun c => ?_) (fun c => ?_)
          · replace h := h.1 c
            refine aw_less (kc' := 4 * k) (ks' := 379 * k) (by omega) (by omega) ?_
            exact aw_mask [true, true, true, true] (tL_law_J1596 hL (fun a1' a2' a3' F' h' => ih a1' a2' a3' F' h') h)
          · replace h := h.2 c
            refine aw_iconst dL_law_1558 (aw_pc (pc' := 1559) rfl ?_)
            exact aw_zret rfl (by decide) dL_law_1559 ⟨_, rfl, h⟩
        · replace h := h.2.2.2.2.2.2.2.2.2.2.2.2.2.2.2.2.2.2.2.2.2.2.2.2.2.2.2.2.2.2.2.2.2.2.2.2.2.2.2.2.2.2.2.2.2.2.1 (by omega)
          refine aw_pc (pc' := 1560) rfl ?_
          refine aw_aload_n dL_law_1560 rfl rfl (aw_pc (pc' := 1561) rfl ?_)
          refine aw_less (kc' := 0 + 4 * k) (ks' := 0 + 379 * k) (by omega) (by omega) ?_
          have h0 := rcv_inv h
          clear h
          obtain ⟨o249, fs_o249, hr_o249, he_o249, h⟩ := h0
          subst hr_o249
          refine ar_VI (d := 999) (kc' := 0) (ks' := 0) (kc := 4 * k) (ks := 379 * k) (a := o249) (ci := 11) (as := []) (st := []) (tX11_back h) mt_X11_back rfl qM_RL_209 qI_X11_back qV_X11_back he_o249 rfl (Nat.le_of_ble_eq_true rfl) dL_law_1561 ?_
          clear h
          intro x248 F247 h
          refine aw_pc (pc' := 1564) rfl ?_
          refine aw_aload_n dL_law_1564 rfl rfl (aw_pc (pc' := 1565) rfl ?_)
          refine aw_less (kc' := 0 + 4 * k) (ks' := 0 + 379 * k) (by omega) (by omega) ?_
          have h0 := rcv_inv h
          clear h
          obtain ⟨o252, fs_o252, hr_o252, he_o252, h⟩ := h0
          subst hr_o252
          refine ar_VI (d := 999) (kc' := 0) (ks' := 0) (kc := 4 * k) (ks := 379 * k) (a := o252) (ci := 12) (as := []) (st := [vi x248]) (tX12_back h) mt_X12_back rfl qM_RL_212 qI_X12_back qV_X12_back he_o252 rfl (Nat.le_of_ble_eq_true rfl) dL_law_1565 ?_
          clear h
          intro x251 F250 h
          refine aw_pc (pc' := 1568) rfl ?_
          refine ac_eq rfl rfl dL_law_1568 rfl (fun c => ?_) (fun c => ?_)
          · replace h := h.1 c
            refine aw_less (kc' := 4 * k) (ks' := 379 * k) (by omega) (by omega) ?_
            exact aw_mask [true, true, true, true] (tL_law_J1596 hL (fun a1' a2' a3' F' h' => ih a1' a2' a3' F' h') h)
          · replace h := h.2 c
            refine aw_iconst dL_law_1571 (aw_pc (pc' := 1572) rfl ?_)
            exact aw_zret rfl (by decide) dL_law_1572 ⟨_, rfl, h⟩
        · replace h := h.2.2.2.2.2.2.2.2.2.2.2.2.2.2.2.2.2.2.2.2.2.2.2.2.2.2.2.2.2.2.2.2.2.2.2.2.2.2.2.2.2.2.2.2.2.2.2.1 (by omega)
          refine aw_pc (pc' := 1573) rfl ?_
          refine aw_aload_n dL_law_1573 rfl rfl (aw_pc (pc' := 1574) rfl ?_)
          refine aw_aload_n dL_law_1574 rfl rfl (aw_pc (pc' := 1575) rfl ?_)
          refine aw_iload_n dL_law_1575 rfl rfl (aw_pc (pc' := 1576) rfl ?_)
          refine aw_iconst dL_law_1576 (aw_pc (pc' := 1577) rfl ?_)
          refine aw_iadd dL_law_1577 (aw_pc (pc' := 1578) rfl ?_)
          refine ar_sld hL h.1 dL_law_1578 (aw_pc (pc' := 1579) rfl ?_)
          replace h := h.2
          refine aw_less (kc' := 0 + 4 * k) (ks' := 0 + 379 * k) (by omega) (by omega) ?_
          have h0 := rcv_inv h
          clear h
          obtain ⟨o255, fs_o255, hr_o255, he_o255, h⟩ := h0
          subst hr_o255
          refine ar_VI (d := 999) (kc' := 0) (ks' := 0) (kc := 4 * k) (ks := 379 * k) (a := o255) (ci := 11) (as := [vi (sx xs (a3 + 1))]) (st := []) (tX11_about h) mt_X11_about rfl qM_RL_213 qI_X11_about qV_X11_about he_o255 rfl (Nat.le_of_ble_eq_true rfl) dL_law_1579 ?_
          clear h
          intro x254 F253 h
          refine aw_pc (pc' := 1582) rfl ?_
          refine aw_aload_n dL_law_1582 rfl rfl (aw_pc (pc' := 1583) rfl ?_)
          refine aw_aload_n dL_law_1583 rfl rfl (aw_pc (pc' := 1584) rfl ?_)
          refine aw_iload_n dL_law_1584 rfl rfl (aw_pc (pc' := 1585) rfl ?_)
          refine aw_iconst dL_law_1585 (aw_pc (pc' := 1586) rfl ?_)
          refine aw_iadd dL_law_1586 (aw_pc (pc' := 1587) rfl ?_)
          refine ar_sld hL h.1 dL_law_1587 (aw_pc (pc' := 1588) rfl ?_)
          replace h := h.2
          refine aw_less (kc' := 0 + 4 * k) (ks' := 0 + 379 * k) (by omega) (by omega) ?_
          have h0 := rcv_inv h
          clear h
          obtain ⟨o258, fs_o258, hr_o258, he_o258, h⟩ := h0
          subst hr_o258
          refine ar_VI (d := 999) (kc' := 0) (ks' := 0) (kc := 4 * k) (ks := 379 * k) (a := o258) (ci := 12) (as := [vi (sx xs (a3 + 1))]) (st := [vi x254]) (tX12_about h) mt_X12_about rfl qM_RL_216 qI_X12_about qV_X12_about he_o258 rfl (Nat.le_of_ble_eq_true rfl) dL_law_1588 ?_
          clear h
          intro x257 F256 h
          refine aw_pc (pc' := 1591) rfl ?_
          refine ac_eq rfl rfl dL_law_1591 rfl (fun c => ?_) (fun c => ?_)
          · replace h := h.1 c
            refine aw_less (kc' := 4 * k) (ks' := 379 * k) (by omega) (by omega) ?_
            exact aw_mask [true, true, true, true] (tL_law_J1596 hL (fun a1' a2' a3' F' h' => ih a1' a2' a3' F' h') h)
          · replace h := h.2 c
            refine aw_iconst dL_law_1594 (aw_pc (pc' := 1595) rfl ?_)
            exact aw_zret rfl (by decide) dL_law_1595 ⟨_, rfl, h⟩
      · replace h := h.2.2.2.2.2.2.2.2.2.2.2.2.2.2.2.2.2.2.2.2.2.2.2.2.2.2.2.2.2.2.2.2.2.2.2.2.2.2.2.2.2.2.2.2.2.2.2.2 hx
        refine aw_less (kc' := 4 * k) (ks' := 379 * k) (by omega) (by omega) ?_
        exact aw_mask [true, true, true, true] (tL_law_J1596 hL (fun a1' a2' a3' F' h' => ih a1' a2' a3' F' h') h)
def mL_law (L : Nat) (xs : Nat → Int32) (F : hp) (Q : Int → hp → Prop) : Prop := nwc F (cO 11 [vr none, vr none, vr none, vr none, vr none, vr none, vr none, vr none]) (fun n1 F2 => mX11_init n1 F2 (fun F3 => nwc F3 (cO 12 [vr none, vr none, vr none, vr none, vi 0, vi 0, vi 0, vi 0, vi 0, vi 0, vi 0, vl 0, vi 0, vi 0, vi 0, vr none, vi 0, vi 0, vi 0, vi 0, vr none, vr none, vr none, vi 0, vi 0, vr none, vr none, vr none, vr none, vr none, vr none, vr none, vi 0, vr none, vr none]) (fun n4 F5 => mX12_init n4 F5 (fun F6 => mL_law_L18 L xs Q 65 (some n1) (some n4) 0 F6))))
set_option maxHeartbeats 4000000 in
theorem tL_law {b L : Nat} {xs : Nat → Int32} (hL : L ≤ 384) {F : hp} {Q : Int → hp → Prop} (h : mL_law L xs F Q) : awx (lex b L xs) nL_law 1000 339 57403 0 [some (vr (some 6)), none, none, none] [] F (qI Q) := by
  unfold mL_law at h
  refine ar_new (kc := 338) (ks := 57395) nl_RL_7 8 rfl dL_law_0 h ?_
  clear h
  intro n1 F2 h
  refine aw_pc (pc' := 3) rfl ?_
  refine aw_dup dL_law_3 trivial (aw_pc (pc' := 4) rfl ?_)
  refine ar_IV (kc' := 60) (ks' := 11884) (kc := 278) (ks := 45511) (a := n1) (as := []) (st := [vr (some n1)]) (tX11_init h) mt_X11_init rfl rfl qM_RL_9 qI_X11_init rfl (Nat.le_of_ble_eq_true rfl) dL_law_4 ?_
  clear h
  intro F3 h
  refine aw_pc (pc' := 7) rfl ?_
  refine aw_astore_n dL_law_7 rfl (by decide) (aw_pc (pc' := 8) rfl ?_)
  refine ar_new (kc := 277) (ks := 45476) nl_RL_10 35 rfl dL_law_8 h ?_
  clear h
  intro n4 F5 h
  refine aw_pc (pc' := 11) rfl ?_
  refine aw_dup dL_law_11 trivial (aw_pc (pc' := 12) rfl ?_)
  refine ar_IV (kc' := 17) (ks' := 20841) (kc := 260) (ks := 24635) (a := n4) (as := []) (st := [vr (some n4)]) (tX12_init h) mt_X12_init rfl rfl qM_RL_12 qI_X12_init rfl (Nat.le_of_ble_eq_true rfl) dL_law_12 ?_
  clear h
  intro F6 h
  refine aw_pc (pc' := 15) rfl ?_
  refine aw_astore_n dL_law_15 rfl (by decide) (aw_pc (pc' := 16) rfl ?_)
  refine aw_iconst dL_law_16 (aw_pc (pc' := 17) rfl ?_)
  refine aw_istore_n dL_law_17 rfl (by decide) (aw_pc (pc' := 18) rfl ?_)
  refine aw_less (kc' := 4 * 65) (ks' := 379 * 65) (by omega) (by omega) ?_
  exact aw_mask [true, true, true, true] (tL_law_L18 hL 65 _ _ _ _ h)
