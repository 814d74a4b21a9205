-- ===== the new objects =====
def itl (Q : hp → Prop) (o : Nat) (F54 : hp) : Prop := gR F54 (some o) 12 0 (fun x55 => sI F54 x55 0 8 353 (fun F56 => gR F56 (some o) 12 0 (fun x57 => sI F56 x57 0 2 (-1) (fun F58 => gR F58 (some o) 12 0 (fun x59 => sI F58 x59 0 9 1 (fun F60 => gR F60 (some o) 12 0 (fun x61 => sI F60 x61 0 10 1 (fun F62 => (∃ k63, mX12_init_L196 Q k63 o 0 F62)))))))))
def imx (o : Nat) (F : hp) (P : Nat → hp → Prop) : Prop := nwc F (cA 0 1954 (fun _ => 0)) (fun n1 F2 => pF F2 (some o) 12 0 (vr (some n1)) (fun F3 => nwc F3 (cA 0 1954 (fun _ => 0)) (fun n4 F5 => pF F5 (some o) 12 1 (vr (some n4)) (fun F6 => nwc F6 (cA 0 2724 (fun _ => 0)) (fun n7 F8 => pF F8 (some o) 12 2 (vr (some n7)) (fun F9 => nwc F9 (cA 0 300 (fun _ => 0)) (fun n10 F11 => pF F11 (some o) 12 3 (vr (some n10)) (fun F12 => pF F12 (some o) 12 5 (vi (-1)) (fun F13 => pF F13 (some o) 12 6 (vi (-1)) (fun F14 => nwc F14 (cA 0 160 (fun _ => 0)) (fun n15 F16 => pF F16 (some o) 12 15 (vr (some n15)) (fun F17 => nwc F17 (cA 0 11 (fun _ => 0)) (fun n18 F19 => pF F19 (some o) 12 20 (vr (some n18)) (fun F20 => nwc F20 (cA 3 330 (fun _ => 0)) (fun n21 F22 => pF F22 (some o) 12 21 (vr (some n21)) (fun F23 => nwc F23 (cA 2 330 (fun _ => 0)) (fun n24 F25 => pF F25 (some o) 12 22 (vr (some n24)) (fun F26 => pF F26 (some o) 12 23 (vi 1) (fun F27 => nwc F27 (cA 0 36 (fun _ => 0)) (fun n28 F29 => pF F29 (some o) 12 25 (vr (some n28)) (fun F30 => nwc F30 (cA 0 5 (fun _ => 0)) (fun n31 F32 => pF F32 (some o) 12 26 (vr (some n31)) (fun F33 => nwc F33 (cA 0 5 (fun _ => 0)) (fun n34 F35 => pF F35 (some o) 12 27 (vr (some n34)) (fun F36 => nwc F36 (cA 0 3 (fun _ => 0)) (fun n37 F38 => pF F38 (some o) 12 28 (vr (some n37)) (fun F39 => nwc F39 (cA 0 4320 (fun _ => 0)) (fun n40 F41 => pF F41 (some o) 12 29 (vr (some n40)) (fun F42 => nwc F42 (cA 0 4320 (fun _ => 0)) (fun n43 F44 => pF F44 (some o) 12 30 (vr (some n43)) (fun F45 => nwc F45 (cA 0 4320 (fun _ => 0)) (fun n46 F47 => pF F47 (some o) 12 31 (vr (some n46)) (fun F48 => nwc F48 (cA 0 5 (fun _ => 0)) (fun n49 F50 => pF F50 (some o) 12 33 (vr (some n49)) (fun F51 => nwc F51 (cA 0 64 (fun _ => 0)) (fun n52 F53 => pF F53 (some o) 12 34 (vr (some n52)) (fun F54 => P o F54)))))))))))))))))))))))))))))))))))))
theorem init_e (o : Nat) (F : hp) (Q : hp → Prop) : mX12_init o F Q = imx o F (itl Q) := rfl
theorem nx_0 : nx (fun _ => none) 8 := ⟨by omega, fun h => ⟨fun _ => by omega, fun _ => rfl⟩⟩
theorem nx_s {F : hp} {a : Nat} {c : ac} (h : nx F a) : nx (hs F a c) (a + 1) := by
  obtain ⟨h1, h2⟩ := h
  refine ⟨by omega, fun k => ?_⟩
  by_cases d : k = a
  · subst d; rw [hs_eq]; simp; omega
  · rw [hs_ne d, h2 k]; omega
theorem nx_o {F : hp} {a b : Nat} {c : ac} (h : nx F a) (hb : 8 ≤ b ∧ b < a) : nx (hs F b c) a := by
  obtain ⟨h1, h2⟩ := h
  refine ⟨by omega, fun k => ?_⟩
  by_cases d : k = b
  · subst d; rw [hs_eq]; simp; omega
  · rw [hs_ne d, h2 k]
theorem nx_u {F : hp} {a b : Nat} (h : nx F a) (h2 : nx F b) : b = a := by
  have x1 := (h.2 a).2 (.inr (Nat.le_refl _))
  have x2 := (h2.2 a).1 x1
  have y1 := (h2.2 b).2 (.inr (Nat.le_refl _))
  have y2 := (h.2 b).1 y1
  have := h.1
  have := h2.1
  omega
theorem nwc_h {F : hp} {a : Nat} {c : ac} {K : Nat → hp → Prop} (h : nx F a) (k : nx (hs F a c) (a + 1) → K a (hs F a c)) : nwc F c K := fun b hb => by
  have := nx_u h hb
  subst this
  exact k (nx_s h)
theorem pF_h {F : hp} {n a c k : Nat} {fs : List av} {v : av} {K : hp → Prop} (h : nx F n) (e : F a = some (cO c fs)) (hk : k < fs.length) (ha : 8 ≤ a ∧ a < n) (kk : nx (hs F a (cO c (fs.set k v))) n → K (hs F a (cO c (fs.set k v)))) : pF F (some a) c k v K := (pF_s e hk).2 (kk (nx_o h ha))
theorem sI_h {F : hp} {m a t : Nat} {n i x : Int} {f : Int → Int} {K : hp → Prop} (h : nx F m) (e : F a = some (cA t n f)) (h0 : n ≤ 2147483647) (h1 : 0 ≤ i) (h2 : i < n) (ha : 8 ≤ a ∧ a < m) (kk : nx (hs F a (cA t n (us f i x))) m → K (hs F a (cA t n (us f i x)))) : sI F (some a) t i x K := (sI_s e h0 h1 h2).2 (kk (nx_o h ha))
theorem imx8 : iMax 0 8 = 8 := by decide
theorem imx4 : iMax 0 4 = 4 := by decide
def v0 (h k : Nat) : Int := if (h = 21 ∨ h = 25 ∨ h = 42 ∨ h = 46) ∧ k = 1 then 8 else if (h = 23 ∨ h = 44) ∧ k = 1 then 4 else if (h = 10 ∨ h = 31) ∧ k = 13 then -1 else if h = 49 ∧ (k = 7 ∨ k = 8) then -1 else 0
def y0 : Int → Int := us (us (us (fun _ => 0) 1 353) 2 1) 3 1
def N0 (h : Nat) : Int → Int := if h = 12 ∨ h = 33 ∨ h = 68 then y0 else fun _ => 0
def T0 (_ : Nat) (_ : Int) : Option Nat := none
def u0 (k : Nat) : Int := if k = 5 ∨ k = 6 then -1 else if k = 23 then 1 else 0
def M00 (_ : Nat) : Int → Int := fun _ => 0
theorem conv_h {F H : hp} {P : hp → Prop} (e : F = H) (p : P H) : P F := by rw [e]; exact p
set_option maxHeartbeats 40000000 in
set_option maxRecDepth 100000 in
theorem new_all {P : Nat → Nat → Nat → hp → Prop} (p : P 8 69 69 (kh (rh (fun _ => none) u0 M00) v0 N0 T0)) : nwc (fun _ => none) (cO 11 [vr none, vr none, vr none, vr none, vr none, vr none, vr none, vr none]) (fun n1 F2 => mX11_init n1 F2 (fun F3 => nwc F3 (cO 12 [vr none, vr none, vr none, vr none, vi 0, vi 0, vi 0, vi 0, vi 0, vi 0, vi 0, vl 0, vi 0, vi 0, vi 0, vr none, vi 0, vi 0, vi 0, vi 0, vr none, vr none, vr none, vi 0, vi 0, vr none, vr none, vr none, vr none, vr none, vr none, vr none, vi 0, vr none, vr none]) (fun n4 F5 => imx n4 F5 (fun o F => P n1 n4 o F)))) := by
  have h := nx_0
  refine nwc_h h (fun h => ?_)
  repeat (first
    | (refine nwc_h h (fun h => ?_))
    | (refine pF_h h rfl (by decide) (by decide) (fun h => ?_))
    | (refine (gR_s rfl rfl).2 ?_)
    | (refine (gI_s rfl rfl).2 ?_)
    | (refine sI_h h rfl (by decide) (by decide) (by decide) (by decide) (fun h => ?_))
    | (rw [imx8] at h ⊢)
    | (rw [imx4] at h ⊢)
    | (refine ⟨by decide, ?_⟩))
  refine conv_h (P := P 8 69 69) ?_ p
  have hn := h.2
  clear p
  funext j
  by_cases hj : 8 ≤ j ∧ j ≤ 86
  · obtain rfl | rfl | rfl | rfl | rfl | rfl | rfl | rfl | rfl | rfl | rfl | rfl | rfl | rfl | rfl | rfl | rfl | rfl | rfl | rfl | rfl | rfl | rfl | rfl | rfl | rfl | rfl | rfl | rfl | rfl | rfl | rfl | rfl | rfl | rfl | rfl | rfl | rfl | rfl | rfl | rfl | rfl | rfl | rfl | rfl | rfl | rfl | rfl | rfl | rfl | rfl | rfl | rfl | rfl | rfl | rfl | rfl | rfl | rfl | rfl | rfl | rfl | rfl | rfl | rfl | rfl | rfl | rfl | rfl | rfl | rfl | rfl | rfl | rfl | rfl | rfl | rfl | rfl | rfl : j = 8 ∨ j = 9 ∨ j = 10 ∨ j = 11 ∨ j = 12 ∨ j = 13 ∨ j = 14 ∨ j = 15 ∨ j = 16 ∨ j = 17 ∨ j = 18 ∨ j = 19 ∨ j = 20 ∨ j = 21 ∨ j = 22 ∨ j = 23 ∨ j = 24 ∨ j = 25 ∨ j = 26 ∨ j = 27 ∨ j = 28 ∨ j = 29 ∨ j = 30 ∨ j = 31 ∨ j = 32 ∨ j = 33 ∨ j = 34 ∨ j = 35 ∨ j = 36 ∨ j = 37 ∨ j = 38 ∨ j = 39 ∨ j = 40 ∨ j = 41 ∨ j = 42 ∨ j = 43 ∨ j = 44 ∨ j = 45 ∨ j = 46 ∨ j = 47 ∨ j = 48 ∨ j = 49 ∨ j = 50 ∨ j = 51 ∨ j = 52 ∨ j = 53 ∨ j = 54 ∨ j = 55 ∨ j = 56 ∨ j = 57 ∨ j = 58 ∨ j = 59 ∨ j = 60 ∨ j = 61 ∨ j = 62 ∨ j = 63 ∨ j = 64 ∨ j = 65 ∨ j = 66 ∨ j = 67 ∨ j = 68 ∨ j = 69 ∨ j = 70 ∨ j = 71 ∨ j = 72 ∨ j = 73 ∨ j = 74 ∨ j = 75 ∨ j = 76 ∨ j = 77 ∨ j = 78 ∨ j = 79 ∨ j = 80 ∨ j = 81 ∨ j = 82 ∨ j = 83 ∨ j = 84 ∨ j = 85 ∨ j = 86 := by clear hn h; omega
    all_goals rfl
  · rw [(hn j).2 (by omega), kr_g (by omega)]
