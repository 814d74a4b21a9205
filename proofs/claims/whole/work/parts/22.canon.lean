-- numbers by number, rows by number
def uu (u : Nat → Int) (k : Nat) (x : Int) : Nat → Int := fun j => if j = k then x else u j
def um (M : Nat → Int → Int) (h : Nat) (f : Int → Int) : Nat → Int → Int := fun j => if j = h then f else M j
theorem uu_eq (u : Nat → Int) (k : Nat) (x : Int) : uu u k x k = x := by simp [uu]
theorem uu_ne {u : Nat → Int} {k j : Nat} {x : Int} (h : j ≠ k) : uu u k x j = u j := by simp [uu, h]
theorem uu_uu (u : Nat → Int) (k : Nat) (x y : Int) : uu (uu u k x) k y = uu u k y := by funext j; by_cases h : j = k <;> simp [uu, h]
theorem um_eq (M : Nat → Int → Int) (h : Nat) (f : Int → Int) : um M h f h = f := by simp [um]
theorem um_ne {M : Nat → Int → Int} {h j : Nat} {f : Int → Int} (hj : j ≠ h) : um M h f j = M j := by simp [um, hj]
theorem um_um (M : Nat → Int → Int) (h : Nat) (f g : Int → Int) : um (um M h f) h g = um M h g := by funext j; by_cases hj : j = h <;> simp [um, hj]
-- the reference: one object, seventeen rows
def rfs (u : Nat → Int) : List av := [vr (some 70), vr (some 71), vr (some 72), vr (some 73), vi (u 4), vi (u 5), vi (u 6), vi (u 7), vi (u 8), vi (u 9), vi (u 10), vl (u 11), vi (u 12), vi (u 13), vi (u 14), vr (some 74), vi (u 16), vi (u 17), vi (u 18), vi (u 19), vr (some 75), vr (some 76), vr (some 77), vi (u 23), vi (u 24), vr (some 78), vr (some 79), vr (some 80), vr (some 81), vr (some 82), vr (some 83), vr (some 84), vi (u 32), vr (some 85), vr (some 86)]
def rcell (u : Nat → Int) (M : Nat → Int → Int) (h : Nat) : ac := match h with
  | 69 => cO 12 (rfs u)
  | 70 => cA 0 1954 (M 70)
  | 71 => cA 0 1954 (M 71)
  | 72 => cA 0 2724 (M 72)
  | 73 => cA 0 300 (M 73)
  | 74 => cA 0 160 (M 74)
  | 75 => cA 0 11 (M 75)
  | 76 => cA 3 330 (M 76)
  | 77 => cA 2 330 (M 77)
  | 78 => cA 0 36 (M 78)
  | 79 => cA 0 5 (M 79)
  | 80 => cA 0 5 (M 80)
  | 81 => cA 0 3 (M 81)
  | 82 => cA 0 4320 (M 82)
  | 83 => cA 0 4320 (M 83)
  | 84 => cA 0 4320 (M 84)
  | 85 => cA 0 5 (M 85)
  | 86 => cA 0 64 (M 86)
  | _ => cO 0 []
def rh (F : hp) (u : Nat → Int) (M : Nat → Int → Int) : hp := fun h => if 69 ≤ h ∧ h ≤ 86 then some (rcell u M h) else F h
theorem rh_in {F : hp} {u : Nat → Int} {M : Nat → Int → Int} {h : Nat} (h1 : 69 ≤ h) (h2 : h ≤ 86) : rh F u M h = some (rcell u M h) := by simp [rh, h1, h2]
theorem rh_out {F : hp} {u : Nat → Int} {M : Nat → Int → Int} {h : Nat} (h1 : h < 69 ∨ 86 < h) : rh F u M h = F h := by
  unfold rh
  rw [if_neg (by omega)]
section RH
variable {F : hp} {u : Nat → Int} {M : Nat → Int → Int}
theorem rh_set {h : Nat} {c : ac} {u' : Nat → Int} {M' : Nat → Int → Int} (h1 : 69 ≤ h) (h2 : h ≤ 86) (hc : rcell u' M' h = c) (hr : ∀ j, j ≠ h → rcell u' M' j = rcell u M j) : hs (rh F u M) h c = rh F u' M' := by
  funext j
  by_cases hj : j = h
  · subst hj
    rw [hs_eq, rh_in h1 h2, hc]
  · rw [hs_ne hj]
    unfold rh
    rw [hr j hj]
theorem rcell_u {k : Nat} {x : Int} {j : Nat} (hj : j ≠ 69) : rcell (uu u k x) M j = rcell u M j := by
  unfold rcell
  split <;> first | rfl | exact absurd rfl hj
theorem rcell_m {h : Nat} {f : Int → Int} {j : Nat} (hj : j ≠ h) : rcell u (um M h f) j = rcell u M j := by
  unfold rcell
  split <;> first | rfl | rw [um_ne (by assumption)] | (rw [um_ne (by omega)])
theorem rh_rcv {K : Nat → Prop} : rcv (rh F u M) (some 69) 12 K ↔ K 69 := rcv_s (fs := rfs u) (by rw [rh_in (by decide) (by decide)]; rfl)
theorem rh_g0 {K : Option Nat → Prop} : gR (rh F u M) (some 69) 12 0 K ↔ K (some 70) := gR_s (fs := rfs u) (by rw [rh_in (by decide) (by decide)]; rfl) rfl
theorem rh_g1 {K : Option Nat → Prop} : gR (rh F u M) (some 69) 12 1 K ↔ K (some 71) := gR_s (fs := rfs u) (by rw [rh_in (by decide) (by decide)]; rfl) rfl
theorem rh_g2 {K : Option Nat → Prop} : gR (rh F u M) (some 69) 12 2 K ↔ K (some 72) := gR_s (fs := rfs u) (by rw [rh_in (by decide) (by decide)]; rfl) rfl
theorem rh_g3 {K : Option Nat → Prop} : gR (rh F u M) (some 69) 12 3 K ↔ K (some 73) := gR_s (fs := rfs u) (by rw [rh_in (by decide) (by decide)]; rfl) rfl
theorem rh_g4 {K : Int → Prop} : gI (rh F u M) (some 69) 12 4 K ↔ K (u 4) := gI_s (fs := rfs u) (by rw [rh_in (by decide) (by decide)]; rfl) rfl
theorem rh_p4 {x : Int} {K : hp → Prop} : pF (rh F u M) (some 69) 12 4 (vi x) K ↔ K (rh F (uu u 4 x) M) := by
  rw [pF_s (fs := rfs u) (by rw [rh_in (by decide) (by decide)]; rfl) (by simp [rfs]), rh_set (u' := uu u 4 x) (M' := M) (by decide) (by decide) (by rfl) (fun j hj => rcell_u hj)]
theorem rh_g5 {K : Int → Prop} : gI (rh F u M) (some 69) 12 5 K ↔ K (u 5) := gI_s (fs := rfs u) (by rw [rh_in (by decide) (by decide)]; rfl) rfl
theorem rh_p5 {x : Int} {K : hp → Prop} : pF (rh F u M) (some 69) 12 5 (vi x) K ↔ K (rh F (uu u 5 x) M) := by
  rw [pF_s (fs := rfs u) (by rw [rh_in (by decide) (by decide)]; rfl) (by simp [rfs]), rh_set (u' := uu u 5 x) (M' := M) (by decide) (by decide) (by rfl) (fun j hj => rcell_u hj)]
theorem rh_g6 {K : Int → Prop} : gI (rh F u M) (some 69) 12 6 K ↔ K (u 6) := gI_s (fs := rfs u) (by rw [rh_in (by decide) (by decide)]; rfl) rfl
theorem rh_p6 {x : Int} {K : hp → Prop} : pF (rh F u M) (some 69) 12 6 (vi x) K ↔ K (rh F (uu u 6 x) M) := by
  rw [pF_s (fs := rfs u) (by rw [rh_in (by decide) (by decide)]; rfl) (by simp [rfs]), rh_set (u' := uu u 6 x) (M' := M) (by decide) (by decide) (by rfl) (fun j hj => rcell_u hj)]
theorem rh_g7 {K : Int → Prop} : gI (rh F u M) (some 69) 12 7 K ↔ K (u 7) := gI_s (fs := rfs u) (by rw [rh_in (by decide) (by decide)]; rfl) rfl
theorem rh_p7 {x : Int} {K : hp → Prop} : pF (rh F u M) (some 69) 12 7 (vi x) K ↔ K (rh F (uu u 7 x) M) := by
  rw [pF_s (fs := rfs u) (by rw [rh_in (by decide) (by decide)]; rfl) (by simp [rfs]), rh_set (u' := uu u 7 x) (M' := M) (by decide) (by decide) (by rfl) (fun j hj => rcell_u hj)]
theorem rh_g8 {K : Int → Prop} : gI (rh F u M) (some 69) 12 8 K ↔ K (u 8) := gI_s (fs := rfs u) (by rw [rh_in (by decide) (by decide)]; rfl) rfl
theorem rh_p8 {x : Int} {K : hp → Prop} : pF (rh F u M) (some 69) 12 8 (vi x) K ↔ K (rh F (uu u 8 x) M) := by
  rw [pF_s (fs := rfs u) (by rw [rh_in (by decide) (by decide)]; rfl) (by simp [rfs]), rh_set (u' := uu u 8 x) (M' := M) (by decide) (by decide) (by rfl) (fun j hj => rcell_u hj)]
theorem rh_g9 {K : Int → Prop} : gI (rh F u M) (some 69) 12 9 K ↔ K (u 9) := gI_s (fs := rfs u) (by rw [rh_in (by decide) (by decide)]; rfl) rfl
theorem rh_p9 {x : Int} {K : hp → Prop} : pF (rh F u M) (some 69) 12 9 (vi x) K ↔ K (rh F (uu u 9 x) M) := by
  rw [pF_s (fs := rfs u) (by rw [rh_in (by decide) (by decide)]; rfl) (by simp [rfs]), rh_set (u' := uu u 9 x) (M' := M) (by decide) (by decide) (by rfl) (fun j hj => rcell_u hj)]
theorem rh_g10 {K : Int → Prop} : gI (rh F u M) (some 69) 12 10 K ↔ K (u 10) := gI_s (fs := rfs u) (by rw [rh_in (by decide) (by decide)]; rfl) rfl
theorem rh_p10 {x : Int} {K : hp → Prop} : pF (rh F u M) (some 69) 12 10 (vi x) K ↔ K (rh F (uu u 10 x) M) := by
  rw [pF_s (fs := rfs u) (by rw [rh_in (by decide) (by decide)]; rfl) (by simp [rfs]), rh_set (u' := uu u 10 x) (M' := M) (by decide) (by decide) (by rfl) (fun j hj => rcell_u hj)]
theorem rh_g11 {K : Int → Prop} : gL (rh F u M) (some 69) 12 11 K ↔ K (u 11) := gL_s (fs := rfs u) (by rw [rh_in (by decide) (by decide)]; rfl) rfl
theorem rh_p11 {x : Int} {K : hp → Prop} : pF (rh F u M) (some 69) 12 11 (vl x) K ↔ K (rh F (uu u 11 x) M) := by
  rw [pF_s (fs := rfs u) (by rw [rh_in (by decide) (by decide)]; rfl) (by simp [rfs]), rh_set (u' := uu u 11 x) (M' := M) (by decide) (by decide) (by rfl) (fun j hj => rcell_u hj)]
theorem rh_g12 {K : Int → Prop} : gI (rh F u M) (some 69) 12 12 K ↔ K (u 12) := gI_s (fs := rfs u) (by rw [rh_in (by decide) (by decide)]; rfl) rfl
theorem rh_p12 {x : Int} {K : hp → Prop} : pF (rh F u M) (some 69) 12 12 (vi x) K ↔ K (rh F (uu u 12 x) M) := by
  rw [pF_s (fs := rfs u) (by rw [rh_in (by decide) (by decide)]; rfl) (by simp [rfs]), rh_set (u' := uu u 12 x) (M' := M) (by decide) (by decide) (by rfl) (fun j hj => rcell_u hj)]
theorem rh_g13 {K : Int → Prop} : gI (rh F u M) (some 69) 12 13 K ↔ K (u 13) := gI_s (fs := rfs u) (by rw [rh_in (by decide) (by decide)]; rfl) rfl
theorem rh_p13 {x : Int} {K : hp → Prop} : pF (rh F u M) (some 69) 12 13 (vi x) K ↔ K (rh F (uu u 13 x) M) := by
  rw [pF_s (fs := rfs u) (by rw [rh_in (by decide) (by decide)]; rfl) (by simp [rfs]), rh_set (u' := uu u 13 x) (M' := M) (by decide) (by decide) (by rfl) (fun j hj => rcell_u hj)]
theorem rh_g14 {K : Int → Prop} : gI (rh F u M) (some 69) 12 14 K ↔ K (u 14) := gI_s (fs := rfs u) (by rw [rh_in (by decide) (by decide)]; rfl) rfl
theorem rh_p14 {x : Int} {K : hp → Prop} : pF (rh F u M) (some 69) 12 14 (vi x) K ↔ K (rh F (uu u 14 x) M) := by
  rw [pF_s (fs := rfs u) (by rw [rh_in (by decide) (by decide)]; rfl) (by simp [rfs]), rh_set (u' := uu u 14 x) (M' := M) (by decide) (by decide) (by rfl) (fun j hj => rcell_u hj)]
theorem rh_g15 {K : Option Nat → Prop} : gR (rh F u M) (some 69) 12 15 K ↔ K (some 74) := gR_s (fs := rfs u) (by rw [rh_in (by decide) (by decide)]; rfl) rfl
theorem rh_g16 {K : Int → Prop} : gI (rh F u M) (some 69) 12 16 K ↔ K (u 16) := gI_s (fs := rfs u) (by rw [rh_in (by decide) (by decide)]; rfl) rfl
theorem rh_p16 {x : Int} {K : hp → Prop} : pF (rh F u M) (some 69) 12 16 (vi x) K ↔ K (rh F (uu u 16 x) M) := by
  rw [pF_s (fs := rfs u) (by rw [rh_in (by decide) (by decide)]; rfl) (by simp [rfs]), rh_set (u' := uu u 16 x) (M' := M) (by decide) (by decide) (by rfl) (fun j hj => rcell_u hj)]
theorem rh_g17 {K : Int → Prop} : gI (rh F u M) (some 69) 12 17 K ↔ K (u 17) := gI_s (fs := rfs u) (by rw [rh_in (by decide) (by decide)]; rfl) rfl
theorem rh_p17 {x : Int} {K : hp → Prop} : pF (rh F u M) (some 69) 12 17 (vi x) K ↔ K (rh F (uu u 17 x) M) := by
  rw [pF_s (fs := rfs u) (by rw [rh_in (by decide) (by decide)]; rfl) (by simp [rfs]), rh_set (u' := uu u 17 x) (M' := M) (by decide) (by decide) (by rfl) (fun j hj => rcell_u hj)]
theorem rh_g18 {K : Int → Prop} : gI (rh F u M) (some 69) 12 18 K ↔ K (u 18) := gI_s (fs := rfs u) (by rw [rh_in (by decide) (by decide)]; rfl) rfl
theorem rh_p18 {x : Int} {K : hp → Prop} : pF (rh F u M) (some 69) 12 18 (vi x) K ↔ K (rh F (uu u 18 x) M) := by
  rw [pF_s (fs := rfs u) (by rw [rh_in (by decide) (by decide)]; rfl) (by simp [rfs]), rh_set (u' := uu u 18 x) (M' := M) (by decide) (by decide) (by rfl) (fun j hj => rcell_u hj)]
theorem rh_g19 {K : Int → Prop} : gI (rh F u M) (some 69) 12 19 K ↔ K (u 19) := gI_s (fs := rfs u) (by rw [rh_in (by decide) (by decide)]; rfl) rfl
theorem rh_p19 {x : Int} {K : hp → Prop} : pF (rh F u M) (some 69) 12 19 (vi x) K ↔ K (rh F (uu u 19 x) M) := by
  rw [pF_s (fs := rfs u) (by rw [rh_in (by decide) (by decide)]; rfl) (by simp [rfs]), rh_set (u' := uu u 19 x) (M' := M) (by decide) (by decide) (by rfl) (fun j hj => rcell_u hj)]
theorem rh_g20 {K : Option Nat → Prop} : gR (rh F u M) (some 69) 12 20 K ↔ K (some 75) := gR_s (fs := rfs u) (by rw [rh_in (by decide) (by decide)]; rfl) rfl
theorem rh_g21 {K : Option Nat → Prop} : gR (rh F u M) (some 69) 12 21 K ↔ K (some 76) := gR_s (fs := rfs u) (by rw [rh_in (by decide) (by decide)]; rfl) rfl
theorem rh_g22 {K : Option Nat → Prop} : gR (rh F u M) (some 69) 12 22 K ↔ K (some 77) := gR_s (fs := rfs u) (by rw [rh_in (by decide) (by decide)]; rfl) rfl
theorem rh_g23 {K : Int → Prop} : gI (rh F u M) (some 69) 12 23 K ↔ K (u 23) := gI_s (fs := rfs u) (by rw [rh_in (by decide) (by decide)]; rfl) rfl
theorem rh_p23 {x : Int} {K : hp → Prop} : pF (rh F u M) (some 69) 12 23 (vi x) K ↔ K (rh F (uu u 23 x) M) := by
  rw [pF_s (fs := rfs u) (by rw [rh_in (by decide) (by decide)]; rfl) (by simp [rfs]), rh_set (u' := uu u 23 x) (M' := M) (by decide) (by decide) (by rfl) (fun j hj => rcell_u hj)]
theorem rh_g24 {K : Int → Prop} : gI (rh F u M) (some 69) 12 24 K ↔ K (u 24) := gI_s (fs := rfs u) (by rw [rh_in (by decide) (by decide)]; rfl) rfl
theorem rh_p24 {x : Int} {K : hp → Prop} : pF (rh F u M) (some 69) 12 24 (vi x) K ↔ K (rh F (uu u 24 x) M) := by
  rw [pF_s (fs := rfs u) (by rw [rh_in (by decide) (by decide)]; rfl) (by simp [rfs]), rh_set (u' := uu u 24 x) (M' := M) (by decide) (by decide) (by rfl) (fun j hj => rcell_u hj)]
theorem rh_g25 {K : Option Nat → Prop} : gR (rh F u M) (some 69) 12 25 K ↔ K (some 78) := gR_s (fs := rfs u) (by rw [rh_in (by decide) (by decide)]; rfl) rfl
theorem rh_g26 {K : Option Nat → Prop} : gR (rh F u M) (some 69) 12 26 K ↔ K (some 79) := gR_s (fs := rfs u) (by rw [rh_in (by decide) (by decide)]; rfl) rfl
theorem rh_g27 {K : Option Nat → Prop} : gR (rh F u M) (some 69) 12 27 K ↔ K (some 80) := gR_s (fs := rfs u) (by rw [rh_in (by decide) (by decide)]; rfl) rfl
theorem rh_g28 {K : Option Nat → Prop} : gR (rh F u M) (some 69) 12 28 K ↔ K (some 81) := gR_s (fs := rfs u) (by rw [rh_in (by decide) (by decide)]; rfl) rfl
theorem rh_g29 {K : Option Nat → Prop} : gR (rh F u M) (some 69) 12 29 K ↔ K (some 82) := gR_s (fs := rfs u) (by rw [rh_in (by decide) (by decide)]; rfl) rfl
theorem rh_g30 {K : Option Nat → Prop} : gR (rh F u M) (some 69) 12 30 K ↔ K (some 83) := gR_s (fs := rfs u) (by rw [rh_in (by decide) (by decide)]; rfl) rfl
theorem rh_g31 {K : Option Nat → Prop} : gR (rh F u M) (some 69) 12 31 K ↔ K (some 84) := gR_s (fs := rfs u) (by rw [rh_in (by decide) (by decide)]; rfl) rfl
theorem rh_g32 {K : Int → Prop} : gI (rh F u M) (some 69) 12 32 K ↔ K (u 32) := gI_s (fs := rfs u) (by rw [rh_in (by decide) (by decide)]; rfl) rfl
theorem rh_p32 {x : Int} {K : hp → Prop} : pF (rh F u M) (some 69) 12 32 (vi x) K ↔ K (rh F (uu u 32 x) M) := by
  rw [pF_s (fs := rfs u) (by rw [rh_in (by decide) (by decide)]; rfl) (by simp [rfs]), rh_set (u' := uu u 32 x) (M' := M) (by decide) (by decide) (by rfl) (fun j hj => rcell_u hj)]
theorem rh_g33 {K : Option Nat → Prop} : gR (rh F u M) (some 69) 12 33 K ↔ K (some 85) := gR_s (fs := rfs u) (by rw [rh_in (by decide) (by decide)]; rfl) rfl
theorem rh_g34 {K : Option Nat → Prop} : gR (rh F u M) (some 69) 12 34 K ↔ K (some 86) := gR_s (fs := rfs u) (by rw [rh_in (by decide) (by decide)]; rfl) rfl
theorem rh_r70 {i : Int} {K : Int → Prop} (h0 : 0 ≤ i) (h1 : i < 1954) : aI (rh F u M) (some 70) 0 i K ↔ K (M 70 i) := aI_s (n := 1954) (by rw [rh_in (by decide) (by decide)]; rfl) (by decide) h0 h1
theorem rh_w70 {i x : Int} {K : hp → Prop} (h0 : 0 ≤ i) (h1 : i < 1954) : sI (rh F u M) (some 70) 0 i x K ↔ K (rh F u (um M 70 (us (M 70) i x))) := by
  rw [sI_s (n := 1954) (f := M 70) (by rw [rh_in (by decide) (by decide)]; rfl) (by decide) h0 h1, rh_set (u' := u) (M' := um M 70 (us (M 70) i x)) (by decide) (by decide) (by rfl) (fun j hj => rcell_m hj)]
theorem rh_r71 {i : Int} {K : Int → Prop} (h0 : 0 ≤ i) (h1 : i < 1954) : aI (rh F u M) (some 71) 0 i K ↔ K (M 71 i) := aI_s (n := 1954) (by rw [rh_in (by decide) (by decide)]; rfl) (by decide) h0 h1
theorem rh_w71 {i x : Int} {K : hp → Prop} (h0 : 0 ≤ i) (h1 : i < 1954) : sI (rh F u M) (some 71) 0 i x K ↔ K (rh F u (um M 71 (us (M 71) i x))) := by
  rw [sI_s (n := 1954) (f := M 71) (by rw [rh_in (by decide) (by decide)]; rfl) (by decide) h0 h1, rh_set (u' := u) (M' := um M 71 (us (M 71) i x)) (by decide) (by decide) (by rfl) (fun j hj => rcell_m hj)]
theorem rh_r72 {i : Int} {K : Int → Prop} (h0 : 0 ≤ i) (h1 : i < 2724) : aI (rh F u M) (some 72) 0 i K ↔ K (M 72 i) := aI_s (n := 2724) (by rw [rh_in (by decide) (by decide)]; rfl) (by decide) h0 h1
theorem rh_w72 {i x : Int} {K : hp → Prop} (h0 : 0 ≤ i) (h1 : i < 2724) : sI (rh F u M) (some 72) 0 i x K ↔ K (rh F u (um M 72 (us (M 72) i x))) := by
  rw [sI_s (n := 2724) (f := M 72) (by rw [rh_in (by decide) (by decide)]; rfl) (by decide) h0 h1, rh_set (u' := u) (M' := um M 72 (us (M 72) i x)) (by decide) (by decide) (by rfl) (fun j hj => rcell_m hj)]
theorem rh_r73 {i : Int} {K : Int → Prop} (h0 : 0 ≤ i) (h1 : i < 300) : aI (rh F u M) (some 73) 0 i K ↔ K (M 73 i) := aI_s (n := 300) (by rw [rh_in (by decide) (by decide)]; rfl) (by decide) h0 h1
theorem rh_w73 {i x : Int} {K : hp → Prop} (h0 : 0 ≤ i) (h1 : i < 300) : sI (rh F u M) (some 73) 0 i x K ↔ K (rh F u (um M 73 (us (M 73) i x))) := by
  rw [sI_s (n := 300) (f := M 73) (by rw [rh_in (by decide) (by decide)]; rfl) (by decide) h0 h1, rh_set (u' := u) (M' := um M 73 (us (M 73) i x)) (by decide) (by decide) (by rfl) (fun j hj => rcell_m hj)]
theorem rh_r74 {i : Int} {K : Int → Prop} (h0 : 0 ≤ i) (h1 : i < 160) : aI (rh F u M) (some 74) 0 i K ↔ K (M 74 i) := aI_s (n := 160) (by rw [rh_in (by decide) (by decide)]; rfl) (by decide) h0 h1
theorem rh_w74 {i x : Int} {K : hp → Prop} (h0 : 0 ≤ i) (h1 : i < 160) : sI (rh F u M) (some 74) 0 i x K ↔ K (rh F u (um M 74 (us (M 74) i x))) := by
  rw [sI_s (n := 160) (f := M 74) (by rw [rh_in (by decide) (by decide)]; rfl) (by decide) h0 h1, rh_set (u' := u) (M' := um M 74 (us (M 74) i x)) (by decide) (by decide) (by rfl) (fun j hj => rcell_m hj)]
theorem rh_r75 {i : Int} {K : Int → Prop} (h0 : 0 ≤ i) (h1 : i < 11) : aI (rh F u M) (some 75) 0 i K ↔ K (M 75 i) := aI_s (n := 11) (by rw [rh_in (by decide) (by decide)]; rfl) (by decide) h0 h1
theorem rh_w75 {i x : Int} {K : hp → Prop} (h0 : 0 ≤ i) (h1 : i < 11) : sI (rh F u M) (some 75) 0 i x K ↔ K (rh F u (um M 75 (us (M 75) i x))) := by
  rw [sI_s (n := 11) (f := M 75) (by rw [rh_in (by decide) (by decide)]; rfl) (by decide) h0 h1, rh_set (u' := u) (M' := um M 75 (us (M 75) i x)) (by decide) (by decide) (by rfl) (fun j hj => rcell_m hj)]
theorem rh_r76 {i : Int} {K : Int → Prop} (h0 : 0 ≤ i) (h1 : i < 330) : aI (rh F u M) (some 76) 3 i K ↔ K (M 76 i) := aI_s (n := 330) (by rw [rh_in (by decide) (by decide)]; rfl) (by decide) h0 h1
theorem rh_w76 {i x : Int} {K : hp → Prop} (h0 : 0 ≤ i) (h1 : i < 330) : sI (rh F u M) (some 76) 3 i x K ↔ K (rh F u (um M 76 (us (M 76) i x))) := by
  rw [sI_s (n := 330) (f := M 76) (by rw [rh_in (by decide) (by decide)]; rfl) (by decide) h0 h1, rh_set (u' := u) (M' := um M 76 (us (M 76) i x)) (by decide) (by decide) (by rfl) (fun j hj => rcell_m hj)]
theorem rh_r77 {i : Int} {K : Int → Prop} (h0 : 0 ≤ i) (h1 : i < 330) : aI (rh F u M) (some 77) 2 i K ↔ K (M 77 i) := aI_s (n := 330) (by rw [rh_in (by decide) (by decide)]; rfl) (by decide) h0 h1
theorem rh_w77 {i x : Int} {K : hp → Prop} (h0 : 0 ≤ i) (h1 : i < 330) : sI (rh F u M) (some 77) 2 i x K ↔ K (rh F u (um M 77 (us (M 77) i x))) := by
  rw [sI_s (n := 330) (f := M 77) (by rw [rh_in (by decide) (by decide)]; rfl) (by decide) h0 h1, rh_set (u' := u) (M' := um M 77 (us (M 77) i x)) (by decide) (by decide) (by rfl) (fun j hj => rcell_m hj)]
theorem rh_r78 {i : Int} {K : Int → Prop} (h0 : 0 ≤ i) (h1 : i < 36) : aI (rh F u M) (some 78) 0 i K ↔ K (M 78 i) := aI_s (n := 36) (by rw [rh_in (by decide) (by decide)]; rfl) (by decide) h0 h1
theorem rh_w78 {i x : Int} {K : hp → Prop} (h0 : 0 ≤ i) (h1 : i < 36) : sI (rh F u M) (some 78) 0 i x K ↔ K (rh F u (um M 78 (us (M 78) i x))) := by
  rw [sI_s (n := 36) (f := M 78) (by rw [rh_in (by decide) (by decide)]; rfl) (by decide) h0 h1, rh_set (u' := u) (M' := um M 78 (us (M 78) i x)) (by decide) (by decide) (by rfl) (fun j hj => rcell_m hj)]
theorem rh_r79 {i : Int} {K : Int → Prop} (h0 : 0 ≤ i) (h1 : i < 5) : aI (rh F u M) (some 79) 0 i K ↔ K (M 79 i) := aI_s (n := 5) (by rw [rh_in (by decide) (by decide)]; rfl) (by decide) h0 h1
theorem rh_w79 {i x : Int} {K : hp → Prop} (h0 : 0 ≤ i) (h1 : i < 5) : sI (rh F u M) (some 79) 0 i x K ↔ K (rh F u (um M 79 (us (M 79) i x))) := by
  rw [sI_s (n := 5) (f := M 79) (by rw [rh_in (by decide) (by decide)]; rfl) (by decide) h0 h1, rh_set (u' := u) (M' := um M 79 (us (M 79) i x)) (by decide) (by decide) (by rfl) (fun j hj => rcell_m hj)]
theorem rh_r80 {i : Int} {K : Int → Prop} (h0 : 0 ≤ i) (h1 : i < 5) : aI (rh F u M) (some 80) 0 i K ↔ K (M 80 i) := aI_s (n := 5) (by rw [rh_in (by decide) (by decide)]; rfl) (by decide) h0 h1
theorem rh_w80 {i x : Int} {K : hp → Prop} (h0 : 0 ≤ i) (h1 : i < 5) : sI (rh F u M) (some 80) 0 i x K ↔ K (rh F u (um M 80 (us (M 80) i x))) := by
  rw [sI_s (n := 5) (f := M 80) (by rw [rh_in (by decide) (by decide)]; rfl) (by decide) h0 h1, rh_set (u' := u) (M' := um M 80 (us (M 80) i x)) (by decide) (by decide) (by rfl) (fun j hj => rcell_m hj)]
theorem rh_r81 {i : Int} {K : Int → Prop} (h0 : 0 ≤ i) (h1 : i < 3) : aI (rh F u M) (some 81) 0 i K ↔ K (M 81 i) := aI_s (n := 3) (by rw [rh_in (by decide) (by decide)]; rfl) (by decide) h0 h1
theorem rh_w81 {i x : Int} {K : hp → Prop} (h0 : 0 ≤ i) (h1 : i < 3) : sI (rh F u M) (some 81) 0 i x K ↔ K (rh F u (um M 81 (us (M 81) i x))) := by
  rw [sI_s (n := 3) (f := M 81) (by rw [rh_in (by decide) (by decide)]; rfl) (by decide) h0 h1, rh_set (u' := u) (M' := um M 81 (us (M 81) i x)) (by decide) (by decide) (by rfl) (fun j hj => rcell_m hj)]
theorem rh_r82 {i : Int} {K : Int → Prop} (h0 : 0 ≤ i) (h1 : i < 4320) : aI (rh F u M) (some 82) 0 i K ↔ K (M 82 i) := aI_s (n := 4320) (by rw [rh_in (by decide) (by decide)]; rfl) (by decide) h0 h1
theorem rh_w82 {i x : Int} {K : hp → Prop} (h0 : 0 ≤ i) (h1 : i < 4320) : sI (rh F u M) (some 82) 0 i x K ↔ K (rh F u (um M 82 (us (M 82) i x))) := by
  rw [sI_s (n := 4320) (f := M 82) (by rw [rh_in (by decide) (by decide)]; rfl) (by decide) h0 h1, rh_set (u' := u) (M' := um M 82 (us (M 82) i x)) (by decide) (by decide) (by rfl) (fun j hj => rcell_m hj)]
theorem rh_r83 {i : Int} {K : Int → Prop} (h0 : 0 ≤ i) (h1 : i < 4320) : aI (rh F u M) (some 83) 0 i K ↔ K (M 83 i) := aI_s (n := 4320) (by rw [rh_in (by decide) (by decide)]; rfl) (by decide) h0 h1
theorem rh_w83 {i x : Int} {K : hp → Prop} (h0 : 0 ≤ i) (h1 : i < 4320) : sI (rh F u M) (some 83) 0 i x K ↔ K (rh F u (um M 83 (us (M 83) i x))) := by
  rw [sI_s (n := 4320) (f := M 83) (by rw [rh_in (by decide) (by decide)]; rfl) (by decide) h0 h1, rh_set (u' := u) (M' := um M 83 (us (M 83) i x)) (by decide) (by decide) (by rfl) (fun j hj => rcell_m hj)]
theorem rh_r84 {i : Int} {K : Int → Prop} (h0 : 0 ≤ i) (h1 : i < 4320) : aI (rh F u M) (some 84) 0 i K ↔ K (M 84 i) := aI_s (n := 4320) (by rw [rh_in (by decide) (by decide)]; rfl) (by decide) h0 h1
theorem rh_w84 {i x : Int} {K : hp → Prop} (h0 : 0 ≤ i) (h1 : i < 4320) : sI (rh F u M) (some 84) 0 i x K ↔ K (rh F u (um M 84 (us (M 84) i x))) := by
  rw [sI_s (n := 4320) (f := M 84) (by rw [rh_in (by decide) (by decide)]; rfl) (by decide) h0 h1, rh_set (u' := u) (M' := um M 84 (us (M 84) i x)) (by decide) (by decide) (by rfl) (fun j hj => rcell_m hj)]
theorem rh_r85 {i : Int} {K : Int → Prop} (h0 : 0 ≤ i) (h1 : i < 5) : aI (rh F u M) (some 85) 0 i K ↔ K (M 85 i) := aI_s (n := 5) (by rw [rh_in (by decide) (by decide)]; rfl) (by decide) h0 h1
theorem rh_w85 {i x : Int} {K : hp → Prop} (h0 : 0 ≤ i) (h1 : i < 5) : sI (rh F u M) (some 85) 0 i x K ↔ K (rh F u (um M 85 (us (M 85) i x))) := by
  rw [sI_s (n := 5) (f := M 85) (by rw [rh_in (by decide) (by decide)]; rfl) (by decide) h0 h1, rh_set (u' := u) (M' := um M 85 (us (M 85) i x)) (by decide) (by decide) (by rfl) (fun j hj => rcell_m hj)]
theorem rh_r86 {i : Int} {K : Int → Prop} (h0 : 0 ≤ i) (h1 : i < 64) : aI (rh F u M) (some 86) 0 i K ↔ K (M 86 i) := aI_s (n := 64) (by rw [rh_in (by decide) (by decide)]; rfl) (by decide) h0 h1
theorem rh_w86 {i x : Int} {K : hp → Prop} (h0 : 0 ≤ i) (h1 : i < 64) : sI (rh F u M) (some 86) 0 i x K ↔ K (rh F u (um M 86 (us (M 86) i x))) := by
  rw [sI_s (n := 64) (f := M 86) (by rw [rh_in (by decide) (by decide)]; rfl) (by decide) h0 h1, rh_set (u' := u) (M' := um M 86 (us (M 86) i x)) (by decide) (by decide) (by rfl) (fun j hj => rcell_m hj)]
end RH
-- the class: sixty-one cells; v: the numbers in its objects, N its rows, T its rows of TEXTs
def vv (v : Nat → Nat → Int) (h k : Nat) (x : Int) : Nat → Nat → Int := fun j => if j = h then uu (v h) k x else v j
def ut (T : Nat → Int → Option Nat) (h : Nat) (f : Int → Option Nat) : Nat → Int → Option Nat := fun j => if j = h then f else T j
theorem vv_eq (v : Nat → Nat → Int) (h k : Nat) (x : Int) : vv v h k x h = uu (v h) k x := by simp [vv]
theorem vv_ne {v : Nat → Nat → Int} {h k j : Nat} {x : Int} (hj : j ≠ h) : vv v h k x j = v j := by simp [vv, hj]
theorem ut_eq (T : Nat → Int → Option Nat) (h : Nat) (f : Int → Option Nat) : ut T h f h = f := by simp [ut]
theorem ut_ne {T : Nat → Int → Option Nat} {h j : Nat} {f : Int → Option Nat} (hj : j ≠ h) : ut T h f j = T j := by simp [ut, hj]
def kcell (v : Nat → Nat → Int) (N : Nat → Int → Int) (T : Nat → Int → Option Nat) (h : Nat) : ac := match h with
  | 8 => cO 11 [vr (some 10), vr (some 31), vr (some 9), vr (some 49), vr (some 56), vr (some 62), vr (some 64), vr (some 67)]
  | 9 => cO 9 [vr (some 10), vr (some 28)]
  | 10 => cO 5 [vr (some 11), vr (some 13), vr (some 15), vr (some 16), vr (some 17), vr (some 18), vr (some 19), vr (some 20), vr (some 21), vr (some 23), vr (some 25), vr (some 27), vi (v 10 12), vi (v 10 13), vi (v 10 14), vi (v 10 15)]
  | 11 => cO 10 [vr (some 12)]
  | 12 => cA 0 60 (N 12)
  | 13 => cO 6 [vr (some 14), vi (v 13 1), vi (v 13 2)]
  | 14 => cA 0 1800 (N 14)
  | 15 => cA 0 5 (N 15)
  | 16 => cA 0 5 (N 16)
  | 17 => cA 0 5 (N 17)
  | 18 => cA 0 5 (N 18)
  | 19 => cA 0 5 (N 19)
  | 20 => cA 0 6 (N 20)
  | 21 => cO 7 [vr (some 22), vi (v 21 1), vi (v 21 2)]
  | 22 => cA 0 24 (N 22)
  | 23 => cO 7 [vr (some 24), vi (v 23 1), vi (v 23 2)]
  | 24 => cA 0 12 (N 24)
  | 25 => cO 7 [vr (some 26), vi (v 25 1), vi (v 25 2)]
  | 26 => cA 0 24 (N 26)
  | 27 => cT 4 (T 27)
  | 28 => cO 3 [vr (some 29), vr (some 30), vi (v 28 2)]
  | 29 => cA 0 14 (N 29)
  | 30 => cA 0 300 (N 30)
  | 31 => cO 5 [vr (some 32), vr (some 34), vr (some 36), vr (some 37), vr (some 38), vr (some 39), vr (some 40), vr (some 41), vr (some 42), vr (some 44), vr (some 46), vr (some 48), vi (v 31 12), vi (v 31 13), vi (v 31 14), vi (v 31 15)]
  | 32 => cO 10 [vr (some 33)]
  | 33 => cA 0 60 (N 33)
  | 34 => cO 6 [vr (some 35), vi (v 34 1), vi (v 34 2)]
  | 35 => cA 0 1800 (N 35)
  | 36 => cA 0 5 (N 36)
  | 37 => cA 0 5 (N 37)
  | 38 => cA 0 5 (N 38)
  | 39 => cA 0 5 (N 39)
  | 40 => cA 0 5 (N 40)
  | 41 => cA 0 6 (N 41)
  | 42 => cO 7 [vr (some 43), vi (v 42 1), vi (v 42 2)]
  | 43 => cA 0 24 (N 43)
  | 44 => cO 7 [vr (some 45), vi (v 44 1), vi (v 44 2)]
  | 45 => cA 0 12 (N 45)
  | 46 => cO 7 [vr (some 47), vi (v 46 1), vi (v 46 2)]
  | 47 => cA 0 24 (N 47)
  | 48 => cT 4 (T 48)
  | 49 => cO 2 [vr (some 50), vr (some 51), vr (some 52), vr (some 53), vr (some 54), vr (some 55), vi (v 49 6), vi (v 49 7), vi (v 49 8), vi (v 49 9), vi (v 49 10), vi (v 49 11), vi (v 49 12), vi (v 49 13), vi (v 49 14)]
  | 50 => cA 1 300 (N 50)
  | 51 => cA 0 301 (N 51)
  | 52 => cA 0 301 (N 52)
  | 53 => cA 0 300 (N 53)
  | 54 => cA 0 72 (N 54)
  | 55 => cA 0 4 (N 55)
  | 56 => cO 4 [vr (some 57), vr (some 58), vr (some 59), vr (some 60), vr (some 61), vi (v 56 5), vi (v 56 6), vi (v 56 7)]
  | 57 => cA 0 2520 (N 57)
  | 58 => cA 0 2520 (N 58)
  | 59 => cA 0 1024 (N 59)
  | 60 => cA 0 8 (N 60)
  | 61 => cA 0 3 (N 61)
  | 62 => cO 1 [vr (some 63)]
  | 63 => cA 0 5 (N 63)
  | 64 => cO 0 [vr (some 65), vr (some 66)]
  | 65 => cA 0 64 (N 65)
  | 66 => cA 0 64 (N 66)
  | 67 => cO 10 [vr (some 68)]
  | 68 => cA 0 60 (N 68)
  | _ => cO 0 []
def kh (F : hp) (v : Nat → Nat → Int) (N : Nat → Int → Int) (T : Nat → Int → Option Nat) : hp := fun h => if 8 ≤ h ∧ h ≤ 68 then some (kcell v N T h) else F h
section KH
variable {F : hp} {v : Nat → Nat → Int} {N : Nat → Int → Int} {T : Nat → Int → Option Nat}
theorem kh_in {h : Nat} (h1 : 8 ≤ h) (h2 : h ≤ 68) : kh F v N T h = some (kcell v N T h) := by simp [kh, h1, h2]
theorem kh_out {h : Nat} (h1 : h < 8 ∨ 68 < h) : kh F v N T h = F h := by
  unfold kh
  rw [if_neg (by omega)]
theorem kh_set {h : Nat} {c : ac} {v' : Nat → Nat → Int} {N' : Nat → Int → Int} {T' : Nat → Int → Option Nat} (h1 : 8 ≤ h) (h2 : h ≤ 68) (hc : kcell v' N' T' h = c) (hr : ∀ j, j ≠ h → kcell v' N' T' j = kcell v N T j) : hs (kh F v N T) h c = kh F v' N' T' := by
  funext j
  by_cases hj : j = h
  · subst hj
    rw [hs_eq, kh_in h1 h2, hc]
  · rw [hs_ne hj]
    unfold kh
    rw [hr j hj]
set_option maxHeartbeats 4000000 in
theorem kcell_v {h k : Nat} {x : Int} {j : Nat} (hj : j ≠ h) : kcell (vv v h k x) N T j = kcell v N T j := by
  have e : vv v h k x j = v j := vv_ne hj
  unfold kcell
  split <;> first | rfl | simp only [e]
set_option maxHeartbeats 4000000 in
theorem kcell_n {h : Nat} {f : Int → Int} {j : Nat} (hj : j ≠ h) : kcell v (um N h f) T j = kcell v N T j := by
  have e : um N h f j = N j := um_ne hj
  unfold kcell
  split <;> first | rfl | simp only [e]
set_option maxHeartbeats 4000000 in
theorem kcell_t {h : Nat} {f : Int → Option Nat} {j : Nat} (hj : j ≠ h) : kcell v N (ut T h f) j = kcell v N T j := by
  have e : ut T h f j = T j := ut_ne hj
  unfold kcell
  split <;> first | rfl | simp only [e]
theorem kh_c8 {K : Nat → Prop} : rcv (kh F v N T) (some 8) 11 K ↔ K 8 := rcv_s (by rw [kh_in (by decide) (by decide)]; rfl)
theorem kh_g8_0 {K : Option Nat → Prop} : gR (kh F v N T) (some 8) 11 0 K ↔ K (some 10) := gR_s (by rw [kh_in (by decide) (by decide)]; rfl) rfl
theorem kh_g8_1 {K : Option Nat → Prop} : gR (kh F v N T) (some 8) 11 1 K ↔ K (some 31) := gR_s (by rw [kh_in (by decide) (by decide)]; rfl) rfl
theorem kh_g8_2 {K : Option Nat → Prop} : gR (kh F v N T) (some 8) 11 2 K ↔ K (some 9) := gR_s (by rw [kh_in (by decide) (by decide)]; rfl) rfl
theorem kh_g8_3 {K : Option Nat → Prop} : gR (kh F v N T) (some 8) 11 3 K ↔ K (some 49) := gR_s (by rw [kh_in (by decide) (by decide)]; rfl) rfl
theorem kh_g8_4 {K : Option Nat → Prop} : gR (kh F v N T) (some 8) 11 4 K ↔ K (some 56) := gR_s (by rw [kh_in (by decide) (by decide)]; rfl) rfl
theorem kh_g8_5 {K : Option Nat → Prop} : gR (kh F v N T) (some 8) 11 5 K ↔ K (some 62) := gR_s (by rw [kh_in (by decide) (by decide)]; rfl) rfl
theorem kh_g8_6 {K : Option Nat → Prop} : gR (kh F v N T) (some 8) 11 6 K ↔ K (some 64) := gR_s (by rw [kh_in (by decide) (by decide)]; rfl) rfl
theorem kh_g8_7 {K : Option Nat → Prop} : gR (kh F v N T) (some 8) 11 7 K ↔ K (some 67) := gR_s (by rw [kh_in (by decide) (by decide)]; rfl) rfl
theorem kh_c9 {K : Nat → Prop} : rcv (kh F v N T) (some 9) 9 K ↔ K 9 := rcv_s (by rw [kh_in (by decide) (by decide)]; rfl)
theorem kh_g9_0 {K : Option Nat → Prop} : gR (kh F v N T) (some 9) 9 0 K ↔ K (some 10) := gR_s (by rw [kh_in (by decide) (by decide)]; rfl) rfl
theorem kh_g9_1 {K : Option Nat → Prop} : gR (kh F v N T) (some 9) 9 1 K ↔ K (some 28) := gR_s (by rw [kh_in (by decide) (by decide)]; rfl) rfl
theorem kh_c10 {K : Nat → Prop} : rcv (kh F v N T) (some 10) 5 K ↔ K 10 := rcv_s (by rw [kh_in (by decide) (by decide)]; rfl)
theorem kh_g10_0 {K : Option Nat → Prop} : gR (kh F v N T) (some 10) 5 0 K ↔ K (some 11) := gR_s (by rw [kh_in (by decide) (by decide)]; rfl) rfl
theorem kh_g10_1 {K : Option Nat → Prop} : gR (kh F v N T) (some 10) 5 1 K ↔ K (some 13) := gR_s (by rw [kh_in (by decide) (by decide)]; rfl) rfl
theorem kh_g10_2 {K : Option Nat → Prop} : gR (kh F v N T) (some 10) 5 2 K ↔ K (some 15) := gR_s (by rw [kh_in (by decide) (by decide)]; rfl) rfl
theorem kh_g10_3 {K : Option Nat → Prop} : gR (kh F v N T) (some 10) 5 3 K ↔ K (some 16) := gR_s (by rw [kh_in (by decide) (by decide)]; rfl) rfl
theorem kh_g10_4 {K : Option Nat → Prop} : gR (kh F v N T) (some 10) 5 4 K ↔ K (some 17) := gR_s (by rw [kh_in (by decide) (by decide)]; rfl) rfl
theorem kh_g10_5 {K : Option Nat → Prop} : gR (kh F v N T) (some 10) 5 5 K ↔ K (some 18) := gR_s (by rw [kh_in (by decide) (by decide)]; rfl) rfl
theorem kh_g10_6 {K : Option Nat → Prop} : gR (kh F v N T) (some 10) 5 6 K ↔ K (some 19) := gR_s (by rw [kh_in (by decide) (by decide)]; rfl) rfl
theorem kh_g10_7 {K : Option Nat → Prop} : gR (kh F v N T) (some 10) 5 7 K ↔ K (some 20) := gR_s (by rw [kh_in (by decide) (by decide)]; rfl) rfl
theorem kh_g10_8 {K : Option Nat → Prop} : gR (kh F v N T) (some 10) 5 8 K ↔ K (some 21) := gR_s (by rw [kh_in (by decide) (by decide)]; rfl) rfl
theorem kh_g10_9 {K : Option Nat → Prop} : gR (kh F v N T) (some 10) 5 9 K ↔ K (some 23) := gR_s (by rw [kh_in (by decide) (by decide)]; rfl) rfl
theorem kh_g10_10 {K : Option Nat → Prop} : gR (kh F v N T) (some 10) 5 10 K ↔ K (some 25) := gR_s (by rw [kh_in (by decide) (by decide)]; rfl) rfl
theorem kh_g10_11 {K : Option Nat → Prop} : gR (kh F v N T) (some 10) 5 11 K ↔ K (some 27) := gR_s (by rw [kh_in (by decide) (by decide)]; rfl) rfl
theorem kh_g10_12 {K : Int → Prop} : gI (kh F v N T) (some 10) 5 12 K ↔ K (v 10 12) := gI_s (by rw [kh_in (by decide) (by decide)]; rfl) rfl
theorem kh_p10_12 {x : Int} {K : hp → Prop} : pF (kh F v N T) (some 10) 5 12 (vi x) K ↔ K (kh F (vv v 10 12 x) N T) := by
  rw [pF_s (by rw [kh_in (by decide) (by decide)]; rfl) (by simp), kh_set (v' := vv v 10 12 x) (N' := N) (T' := T) (by decide) (by decide) (by rfl) (fun j hj => kcell_v hj)]
theorem kh_g10_13 {K : Int → Prop} : gI (kh F v N T) (some 10) 5 13 K ↔ K (v 10 13) := gI_s (by rw [kh_in (by decide) (by decide)]; rfl) rfl
theorem kh_p10_13 {x : Int} {K : hp → Prop} : pF (kh F v N T) (some 10) 5 13 (vi x) K ↔ K (kh F (vv v 10 13 x) N T) := by
  rw [pF_s (by rw [kh_in (by decide) (by decide)]; rfl) (by simp), kh_set (v' := vv v 10 13 x) (N' := N) (T' := T) (by decide) (by decide) (by rfl) (fun j hj => kcell_v hj)]
theorem kh_g10_14 {K : Int → Prop} : gI (kh F v N T) (some 10) 5 14 K ↔ K (v 10 14) := gI_s (by rw [kh_in (by decide) (by decide)]; rfl) rfl
theorem kh_p10_14 {x : Int} {K : hp → Prop} : pF (kh F v N T) (some 10) 5 14 (vi x) K ↔ K (kh F (vv v 10 14 x) N T) := by
  rw [pF_s (by rw [kh_in (by decide) (by decide)]; rfl) (by simp), kh_set (v' := vv v 10 14 x) (N' := N) (T' := T) (by decide) (by decide) (by rfl) (fun j hj => kcell_v hj)]
theorem kh_g10_15 {K : Int → Prop} : gI (kh F v N T) (some 10) 5 15 K ↔ K (v 10 15) := gI_s (by rw [kh_in (by decide) (by decide)]; rfl) rfl
theorem kh_p10_15 {x : Int} {K : hp → Prop} : pF (kh F v N T) (some 10) 5 15 (vi x) K ↔ K (kh F (vv v 10 15 x) N T) := by
  rw [pF_s (by rw [kh_in (by decide) (by decide)]; rfl) (by simp), kh_set (v' := vv v 10 15 x) (N' := N) (T' := T) (by decide) (by decide) (by rfl) (fun j hj => kcell_v hj)]
theorem kh_c11 {K : Nat → Prop} : rcv (kh F v N T) (some 11) 10 K ↔ K 11 := rcv_s (by rw [kh_in (by decide) (by decide)]; rfl)
theorem kh_g11_0 {K : Option Nat → Prop} : gR (kh F v N T) (some 11) 10 0 K ↔ K (some 12) := gR_s (by rw [kh_in (by decide) (by decide)]; rfl) rfl
theorem kh_r12 {i : Int} {K : Int → Prop} (h0 : 0 ≤ i) (h1 : i < 60) : aI (kh F v N T) (some 12) 0 i K ↔ K (N 12 i) := aI_s (n := 60) (by rw [kh_in (by decide) (by decide)]; rfl) (by decide) h0 h1
theorem kh_w12 {i x : Int} {K : hp → Prop} (h0 : 0 ≤ i) (h1 : i < 60) : sI (kh F v N T) (some 12) 0 i x K ↔ K (kh F v (um N 12 (us (N 12) i x)) T) := by
  rw [sI_s (n := 60) (f := N 12) (by rw [kh_in (by decide) (by decide)]; rfl) (by decide) h0 h1, kh_set (v' := v) (N' := um N 12 (us (N 12) i x)) (T' := T) (by decide) (by decide) (by rfl) (fun j hj => kcell_n hj)]
theorem kh_n12 {K : Int → Prop} : aN (kh F v N T) (some 12) K ↔ K 60 := aN_s (n := 60) (by rw [kh_in (by decide) (by decide)]; rfl) (by decide) (by decide) (by decide)
theorem kh_c13 {K : Nat → Prop} : rcv (kh F v N T) (some 13) 6 K ↔ K 13 := rcv_s (by rw [kh_in (by decide) (by decide)]; rfl)
theorem kh_g13_0 {K : Option Nat → Prop} : gR (kh F v N T) (some 13) 6 0 K ↔ K (some 14) := gR_s (by rw [kh_in (by decide) (by decide)]; rfl) rfl
theorem kh_g13_1 {K : Int → Prop} : gI (kh F v N T) (some 13) 6 1 K ↔ K (v 13 1) := gI_s (by rw [kh_in (by decide) (by decide)]; rfl) rfl
theorem kh_p13_1 {x : Int} {K : hp → Prop} : pF (kh F v N T) (some 13) 6 1 (vi x) K ↔ K (kh F (vv v 13 1 x) N T) := by
  rw [pF_s (by rw [kh_in (by decide) (by decide)]; rfl) (by simp), kh_set (v' := vv v 13 1 x) (N' := N) (T' := T) (by decide) (by decide) (by rfl) (fun j hj => kcell_v hj)]
theorem kh_g13_2 {K : Int → Prop} : gI (kh F v N T) (some 13) 6 2 K ↔ K (v 13 2) := gI_s (by rw [kh_in (by decide) (by decide)]; rfl) rfl
theorem kh_p13_2 {x : Int} {K : hp → Prop} : pF (kh F v N T) (some 13) 6 2 (vi x) K ↔ K (kh F (vv v 13 2 x) N T) := by
  rw [pF_s (by rw [kh_in (by decide) (by decide)]; rfl) (by simp), kh_set (v' := vv v 13 2 x) (N' := N) (T' := T) (by decide) (by decide) (by rfl) (fun j hj => kcell_v hj)]
theorem kh_r14 {i : Int} {K : Int → Prop} (h0 : 0 ≤ i) (h1 : i < 1800) : aI (kh F v N T) (some 14) 0 i K ↔ K (N 14 i) := aI_s (n := 1800) (by rw [kh_in (by decide) (by decide)]; rfl) (by decide) h0 h1
theorem kh_w14 {i x : Int} {K : hp → Prop} (h0 : 0 ≤ i) (h1 : i < 1800) : sI (kh F v N T) (some 14) 0 i x K ↔ K (kh F v (um N 14 (us (N 14) i x)) T) := by
  rw [sI_s (n := 1800) (f := N 14) (by rw [kh_in (by decide) (by decide)]; rfl) (by decide) h0 h1, kh_set (v' := v) (N' := um N 14 (us (N 14) i x)) (T' := T) (by decide) (by decide) (by rfl) (fun j hj => kcell_n hj)]
theorem kh_n14 {K : Int → Prop} : aN (kh F v N T) (some 14) K ↔ K 1800 := aN_s (n := 1800) (by rw [kh_in (by decide) (by decide)]; rfl) (by decide) (by decide) (by decide)
theorem kh_r15 {i : Int} {K : Int → Prop} (h0 : 0 ≤ i) (h1 : i < 5) : aI (kh F v N T) (some 15) 0 i K ↔ K (N 15 i) := aI_s (n := 5) (by rw [kh_in (by decide) (by decide)]; rfl) (by decide) h0 h1
theorem kh_w15 {i x : Int} {K : hp → Prop} (h0 : 0 ≤ i) (h1 : i < 5) : sI (kh F v N T) (some 15) 0 i x K ↔ K (kh F v (um N 15 (us (N 15) i x)) T) := by
  rw [sI_s (n := 5) (f := N 15) (by rw [kh_in (by decide) (by decide)]; rfl) (by decide) h0 h1, kh_set (v' := v) (N' := um N 15 (us (N 15) i x)) (T' := T) (by decide) (by decide) (by rfl) (fun j hj => kcell_n hj)]
theorem kh_n15 {K : Int → Prop} : aN (kh F v N T) (some 15) K ↔ K 5 := aN_s (n := 5) (by rw [kh_in (by decide) (by decide)]; rfl) (by decide) (by decide) (by decide)
theorem kh_r16 {i : Int} {K : Int → Prop} (h0 : 0 ≤ i) (h1 : i < 5) : aI (kh F v N T) (some 16) 0 i K ↔ K (N 16 i) := aI_s (n := 5) (by rw [kh_in (by decide) (by decide)]; rfl) (by decide) h0 h1
theorem kh_w16 {i x : Int} {K : hp → Prop} (h0 : 0 ≤ i) (h1 : i < 5) : sI (kh F v N T) (some 16) 0 i x K ↔ K (kh F v (um N 16 (us (N 16) i x)) T) := by
  rw [sI_s (n := 5) (f := N 16) (by rw [kh_in (by decide) (by decide)]; rfl) (by decide) h0 h1, kh_set (v' := v) (N' := um N 16 (us (N 16) i x)) (T' := T) (by decide) (by decide) (by rfl) (fun j hj => kcell_n hj)]
theorem kh_n16 {K : Int → Prop} : aN (kh F v N T) (some 16) K ↔ K 5 := aN_s (n := 5) (by rw [kh_in (by decide) (by decide)]; rfl) (by decide) (by decide) (by decide)
theorem kh_r17 {i : Int} {K : Int → Prop} (h0 : 0 ≤ i) (h1 : i < 5) : aI (kh F v N T) (some 17) 0 i K ↔ K (N 17 i) := aI_s (n := 5) (by rw [kh_in (by decide) (by decide)]; rfl) (by decide) h0 h1
theorem kh_w17 {i x : Int} {K : hp → Prop} (h0 : 0 ≤ i) (h1 : i < 5) : sI (kh F v N T) (some 17) 0 i x K ↔ K (kh F v (um N 17 (us (N 17) i x)) T) := by
  rw [sI_s (n := 5) (f := N 17) (by rw [kh_in (by decide) (by decide)]; rfl) (by decide) h0 h1, kh_set (v' := v) (N' := um N 17 (us (N 17) i x)) (T' := T) (by decide) (by decide) (by rfl) (fun j hj => kcell_n hj)]
theorem kh_n17 {K : Int → Prop} : aN (kh F v N T) (some 17) K ↔ K 5 := aN_s (n := 5) (by rw [kh_in (by decide) (by decide)]; rfl) (by decide) (by decide) (by decide)
theorem kh_r18 {i : Int} {K : Int → Prop} (h0 : 0 ≤ i) (h1 : i < 5) : aI (kh F v N T) (some 18) 0 i K ↔ K (N 18 i) := aI_s (n := 5) (by rw [kh_in (by decide) (by decide)]; rfl) (by decide) h0 h1
theorem kh_w18 {i x : Int} {K : hp → Prop} (h0 : 0 ≤ i) (h1 : i < 5) : sI (kh F v N T) (some 18) 0 i x K ↔ K (kh F v (um N 18 (us (N 18) i x)) T) := by
  rw [sI_s (n := 5) (f := N 18) (by rw [kh_in (by decide) (by decide)]; rfl) (by decide) h0 h1, kh_set (v' := v) (N' := um N 18 (us (N 18) i x)) (T' := T) (by decide) (by decide) (by rfl) (fun j hj => kcell_n hj)]
theorem kh_n18 {K : Int → Prop} : aN (kh F v N T) (some 18) K ↔ K 5 := aN_s (n := 5) (by rw [kh_in (by decide) (by decide)]; rfl) (by decide) (by decide) (by decide)
theorem kh_r19 {i : Int} {K : Int → Prop} (h0 : 0 ≤ i) (h1 : i < 5) : aI (kh F v N T) (some 19) 0 i K ↔ K (N 19 i) := aI_s (n := 5) (by rw [kh_in (by decide) (by decide)]; rfl) (by decide) h0 h1
theorem kh_w19 {i x : Int} {K : hp → Prop} (h0 : 0 ≤ i) (h1 : i < 5) : sI (kh F v N T) (some 19) 0 i x K ↔ K (kh F v (um N 19 (us (N 19) i x)) T) := by
  rw [sI_s (n := 5) (f := N 19) (by rw [kh_in (by decide) (by decide)]; rfl) (by decide) h0 h1, kh_set (v' := v) (N' := um N 19 (us (N 19) i x)) (T' := T) (by decide) (by decide) (by rfl) (fun j hj => kcell_n hj)]
theorem kh_n19 {K : Int → Prop} : aN (kh F v N T) (some 19) K ↔ K 5 := aN_s (n := 5) (by rw [kh_in (by decide) (by decide)]; rfl) (by decide) (by decide) (by decide)
theorem kh_r20 {i : Int} {K : Int → Prop} (h0 : 0 ≤ i) (h1 : i < 6) : aI (kh F v N T) (some 20) 0 i K ↔ K (N 20 i) := aI_s (n := 6) (by rw [kh_in (by decide) (by decide)]; rfl) (by decide) h0 h1
theorem kh_w20 {i x : Int} {K : hp → Prop} (h0 : 0 ≤ i) (h1 : i < 6) : sI (kh F v N T) (some 20) 0 i x K ↔ K (kh F v (um N 20 (us (N 20) i x)) T) := by
  rw [sI_s (n := 6) (f := N 20) (by rw [kh_in (by decide) (by decide)]; rfl) (by decide) h0 h1, kh_set (v' := v) (N' := um N 20 (us (N 20) i x)) (T' := T) (by decide) (by decide) (by rfl) (fun j hj => kcell_n hj)]
theorem kh_n20 {K : Int → Prop} : aN (kh F v N T) (some 20) K ↔ K 6 := aN_s (n := 6) (by rw [kh_in (by decide) (by decide)]; rfl) (by decide) (by decide) (by decide)
theorem kh_c21 {K : Nat → Prop} : rcv (kh F v N T) (some 21) 7 K ↔ K 21 := rcv_s (by rw [kh_in (by decide) (by decide)]; rfl)
theorem kh_g21_0 {K : Option Nat → Prop} : gR (kh F v N T) (some 21) 7 0 K ↔ K (some 22) := gR_s (by rw [kh_in (by decide) (by decide)]; rfl) rfl
theorem kh_g21_1 {K : Int → Prop} : gI (kh F v N T) (some 21) 7 1 K ↔ K (v 21 1) := gI_s (by rw [kh_in (by decide) (by decide)]; rfl) rfl
theorem kh_p21_1 {x : Int} {K : hp → Prop} : pF (kh F v N T) (some 21) 7 1 (vi x) K ↔ K (kh F (vv v 21 1 x) N T) := by
  rw [pF_s (by rw [kh_in (by decide) (by decide)]; rfl) (by simp), kh_set (v' := vv v 21 1 x) (N' := N) (T' := T) (by decide) (by decide) (by rfl) (fun j hj => kcell_v hj)]
theorem kh_g21_2 {K : Int → Prop} : gI (kh F v N T) (some 21) 7 2 K ↔ K (v 21 2) := gI_s (by rw [kh_in (by decide) (by decide)]; rfl) rfl
theorem kh_p21_2 {x : Int} {K : hp → Prop} : pF (kh F v N T) (some 21) 7 2 (vi x) K ↔ K (kh F (vv v 21 2 x) N T) := by
  rw [pF_s (by rw [kh_in (by decide) (by decide)]; rfl) (by simp), kh_set (v' := vv v 21 2 x) (N' := N) (T' := T) (by decide) (by decide) (by rfl) (fun j hj => kcell_v hj)]
theorem kh_r22 {i : Int} {K : Int → Prop} (h0 : 0 ≤ i) (h1 : i < 24) : aI (kh F v N T) (some 22) 0 i K ↔ K (N 22 i) := aI_s (n := 24) (by rw [kh_in (by decide) (by decide)]; rfl) (by decide) h0 h1
theorem kh_w22 {i x : Int} {K : hp → Prop} (h0 : 0 ≤ i) (h1 : i < 24) : sI (kh F v N T) (some 22) 0 i x K ↔ K (kh F v (um N 22 (us (N 22) i x)) T) := by
  rw [sI_s (n := 24) (f := N 22) (by rw [kh_in (by decide) (by decide)]; rfl) (by decide) h0 h1, kh_set (v' := v) (N' := um N 22 (us (N 22) i x)) (T' := T) (by decide) (by decide) (by rfl) (fun j hj => kcell_n hj)]
theorem kh_n22 {K : Int → Prop} : aN (kh F v N T) (some 22) K ↔ K 24 := aN_s (n := 24) (by rw [kh_in (by decide) (by decide)]; rfl) (by decide) (by decide) (by decide)
theorem kh_c23 {K : Nat → Prop} : rcv (kh F v N T) (some 23) 7 K ↔ K 23 := rcv_s (by rw [kh_in (by decide) (by decide)]; rfl)
theorem kh_g23_0 {K : Option Nat → Prop} : gR (kh F v N T) (some 23) 7 0 K ↔ K (some 24) := gR_s (by rw [kh_in (by decide) (by decide)]; rfl) rfl
theorem kh_g23_1 {K : Int → Prop} : gI (kh F v N T) (some 23) 7 1 K ↔ K (v 23 1) := gI_s (by rw [kh_in (by decide) (by decide)]; rfl) rfl
theorem kh_p23_1 {x : Int} {K : hp → Prop} : pF (kh F v N T) (some 23) 7 1 (vi x) K ↔ K (kh F (vv v 23 1 x) N T) := by
  rw [pF_s (by rw [kh_in (by decide) (by decide)]; rfl) (by simp), kh_set (v' := vv v 23 1 x) (N' := N) (T' := T) (by decide) (by decide) (by rfl) (fun j hj => kcell_v hj)]
theorem kh_g23_2 {K : Int → Prop} : gI (kh F v N T) (some 23) 7 2 K ↔ K (v 23 2) := gI_s (by rw [kh_in (by decide) (by decide)]; rfl) rfl
theorem kh_p23_2 {x : Int} {K : hp → Prop} : pF (kh F v N T) (some 23) 7 2 (vi x) K ↔ K (kh F (vv v 23 2 x) N T) := by
  rw [pF_s (by rw [kh_in (by decide) (by decide)]; rfl) (by simp), kh_set (v' := vv v 23 2 x) (N' := N) (T' := T) (by decide) (by decide) (by rfl) (fun j hj => kcell_v hj)]
theorem kh_r24 {i : Int} {K : Int → Prop} (h0 : 0 ≤ i) (h1 : i < 12) : aI (kh F v N T) (some 24) 0 i K ↔ K (N 24 i) := aI_s (n := 12) (by rw [kh_in (by decide) (by decide)]; rfl) (by decide) h0 h1
theorem kh_w24 {i x : Int} {K : hp → Prop} (h0 : 0 ≤ i) (h1 : i < 12) : sI (kh F v N T) (some 24) 0 i x K ↔ K (kh F v (um N 24 (us (N 24) i x)) T) := by
  rw [sI_s (n := 12) (f := N 24) (by rw [kh_in (by decide) (by decide)]; rfl) (by decide) h0 h1, kh_set (v' := v) (N' := um N 24 (us (N 24) i x)) (T' := T) (by decide) (by decide) (by rfl) (fun j hj => kcell_n hj)]
theorem kh_n24 {K : Int → Prop} : aN (kh F v N T) (some 24) K ↔ K 12 := aN_s (n := 12) (by rw [kh_in (by decide) (by decide)]; rfl) (by decide) (by decide) (by decide)
theorem kh_c25 {K : Nat → Prop} : rcv (kh F v N T) (some 25) 7 K ↔ K 25 := rcv_s (by rw [kh_in (by decide) (by decide)]; rfl)
theorem kh_g25_0 {K : Option Nat → Prop} : gR (kh F v N T) (some 25) 7 0 K ↔ K (some 26) := gR_s (by rw [kh_in (by decide) (by decide)]; rfl) rfl
theorem kh_g25_1 {K : Int → Prop} : gI (kh F v N T) (some 25) 7 1 K ↔ K (v 25 1) := gI_s (by rw [kh_in (by decide) (by decide)]; rfl) rfl
theorem kh_p25_1 {x : Int} {K : hp → Prop} : pF (kh F v N T) (some 25) 7 1 (vi x) K ↔ K (kh F (vv v 25 1 x) N T) := by
  rw [pF_s (by rw [kh_in (by decide) (by decide)]; rfl) (by simp), kh_set (v' := vv v 25 1 x) (N' := N) (T' := T) (by decide) (by decide) (by rfl) (fun j hj => kcell_v hj)]
theorem kh_g25_2 {K : Int → Prop} : gI (kh F v N T) (some 25) 7 2 K ↔ K (v 25 2) := gI_s (by rw [kh_in (by decide) (by decide)]; rfl) rfl
theorem kh_p25_2 {x : Int} {K : hp → Prop} : pF (kh F v N T) (some 25) 7 2 (vi x) K ↔ K (kh F (vv v 25 2 x) N T) := by
  rw [pF_s (by rw [kh_in (by decide) (by decide)]; rfl) (by simp), kh_set (v' := vv v 25 2 x) (N' := N) (T' := T) (by decide) (by decide) (by rfl) (fun j hj => kcell_v hj)]
theorem kh_r26 {i : Int} {K : Int → Prop} (h0 : 0 ≤ i) (h1 : i < 24) : aI (kh F v N T) (some 26) 0 i K ↔ K (N 26 i) := aI_s (n := 24) (by rw [kh_in (by decide) (by decide)]; rfl) (by decide) h0 h1
theorem kh_w26 {i x : Int} {K : hp → Prop} (h0 : 0 ≤ i) (h1 : i < 24) : sI (kh F v N T) (some 26) 0 i x K ↔ K (kh F v (um N 26 (us (N 26) i x)) T) := by
  rw [sI_s (n := 24) (f := N 26) (by rw [kh_in (by decide) (by decide)]; rfl) (by decide) h0 h1, kh_set (v' := v) (N' := um N 26 (us (N 26) i x)) (T' := T) (by decide) (by decide) (by rfl) (fun j hj => kcell_n hj)]
theorem kh_n26 {K : Int → Prop} : aN (kh F v N T) (some 26) K ↔ K 24 := aN_s (n := 24) (by rw [kh_in (by decide) (by decide)]; rfl) (by decide) (by decide) (by decide)
theorem kh_c28 {K : Nat → Prop} : rcv (kh F v N T) (some 28) 3 K ↔ K 28 := rcv_s (by rw [kh_in (by decide) (by decide)]; rfl)
theorem kh_g28_0 {K : Option Nat → Prop} : gR (kh F v N T) (some 28) 3 0 K ↔ K (some 29) := gR_s (by rw [kh_in (by decide) (by decide)]; rfl) rfl
theorem kh_g28_1 {K : Option Nat → Prop} : gR (kh F v N T) (some 28) 3 1 K ↔ K (some 30) := gR_s (by rw [kh_in (by decide) (by decide)]; rfl) rfl
theorem kh_g28_2 {K : Int → Prop} : gI (kh F v N T) (some 28) 3 2 K ↔ K (v 28 2) := gI_s (by rw [kh_in (by decide) (by decide)]; rfl) rfl
theorem kh_p28_2 {x : Int} {K : hp → Prop} : pF (kh F v N T) (some 28) 3 2 (vi x) K ↔ K (kh F (vv v 28 2 x) N T) := by
  rw [pF_s (by rw [kh_in (by decide) (by decide)]; rfl) (by simp), kh_set (v' := vv v 28 2 x) (N' := N) (T' := T) (by decide) (by decide) (by rfl) (fun j hj => kcell_v hj)]
theorem kh_r29 {i : Int} {K : Int → Prop} (h0 : 0 ≤ i) (h1 : i < 14) : aI (kh F v N T) (some 29) 0 i K ↔ K (N 29 i) := aI_s (n := 14) (by rw [kh_in (by decide) (by decide)]; rfl) (by decide) h0 h1
theorem kh_w29 {i x : Int} {K : hp → Prop} (h0 : 0 ≤ i) (h1 : i < 14) : sI (kh F v N T) (some 29) 0 i x K ↔ K (kh F v (um N 29 (us (N 29) i x)) T) := by
  rw [sI_s (n := 14) (f := N 29) (by rw [kh_in (by decide) (by decide)]; rfl) (by decide) h0 h1, kh_set (v' := v) (N' := um N 29 (us (N 29) i x)) (T' := T) (by decide) (by decide) (by rfl) (fun j hj => kcell_n hj)]
theorem kh_n29 {K : Int → Prop} : aN (kh F v N T) (some 29) K ↔ K 14 := aN_s (n := 14) (by rw [kh_in (by decide) (by decide)]; rfl) (by decide) (by decide) (by decide)
theorem kh_r30 {i : Int} {K : Int → Prop} (h0 : 0 ≤ i) (h1 : i < 300) : aI (kh F v N T) (some 30) 0 i K ↔ K (N 30 i) := aI_s (n := 300) (by rw [kh_in (by decide) (by decide)]; rfl) (by decide) h0 h1
theorem kh_w30 {i x : Int} {K : hp → Prop} (h0 : 0 ≤ i) (h1 : i < 300) : sI (kh F v N T) (some 30) 0 i x K ↔ K (kh F v (um N 30 (us (N 30) i x)) T) := by
  rw [sI_s (n := 300) (f := N 30) (by rw [kh_in (by decide) (by decide)]; rfl) (by decide) h0 h1, kh_set (v' := v) (N' := um N 30 (us (N 30) i x)) (T' := T) (by decide) (by decide) (by rfl) (fun j hj => kcell_n hj)]
theorem kh_n30 {K : Int → Prop} : aN (kh F v N T) (some 30) K ↔ K 300 := aN_s (n := 300) (by rw [kh_in (by decide) (by decide)]; rfl) (by decide) (by decide) (by decide)
theorem kh_c31 {K : Nat → Prop} : rcv (kh F v N T) (some 31) 5 K ↔ K 31 := rcv_s (by rw [kh_in (by decide) (by decide)]; rfl)
theorem kh_g31_0 {K : Option Nat → Prop} : gR (kh F v N T) (some 31) 5 0 K ↔ K (some 32) := gR_s (by rw [kh_in (by decide) (by decide)]; rfl) rfl
theorem kh_g31_1 {K : Option Nat → Prop} : gR (kh F v N T) (some 31) 5 1 K ↔ K (some 34) := gR_s (by rw [kh_in (by decide) (by decide)]; rfl) rfl
theorem kh_g31_2 {K : Option Nat → Prop} : gR (kh F v N T) (some 31) 5 2 K ↔ K (some 36) := gR_s (by rw [kh_in (by decide) (by decide)]; rfl) rfl
theorem kh_g31_3 {K : Option Nat → Prop} : gR (kh F v N T) (some 31) 5 3 K ↔ K (some 37) := gR_s (by rw [kh_in (by decide) (by decide)]; rfl) rfl
theorem kh_g31_4 {K : Option Nat → Prop} : gR (kh F v N T) (some 31) 5 4 K ↔ K (some 38) := gR_s (by rw [kh_in (by decide) (by decide)]; rfl) rfl
theorem kh_g31_5 {K : Option Nat → Prop} : gR (kh F v N T) (some 31) 5 5 K ↔ K (some 39) := gR_s (by rw [kh_in (by decide) (by decide)]; rfl) rfl
theorem kh_g31_6 {K : Option Nat → Prop} : gR (kh F v N T) (some 31) 5 6 K ↔ K (some 40) := gR_s (by rw [kh_in (by decide) (by decide)]; rfl) rfl
theorem kh_g31_7 {K : Option Nat → Prop} : gR (kh F v N T) (some 31) 5 7 K ↔ K (some 41) := gR_s (by rw [kh_in (by decide) (by decide)]; rfl) rfl
theorem kh_g31_8 {K : Option Nat → Prop} : gR (kh F v N T) (some 31) 5 8 K ↔ K (some 42) := gR_s (by rw [kh_in (by decide) (by decide)]; rfl) rfl
theorem kh_g31_9 {K : Option Nat → Prop} : gR (kh F v N T) (some 31) 5 9 K ↔ K (some 44) := gR_s (by rw [kh_in (by decide) (by decide)]; rfl) rfl
theorem kh_g31_10 {K : Option Nat → Prop} : gR (kh F v N T) (some 31) 5 10 K ↔ K (some 46) := gR_s (by rw [kh_in (by decide) (by decide)]; rfl) rfl
theorem kh_g31_11 {K : Option Nat → Prop} : gR (kh F v N T) (some 31) 5 11 K ↔ K (some 48) := gR_s (by rw [kh_in (by decide) (by decide)]; rfl) rfl
theorem kh_g31_12 {K : Int → Prop} : gI (kh F v N T) (some 31) 5 12 K ↔ K (v 31 12) := gI_s (by rw [kh_in (by decide) (by decide)]; rfl) rfl
theorem kh_p31_12 {x : Int} {K : hp → Prop} : pF (kh F v N T) (some 31) 5 12 (vi x) K ↔ K (kh F (vv v 31 12 x) N T) := by
  rw [pF_s (by rw [kh_in (by decide) (by decide)]; rfl) (by simp), kh_set (v' := vv v 31 12 x) (N' := N) (T' := T) (by decide) (by decide) (by rfl) (fun j hj => kcell_v hj)]
theorem kh_g31_13 {K : Int → Prop} : gI (kh F v N T) (some 31) 5 13 K ↔ K (v 31 13) := gI_s (by rw [kh_in (by decide) (by decide)]; rfl) rfl
theorem kh_p31_13 {x : Int} {K : hp → Prop} : pF (kh F v N T) (some 31) 5 13 (vi x) K ↔ K (kh F (vv v 31 13 x) N T) := by
  rw [pF_s (by rw [kh_in (by decide) (by decide)]; rfl) (by simp), kh_set (v' := vv v 31 13 x) (N' := N) (T' := T) (by decide) (by decide) (by rfl) (fun j hj => kcell_v hj)]
theorem kh_g31_14 {K : Int → Prop} : gI (kh F v N T) (some 31) 5 14 K ↔ K (v 31 14) := gI_s (by rw [kh_in (by decide) (by decide)]; rfl) rfl
theorem kh_p31_14 {x : Int} {K : hp → Prop} : pF (kh F v N T) (some 31) 5 14 (vi x) K ↔ K (kh F (vv v 31 14 x) N T) := by
  rw [pF_s (by rw [kh_in (by decide) (by decide)]; rfl) (by simp), kh_set (v' := vv v 31 14 x) (N' := N) (T' := T) (by decide) (by decide) (by rfl) (fun j hj => kcell_v hj)]
theorem kh_g31_15 {K : Int → Prop} : gI (kh F v N T) (some 31) 5 15 K ↔ K (v 31 15) := gI_s (by rw [kh_in (by decide) (by decide)]; rfl) rfl
theorem kh_p31_15 {x : Int} {K : hp → Prop} : pF (kh F v N T) (some 31) 5 15 (vi x) K ↔ K (kh F (vv v 31 15 x) N T) := by
  rw [pF_s (by rw [kh_in (by decide) (by decide)]; rfl) (by simp), kh_set (v' := vv v 31 15 x) (N' := N) (T' := T) (by decide) (by decide) (by rfl) (fun j hj => kcell_v hj)]
theorem kh_c32 {K : Nat → Prop} : rcv (kh F v N T) (some 32) 10 K ↔ K 32 := rcv_s (by rw [kh_in (by decide) (by decide)]; rfl)
theorem kh_g32_0 {K : Option Nat → Prop} : gR (kh F v N T) (some 32) 10 0 K ↔ K (some 33) := gR_s (by rw [kh_in (by decide) (by decide)]; rfl) rfl
theorem kh_r33 {i : Int} {K : Int → Prop} (h0 : 0 ≤ i) (h1 : i < 60) : aI (kh F v N T) (some 33) 0 i K ↔ K (N 33 i) := aI_s (n := 60) (by rw [kh_in (by decide) (by decide)]; rfl) (by decide) h0 h1
theorem kh_w33 {i x : Int} {K : hp → Prop} (h0 : 0 ≤ i) (h1 : i < 60) : sI (kh F v N T) (some 33) 0 i x K ↔ K (kh F v (um N 33 (us (N 33) i x)) T) := by
  rw [sI_s (n := 60) (f := N 33) (by rw [kh_in (by decide) (by decide)]; rfl) (by decide) h0 h1, kh_set (v' := v) (N' := um N 33 (us (N 33) i x)) (T' := T) (by decide) (by decide) (by rfl) (fun j hj => kcell_n hj)]
theorem kh_n33 {K : Int → Prop} : aN (kh F v N T) (some 33) K ↔ K 60 := aN_s (n := 60) (by rw [kh_in (by decide) (by decide)]; rfl) (by decide) (by decide) (by decide)
theorem kh_c34 {K : Nat → Prop} : rcv (kh F v N T) (some 34) 6 K ↔ K 34 := rcv_s (by rw [kh_in (by decide) (by decide)]; rfl)
theorem kh_g34_0 {K : Option Nat → Prop} : gR (kh F v N T) (some 34) 6 0 K ↔ K (some 35) := gR_s (by rw [kh_in (by decide) (by decide)]; rfl) rfl
theorem kh_g34_1 {K : Int → Prop} : gI (kh F v N T) (some 34) 6 1 K ↔ K (v 34 1) := gI_s (by rw [kh_in (by decide) (by decide)]; rfl) rfl
theorem kh_p34_1 {x : Int} {K : hp → Prop} : pF (kh F v N T) (some 34) 6 1 (vi x) K ↔ K (kh F (vv v 34 1 x) N T) := by
  rw [pF_s (by rw [kh_in (by decide) (by decide)]; rfl) (by simp), kh_set (v' := vv v 34 1 x) (N' := N) (T' := T) (by decide) (by decide) (by rfl) (fun j hj => kcell_v hj)]
theorem kh_g34_2 {K : Int → Prop} : gI (kh F v N T) (some 34) 6 2 K ↔ K (v 34 2) := gI_s (by rw [kh_in (by decide) (by decide)]; rfl) rfl
theorem kh_p34_2 {x : Int} {K : hp → Prop} : pF (kh F v N T) (some 34) 6 2 (vi x) K ↔ K (kh F (vv v 34 2 x) N T) := by
  rw [pF_s (by rw [kh_in (by decide) (by decide)]; rfl) (by simp), kh_set (v' := vv v 34 2 x) (N' := N) (T' := T) (by decide) (by decide) (by rfl) (fun j hj => kcell_v hj)]
theorem kh_r35 {i : Int} {K : Int → Prop} (h0 : 0 ≤ i) (h1 : i < 1800) : aI (kh F v N T) (some 35) 0 i K ↔ K (N 35 i) := aI_s (n := 1800) (by rw [kh_in (by decide) (by decide)]; rfl) (by decide) h0 h1
theorem kh_w35 {i x : Int} {K : hp → Prop} (h0 : 0 ≤ i) (h1 : i < 1800) : sI (kh F v N T) (some 35) 0 i x K ↔ K (kh F v (um N 35 (us (N 35) i x)) T) := by
  rw [sI_s (n := 1800) (f := N 35) (by rw [kh_in (by decide) (by decide)]; rfl) (by decide) h0 h1, kh_set (v' := v) (N' := um N 35 (us (N 35) i x)) (T' := T) (by decide) (by decide) (by rfl) (fun j hj => kcell_n hj)]
theorem kh_n35 {K : Int → Prop} : aN (kh F v N T) (some 35) K ↔ K 1800 := aN_s (n := 1800) (by rw [kh_in (by decide) (by decide)]; rfl) (by decide) (by decide) (by decide)
theorem kh_r36 {i : Int} {K : Int → Prop} (h0 : 0 ≤ i) (h1 : i < 5) : aI (kh F v N T) (some 36) 0 i K ↔ K (N 36 i) := aI_s (n := 5) (by rw [kh_in (by decide) (by decide)]; rfl) (by decide) h0 h1
theorem kh_w36 {i x : Int} {K : hp → Prop} (h0 : 0 ≤ i) (h1 : i < 5) : sI (kh F v N T) (some 36) 0 i x K ↔ K (kh F v (um N 36 (us (N 36) i x)) T) := by
  rw [sI_s (n := 5) (f := N 36) (by rw [kh_in (by decide) (by decide)]; rfl) (by decide) h0 h1, kh_set (v' := v) (N' := um N 36 (us (N 36) i x)) (T' := T) (by decide) (by decide) (by rfl) (fun j hj => kcell_n hj)]
theorem kh_n36 {K : Int → Prop} : aN (kh F v N T) (some 36) K ↔ K 5 := aN_s (n := 5) (by rw [kh_in (by decide) (by decide)]; rfl) (by decide) (by decide) (by decide)
theorem kh_r37 {i : Int} {K : Int → Prop} (h0 : 0 ≤ i) (h1 : i < 5) : aI (kh F v N T) (some 37) 0 i K ↔ K (N 37 i) := aI_s (n := 5) (by rw [kh_in (by decide) (by decide)]; rfl) (by decide) h0 h1
theorem kh_w37 {i x : Int} {K : hp → Prop} (h0 : 0 ≤ i) (h1 : i < 5) : sI (kh F v N T) (some 37) 0 i x K ↔ K (kh F v (um N 37 (us (N 37) i x)) T) := by
  rw [sI_s (n := 5) (f := N 37) (by rw [kh_in (by decide) (by decide)]; rfl) (by decide) h0 h1, kh_set (v' := v) (N' := um N 37 (us (N 37) i x)) (T' := T) (by decide) (by decide) (by rfl) (fun j hj => kcell_n hj)]
theorem kh_n37 {K : Int → Prop} : aN (kh F v N T) (some 37) K ↔ K 5 := aN_s (n := 5) (by rw [kh_in (by decide) (by decide)]; rfl) (by decide) (by decide) (by decide)
theorem kh_r38 {i : Int} {K : Int → Prop} (h0 : 0 ≤ i) (h1 : i < 5) : aI (kh F v N T) (some 38) 0 i K ↔ K (N 38 i) := aI_s (n := 5) (by rw [kh_in (by decide) (by decide)]; rfl) (by decide) h0 h1
theorem kh_w38 {i x : Int} {K : hp → Prop} (h0 : 0 ≤ i) (h1 : i < 5) : sI (kh F v N T) (some 38) 0 i x K ↔ K (kh F v (um N 38 (us (N 38) i x)) T) := by
  rw [sI_s (n := 5) (f := N 38) (by rw [kh_in (by decide) (by decide)]; rfl) (by decide) h0 h1, kh_set (v' := v) (N' := um N 38 (us (N 38) i x)) (T' := T) (by decide) (by decide) (by rfl) (fun j hj => kcell_n hj)]
theorem kh_n38 {K : Int → Prop} : aN (kh F v N T) (some 38) K ↔ K 5 := aN_s (n := 5) (by rw [kh_in (by decide) (by decide)]; rfl) (by decide) (by decide) (by decide)
theorem kh_r39 {i : Int} {K : Int → Prop} (h0 : 0 ≤ i) (h1 : i < 5) : aI (kh F v N T) (some 39) 0 i K ↔ K (N 39 i) := aI_s (n := 5) (by rw [kh_in (by decide) (by decide)]; rfl) (by decide) h0 h1
theorem kh_w39 {i x : Int} {K : hp → Prop} (h0 : 0 ≤ i) (h1 : i < 5) : sI (kh F v N T) (some 39) 0 i x K ↔ K (kh F v (um N 39 (us (N 39) i x)) T) := by
  rw [sI_s (n := 5) (f := N 39) (by rw [kh_in (by decide) (by decide)]; rfl) (by decide) h0 h1, kh_set (v' := v) (N' := um N 39 (us (N 39) i x)) (T' := T) (by decide) (by decide) (by rfl) (fun j hj => kcell_n hj)]
theorem kh_n39 {K : Int → Prop} : aN (kh F v N T) (some 39) K ↔ K 5 := aN_s (n := 5) (by rw [kh_in (by decide) (by decide)]; rfl) (by decide) (by decide) (by decide)
theorem kh_r40 {i : Int} {K : Int → Prop} (h0 : 0 ≤ i) (h1 : i < 5) : aI (kh F v N T) (some 40) 0 i K ↔ K (N 40 i) := aI_s (n := 5) (by rw [kh_in (by decide) (by decide)]; rfl) (by decide) h0 h1
theorem kh_w40 {i x : Int} {K : hp → Prop} (h0 : 0 ≤ i) (h1 : i < 5) : sI (kh F v N T) (some 40) 0 i x K ↔ K (kh F v (um N 40 (us (N 40) i x)) T) := by
  rw [sI_s (n := 5) (f := N 40) (by rw [kh_in (by decide) (by decide)]; rfl) (by decide) h0 h1, kh_set (v' := v) (N' := um N 40 (us (N 40) i x)) (T' := T) (by decide) (by decide) (by rfl) (fun j hj => kcell_n hj)]
theorem kh_n40 {K : Int → Prop} : aN (kh F v N T) (some 40) K ↔ K 5 := aN_s (n := 5) (by rw [kh_in (by decide) (by decide)]; rfl) (by decide) (by decide) (by decide)
theorem kh_r41 {i : Int} {K : Int → Prop} (h0 : 0 ≤ i) (h1 : i < 6) : aI (kh F v N T) (some 41) 0 i K ↔ K (N 41 i) := aI_s (n := 6) (by rw [kh_in (by decide) (by decide)]; rfl) (by decide) h0 h1
theorem kh_w41 {i x : Int} {K : hp → Prop} (h0 : 0 ≤ i) (h1 : i < 6) : sI (kh F v N T) (some 41) 0 i x K ↔ K (kh F v (um N 41 (us (N 41) i x)) T) := by
  rw [sI_s (n := 6) (f := N 41) (by rw [kh_in (by decide) (by decide)]; rfl) (by decide) h0 h1, kh_set (v' := v) (N' := um N 41 (us (N 41) i x)) (T' := T) (by decide) (by decide) (by rfl) (fun j hj => kcell_n hj)]
theorem kh_n41 {K : Int → Prop} : aN (kh F v N T) (some 41) K ↔ K 6 := aN_s (n := 6) (by rw [kh_in (by decide) (by decide)]; rfl) (by decide) (by decide) (by decide)
theorem kh_c42 {K : Nat → Prop} : rcv (kh F v N T) (some 42) 7 K ↔ K 42 := rcv_s (by rw [kh_in (by decide) (by decide)]; rfl)
theorem kh_g42_0 {K : Option Nat → Prop} : gR (kh F v N T) (some 42) 7 0 K ↔ K (some 43) := gR_s (by rw [kh_in (by decide) (by decide)]; rfl) rfl
theorem kh_g42_1 {K : Int → Prop} : gI (kh F v N T) (some 42) 7 1 K ↔ K (v 42 1) := gI_s (by rw [kh_in (by decide) (by decide)]; rfl) rfl
theorem kh_p42_1 {x : Int} {K : hp → Prop} : pF (kh F v N T) (some 42) 7 1 (vi x) K ↔ K (kh F (vv v 42 1 x) N T) := by
  rw [pF_s (by rw [kh_in (by decide) (by decide)]; rfl) (by simp), kh_set (v' := vv v 42 1 x) (N' := N) (T' := T) (by decide) (by decide) (by rfl) (fun j hj => kcell_v hj)]
theorem kh_g42_2 {K : Int → Prop} : gI (kh F v N T) (some 42) 7 2 K ↔ K (v 42 2) := gI_s (by rw [kh_in (by decide) (by decide)]; rfl) rfl
theorem kh_p42_2 {x : Int} {K : hp → Prop} : pF (kh F v N T) (some 42) 7 2 (vi x) K ↔ K (kh F (vv v 42 2 x) N T) := by
  rw [pF_s (by rw [kh_in (by decide) (by decide)]; rfl) (by simp), kh_set (v' := vv v 42 2 x) (N' := N) (T' := T) (by decide) (by decide) (by rfl) (fun j hj => kcell_v hj)]
theorem kh_r43 {i : Int} {K : Int → Prop} (h0 : 0 ≤ i) (h1 : i < 24) : aI (kh F v N T) (some 43) 0 i K ↔ K (N 43 i) := aI_s (n := 24) (by rw [kh_in (by decide) (by decide)]; rfl) (by decide) h0 h1
theorem kh_w43 {i x : Int} {K : hp → Prop} (h0 : 0 ≤ i) (h1 : i < 24) : sI (kh F v N T) (some 43) 0 i x K ↔ K (kh F v (um N 43 (us (N 43) i x)) T) := by
  rw [sI_s (n := 24) (f := N 43) (by rw [kh_in (by decide) (by decide)]; rfl) (by decide) h0 h1, kh_set (v' := v) (N' := um N 43 (us (N 43) i x)) (T' := T) (by decide) (by decide) (by rfl) (fun j hj => kcell_n hj)]
theorem kh_n43 {K : Int → Prop} : aN (kh F v N T) (some 43) K ↔ K 24 := aN_s (n := 24) (by rw [kh_in (by decide) (by decide)]; rfl) (by decide) (by decide) (by decide)
theorem kh_c44 {K : Nat → Prop} : rcv (kh F v N T) (some 44) 7 K ↔ K 44 := rcv_s (by rw [kh_in (by decide) (by decide)]; rfl)
theorem kh_g44_0 {K : Option Nat → Prop} : gR (kh F v N T) (some 44) 7 0 K ↔ K (some 45) := gR_s (by rw [kh_in (by decide) (by decide)]; rfl) rfl
theorem kh_g44_1 {K : Int → Prop} : gI (kh F v N T) (some 44) 7 1 K ↔ K (v 44 1) := gI_s (by rw [kh_in (by decide) (by decide)]; rfl) rfl
theorem kh_p44_1 {x : Int} {K : hp → Prop} : pF (kh F v N T) (some 44) 7 1 (vi x) K ↔ K (kh F (vv v 44 1 x) N T) := by
  rw [pF_s (by rw [kh_in (by decide) (by decide)]; rfl) (by simp), kh_set (v' := vv v 44 1 x) (N' := N) (T' := T) (by decide) (by decide) (by rfl) (fun j hj => kcell_v hj)]
theorem kh_g44_2 {K : Int → Prop} : gI (kh F v N T) (some 44) 7 2 K ↔ K (v 44 2) := gI_s (by rw [kh_in (by decide) (by decide)]; rfl) rfl
theorem kh_p44_2 {x : Int} {K : hp → Prop} : pF (kh F v N T) (some 44) 7 2 (vi x) K ↔ K (kh F (vv v 44 2 x) N T) := by
  rw [pF_s (by rw [kh_in (by decide) (by decide)]; rfl) (by simp), kh_set (v' := vv v 44 2 x) (N' := N) (T' := T) (by decide) (by decide) (by rfl) (fun j hj => kcell_v hj)]
theorem kh_r45 {i : Int} {K : Int → Prop} (h0 : 0 ≤ i) (h1 : i < 12) : aI (kh F v N T) (some 45) 0 i K ↔ K (N 45 i) := aI_s (n := 12) (by rw [kh_in (by decide) (by decide)]; rfl) (by decide) h0 h1
theorem kh_w45 {i x : Int} {K : hp → Prop} (h0 : 0 ≤ i) (h1 : i < 12) : sI (kh F v N T) (some 45) 0 i x K ↔ K (kh F v (um N 45 (us (N 45) i x)) T) := by
  rw [sI_s (n := 12) (f := N 45) (by rw [kh_in (by decide) (by decide)]; rfl) (by decide) h0 h1, kh_set (v' := v) (N' := um N 45 (us (N 45) i x)) (T' := T) (by decide) (by decide) (by rfl) (fun j hj => kcell_n hj)]
theorem kh_n45 {K : Int → Prop} : aN (kh F v N T) (some 45) K ↔ K 12 := aN_s (n := 12) (by rw [kh_in (by decide) (by decide)]; rfl) (by decide) (by decide) (by decide)
theorem kh_c46 {K : Nat → Prop} : rcv (kh F v N T) (some 46) 7 K ↔ K 46 := rcv_s (by rw [kh_in (by decide) (by decide)]; rfl)
theorem kh_g46_0 {K : Option Nat → Prop} : gR (kh F v N T) (some 46) 7 0 K ↔ K (some 47) := gR_s (by rw [kh_in (by decide) (by decide)]; rfl) rfl
theorem kh_g46_1 {K : Int → Prop} : gI (kh F v N T) (some 46) 7 1 K ↔ K (v 46 1) := gI_s (by rw [kh_in (by decide) (by decide)]; rfl) rfl
theorem kh_p46_1 {x : Int} {K : hp → Prop} : pF (kh F v N T) (some 46) 7 1 (vi x) K ↔ K (kh F (vv v 46 1 x) N T) := by
  rw [pF_s (by rw [kh_in (by decide) (by decide)]; rfl) (by simp), kh_set (v' := vv v 46 1 x) (N' := N) (T' := T) (by decide) (by decide) (by rfl) (fun j hj => kcell_v hj)]
theorem kh_g46_2 {K : Int → Prop} : gI (kh F v N T) (some 46) 7 2 K ↔ K (v 46 2) := gI_s (by rw [kh_in (by decide) (by decide)]; rfl) rfl
theorem kh_p46_2 {x : Int} {K : hp → Prop} : pF (kh F v N T) (some 46) 7 2 (vi x) K ↔ K (kh F (vv v 46 2 x) N T) := by
  rw [pF_s (by rw [kh_in (by decide) (by decide)]; rfl) (by simp), kh_set (v' := vv v 46 2 x) (N' := N) (T' := T) (by decide) (by decide) (by rfl) (fun j hj => kcell_v hj)]
theorem kh_r47 {i : Int} {K : Int → Prop} (h0 : 0 ≤ i) (h1 : i < 24) : aI (kh F v N T) (some 47) 0 i K ↔ K (N 47 i) := aI_s (n := 24) (by rw [kh_in (by decide) (by decide)]; rfl) (by decide) h0 h1
theorem kh_w47 {i x : Int} {K : hp → Prop} (h0 : 0 ≤ i) (h1 : i < 24) : sI (kh F v N T) (some 47) 0 i x K ↔ K (kh F v (um N 47 (us (N 47) i x)) T) := by
  rw [sI_s (n := 24) (f := N 47) (by rw [kh_in (by decide) (by decide)]; rfl) (by decide) h0 h1, kh_set (v' := v) (N' := um N 47 (us (N 47) i x)) (T' := T) (by decide) (by decide) (by rfl) (fun j hj => kcell_n hj)]
theorem kh_n47 {K : Int → Prop} : aN (kh F v N T) (some 47) K ↔ K 24 := aN_s (n := 24) (by rw [kh_in (by decide) (by decide)]; rfl) (by decide) (by decide) (by decide)
theorem kh_c49 {K : Nat → Prop} : rcv (kh F v N T) (some 49) 2 K ↔ K 49 := rcv_s (by rw [kh_in (by decide) (by decide)]; rfl)
theorem kh_g49_0 {K : Option Nat → Prop} : gR (kh F v N T) (some 49) 2 0 K ↔ K (some 50) := gR_s (by rw [kh_in (by decide) (by decide)]; rfl) rfl
theorem kh_g49_1 {K : Option Nat → Prop} : gR (kh F v N T) (some 49) 2 1 K ↔ K (some 51) := gR_s (by rw [kh_in (by decide) (by decide)]; rfl) rfl
theorem kh_g49_2 {K : Option Nat → Prop} : gR (kh F v N T) (some 49) 2 2 K ↔ K (some 52) := gR_s (by rw [kh_in (by decide) (by decide)]; rfl) rfl
theorem kh_g49_3 {K : Option Nat → Prop} : gR (kh F v N T) (some 49) 2 3 K ↔ K (some 53) := gR_s (by rw [kh_in (by decide) (by decide)]; rfl) rfl
theorem kh_g49_4 {K : Option Nat → Prop} : gR (kh F v N T) (some 49) 2 4 K ↔ K (some 54) := gR_s (by rw [kh_in (by decide) (by decide)]; rfl) rfl
theorem kh_g49_5 {K : Option Nat → Prop} : gR (kh F v N T) (some 49) 2 5 K ↔ K (some 55) := gR_s (by rw [kh_in (by decide) (by decide)]; rfl) rfl
theorem kh_g49_6 {K : Int → Prop} : gI (kh F v N T) (some 49) 2 6 K ↔ K (v 49 6) := gI_s (by rw [kh_in (by decide) (by decide)]; rfl) rfl
theorem kh_p49_6 {x : Int} {K : hp → Prop} : pF (kh F v N T) (some 49) 2 6 (vi x) K ↔ K (kh F (vv v 49 6 x) N T) := by
  rw [pF_s (by rw [kh_in (by decide) (by decide)]; rfl) (by simp), kh_set (v' := vv v 49 6 x) (N' := N) (T' := T) (by decide) (by decide) (by rfl) (fun j hj => kcell_v hj)]
theorem kh_g49_7 {K : Int → Prop} : gI (kh F v N T) (some 49) 2 7 K ↔ K (v 49 7) := gI_s (by rw [kh_in (by decide) (by decide)]; rfl) rfl
theorem kh_p49_7 {x : Int} {K : hp → Prop} : pF (kh F v N T) (some 49) 2 7 (vi x) K ↔ K (kh F (vv v 49 7 x) N T) := by
  rw [pF_s (by rw [kh_in (by decide) (by decide)]; rfl) (by simp), kh_set (v' := vv v 49 7 x) (N' := N) (T' := T) (by decide) (by decide) (by rfl) (fun j hj => kcell_v hj)]
theorem kh_g49_8 {K : Int → Prop} : gI (kh F v N T) (some 49) 2 8 K ↔ K (v 49 8) := gI_s (by rw [kh_in (by decide) (by decide)]; rfl) rfl
theorem kh_p49_8 {x : Int} {K : hp → Prop} : pF (kh F v N T) (some 49) 2 8 (vi x) K ↔ K (kh F (vv v 49 8 x) N T) := by
  rw [pF_s (by rw [kh_in (by decide) (by decide)]; rfl) (by simp), kh_set (v' := vv v 49 8 x) (N' := N) (T' := T) (by decide) (by decide) (by rfl) (fun j hj => kcell_v hj)]
theorem kh_g49_9 {K : Int → Prop} : gI (kh F v N T) (some 49) 2 9 K ↔ K (v 49 9) := gI_s (by rw [kh_in (by decide) (by decide)]; rfl) rfl
theorem kh_p49_9 {x : Int} {K : hp → Prop} : pF (kh F v N T) (some 49) 2 9 (vi x) K ↔ K (kh F (vv v 49 9 x) N T) := by
  rw [pF_s (by rw [kh_in (by decide) (by decide)]; rfl) (by simp), kh_set (v' := vv v 49 9 x) (N' := N) (T' := T) (by decide) (by decide) (by rfl) (fun j hj => kcell_v hj)]
theorem kh_g49_10 {K : Int → Prop} : gI (kh F v N T) (some 49) 2 10 K ↔ K (v 49 10) := gI_s (by rw [kh_in (by decide) (by decide)]; rfl) rfl
theorem kh_p49_10 {x : Int} {K : hp → Prop} : pF (kh F v N T) (some 49) 2 10 (vi x) K ↔ K (kh F (vv v 49 10 x) N T) := by
  rw [pF_s (by rw [kh_in (by decide) (by decide)]; rfl) (by simp), kh_set (v' := vv v 49 10 x) (N' := N) (T' := T) (by decide) (by decide) (by rfl) (fun j hj => kcell_v hj)]
theorem kh_g49_11 {K : Int → Prop} : gI (kh F v N T) (some 49) 2 11 K ↔ K (v 49 11) := gI_s (by rw [kh_in (by decide) (by decide)]; rfl) rfl
theorem kh_p49_11 {x : Int} {K : hp → Prop} : pF (kh F v N T) (some 49) 2 11 (vi x) K ↔ K (kh F (vv v 49 11 x) N T) := by
  rw [pF_s (by rw [kh_in (by decide) (by decide)]; rfl) (by simp), kh_set (v' := vv v 49 11 x) (N' := N) (T' := T) (by decide) (by decide) (by rfl) (fun j hj => kcell_v hj)]
theorem kh_g49_12 {K : Int → Prop} : gI (kh F v N T) (some 49) 2 12 K ↔ K (v 49 12) := gI_s (by rw [kh_in (by decide) (by decide)]; rfl) rfl
theorem kh_p49_12 {x : Int} {K : hp → Prop} : pF (kh F v N T) (some 49) 2 12 (vi x) K ↔ K (kh F (vv v 49 12 x) N T) := by
  rw [pF_s (by rw [kh_in (by decide) (by decide)]; rfl) (by simp), kh_set (v' := vv v 49 12 x) (N' := N) (T' := T) (by decide) (by decide) (by rfl) (fun j hj => kcell_v hj)]
theorem kh_g49_13 {K : Int → Prop} : gI (kh F v N T) (some 49) 2 13 K ↔ K (v 49 13) := gI_s (by rw [kh_in (by decide) (by decide)]; rfl) rfl
theorem kh_p49_13 {x : Int} {K : hp → Prop} : pF (kh F v N T) (some 49) 2 13 (vi x) K ↔ K (kh F (vv v 49 13 x) N T) := by
  rw [pF_s (by rw [kh_in (by decide) (by decide)]; rfl) (by simp), kh_set (v' := vv v 49 13 x) (N' := N) (T' := T) (by decide) (by decide) (by rfl) (fun j hj => kcell_v hj)]
theorem kh_g49_14 {K : Int → Prop} : gI (kh F v N T) (some 49) 2 14 K ↔ K (v 49 14) := gI_s (by rw [kh_in (by decide) (by decide)]; rfl) rfl
theorem kh_p49_14 {x : Int} {K : hp → Prop} : pF (kh F v N T) (some 49) 2 14 (vi x) K ↔ K (kh F (vv v 49 14 x) N T) := by
  rw [pF_s (by rw [kh_in (by decide) (by decide)]; rfl) (by simp), kh_set (v' := vv v 49 14 x) (N' := N) (T' := T) (by decide) (by decide) (by rfl) (fun j hj => kcell_v hj)]
theorem kh_r50 {i : Int} {K : Int → Prop} (h0 : 0 ≤ i) (h1 : i < 300) : aI (kh F v N T) (some 50) 1 i K ↔ K (N 50 i) := aI_s (n := 300) (by rw [kh_in (by decide) (by decide)]; rfl) (by decide) h0 h1
theorem kh_w50 {i x : Int} {K : hp → Prop} (h0 : 0 ≤ i) (h1 : i < 300) : sI (kh F v N T) (some 50) 1 i x K ↔ K (kh F v (um N 50 (us (N 50) i x)) T) := by
  rw [sI_s (n := 300) (f := N 50) (by rw [kh_in (by decide) (by decide)]; rfl) (by decide) h0 h1, kh_set (v' := v) (N' := um N 50 (us (N 50) i x)) (T' := T) (by decide) (by decide) (by rfl) (fun j hj => kcell_n hj)]
theorem kh_n50 {K : Int → Prop} : aN (kh F v N T) (some 50) K ↔ K 300 := aN_s (n := 300) (by rw [kh_in (by decide) (by decide)]; rfl) (by decide) (by decide) (by decide)
theorem kh_r51 {i : Int} {K : Int → Prop} (h0 : 0 ≤ i) (h1 : i < 301) : aI (kh F v N T) (some 51) 0 i K ↔ K (N 51 i) := aI_s (n := 301) (by rw [kh_in (by decide) (by decide)]; rfl) (by decide) h0 h1
theorem kh_w51 {i x : Int} {K : hp → Prop} (h0 : 0 ≤ i) (h1 : i < 301) : sI (kh F v N T) (some 51) 0 i x K ↔ K (kh F v (um N 51 (us (N 51) i x)) T) := by
  rw [sI_s (n := 301) (f := N 51) (by rw [kh_in (by decide) (by decide)]; rfl) (by decide) h0 h1, kh_set (v' := v) (N' := um N 51 (us (N 51) i x)) (T' := T) (by decide) (by decide) (by rfl) (fun j hj => kcell_n hj)]
theorem kh_n51 {K : Int → Prop} : aN (kh F v N T) (some 51) K ↔ K 301 := aN_s (n := 301) (by rw [kh_in (by decide) (by decide)]; rfl) (by decide) (by decide) (by decide)
theorem kh_r52 {i : Int} {K : Int → Prop} (h0 : 0 ≤ i) (h1 : i < 301) : aI (kh F v N T) (some 52) 0 i K ↔ K (N 52 i) := aI_s (n := 301) (by rw [kh_in (by decide) (by decide)]; rfl) (by decide) h0 h1
theorem kh_w52 {i x : Int} {K : hp → Prop} (h0 : 0 ≤ i) (h1 : i < 301) : sI (kh F v N T) (some 52) 0 i x K ↔ K (kh F v (um N 52 (us (N 52) i x)) T) := by
  rw [sI_s (n := 301) (f := N 52) (by rw [kh_in (by decide) (by decide)]; rfl) (by decide) h0 h1, kh_set (v' := v) (N' := um N 52 (us (N 52) i x)) (T' := T) (by decide) (by decide) (by rfl) (fun j hj => kcell_n hj)]
theorem kh_n52 {K : Int → Prop} : aN (kh F v N T) (some 52) K ↔ K 301 := aN_s (n := 301) (by rw [kh_in (by decide) (by decide)]; rfl) (by decide) (by decide) (by decide)
theorem kh_r53 {i : Int} {K : Int → Prop} (h0 : 0 ≤ i) (h1 : i < 300) : aI (kh F v N T) (some 53) 0 i K ↔ K (N 53 i) := aI_s (n := 300) (by rw [kh_in (by decide) (by decide)]; rfl) (by decide) h0 h1
theorem kh_w53 {i x : Int} {K : hp → Prop} (h0 : 0 ≤ i) (h1 : i < 300) : sI (kh F v N T) (some 53) 0 i x K ↔ K (kh F v (um N 53 (us (N 53) i x)) T) := by
  rw [sI_s (n := 300) (f := N 53) (by rw [kh_in (by decide) (by decide)]; rfl) (by decide) h0 h1, kh_set (v' := v) (N' := um N 53 (us (N 53) i x)) (T' := T) (by decide) (by decide) (by rfl) (fun j hj => kcell_n hj)]
theorem kh_n53 {K : Int → Prop} : aN (kh F v N T) (some 53) K ↔ K 300 := aN_s (n := 300) (by rw [kh_in (by decide) (by decide)]; rfl) (by decide) (by decide) (by decide)
theorem kh_r54 {i : Int} {K : Int → Prop} (h0 : 0 ≤ i) (h1 : i < 72) : aI (kh F v N T) (some 54) 0 i K ↔ K (N 54 i) := aI_s (n := 72) (by rw [kh_in (by decide) (by decide)]; rfl) (by decide) h0 h1
theorem kh_w54 {i x : Int} {K : hp → Prop} (h0 : 0 ≤ i) (h1 : i < 72) : sI (kh F v N T) (some 54) 0 i x K ↔ K (kh F v (um N 54 (us (N 54) i x)) T) := by
  rw [sI_s (n := 72) (f := N 54) (by rw [kh_in (by decide) (by decide)]; rfl) (by decide) h0 h1, kh_set (v' := v) (N' := um N 54 (us (N 54) i x)) (T' := T) (by decide) (by decide) (by rfl) (fun j hj => kcell_n hj)]
theorem kh_n54 {K : Int → Prop} : aN (kh F v N T) (some 54) K ↔ K 72 := aN_s (n := 72) (by rw [kh_in (by decide) (by decide)]; rfl) (by decide) (by decide) (by decide)
theorem kh_r55 {i : Int} {K : Int → Prop} (h0 : 0 ≤ i) (h1 : i < 4) : aI (kh F v N T) (some 55) 0 i K ↔ K (N 55 i) := aI_s (n := 4) (by rw [kh_in (by decide) (by decide)]; rfl) (by decide) h0 h1
theorem kh_w55 {i x : Int} {K : hp → Prop} (h0 : 0 ≤ i) (h1 : i < 4) : sI (kh F v N T) (some 55) 0 i x K ↔ K (kh F v (um N 55 (us (N 55) i x)) T) := by
  rw [sI_s (n := 4) (f := N 55) (by rw [kh_in (by decide) (by decide)]; rfl) (by decide) h0 h1, kh_set (v' := v) (N' := um N 55 (us (N 55) i x)) (T' := T) (by decide) (by decide) (by rfl) (fun j hj => kcell_n hj)]
theorem kh_n55 {K : Int → Prop} : aN (kh F v N T) (some 55) K ↔ K 4 := aN_s (n := 4) (by rw [kh_in (by decide) (by decide)]; rfl) (by decide) (by decide) (by decide)
theorem kh_c56 {K : Nat → Prop} : rcv (kh F v N T) (some 56) 4 K ↔ K 56 := rcv_s (by rw [kh_in (by decide) (by decide)]; rfl)
theorem kh_g56_0 {K : Option Nat → Prop} : gR (kh F v N T) (some 56) 4 0 K ↔ K (some 57) := gR_s (by rw [kh_in (by decide) (by decide)]; rfl) rfl
theorem kh_g56_1 {K : Option Nat → Prop} : gR (kh F v N T) (some 56) 4 1 K ↔ K (some 58) := gR_s (by rw [kh_in (by decide) (by decide)]; rfl) rfl
theorem kh_g56_2 {K : Option Nat → Prop} : gR (kh F v N T) (some 56) 4 2 K ↔ K (some 59) := gR_s (by rw [kh_in (by decide) (by decide)]; rfl) rfl
theorem kh_g56_3 {K : Option Nat → Prop} : gR (kh F v N T) (some 56) 4 3 K ↔ K (some 60) := gR_s (by rw [kh_in (by decide) (by decide)]; rfl) rfl
theorem kh_g56_4 {K : Option Nat → Prop} : gR (kh F v N T) (some 56) 4 4 K ↔ K (some 61) := gR_s (by rw [kh_in (by decide) (by decide)]; rfl) rfl
theorem kh_g56_5 {K : Int → Prop} : gI (kh F v N T) (some 56) 4 5 K ↔ K (v 56 5) := gI_s (by rw [kh_in (by decide) (by decide)]; rfl) rfl
theorem kh_p56_5 {x : Int} {K : hp → Prop} : pF (kh F v N T) (some 56) 4 5 (vi x) K ↔ K (kh F (vv v 56 5 x) N T) := by
  rw [pF_s (by rw [kh_in (by decide) (by decide)]; rfl) (by simp), kh_set (v' := vv v 56 5 x) (N' := N) (T' := T) (by decide) (by decide) (by rfl) (fun j hj => kcell_v hj)]
theorem kh_g56_6 {K : Int → Prop} : gI (kh F v N T) (some 56) 4 6 K ↔ K (v 56 6) := gI_s (by rw [kh_in (by decide) (by decide)]; rfl) rfl
theorem kh_p56_6 {x : Int} {K : hp → Prop} : pF (kh F v N T) (some 56) 4 6 (vi x) K ↔ K (kh F (vv v 56 6 x) N T) := by
  rw [pF_s (by rw [kh_in (by decide) (by decide)]; rfl) (by simp), kh_set (v' := vv v 56 6 x) (N' := N) (T' := T) (by decide) (by decide) (by rfl) (fun j hj => kcell_v hj)]
theorem kh_g56_7 {K : Int → Prop} : gI (kh F v N T) (some 56) 4 7 K ↔ K (v 56 7) := gI_s (by rw [kh_in (by decide) (by decide)]; rfl) rfl
theorem kh_p56_7 {x : Int} {K : hp → Prop} : pF (kh F v N T) (some 56) 4 7 (vi x) K ↔ K (kh F (vv v 56 7 x) N T) := by
  rw [pF_s (by rw [kh_in (by decide) (by decide)]; rfl) (by simp), kh_set (v' := vv v 56 7 x) (N' := N) (T' := T) (by decide) (by decide) (by rfl) (fun j hj => kcell_v hj)]
theorem kh_r57 {i : Int} {K : Int → Prop} (h0 : 0 ≤ i) (h1 : i < 2520) : aI (kh F v N T) (some 57) 0 i K ↔ K (N 57 i) := aI_s (n := 2520) (by rw [kh_in (by decide) (by decide)]; rfl) (by decide) h0 h1
theorem kh_w57 {i x : Int} {K : hp → Prop} (h0 : 0 ≤ i) (h1 : i < 2520) : sI (kh F v N T) (some 57) 0 i x K ↔ K (kh F v (um N 57 (us (N 57) i x)) T) := by
  rw [sI_s (n := 2520) (f := N 57) (by rw [kh_in (by decide) (by decide)]; rfl) (by decide) h0 h1, kh_set (v' := v) (N' := um N 57 (us (N 57) i x)) (T' := T) (by decide) (by decide) (by rfl) (fun j hj => kcell_n hj)]
theorem kh_n57 {K : Int → Prop} : aN (kh F v N T) (some 57) K ↔ K 2520 := aN_s (n := 2520) (by rw [kh_in (by decide) (by decide)]; rfl) (by decide) (by decide) (by decide)
theorem kh_r58 {i : Int} {K : Int → Prop} (h0 : 0 ≤ i) (h1 : i < 2520) : aI (kh F v N T) (some 58) 0 i K ↔ K (N 58 i) := aI_s (n := 2520) (by rw [kh_in (by decide) (by decide)]; rfl) (by decide) h0 h1
theorem kh_w58 {i x : Int} {K : hp → Prop} (h0 : 0 ≤ i) (h1 : i < 2520) : sI (kh F v N T) (some 58) 0 i x K ↔ K (kh F v (um N 58 (us (N 58) i x)) T) := by
  rw [sI_s (n := 2520) (f := N 58) (by rw [kh_in (by decide) (by decide)]; rfl) (by decide) h0 h1, kh_set (v' := v) (N' := um N 58 (us (N 58) i x)) (T' := T) (by decide) (by decide) (by rfl) (fun j hj => kcell_n hj)]
theorem kh_n58 {K : Int → Prop} : aN (kh F v N T) (some 58) K ↔ K 2520 := aN_s (n := 2520) (by rw [kh_in (by decide) (by decide)]; rfl) (by decide) (by decide) (by decide)
theorem kh_r59 {i : Int} {K : Int → Prop} (h0 : 0 ≤ i) (h1 : i < 1024) : aI (kh F v N T) (some 59) 0 i K ↔ K (N 59 i) := aI_s (n := 1024) (by rw [kh_in (by decide) (by decide)]; rfl) (by decide) h0 h1
theorem kh_w59 {i x : Int} {K : hp → Prop} (h0 : 0 ≤ i) (h1 : i < 1024) : sI (kh F v N T) (some 59) 0 i x K ↔ K (kh F v (um N 59 (us (N 59) i x)) T) := by
  rw [sI_s (n := 1024) (f := N 59) (by rw [kh_in (by decide) (by decide)]; rfl) (by decide) h0 h1, kh_set (v' := v) (N' := um N 59 (us (N 59) i x)) (T' := T) (by decide) (by decide) (by rfl) (fun j hj => kcell_n hj)]
theorem kh_n59 {K : Int → Prop} : aN (kh F v N T) (some 59) K ↔ K 1024 := aN_s (n := 1024) (by rw [kh_in (by decide) (by decide)]; rfl) (by decide) (by decide) (by decide)
theorem kh_r60 {i : Int} {K : Int → Prop} (h0 : 0 ≤ i) (h1 : i < 8) : aI (kh F v N T) (some 60) 0 i K ↔ K (N 60 i) := aI_s (n := 8) (by rw [kh_in (by decide) (by decide)]; rfl) (by decide) h0 h1
theorem kh_w60 {i x : Int} {K : hp → Prop} (h0 : 0 ≤ i) (h1 : i < 8) : sI (kh F v N T) (some 60) 0 i x K ↔ K (kh F v (um N 60 (us (N 60) i x)) T) := by
  rw [sI_s (n := 8) (f := N 60) (by rw [kh_in (by decide) (by decide)]; rfl) (by decide) h0 h1, kh_set (v' := v) (N' := um N 60 (us (N 60) i x)) (T' := T) (by decide) (by decide) (by rfl) (fun j hj => kcell_n hj)]
theorem kh_n60 {K : Int → Prop} : aN (kh F v N T) (some 60) K ↔ K 8 := aN_s (n := 8) (by rw [kh_in (by decide) (by decide)]; rfl) (by decide) (by decide) (by decide)
theorem kh_r61 {i : Int} {K : Int → Prop} (h0 : 0 ≤ i) (h1 : i < 3) : aI (kh F v N T) (some 61) 0 i K ↔ K (N 61 i) := aI_s (n := 3) (by rw [kh_in (by decide) (by decide)]; rfl) (by decide) h0 h1
theorem kh_w61 {i x : Int} {K : hp → Prop} (h0 : 0 ≤ i) (h1 : i < 3) : sI (kh F v N T) (some 61) 0 i x K ↔ K (kh F v (um N 61 (us (N 61) i x)) T) := by
  rw [sI_s (n := 3) (f := N 61) (by rw [kh_in (by decide) (by decide)]; rfl) (by decide) h0 h1, kh_set (v' := v) (N' := um N 61 (us (N 61) i x)) (T' := T) (by decide) (by decide) (by rfl) (fun j hj => kcell_n hj)]
theorem kh_n61 {K : Int → Prop} : aN (kh F v N T) (some 61) K ↔ K 3 := aN_s (n := 3) (by rw [kh_in (by decide) (by decide)]; rfl) (by decide) (by decide) (by decide)
theorem kh_c62 {K : Nat → Prop} : rcv (kh F v N T) (some 62) 1 K ↔ K 62 := rcv_s (by rw [kh_in (by decide) (by decide)]; rfl)
theorem kh_g62_0 {K : Option Nat → Prop} : gR (kh F v N T) (some 62) 1 0 K ↔ K (some 63) := gR_s (by rw [kh_in (by decide) (by decide)]; rfl) rfl
theorem kh_r63 {i : Int} {K : Int → Prop} (h0 : 0 ≤ i) (h1 : i < 5) : aI (kh F v N T) (some 63) 0 i K ↔ K (N 63 i) := aI_s (n := 5) (by rw [kh_in (by decide) (by decide)]; rfl) (by decide) h0 h1
theorem kh_w63 {i x : Int} {K : hp → Prop} (h0 : 0 ≤ i) (h1 : i < 5) : sI (kh F v N T) (some 63) 0 i x K ↔ K (kh F v (um N 63 (us (N 63) i x)) T) := by
  rw [sI_s (n := 5) (f := N 63) (by rw [kh_in (by decide) (by decide)]; rfl) (by decide) h0 h1, kh_set (v' := v) (N' := um N 63 (us (N 63) i x)) (T' := T) (by decide) (by decide) (by rfl) (fun j hj => kcell_n hj)]
theorem kh_n63 {K : Int → Prop} : aN (kh F v N T) (some 63) K ↔ K 5 := aN_s (n := 5) (by rw [kh_in (by decide) (by decide)]; rfl) (by decide) (by decide) (by decide)
theorem kh_c64 {K : Nat → Prop} : rcv (kh F v N T) (some 64) 0 K ↔ K 64 := rcv_s (by rw [kh_in (by decide) (by decide)]; rfl)
theorem kh_g64_0 {K : Option Nat → Prop} : gR (kh F v N T) (some 64) 0 0 K ↔ K (some 65) := gR_s (by rw [kh_in (by decide) (by decide)]; rfl) rfl
theorem kh_g64_1 {K : Option Nat → Prop} : gR (kh F v N T) (some 64) 0 1 K ↔ K (some 66) := gR_s (by rw [kh_in (by decide) (by decide)]; rfl) rfl
theorem kh_r65 {i : Int} {K : Int → Prop} (h0 : 0 ≤ i) (h1 : i < 64) : aI (kh F v N T) (some 65) 0 i K ↔ K (N 65 i) := aI_s (n := 64) (by rw [kh_in (by decide) (by decide)]; rfl) (by decide) h0 h1
theorem kh_w65 {i x : Int} {K : hp → Prop} (h0 : 0 ≤ i) (h1 : i < 64) : sI (kh F v N T) (some 65) 0 i x K ↔ K (kh F v (um N 65 (us (N 65) i x)) T) := by
  rw [sI_s (n := 64) (f := N 65) (by rw [kh_in (by decide) (by decide)]; rfl) (by decide) h0 h1, kh_set (v' := v) (N' := um N 65 (us (N 65) i x)) (T' := T) (by decide) (by decide) (by rfl) (fun j hj => kcell_n hj)]
theorem kh_n65 {K : Int → Prop} : aN (kh F v N T) (some 65) K ↔ K 64 := aN_s (n := 64) (by rw [kh_in (by decide) (by decide)]; rfl) (by decide) (by decide) (by decide)
theorem kh_r66 {i : Int} {K : Int → Prop} (h0 : 0 ≤ i) (h1 : i < 64) : aI (kh F v N T) (some 66) 0 i K ↔ K (N 66 i) := aI_s (n := 64) (by rw [kh_in (by decide) (by decide)]; rfl) (by decide) h0 h1
theorem kh_w66 {i x : Int} {K : hp → Prop} (h0 : 0 ≤ i) (h1 : i < 64) : sI (kh F v N T) (some 66) 0 i x K ↔ K (kh F v (um N 66 (us (N 66) i x)) T) := by
  rw [sI_s (n := 64) (f := N 66) (by rw [kh_in (by decide) (by decide)]; rfl) (by decide) h0 h1, kh_set (v' := v) (N' := um N 66 (us (N 66) i x)) (T' := T) (by decide) (by decide) (by rfl) (fun j hj => kcell_n hj)]
theorem kh_n66 {K : Int → Prop} : aN (kh F v N T) (some 66) K ↔ K 64 := aN_s (n := 64) (by rw [kh_in (by decide) (by decide)]; rfl) (by decide) (by decide) (by decide)
theorem kh_c67 {K : Nat → Prop} : rcv (kh F v N T) (some 67) 10 K ↔ K 67 := rcv_s (by rw [kh_in (by decide) (by decide)]; rfl)
theorem kh_g67_0 {K : Option Nat → Prop} : gR (kh F v N T) (some 67) 10 0 K ↔ K (some 68) := gR_s (by rw [kh_in (by decide) (by decide)]; rfl) rfl
theorem kh_r68 {i : Int} {K : Int → Prop} (h0 : 0 ≤ i) (h1 : i < 60) : aI (kh F v N T) (some 68) 0 i K ↔ K (N 68 i) := aI_s (n := 60) (by rw [kh_in (by decide) (by decide)]; rfl) (by decide) h0 h1
theorem kh_w68 {i x : Int} {K : hp → Prop} (h0 : 0 ≤ i) (h1 : i < 60) : sI (kh F v N T) (some 68) 0 i x K ↔ K (kh F v (um N 68 (us (N 68) i x)) T) := by
  rw [sI_s (n := 60) (f := N 68) (by rw [kh_in (by decide) (by decide)]; rfl) (by decide) h0 h1, kh_set (v' := v) (N' := um N 68 (us (N 68) i x)) (T' := T) (by decide) (by decide) (by rfl) (fun j hj => kcell_n hj)]
theorem kh_n68 {K : Int → Prop} : aN (kh F v N T) (some 68) K ↔ K 60 := aN_s (n := 60) (by rw [kh_in (by decide) (by decide)]; rfl) (by decide) (by decide) (by decide)
end KH
