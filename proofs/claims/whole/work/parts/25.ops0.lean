-- ===== what a call owes =====
def OP (n : Int) (cl rf : hp → (Int → hp → Prop) → Prop) : Prop := ∀ G v N T u M, Rel n G v N T u M → ∃ r G' v' N' T' u' M', Rel (n + 1) G' v' N' T' u' M' ∧ (∀ Q : Int → hp → Prop, Q r (kh (rh G' u M) v' N' T') → cl (kh (rh G u M) v N T) Q) ∧ (∀ Q : Int → hp → Prop, Q r (rh (kh G' v' N' T') u' M') → rf (rh (kh G' v' N' T') u M) Q)
theorem jB_up {n : Int} {B A : Int → Int} (h : jB n B A) : jB (n + 1) B A := ⟨fun r h0 h1 => ⟨(h.1 r h0 h1).1, by have := (h.1 r h0 h1).2; omega, by have := (h.1 r h0 h1).2; omega⟩, h.2⟩
theorem Rel_up {n : Int} {G : hp} {v : Nat → Nat → Int} {N : Nat → Int → Int} {T : Nat → Int → Option Nat} {u : Nat → Int} {M : Nat → Int → Int} (h : Rel n G v N T u M) : Rel (n + 1) G v N T u M := by
  obtain ⟨⟨a1, a2, a3, a4, a5, a6⟩, ⟨b1, b2, b3, b4, b5, b6⟩, c⟩ := h
  exact ⟨⟨a1, a2, a3, a4, jB_up a5, a6⟩, ⟨b1, b2, b3, b4, jB_up b5, b6⟩, c⟩
-- a call that changes nothing that is held
theorem op_same {n : Int} {cl rf : hp → (Int → hp → Prop) → Prop} (k : ∀ G v N T u M, Rel n G v N T u M → ∃ r : Int, (∀ (F : hp) (Q : Int → hp → Prop), Q r (kh F v N T) → cl (kh F v N T) Q) ∧ (∀ (F : hp) (Q : Int → hp → Prop), Q r (rh F u M) → rf (rh F u M) Q)) : OP n cl rf := by
  intro G v N T u M h
  obtain ⟨r, k1, k2⟩ := k G v N T u M h
  exact ⟨r, G, v, N, T, u, M, Rel_up h, k1 _, k2 _⟩
theorem op_to {n : Int} {cl rf : hp → (Int → hp → Prop) → Prop} (k : ∀ G v N T u M, Rel n G v N T u M → ∃ (r : Int) (v' : Nat → Nat → Int) (N' : Nat → Int → Int) (u' : Nat → Int) (M' : Nat → Int → Int), Rel (n + 1) G v' N' T u' M' ∧ (∀ (F : hp) (Q : Int → hp → Prop), Q r (kh F v' N' T) → cl (kh F v N T) Q) ∧ (∀ (F : hp) (Q : Int → hp → Prop), Q r (rh F u' M') → rf (rh F u M) Q)) : OP n cl rf := by
  intro G v N T u M h
  obtain ⟨r, v', N', u', M', h', k1, k2⟩ := k G v N T u M h
  exact ⟨r, G, v', N', T, u', M', h', k1 _, k2 _⟩
-- what each part reads of the reference's row
theorem za_rng {k : Int} (h0 : 0 ≤ k) (h1 : k < 60) : za (zs k) = 0 ∨ (7 ≤ za (zs k) ∧ za (zs k) < 36) ∨ (1924 ≤ za (zs k) ∧ za (zs k) < 1954) := by
  unfold za zs
  split <;> split <;> (repeat' split) <;> omega
theorem jY_A {Y A A' : Int → Int} (e : ∀ i, i = 0 ∨ (7 ≤ i ∧ i < 36) ∨ (1924 ≤ i ∧ i < 1954) → A' i = A i) (h : jY Y A) : jY Y A' := by
  refine ⟨fun k h0 h1 => ?_, h.2.1, fun i h0 h1 => ?_⟩
  · rw [h.1 k h0 h1]
    show _ = zp k (A' (za (zs k)))
    rw [e _ (za_rng h0 h1)]
  · show 0 ≤ A' (za i) ∧ A' (za i) < 540000
    rw [e (za i) (by unfold za; split <;> (repeat' split) <;> omega)]
    exact h.2.2 i h0 h1
theorem jK_A {e k : Int} {K A A' : Int → Int} (g : ∀ i, i = 0 ∨ i = 3 ∨ (124 ≤ i ∧ i < 1924) → A' i = A i) (h : jK e k K A) : jK e k K A' := by
  have e3 : A' 3 = A 3 := g 3 (by omega)
  refine ⟨h.1, by rw [e3]; exact h.2.1, fun j h0 h1 => ?_⟩
  rw [e3] at h1
  obtain ⟨⟨r1, r2, r3⟩, r4⟩ := h.2.2 j h0 h1
  have b := h.2.1
  refine ⟨⟨fun k h0 h1 => ?_, r2, fun i h0 h1 => ?_⟩, ?_⟩
  · rw [r1 k h0 h1]
    show _ = zp k (A' (124 + 60 * j + zs k))
    rw [g (124 + 60 * j + zs k) (by unfold zs; split <;> (repeat' split) <;> omega)]
  · show 0 ≤ A' (124 + 60 * j + i) ∧ A' (124 + 60 * j + i) < 540000
    rw [g (124 + 60 * j + i) (by omega)]
    exact r3 i h0 h1
  · rw [g (124 + 60 * j) (by omega), g 0 (by omega)]
    exact r4
theorem jC_A {C1 C2 C3 C4 C5 A A' : Int → Int} (g : ∀ i, i = 0 ∨ (36 ≤ i ∧ i < 56) ∨ (103 ≤ i ∧ i < 108) → A' i = A i) (h : jC C1 C2 C3 C4 C5 A) : jC C1 C2 C3 C4 C5 A' := by
  intro c h0 h1
  rw [g (36 + c) (by omega), g (41 + c) (by omega), g (46 + c) (by omega), g (51 + c) (by omega), g (103 + c) (by omega), g 0 (by omega)]
  exact h c h0 h1
theorem jF_A {f : Int} {A A' : Int → Int} (g : ∀ i, 56 ≤ i ∧ i < 60 → A' i = A i) (h : jF f A) : jF f A' := by
  refine ⟨h.1, fun k h0 h1 => ?_⟩
  rw [g (56 + k) (by omega)]
  exact h.2 k h0 h1
theorem jB_A {n : Int} {B A A' : Int → Int} (g : ∀ i, 61 ≤ i ∧ i < 67 → A' i = A i) (h : jB n B A) : jB n B A' := by
  refine ⟨fun r h0 h1 => ?_, ?_⟩
  · rw [g (61 + r) (by omega)]
    exact h.1 r h0 h1
  · rw [g 61 (by omega), g 62 (by omega), g 63 (by omega), g 64 (by omega), g 65 (by omega), g 66 (by omega)]
    exact h.2
theorem jT_A {m s : Int} {R A A' : Int → Int} (g : ∀ i, i = 4 ∨ (67 ≤ i ∧ i < 91) → A' i = A i) (h : jT m s R A) : jT m s R A' := by
  refine ⟨h.1, by rw [g 4 (by omega)]; exact h.2.1, fun i h0 h1 => ?_⟩
  rw [g (67 + i) (by omega)]
  exact h.2.2 i h0 h1
theorem jS_A {m s : Int} {R A A' : Int → Int} (g : ∀ i, i = 5 ∨ (91 ≤ i ∧ i < 103) → A' i = A i) (h : jS m s R A) : jS m s R A' := by
  refine ⟨h.1, by rw [g 5 (by omega)]; exact h.2.1, fun i h0 h1 => ?_⟩
  rw [g (91 + 3 * i) (by omega), g (91 + 3 * i + 1) (by omega), g (91 + 3 * i + 2) (by omega)]
  exact h.2.2 i h0 h1
theorem jD_A {m s : Int} {R A A' : Int → Int} (g : ∀ i, i = 6 ∨ (108 ≤ i ∧ i < 124) → A' i = A i) (h : jD m s R A) : jD m s R A' := by
  refine ⟨h.1, by rw [g 6 (by omega)]; exact h.2.1, fun i h0 h1 => ?_⟩
  rw [g (108 + 2 * i) (by omega), g (108 + 2 * i + 1) (by omega)]
  exact h.2.2 i h0 h1
theorem jX_A {x1 x2 x3 : Int} {A A' : Int → Int} (g : ∀ i, i = 1 ∨ i = 2 ∨ i = 60 → A' i = A i) (h : jX x1 x2 x3 A) : jX x1 x2 x3 A' := by
  unfold jX
  rw [g 1 (by omega), g 2 (by omega), g 60 (by omega)]
  exact h
theorem jG_A {G : hp} {T : Int → Option Nat} {X A A' : Int → Int} (g : A' 1 = A 1) (h : jG G T X A) : jG G T X A' := by
  intro k h0 h1
  rw [g] at h1
  exact h k h0 h1
-- what the yard's part says
theorem jY_d {Y A : Int → Int} (h : jY Y A) : (Y 0 = A 7 ∧ Y 1 = A 8 ∧ Y 2 = A 9 ∧ Y 3 = A 10 ∧ Y 4 = A 0 ∧ Y 5 = A 30 ∧ Y 29 = A 11) ∧ (∀ c, 0 ≤ c → c < 5 → Y (6 + c) = A (31 + c) ∧ 0 ≤ A (31 + c) ∧ A (31 + c) ≤ 9) ∧ (∀ t, 0 ≤ t → t < 3 → Y (11 + t) = A (12 + t) ∧ 0 ≤ A (12 + t) ∧ A (12 + t) ≤ 5) ∧ (∀ j, 0 ≤ j → j < 15 → Y (14 + j) = A (15 + j)) ∧ (∀ i, 0 ≤ i → i < 30 → Y (30 + i) = pk (A (1924 + i)) ∧ 0 ≤ A (1924 + i) ∧ A (1924 + i) < 540000) ∧ (0 ≤ A 7 ∧ A 7 ≤ 9999) ∧ (0 ≤ A 8 ∧ A 8 ≤ 30850) ∧ (0 ≤ A 9 ∧ A 9 ≤ 9) ∧ (0 ≤ A 10 ∧ A 10 ≤ 9) ∧ (0 ≤ A 0 ∧ A 0 ≤ 5) ∧ (0 ≤ A 30 ∧ A 30 ≤ 31) ∧ (0 ≤ A 11 ∧ A 11 ≤ 30) := by
  obtain ⟨h1, h2, h3⟩ := h
  have e0 : Y 0 = A 7 := h1 0 (by omega) (by omega)
  have e1 : Y 1 = A 8 := h1 1 (by omega) (by omega)
  have e2 : Y 2 = A 9 := h1 2 (by omega) (by omega)
  have e3 : Y 3 = A 10 := h1 3 (by omega) (by omega)
  have e4 : Y 4 = A 0 := h1 4 (by omega) (by omega)
  have e5 : Y 5 = A 30 := h1 5 (by omega) (by omega)
  have e6 : Y 29 = A 11 := h1 29 (by omega) (by omega)
  obtain ⟨y0, y1, y2, y3, y4, y5, y6, y7, y8, y9⟩ := h2
  rw [e0] at y0; rw [e1] at y1; rw [e2] at y2; rw [e3] at y3; rw [e4] at y4; rw [e5] at y5; rw [e6] at y6
  refine ⟨⟨e0, e1, e2, e3, e4, e5, e6⟩, fun c g0 g1 => ?_, fun c g0 g1 => ?_, fun c g0 g1 => ?_, fun c g0 g1 => ?_, y0, y1, y2, y3, y4, y5, y6⟩
  · have g := h1 (6 + c) (by omega) (by omega)
    have e : zs (6 + c) = 25 + c := by unfold zs; repeat' (split <;> try omega)
    have e' : za (25 + c) = 31 + c := by unfold za; repeat' (split <;> try omega)
    simp only [e, e', zp, show 6 + c < 30 by omega, if_true] at g
    have b := y7 c g0 g1
    rw [g] at b
    exact ⟨g, b⟩
  · have g := h1 (11 + c) (by omega) (by omega)
    have e : zs (11 + c) = 6 + c := by unfold zs; repeat' (split <;> try omega)
    have e' : za (6 + c) = 12 + c := by unfold za; repeat' (split <;> try omega)
    simp only [e, e', zp, show 11 + c < 30 by omega, if_true] at g
    have b := y8 c g0 g1
    rw [g] at b
    exact ⟨g, b⟩
  · have g := h1 (14 + c) (by omega) (by omega)
    have e : zs (14 + c) = 9 + c := by unfold zs; repeat' (split <;> try omega)
    have e' : za (9 + c) = 15 + c := by unfold za; repeat' (split <;> try omega)
    simp only [e, e', zp, show 14 + c < 30 by omega, if_true] at g
    exact g
  · have g := h1 (30 + c) (by omega) (by omega)
    have b := h3 (30 + c) (by omega) (by omega)
    have e : zs (30 + c) = 30 + c := by unfold zs; repeat' (split <;> try omega)
    have e' : za (30 + c) = 1924 + c := by unfold za; repeat' (split <;> try omega)
    simp only [e, e', zp, show ¬ 30 + c < 30 by omega, if_false] at g
    simp only [e'] at b
    exact ⟨g, b⟩
theorem jY_c {Y A : Int → Int} (h : jY Y A) : Y 4 = A 0 ∧ 0 ≤ A 0 ∧ A 0 ≤ 5 := ⟨(jY_d h).1.2.2.2.2.1, (jY_d h).2.2.2.2.2.2.2.2.2.1⟩
