-- ===== conditions, decided in one step =====
section BR
variable {a b : Int} {X Y : Prop}
theorem be_y (h : (-2147483648 ≤ a ∧ a ≤ 2147483647) ∧ a = b) : ((w32 a = b → X) ∧ (¬ w32 a = b → Y)) ↔ X := by rw [w32_id h.1.1 h.1.2]; exact ⟨fun k => k.1 h.2, fun k => ⟨fun _ => k, fun n => absurd h.2 n⟩⟩
theorem be_n (h : (-2147483648 ≤ a ∧ a ≤ 2147483647) ∧ a ≠ b) : ((w32 a = b → X) ∧ (¬ w32 a = b → Y)) ↔ Y := by rw [w32_id h.1.1 h.1.2]; exact ⟨fun k => k.2 h.2, fun k => ⟨fun n => absurd n h.2, fun _ => k⟩⟩
theorem bf_y (h : (-2147483648 ≤ a ∧ a ≤ 2147483647 ∧ -2147483648 ≤ b ∧ b ≤ 2147483647) ∧ a = b) : ((w32 a = w32 b → X) ∧ (¬ w32 a = w32 b → Y)) ↔ X := by rw [w32_id h.1.2.2.1 h.1.2.2.2]; exact be_y ⟨⟨h.1.1, h.1.2.1⟩, h.2⟩
theorem bf_n (h : (-2147483648 ≤ a ∧ a ≤ 2147483647 ∧ -2147483648 ≤ b ∧ b ≤ 2147483647) ∧ a ≠ b) : ((w32 a = w32 b → X) ∧ (¬ w32 a = w32 b → Y)) ↔ Y := by rw [w32_id h.1.2.2.1 h.1.2.2.2]; exact be_n ⟨⟨h.1.1, h.1.2.1⟩, h.2⟩
theorem bl_y (h : (-2147483648 ≤ a ∧ a ≤ 2147483647) ∧ a < b) : ((w32 a < b → X) ∧ (¬ w32 a < b → Y)) ↔ X := by rw [w32_id h.1.1 h.1.2]; exact ⟨fun k => k.1 h.2, fun k => ⟨fun _ => k, fun n => absurd h.2 n⟩⟩
theorem bl_n (h : (-2147483648 ≤ a ∧ a ≤ 2147483647) ∧ b ≤ a) : ((w32 a < b → X) ∧ (¬ w32 a < b → Y)) ↔ Y := by rw [w32_id h.1.1 h.1.2]; exact ⟨fun k => k.2 (by omega), fun k => ⟨fun n => absurd h.2 (by omega), fun _ => k⟩⟩
theorem bm_y (h : (-2147483648 ≤ a ∧ a ≤ 2147483647 ∧ -2147483648 ≤ b ∧ b ≤ 2147483647) ∧ a < b) : ((w32 a < w32 b → X) ∧ (¬ w32 a < w32 b → Y)) ↔ X := by rw [w32_id h.1.2.2.1 h.1.2.2.2]; exact bl_y ⟨⟨h.1.1, h.1.2.1⟩, h.2⟩
theorem bm_n (h : (-2147483648 ≤ a ∧ a ≤ 2147483647 ∧ -2147483648 ≤ b ∧ b ≤ 2147483647) ∧ b ≤ a) : ((w32 a < w32 b → X) ∧ (¬ w32 a < w32 b → Y)) ↔ Y := by rw [w32_id h.1.2.2.1 h.1.2.2.2]; exact bl_n ⟨⟨h.1.1, h.1.2.1⟩, h.2⟩
theorem bg_y (h : (-2147483648 ≤ b ∧ b ≤ 2147483647) ∧ a < b) : ((a < w32 b → X) ∧ (¬ a < w32 b → Y)) ↔ X := by rw [w32_id h.1.1 h.1.2]; exact ⟨fun k => k.1 h.2, fun k => ⟨fun _ => k, fun n => absurd h.2 n⟩⟩
theorem bg_n (h : (-2147483648 ≤ b ∧ b ≤ 2147483647) ∧ b ≤ a) : ((a < w32 b → X) ∧ (¬ a < w32 b → Y)) ↔ Y := by rw [w32_id h.1.1 h.1.2]; exact ⟨fun k => k.2 (by omega), fun k => ⟨fun n => absurd h.2 (by omega), fun _ => k⟩⟩
-- one of several, by number
theorem bs_y (h : (-2147483648 ≤ a ∧ a ≤ 2147483647) ∧ a = b) : (w32 a = b → X) ↔ X := by rw [w32_id h.1.1 h.1.2]; exact ⟨fun k => k h.2, fun k _ => k⟩
theorem bs_n (h : (-2147483648 ≤ a ∧ a ≤ 2147483647) ∧ a ≠ b) : (w32 a = b → X) ↔ True := by rw [w32_id h.1.1 h.1.2]; exact ⟨fun _ => trivial, fun _ n => absurd n h.2⟩
theorem bo_y {c : Int} (h : (-2147483648 ≤ a ∧ a ≤ 2147483647) ∧ (a < b ∨ c < a)) : (w32 a < b ∨ c < w32 a → X) ↔ X := by rw [w32_id h.1.1 h.1.2]; exact ⟨fun k => k h.2, fun k _ => k⟩
theorem bo_n {c : Int} (h : (-2147483648 ≤ a ∧ a ≤ 2147483647) ∧ b ≤ a ∧ a ≤ c) : (w32 a < b ∨ c < w32 a → X) ↔ True := by rw [w32_id h.1.1 h.1.2]; exact ⟨fun _ => trivial, fun _ n => absurd n (by omega)⟩
theorem bp_y {c : Prop} (h : c) : ((c → X) ∧ (¬ c → Y)) ↔ X := ⟨fun k => k.1 h, fun k => ⟨fun _ => k, fun n => absurd h n⟩⟩
theorem bp_n {c : Prop} (h : ¬ c) : ((c → X) ∧ (¬ c → Y)) ↔ Y := ⟨fun k => k.2 h, fun k => ⟨fun n => absurd n h, fun _ => k⟩⟩
theorem us_if {α : Type} (f : Int → α) (i j : Int) (x : α) : us f i x j = if j = i then x else f j := rfl
theorem if_y {α : Type} {p : Prop} [Decidable p] {x y : α} (h : p) : (if p then x else y) = x := if_pos h
theorem if_n {α : Type} {p : Prop} [Decidable p] {x y : α} (h : ¬ p) : (if p then x else y) = y := if_neg h
end BR
