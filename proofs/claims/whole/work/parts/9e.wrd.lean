-- ===== the class's words and signs =====
def wch : List Int := wds.flatMap (fun w => w ++ [32])
set_option maxRecDepth 20000 in
theorem wch_t : wch.length = 142 ∧ ∀ i : Nat, i < 142 → iC (iAnd (bytS 3 i) 255) = wch.getD i 0 ∧ 0 ≤ wch.getD i 0 ∧ wch.getD i 0 ≤ 127 := by decide +kernel
def sgl : List Int := [60, 62, 61, 35, 43, 45, 42, 47, 40, 41, 59]
theorem sgl_t : ∀ i : Nat, i < 11 → bytS 4 i = sgl.getD i 0 := by decide +kernel
def fnd (r : Int) : Nat → Nat → Int
  | 0, _ => -1
  | k + 1, i => if sgl.getD i 0 = r then (i : Int) else fnd r k (i + 1)
set_option maxRecDepth 20000 in
theorem fnd_t : ∀ r : Nat, r < 128 → (fnd r 11 0 = if sgn r = 45 then -1 else sgn r - 30) ∧ iC (r : Int) = r ∧ iB (r : Int) = r := by decide +kernel
theorem sgl_b : ∀ i : Nat, i < 11 → 0 ≤ sgl.getD i 0 ∧ sgl.getD i 0 ≤ 127 := by decide +kernel
theorem char_c {F : hp} {i : Nat} (hi : i < 142) {Q : Int → hp → Prop} (q : Q (wch.getD i 0) F) : mJ0_charAt_5068e 1 (i : Int) F Q := by
  have t := wch_t.2 i hi
  unfold mJ0_charAt_5068e
  refine ⟨1, rfl, .inl rfl, ?_⟩
  unfold mJ0_isLatin1_aae02
  refine ⟨fun h => absurd h (by decide), fun _ => ⟨.inl rfl, ⟨fun _ => ?_, fun h => absurd rfl h⟩⟩⟩
  refine ⟨fun h => absurd h (by decide), fun _ => .inl ⟨rfl, ?_⟩⟩
  unfold mJ1_charAt_3b067
  refine .inl ⟨rfl, fun x => ?_⟩
  unfold mJ3_checkIndex_8e157
  rw [w32_id (x := (i : Int)) (by omega) (by omega)]
  refine ⟨fun h => by omega, fun _ => ⟨fun _ => ?_, fun h => absurd (show (i : Int) < w32 142 by rw [w32_id (by decide) (by decide)]; omega) h⟩⟩
  refine ⟨3, rfl, .inl rfl, ⟨by omega, by show (i : Int) < 142; omega⟩, ?_⟩
  dsimp only
  rw [t.1]
  exact ⟨⟨t.2.1, by omega⟩, ⟨t.2.1, by omega⟩, q⟩
theorem len_c {F : hp} {Q : Int → hp → Prop} (q : Q 142 F) : mJ0_length_8abf5 1 F Q := by
  unfold mJ0_length_8abf5
  refine .inl ⟨rfl, .inl ⟨rfl, ⟨1, rfl, .inl rfl, ?_⟩⟩⟩
  unfold mJ0_coder_7d493
  refine ⟨fun h => absurd h (by decide), fun _ => ⟨.inl rfl, rfl, ?_⟩⟩
  dsimp only
  rw [show iShr 142 0 = 142 by decide]
  exact q
theorem ix_l {F : hp} {r : Int} (hr : 0 ≤ r ∧ r ≤ 127) {Q : Int → hp → Prop} : ∀ (k i : Nat), i + k = 11 → Q (fnd r k i) F → mJ1_indexOfChar_4cfef_L7 Q (k + 1) (some 4) 11 r i F := by
  intro k
  induction k with
  | zero =>
    intro i hi q
    obtain rfl : i = 11 := by omega
    rw [mJ1_indexOfChar_4cfef_L7]
    exact ⟨fun h => absurd h (by decide), fun _ => q⟩
  | succ k ih =>
    intro i hi q
    rw [mJ1_indexOfChar_4cfef_L7]
    have b := sgl_b i (by omega)
    have e := sgl_t i (by omega)
    rw [fnd] at q
    refine ⟨fun _ => ⟨4, rfl, .inr rfl, ⟨by omega, by show (i : Int) < 11; omega⟩, ?_⟩, fun h => absurd (show w32 (i : Int) < w32 11 by rw [w32_id (by omega) (by omega), w32_id (by decide) (by decide)]; omega) h⟩
    dsimp only
    rw [e, w32_id (x := sgl.getD i 0) (by omega) (by omega), w32_id (x := r) (by omega) (by omega)]
    by_cases d : sgl.getD i 0 = r
    · rw [if_pos d] at q
      exact ⟨fun _ => q, fun h => absurd d h⟩
    · rw [if_neg d] at q
      refine ⟨fun h => absurd h d, fun _ => ?_⟩
      have g := ih (i + 1) (by omega) q
      rw [show ((i + 1 : Nat) : Int) = (i : Int) + 1 by omega] at g
      exact g
theorem ix_c {F : hp} {r : Int} (hr : 0 ≤ r ∧ r ≤ 127) {Q : Int → hp → Prop} (q : Q (if sgn r = 45 then -1 else sgn r - 30) F) : mJ0_indexOf_0f7a4 2 (iC r) F Q := by
  have t := fnd_t r.toNat (by omega)
  rw [Int.toNat_of_nonneg hr.1] at t
  rw [← t.1] at q
  rw [t.2.1]
  unfold mJ0_indexOf_0f7a4 mJ0_indexOf_7cf53
  refine ⟨2, rfl, .inr rfl, 2, rfl, .inr rfl, ?_⟩
  unfold mJ0_isLatin1_aae02
  refine ⟨fun h => absurd h (by decide), fun _ => ⟨.inr rfl, ⟨fun _ => ?_, fun h => absurd rfl h⟩⟩⟩
  refine ⟨fun h => absurd h (by decide), fun _ => .inr ⟨rfl, 2, rfl, .inr rfl, ?_⟩⟩
  unfold mJ0_length_8abf5
  refine .inr ⟨rfl, .inr ⟨rfl, ⟨2, rfl, .inr rfl, ?_⟩⟩⟩
  unfold mJ0_coder_7d493
  refine ⟨fun h => absurd h (by decide), fun _ => ⟨.inr rfl, rfl, ?_⟩⟩
  dsimp only
  rw [show iShr 11 0 = 11 by decide]
  unfold mJ1_indexOf_4cfef mJ1_canEncode_9a6ad
  rw [w32_id (x := r) (by omega) (by omega)]
  refine ⟨fun h => by omega, fun _ => ⟨fun h => by omega, fun _ => ⟨fun h => absurd h (by decide), fun _ => ?_⟩⟩⟩
  intro v1 hv1
  refine .inr ⟨rfl, fun v2 hv2 => ?_⟩
  have e1 : v1 = 0 := by rw [hv1]; decide
  have e2 : v2 = 11 := by rw [hv2]; decide
  subst e1 e2
  refine ⟨fun _ => ?_, fun h => absurd (by decide) h⟩
  unfold mJ1_indexOfChar_4cfef
  intro v3 hv3
  rw [t.2.2] at hv3
  subst hv3
  exact ⟨12, ix_l hr 11 0 rfl q⟩
-- which word a row of letters is
def wg2 (c : Int) : Option (List Int) → Option (List Int)
  | none => none
  | some [] => none
  | some (x :: r) => if x = c then some r else none
def wgo (l : List Int) : List Int → Int → Option (List Int) → Int
  | [], _, _ => 45
  | c :: cs, w, s => if c = 32 then (if s = some [] then w else wgo l cs (w + 1) (some l)) else wgo l cs w (wg2 c s)
theorem wgo_n {l cs : List Int} : ∀ (w : List Int) (i : Int), (∀ c, c ∈ w → c ≠ 32) → wgo l (w ++ 32 :: cs) i none = wgo l cs (i + 1) (some l)
  | [], i, _ => by rw [List.nil_append, wgo, if_pos rfl, if_neg (by simp)]
  | c :: w, i, h => by
    rw [List.cons_append, wgo, if_neg (h c List.mem_cons_self)]
    exact wgo_n w i (fun d hd => h d (List.mem_cons_of_mem _ hd))
theorem wgo_s {l cs : List Int} : ∀ (w r : List Int) (i : Int), (∀ c, c ∈ w → c ≠ 32) → wgo l (w ++ 32 :: cs) i (some r) = if r = w then i else wgo l cs (i + 1) (some l)
  | [], [], i, _ => by rw [List.nil_append, wgo, if_pos rfl, if_pos rfl, if_pos rfl]
  | [], x :: r, i, _ => by rw [List.nil_append, wgo, if_pos rfl, if_neg (by simp), if_neg (by simp)]
  | c :: w, [], i, h => by
    rw [List.cons_append, wgo, if_neg (h c List.mem_cons_self), if_neg (by simp)]
    exact wgo_n w i (fun d hd => h d (List.mem_cons_of_mem _ hd))
  | c :: w, x :: r, i, h => by
    rw [List.cons_append, wgo, if_neg (h c List.mem_cons_self), wg2]
    by_cases e : x = c
    · rw [if_pos e, wgo_s w r i (fun d hd => h d (List.mem_cons_of_mem _ hd))]
      by_cases f : r = w
      · rw [if_pos f, if_pos (by rw [e, f])]
      · rw [if_neg f, if_neg (fun t => f (List.cons.inj t).2)]
    · rw [if_neg e, if_neg (fun t => e (List.cons.inj t).1)]
      exact wgo_n w i (fun d hd => h d (List.mem_cons_of_mem _ hd))
theorem wgo_a {l : List Int} : ∀ (ws : List (List Int)) (i : Int), (∀ w, w ∈ ws → ∀ c, c ∈ w → c ≠ 32) → wgo l (ws.flatMap (fun w => w ++ [32])) i (some l) = (match ws.findIdx? (fun w => w == l) with
    | some k => i + (k : Int)
    | none => 45)
  | [], i, _ => rfl
  | w :: ws, i, h => by
    rw [List.flatMap_cons, List.append_assoc, List.singleton_append, wgo_s w l i (h w List.mem_cons_self), List.findIdx?_cons]
    by_cases e : l = w
    · rw [if_pos e, if_pos (beq_iff_eq.2 e.symm)]; simp
    · rw [if_neg e, if_neg (fun t => e (beq_iff_eq.1 t).symm), wgo_a ws (i + 1) (fun v hv => h v (List.mem_cons_of_mem _ hv))]
      cases ws.findIdx? (fun w => w == l) with
      | none => rfl
      | some k =>
        simp only [Option.map_some]
        show i + 1 + (k : Int) = i + ((k + 1 : Nat) : Int)
        omega
theorem wds_32 : wds.all (fun w => w.all (fun c => c != 32)) = true := by decide +kernel
theorem wgo_w (l : List Int) : wgo l wch 0 (some l) = wcd l := by
  unfold wch
  rw [wgo_a wds 0 (fun w hw c hc => by
    have := List.all_eq_true.1 (List.all_eq_true.1 wds_32 w hw) c hc
    exact bne_iff_ne.1 this)]
  unfold wcd
  cases wds.findIdx? (fun w => w == l) with
  | none => rfl
  | some k => simp only; omega
