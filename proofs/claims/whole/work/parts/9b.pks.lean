-- ===== words as numbers =====
def valr : List Int → Int
  | [] => 0
  | b :: r => valr r * 256 + b
def lts (l : List Int) : Prop := ∀ b, b ∈ l → bL b = true
theorem lt_b {b : Int} (h : bL b = true) : 65 ≤ b ∧ b ≤ 122 := by
  unfold bL at h
  rw [decide_eq_true_eq] at h
  omega
theorem lts_c {b : Int} {l : List Int} (h : lts (b :: l)) : (65 ≤ b ∧ b ≤ 122) ∧ lts l := ⟨lt_b (h b List.mem_cons_self), fun c hc => h c (List.mem_cons_of_mem _ hc)⟩
theorem p256_p : ∀ n : Nat, (1 : Int) ≤ (256 : Int) ^ n
  | 0 => by decide
  | n + 1 => by
    have := p256_p n
    rw [Int.pow_succ]
    omega
theorem p256_k (a : Nat) : ∀ k : Nat, (256 : Int) ^ a ≤ (256 : Int) ^ (a + k)
  | 0 => Int.le_refl _
  | k + 1 => by
    have i := p256_k a k
    have := p256_p (a + k)
    rw [← Nat.add_assoc, Int.pow_succ]
    omega
theorem p256 {a b : Nat} (h : a ≤ b) : (256 : Int) ^ a ≤ (256 : Int) ^ b := by
  have := p256_k a (b - a)
  rw [show a + (b - a) = b by omega] at this
  exact this
theorem valr_b : ∀ (m : List Int), lts m → 0 ≤ valr m ∧ valr m < (256 : Int) ^ m.length
  | [], _ => by show (0 : Int) ≤ 0 ∧ (0 : Int) < 1; omega
  | b :: r, h => by
    have i := valr_b r (lts_c h).2
    have hb := (lts_c h).1
    rw [valr, List.length_cons, Int.pow_succ]
    omega
theorem valr_l : ∀ (m : List Int), lts m → m ≠ [] → (256 : Int) ^ (m.length - 1) ≤ valr m
  | [], _, h => absurd rfl h
  | [b], h, _ => by
    have hb := (lts_c h).1
    show (1 : Int) ≤ 0 * 256 + b
    omega
  | b :: c :: r, h, _ => by
    have i := valr_l (c :: r) (lts_c h).2 (by simp)
    have hb := (lts_c h).1
    rw [valr]
    simp only [List.length_cons, Nat.add_sub_cancel] at i ⊢
    rw [Int.pow_succ]
    omega
theorem valr_i : ∀ (m m' : List Int), lts m → lts m' → valr m = valr m' → m = m'
  | [], [], _, _, _ => rfl
  | [], b :: r, _, h', e => by
    have hb := (lts_c h').1
    have i := valr_b r (lts_c h').2
    simp only [valr] at e
    omega
  | b :: r, [], h, _, e => by
    have hb := (lts_c h).1
    have i := valr_b r (lts_c h).2
    simp only [valr] at e
    omega
  | b :: r, b' :: r', h, h', e => by
    have hb := (lts_c h).1
    have hb' := (lts_c h').1
    simp only [valr] at e
    have e1 : b = b' := by omega
    have e2 : valr r = valr r' := by omega
    rw [e1, valr_i r r' (lts_c h).2 (lts_c h').2 e2]
theorem pks_v : ∀ (l m : List Int), lts l → lts m → m.length + l.length ≤ 7 → pks l (valr m) = valr (l.reverse ++ m)
  | [], m, _, _, _ => rfl
  | b :: r, m, hl, hm, hn => by
    have mb := valr_b m hm
    simp only [List.length_cons] at hn
    have le : (256 : Int) ^ m.length ≤ (256 : Int) ^ 6 := p256 (by omega)
    have e6 : (256 : Int) ^ 6 = 281474976710656 := by decide
    rw [pks, if_neg (by omega)]
    have := pks_v r (b :: m) (lts_c hl).2 (fun c hc => by
      rcases List.mem_cons.1 hc with t | t
      · rw [t]; exact hl b List.mem_cons_self
      · exact hm c t) (by simp only [List.length_cons]; omega)
    rw [show valr m * 256 + b = valr (b :: m) by rfl, this]
    simp
theorem pks_x : ∀ l : List Int, pks l 1152921504606846976 = 1152921504606846976
  | [] => rfl
  | b :: r => by rw [pks, if_pos (by decide)]; exact pks_x r
theorem pks_8 : ∀ (l m : List Int), lts l → lts m → m ≠ [] → m.length ≤ 7 → 8 ≤ m.length + l.length → pks l (valr m) = 1152921504606846976
  | [], m, _, _, _, h1, h2 => by simp only [List.length_nil] at h2; omega
  | b :: r, m, hl, hm, hz, h1, h2 => by
    have mb := valr_b m hm
    have ml := valr_l m hm hz
    simp only [List.length_cons] at h2
    have e6 : (256 : Int) ^ 6 = 281474976710656 := by decide
    rw [pks]
    by_cases d : m.length = 7
    · rw [d] at ml
      have ml : (256 : Int) ^ 6 ≤ valr m := ml
      rw [if_pos (by omega)]
      exact pks_x r
    · have le : (256 : Int) ^ m.length ≤ (256 : Int) ^ 6 := p256 (by omega)
      rw [if_neg (by omega), show valr m * 256 + b = valr (b :: m) by rfl]
      exact pks_8 r (b :: m) (lts_c hl).2 (fun c hc => by
        rcases List.mem_cons.1 hc with t | t
        · rw [t]; exact hl b List.mem_cons_self
        · exact hm c t) (by simp) (by simp only [List.length_cons]; omega) (by simp only [List.length_cons]; omega)
theorem pks_c {l : List Int} (h : lts l) : (l.length ≤ 7 ∧ pks l 0 = valr l.reverse ∧ pks l 0 < 72057594037927936) ∨ (8 ≤ l.length ∧ pks l 0 = 1152921504606846976) := by
  by_cases d : l.length ≤ 7
  · left
    have := pks_v l [] h (fun c hc => absurd hc (by simp)) (by simp only [List.length_nil]; omega)
    rw [List.append_nil] at this
    have e : pks l 0 = valr l.reverse := this
    have b := valr_b l.reverse (fun c hc => h c (List.mem_reverse.1 hc))
    rw [List.length_reverse] at b
    have le : (256 : Int) ^ l.length ≤ (256 : Int) ^ 7 := p256 (by omega)
    have e7 : (256 : Int) ^ 7 = 72057594037927936 := by decide
    exact ⟨d, e, by omega⟩
  · right
    refine ⟨by omega, ?_⟩
    cases l with
    | nil => exact absurd (Nat.zero_le 7) d
    | cons b r =>
      simp only [List.length_cons] at d
      rw [pks, if_neg (by decide)]
      exact pks_8 r [b] (lts_c h).2 (fun c hc => by rw [List.mem_singleton] at hc; rw [hc]; exact h b List.mem_cons_self) (by simp) (by simp) (by simp only [List.length_singleton]; omega)
theorem pks_b {l : List Int} (h : lts l) : 0 ≤ pks l 0 ∧ pks l 0 ≤ 1152921504606846976 := by
  rcases pks_c h with ⟨_, e, f⟩ | ⟨_, e⟩
  · have b := valr_b l.reverse (fun c hc => h c (List.mem_reverse.1 hc))
    omega
  · omega
theorem wds_t : ∀ i : Nat, i < 29 → (wds[i]?.getD []).length ≤ 7 ∧ (wds[i]?.getD []).all bL = true ∧ wcd (wds[i]?.getD []) = i := by decide +kernel
theorem pks_i {l : List Int} (h : lts l) {c : Int} (hc : 0 ≤ c ∧ c ≤ 28) (e : pks l 0 = wrd c) : l = wds[c.toNat]?.getD [] := by
  obtain ⟨t1, t2, t3⟩ := wds_t c.toNat (by omega)
  have hw : lts (wds[c.toNat]?.getD []) := fun b hb => List.all_eq_true.1 t2 b hb
  unfold wrd at e
  rcases pks_c hw with ⟨_, e2, f2⟩ | ⟨k, -⟩
  · rcases pks_c h with ⟨_, e1, f1⟩ | ⟨_, e1⟩
    · rw [e1, e2] at e
      have := valr_i _ _ (fun b hb => h b (List.mem_reverse.1 hb)) (fun b hb => hw b (List.mem_reverse.1 hb)) e
      exact List.reverse_inj.1 this
    · omega
  · omega
theorem wcd_e {l : List Int} {c : Int} (hc : 0 ≤ c ∧ c ≤ 28) : wcd l = c ↔ l = wds[c.toNat]?.getD [] := by
  constructor
  · intro e
    unfold wcd at e
    cases k : wds.findIdx? (fun w => w == l) with
    | none => rw [k] at e; simp only at e; omega
    | some i =>
      rw [k] at e
      simp only at e
      obtain ⟨a, b, -⟩ := List.findIdx?_eq_some_iff_getElem.1 k
      have : c.toNat = i := by omega
      rw [this, List.getElem?_eq_getElem a]
      exact (beq_iff_eq.1 b).symm
  · intro e
    rw [e, (wds_t c.toNat (by omega)).2.2]
    omega
theorem wcd_t {l : List Int} (h : lts l) : tkr (wcd l) 2 0 (pks l 0) := by
  rcases wcd_b l with b | b
  · refine .inr (.inr (.inl ⟨b.1, b.2, rfl, ?_⟩))
    have := (wcd_e (l := l) b).1 rfl
    unfold wrd
    rw [← this]
  · refine .inr (.inr (.inr (.inl ⟨b, .inr (.inr ⟨rfl, pks_b h, fun c c0 c1 e => ?_⟩)⟩)))
    have := pks_i h ⟨c0, c1⟩ e
    have := (wcd_e (l := l) ⟨c0, c1⟩).2 this
    omega
-- numbers
def nmr : List Int → Int → Int
  | [], a => a
  | b :: r, a => nmr r (if 99999 < a then a else 10 * a + b - 48)
theorem nmq_r : ∀ (l : List Int) (a a' : Int), (∀ b, b ∈ l → bD b = true) → ((0 ≤ a ∧ a ≤ 9999 ∧ a' = a) ∨ (a = 10000 ∧ 9999 < a' ∧ a' ≤ 1000000)) → ((0 ≤ nmc l a ∧ nmc l a ≤ 9999 ∧ nmr l a' = nmc l a) ∨ (nmc l a = 10000 ∧ 9999 < nmr l a' ∧ nmr l a' ≤ 1000000))
  | [], a, a', _, h => h
  | b :: r, a, a', hd, h => by
    have d := hd b List.mem_cons_self
    unfold bD at d
    rw [decide_eq_true_eq] at d
    rw [nmc, nmr]
    refine nmq_r r _ _ (fun c hc => hd c (List.mem_cons_of_mem _ hc)) ?_
    rcases h with h | h
    · rw [if_neg (by omega : ¬ 99999 < a')]
      by_cases k : 10000 < a * 10 + b - 48
      · rw [if_pos k]; right; omega
      · rw [if_neg k]
        by_cases k2 : a * 10 + b - 48 = 10000
        · right; omega
        · left; omega
    · rw [if_pos (by omega : 10000 < a * 10 + b - 48)]
      right
      by_cases k : 99999 < a'
      · rw [if_pos k]; omega
      · rw [if_neg k]; omega
theorem nmq_t {l : List Int} (h : ∀ b, b ∈ l → bD b = true) {w : Int} : tkr (100 + nmc l 0) 1 (nmr l 0) w := by
  refine .inr (.inl ?_)
  rcases nmq_r l 0 0 h (.inl (by omega)) with k | k
  · exact ⟨by omega, by omega, rfl, .inl (by omega)⟩
  · exact ⟨by omega, by omega, rfl, .inr (by omega)⟩
