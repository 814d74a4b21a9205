-- ===== how cars stand, as a number of the class =====
theorem tb_dv {x : Int} (k : Nat) (q : Int) (hq : q = ((2 ^ k : Nat) : Int)) (h : 0 ≤ x) : tb x (k : Int) = decide (x / q % 2 = 1) := by
  subst hq
  obtain ⟨a, rfl⟩ := Int.eq_ofNat_of_zero_le h
  unfold tb
  simp only [Int.toNat_natCast, Nat.testBit_eq_decide_div_mod_eq]
  have e : ((a / 2 ^ k % 2 : Nat) : Int) = (a : Int) / ((2 ^ k : Nat) : Int) % 2 := by push_cast; rfl
  rw [← e]
  have h2 : a / 2 ^ k % 2 = 0 ∨ a / 2 ^ k % 2 = 1 := by omega
  rcases h2 with h2 | h2 <;> simp [h2]
theorem k15 {k : Int} (h0 : 0 ≤ k) (h1 : k < 15) : ∃ (j : Nat) (q : Int), k = j ∧ q = ((2 ^ j : Nat) : Int) ∧ (q = 1 ∨ q = 2 ∨ q = 4 ∨ q = 8 ∨ q = 16 ∨ q = 32 ∨ q = 64 ∨ q = 128 ∨ q = 256 ∨ q = 512 ∨ q = 1024 ∨ q = 2048 ∨ q = 4096 ∨ q = 8192 ∨ q = 16384) := by
  obtain ⟨j, rfl⟩ := Int.eq_ofNat_of_zero_le h0
  have t : ∀ j, j < 15 → (2 ^ j = 1 ∨ 2 ^ j = 2 ∨ 2 ^ j = 4 ∨ 2 ^ j = 8 ∨ 2 ^ j = 16 ∨ 2 ^ j = 32 ∨ 2 ^ j = 64 ∨ 2 ^ j = 128 ∨ 2 ^ j = 256 ∨ 2 ^ j = 512 ∨ 2 ^ j = 1024 ∨ 2 ^ j = 2048 ∨ 2 ^ j = 4096 ∨ 2 ^ j = 8192 ∨ 2 ^ j = 16384) := by decide
  exact ⟨j, _, rfl, rfl, by have := t j (by omega); omega⟩
set_option maxHeartbeats 4000000 in
theorem dg_clr {x p : Int} (hx : 0 ≤ x ∧ x < 32768) (hp : p = 1 ∨ p = 8 ∨ p = 64 ∨ p = 512 ∨ p = 4096) : iAnd x (iXor (7 * p) (-1)) = x - x / p % 8 * p := by
  have b := andn_b (x := x) (y := 7 * p) (by omega) (by omega)
  refine tb_ext 15 (by omega) ⟨b.1, by show _ < (32768 : Int); omega⟩ ?_ (fun k k0 k1 => ?_)
  · rcases hp with rfl | rfl | rfl | rfl | rfl <;> (show _ ∧ _ < (32768 : Int)) <;> omega
  · rw [tb_andn (by omega) (by omega) (by omega)]
    obtain ⟨j, q, rfl, hq, j1⟩ := k15 k0 k1
    have z : 0 ≤ x - x / p % 8 * p := by rcases hp with rfl | rfl | rfl | rfl | rfl <;> omega
    rw [tb_dv j q hq hx.1, tb_dv j q hq z, tb_dv j q hq (by omega)]
    clear hq b k0 k1 z
    rw [Bool.eq_iff_iff]
    simp only [Bool.and_eq_true, Bool.not_eq_true', decide_eq_true_eq, decide_eq_false_iff_not]
    rcases hp with rfl | rfl | rfl | rfl | rfl
    all_goals
      rcases j1 with rfl | rfl | rfl | rfl | rfl | rfl | rfl | rfl | rfl | rfl | rfl | rfl | rfl | rfl | rfl
      all_goals omega
section ST
theorem gd_in {l : List Int} {i : Nat} {f : Int} (h : i < l.length) : l.getD i f = l[i] := by
  rw [List.getD_eq_getElem?_getD, List.getElem?_eq_getElem h, Option.getD_some]
theorem gd_out {l : List Int} {i : Nat} {f : Int} (h : l.length ≤ i) : l.getD i f = f := by
  rw [List.getD_eq_getElem?_getD, List.getElem?_eq_none h, Option.getD_none]
theorem blw_out {f c : Int} : ∀ {l : List Int}, c ∉ l → blw f c l = 0
  | [], _ => rfl
  | d :: r, h => by
    unfold blw
    rw [if_neg (fun e => h (by rw [e]; exact List.mem_cons_self)), blw_out (fun e => h (List.mem_cons_of_mem _ e))]
theorem blw_get {f : Int} : ∀ {l : List Int} (_ : l.Nodup) (i : Nat) (hi : i < l.length), blw f l[i] l = l.getD (i + 1) f
  | [], _, i, hi => by simp at hi
  | d :: r, hn, 0, hi => by
    unfold blw
    rw [List.getElem_cons_zero, if_pos rfl]
    cases r <;> rfl
  | d :: r, hn, i + 1, hi => by
    have h1 : i < r.length := by simpa using hi
    have hn2 := List.nodup_cons.1 hn
    have e : (d :: r)[i + 1] = r[i] := rfl
    unfold blw
    rw [e, if_neg (fun e2 => hn2.1 (by rw [← e2]; exact List.getElem_mem h1)), blw_get hn2.2 i h1]
    rfl
theorem sg_mem {s : List Int × List Int × List Int} {t c : Int} (ht : 0 ≤ t ∧ t < 3) (h : c ∈ sg s t) : c ∈ sts s := by
  obtain rfl | rfl | rfl : t = 0 ∨ t = 1 ∨ t = 2 := by omega
  · exact List.mem_append_left _ (List.mem_append_left _ h)
  · exact List.mem_append_left _ (List.mem_append_right _ h)
  · exact List.mem_append_right _ h
theorem sg_nd {s : List Int × List Int × List Int} {t : Int} (hn : (sts s).Nodup) (ht : 0 ≤ t ∧ t < 3) : (sg s t).Nodup := by
  unfold sts at hn
  obtain ⟨h1, h2, -⟩ := List.nodup_append.1 hn
  obtain ⟨h3, h4, -⟩ := List.nodup_append.1 h1
  obtain rfl | rfl | rfl : t = 0 ∨ t = 1 ∨ t = 2 := by omega
  · exact h3
  · exact h4
  · exact h2
theorem bel_at {s : List Int × List Int × List Int} (hn : (sts s).Nodup) {t : Int} (ht : 0 ≤ t ∧ t < 3) {i : Nat} (hi : i < (sg s t).length) : bel s ((sg s t)[i]) = (sg s t).getD (i + 1) (5 + t) := by
  have hg := blw_get (f := 5 + t) (sg_nd hn ht) i hi
  have hm := List.getElem_mem hi
  rw [← hg]
  generalize (sg s t)[i] = c at hm
  unfold sts at hn
  obtain ⟨h1, -, h5⟩ := List.nodup_append.1 hn
  obtain ⟨-, -, h6⟩ := List.nodup_append.1 h1
  unfold bel
  obtain rfl | rfl | rfl : t = 0 ∨ t = 1 ∨ t = 2 := by omega
  · have hm' : c ∈ s.1 := hm
    rw [blw_out (l := s.2.1) (fun e => h6 c hm' c e rfl), blw_out (l := s.2.2) (fun e => h5 c (List.mem_append_left _ hm') c e rfl)]
    show blw 5 c s.1 + 0 + 0 = blw (5 + 0) c s.1
    rw [Int.add_zero, Int.add_zero, Int.add_zero]
  · have hm' : c ∈ s.2.1 := hm
    rw [blw_out (l := s.1) (fun e => h6 c e c hm' rfl), blw_out (l := s.2.2) (fun e => h5 c (List.mem_append_right _ hm') c e rfl)]
    show 0 + blw 6 c s.2.1 + 0 = blw (5 + 1) c s.2.1
    rw [Int.add_zero, Int.zero_add]
    rfl
  · have hm' : c ∈ s.2.2 := hm
    rw [blw_out (l := s.1) (fun e => h5 c (List.mem_append_left _ e) c hm' rfl), blw_out (l := s.2.1) (fun e => h5 c (List.mem_append_right _ e) c hm' rfl)]
    show 0 + 0 + blw 7 c s.2.2 = blw (5 + 2) c s.2.2
    rw [Int.add_zero, Int.zero_add]
    rfl
theorem bel_out {s : List Int × List Int × List Int} {c : Int} (h : c ∉ sts s) : bel s c = 0 := by
  unfold bel
  unfold sts at h
  simp only [List.mem_append, not_or] at h
  rw [blw_out h.1.1, blw_out h.1.2, blw_out h.2]
  rfl
theorem sts_at {s : List Int × List Int × List Int} {c : Int} (h : c ∈ sts s) : ∃ t, (0 ≤ t ∧ t < 3) ∧ ∃ i, ∃ hi : i < (sg s t).length, (sg s t)[i] = c := by
  unfold sts at h
  simp only [List.mem_append] at h
  rcases h with (h | h) | h
  · obtain ⟨i, hi, e⟩ := List.getElem_of_mem h
    exact ⟨0, by omega, i, hi, e⟩
  · obtain ⟨i, hi, e⟩ := List.getElem_of_mem h
    exact ⟨1, by omega, i, hi, e⟩
  · obtain ⟨i, hi, e⟩ := List.getElem_of_mem h
    exact ⟨2, by omega, i, hi, e⟩
theorem svl_m {n c : Int} {s : List Int × List Int × List Int} (h : svl n s) : c ∈ sts s ↔ 0 ≤ c ∧ c < n := by
  unfold svl at h
  rw [h.mem_iff]
  unfold ran
  simp only [List.mem_map, List.mem_range]
  constructor
  · rintro ⟨a, h1, rfl⟩; omega
  · intro h2; exact ⟨c.toNat, by omega, by omega⟩
theorem svl_n {n : Int} {s : List Int × List Int × List Int} (h : svl n s) : (sts s).Nodup := by
  unfold svl at h
  rw [h.nodup_iff]
  unfold ran
  unfold List.Nodup
  rw [List.pairwise_map]
  exact List.Pairwise.imp (fun {a b} h e => h (by have : ((a : Nat) : Int) = b := e; omega)) List.nodup_range
theorem bel_b {n c : Int} {s : List Int × List Int × List Int} (h : svl n s) (hn : n ≤ 5) : 0 ≤ bel s c ∧ bel s c ≤ 7 := by
  by_cases d : c ∈ sts s
  · obtain ⟨t, ht, i, hi, rfl⟩ := sts_at d
    rw [bel_at (svl_n h) ht hi]
    by_cases e : i + 1 < (sg s t).length
    · rw [gd_in e]
      have := (svl_m h).1 (sg_mem ht (List.getElem_mem e))
      omega
    · rw [gd_out (by omega)]
      omega
  · rw [bel_out d]; omega
theorem enc_b {n : Int} {s : List Int × List Int × List Int} (h : svl n s) (hn : n ≤ 5) : 0 ≤ enc s ∧ enc s < 32768 := by
  have b0 := bel_b (c := 0) h hn
  have b1 := bel_b (c := 1) h hn
  have b2 := bel_b (c := 2) h hn
  have b3 := bel_b (c := 3) h hn
  have b4 := bel_b (c := 4) h hn
  unfold enc
  omega
theorem enc_d {n c : Int} {s : List Int × List Int × List Int} (h : svl n s) (hn : n ≤ 5) (hc : 0 ≤ c ∧ c < 5) : iAnd (iShr (enc s) (3 * c)) 7 = bel s c := by
  have b0 := bel_b (c := 0) h hn
  have b1 := bel_b (c := 1) h hn
  have b2 := bel_b (c := 2) h hn
  have b3 := bel_b (c := 3) h hn
  have b4 := bel_b (c := 4) h hn
  have e := enc_b h hn
  obtain rfl | rfl | rfl | rfl | rfl : c = 0 ∨ c = 1 ∨ c = 2 ∨ c = 3 ∨ c = 4 := by omega
  · have q : iShr (enc s) (3 * 0) = enc s / 1 := shr_p 0 (by decide) (by omega) (by omega)
    rw [q, and_7 (by omega) (by omega)]
    unfold enc; omega
  · have q : iShr (enc s) (3 * 1) = enc s / 8 := shr_p 3 (by decide) (by omega) (by omega)
    rw [q, and_7 (by omega) (by omega)]
    unfold enc; omega
  · have q : iShr (enc s) (3 * 2) = enc s / 64 := shr_p 6 (by decide) (by omega) (by omega)
    rw [q, and_7 (by omega) (by omega)]
    unfold enc; omega
  · have q : iShr (enc s) (3 * 3) = enc s / 512 := shr_p 9 (by decide) (by omega) (by omega)
    rw [q, and_7 (by omega) (by omega)]
    unfold enc; omega
  · have q : iShr (enc s) (3 * 4) = enc s / 4096 := shr_p 12 (by decide) (by omega) (by omega)
    rw [q, and_7 (by omega) (by omega)]
    unfold enc; omega
end ST
