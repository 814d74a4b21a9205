-- what a method asks, said of the heap alone
def gI (F : hp) (r : Option Nat) (c k : Nat) (K : Int → Prop) : Prop := match r with
  | none => False
  | some a => match F a with
    | some (.inr (.inr (c', fs))) => c' = c ∧ (match fs[k]? with
      | some (.inl x) => K x
      | _ => False)
    | _ => False
def gL (F : hp) (r : Option Nat) (c k : Nat) (K : Int → Prop) : Prop := match r with
  | none => False
  | some a => match F a with
    | some (.inr (.inr (c', fs))) => c' = c ∧ (match fs[k]? with
      | some (.inr (.inl x)) => K x
      | _ => False)
    | _ => False
def gR (F : hp) (r : Option Nat) (c k : Nat) (K : Option Nat → Prop) : Prop := match r with
  | none => False
  | some a => match F a with
    | some (.inr (.inr (c', fs))) => c' = c ∧ (match fs[k]? with
      | some (.inr (.inr x)) => K x
      | _ => False)
    | _ => False
def pF (F : hp) (r : Option Nat) (c k : Nat) (v : av) (K : hp → Prop) : Prop := match r with
  | none => False
  | some a => match F a with
    | some (.inr (.inr (c', fs))) => c' = c ∧ k < fs.length ∧ K (hs F a (cO c (fs.set k v)))
    | _ => False
def rcv (F : hp) (r : Option Nat) (c : Nat) (K : Nat → Prop) : Prop := match r with
  | none => False
  | some a => match F a with
    | some (.inr (.inr (c', _))) => c' = c ∧ K a
    | _ => False
def aI (F : hp) (r : Option Nat) (k : Nat) (i : Int) (K : Int → Prop) : Prop := match r with
  | none => False
  | some a => match F a with
    | some (.inl (k', n, f)) => k' = k ∧ (0 ≤ i ∧ i < n ∧ n ≤ 2147483647) ∧ K (f i)
    | _ => False
def aR (F : hp) (r : Option Nat) (i : Int) (K : Option Nat → Prop) : Prop := match r with
  | none => False
  | some a => match F a with
    | some (.inr (.inl (n, f))) => (0 ≤ i ∧ i < n ∧ n ≤ 2147483647) ∧ K (f i)
    | _ => False
def sI (F : hp) (r : Option Nat) (k : Nat) (i v : Int) (K : hp → Prop) : Prop := match r with
  | none => False
  | some a => match F a with
    | some (.inl (k', n, f)) => k' = k ∧ (0 ≤ i ∧ i < n ∧ n ≤ 2147483647) ∧ K (hs F a (cA k n (us f i v)))
    | _ => False
def sR (F : hp) (r : Option Nat) (i : Int) (v : Option Nat) (K : hp → Prop) : Prop := match r with
  | some a => match F a with
    | some (.inr (.inl (n, f))) => (∀ b, v = some b → ∃ fs, F b = some (cO 8 fs)) ∧ (0 ≤ i ∧ i < n ∧ n ≤ 2147483647) ∧ K (hs F a (cT n (us f i v)))
    | _ => False
  | _ => False
def aN (F : hp) (r : Option Nat) (K : Int → Prop) : Prop := match r with
  | none => False
  | some a => match F a with
    | some (.inl (k, n, _)) => (k < 4 ∧ 0 ≤ n ∧ n ≤ 2147483647) ∧ K n
    | _ => False
def cpI (F : hp) (r : Option Nat) (sp : Int) (q : Option Nat) (dp n : Int) (K : hp → Prop) : Prop := match r, q with
  | some a, some b => match F a, F b with
    | some (.inl (k, n0, f)), some (.inl (k', n1, g)) => (k = 0 ∧ k' = 0 ∧ n0 ≤ 2147483647 ∧ n1 ≤ 2147483647) ∧ (0 ≤ sp ∧ 0 ≤ dp ∧ 0 ≤ n ∧ sp + n ≤ n0 ∧ dp + n ≤ n1) ∧ K (hs F b (cA 0 n1 (cpy f g sp dp n)))
    | _, _ => False
  | _, _ => False
def nwc (F : hp) (c : ac) (K : Nat → hp → Prop) : Prop := ∀ a : Nat, nx F a → K a (hs F a c)
def clI (F : hp) (r : Option Nat) (ms : Nat) (K : Nat → hp → Prop) : Prop := ∃ a n f, r = some a ∧ F a = some (cA 0 n f) ∧ n.toNat ≤ ms ∧ nwc F (cA 0 n f) K
def qI (Q : Int → hp → Prop) : Option av → hp → Prop := fun r F => ∃ x, r = some (vi x) ∧ Q x F
def qL (Q : Int → hp → Prop) : Option av → hp → Prop := fun r F => ∃ x, r = some (vl x) ∧ Q x F
def qR (Q : Option Nat → hp → Prop) : Option av → hp → Prop := fun r F => ∃ x, r = some (vr x) ∧ Q x F
def qV (Q : hp → Prop) : Option av → hp → Prop := fun r F => r = none ∧ Q F
theorem gI_inv {F : hp} {r : Option Nat} {c k : Nat} {K : Int → Prop} (h : gI F r c k K) : ∃ a fs x, r = some a ∧ F a = some (cO c fs) ∧ fs[k]? = some (vi x) ∧ K x := by
  unfold gI at h
  split at h
  · exact h.elim
  · rename_i a
    split at h
    · rename_i c' fs he
      obtain ⟨rfl, h⟩ := h
      split at h
      · rename_i x hx
        exact ⟨a, fs, x, rfl, he, hx, h⟩
      · exact h.elim
    · exact h.elim
theorem gL_inv {F : hp} {r : Option Nat} {c k : Nat} {K : Int → Prop} (h : gL F r c k K) : ∃ a fs x, r = some a ∧ F a = some (cO c fs) ∧ fs[k]? = some (vl x) ∧ K x := by
  unfold gL at h
  split at h
  · exact h.elim
  · rename_i a
    split at h
    · rename_i c' fs he
      obtain ⟨rfl, h⟩ := h
      split at h
      · rename_i x hx
        exact ⟨a, fs, x, rfl, he, hx, h⟩
      · exact h.elim
    · exact h.elim
theorem gR_inv {F : hp} {r : Option Nat} {c k : Nat} {K : Option Nat → Prop} (h : gR F r c k K) : ∃ a fs x, r = some a ∧ F a = some (cO c fs) ∧ fs[k]? = some (vr x) ∧ K x := by
  unfold gR at h
  split at h
  · exact h.elim
  · rename_i a
    split at h
    · rename_i c' fs he
      obtain ⟨rfl, h⟩ := h
      split at h
      · rename_i x hx
        exact ⟨a, fs, x, rfl, he, hx, h⟩
      · exact h.elim
    · exact h.elim
theorem pF_inv {F : hp} {r : Option Nat} {c k : Nat} {v : av} {K : hp → Prop} (h : pF F r c k v K) : ∃ a fs, r = some a ∧ F a = some (cO c fs) ∧ k < fs.length ∧ K (hs F a (cO c (fs.set k v))) := by
  unfold pF at h
  split at h
  · exact h.elim
  · rename_i a
    split at h
    · rename_i c' fs he
      obtain ⟨rfl, h1, h2⟩ := h
      exact ⟨a, fs, rfl, he, h1, h2⟩
    · exact h.elim
theorem rcv_inv {F : hp} {r : Option Nat} {c : Nat} {K : Nat → Prop} (h : rcv F r c K) : ∃ a fs, r = some a ∧ F a = some (cO c fs) ∧ K a := by
  unfold rcv at h
  split at h
  · exact h.elim
  · rename_i a
    split at h
    · rename_i c' fs he
      obtain ⟨rfl, h1⟩ := h
      exact ⟨a, fs, rfl, he, h1⟩
    · exact h.elim
theorem aI_inv {F : hp} {r : Option Nat} {k : Nat} {i : Int} {K : Int → Prop} (h : aI F r k i K) : ∃ a n f, r = some a ∧ F a = some (cA k n f) ∧ (0 ≤ i ∧ i < n ∧ n ≤ 2147483647) ∧ K (f i) := by
  unfold aI at h
  split at h
  · exact h.elim
  · rename_i a
    split at h
    · rename_i k' n f he
      obtain ⟨rfl, h1, h2⟩ := h
      exact ⟨a, n, f, rfl, he, h1, h2⟩
    · exact h.elim
theorem aR_inv {F : hp} {r : Option Nat} {i : Int} {K : Option Nat → Prop} (h : aR F r i K) : ∃ a n f, r = some a ∧ F a = some (cT n f) ∧ (0 ≤ i ∧ i < n ∧ n ≤ 2147483647) ∧ K (f i) := by
  unfold aR at h
  split at h
  · exact h.elim
  · rename_i a
    split at h
    · rename_i n f he
      exact ⟨a, n, f, rfl, he, h.1, h.2⟩
    · exact h.elim
theorem sI_inv {F : hp} {r : Option Nat} {k : Nat} {i v : Int} {K : hp → Prop} (h : sI F r k i v K) : ∃ a n f, r = some a ∧ F a = some (cA k n f) ∧ (0 ≤ i ∧ i < n ∧ n ≤ 2147483647) ∧ K (hs F a (cA k n (us f i v))) := by
  unfold sI at h
  split at h
  · exact h.elim
  · rename_i a
    split at h
    · rename_i k' n f he
      obtain ⟨rfl, h1, h2⟩ := h
      exact ⟨a, n, f, rfl, he, h1, h2⟩
    · exact h.elim
theorem aN_inv {F : hp} {r : Option Nat} {K : Int → Prop} (h : aN F r K) : ∃ a k n f, r = some a ∧ F a = some (cA k n f) ∧ (k < 4 ∧ 0 ≤ n ∧ n ≤ 2147483647) ∧ K n := by
  unfold aN at h
  split at h
  · exact h.elim
  · rename_i a
    split at h
    · rename_i k n f he
      exact ⟨a, k, n, f, rfl, he, h.1, h.2⟩
    · exact h.elim
theorem okI (x : Int) : ∀ g, okty g .int (vi x) := fun g => ⟨rfl, rfl⟩
theorem okL (x : Int) : ∀ g, okty g .long (vl x) := fun g => ⟨rfl, rfl⟩
theorem okZ {x : Int} (h : x = 0 ∨ x = 1) : ∀ g, okty g .boolean (vi x) := fun g => by
  rcases h with rfl | rfl
  · exact ⟨show narrow .boolean (Value.int (Int32.ofInt 0)) = Value.int (Int32.ofInt 0) by decide, show fits .boolean (Value.int (Int32.ofInt 0)) = true by decide⟩
  · exact ⟨show narrow .boolean (Value.int (Int32.ofInt 1)) = Value.int (Int32.ofInt 1) by decide, show fits .boolean (Value.int (Int32.ofInt 1)) = true by decide⟩
theorem okA (t : FieldType) (x : Option Nat) : ∀ g, okty g (.array t) (vr x) := fun g => by cases x <;> exact ⟨rfl, rfl⟩
theorem okO (t : String) (x : Option Nat) : ∀ g, okty g (.object t) (vr x) := fun g => by cases x <;> exact ⟨rfl, rfl⟩
def lmask : List Bool → List (Option av) → List (Option av)
  | [], _ => []
  | _ :: _, [] => []
  | true :: m, x :: r => x :: lmask m r
  | false :: m, _ :: r => none :: lmask m r
theorem lmask_get : ∀ (m : List Bool) (lo : List (Option av)) (i : Nat) (v : av), (lmask m lo)[i]? = some (some v) → lo[i]? = some (some v) := by
  intro m
  induction m with
  | nil => intro lo i v h; simp [lmask] at h
  | cons b m ih =>
    intro lo i v h
    cases lo with
    | nil => cases b <;> simp [lmask] at h
    | cons x r =>
      cases b with
      | true =>
        cases i with
        | zero => simpa [lmask] using h
        | succ i => simpa using ih r i v (by simpa [lmask] using h)
      | false =>
        cases i with
        | zero => simp [lmask] at h
        | succ i => simpa using ih r i v (by simpa [lmask] using h)
section AR
variable {ex : State → (Nat → Nat) → Nat → Prop} {M : mi} {d kc ks pc : Nat} {lo : List (Option av)} {st : List av} {F : hp} {Q : Option av → hp → Prop}
theorem ar_gI {idx ci k : Nat} {r : Option Nat} {K : Int → Prop} (L : fl M.1.cls idx ci k) (hd : decode M.2.1 pc = .ok (.getfield idx, 3)) (h : gI F r ci k K) (kk : ∀ x, K x → awx ex M d kc ks (pc + 3) lo (vi x :: st) F Q) : awx ex M d kc ks pc lo (vr r :: st) F Q := by
  obtain ⟨a, fs, x, rfl, h1, h2, h3⟩ := gI_inv h
  exact aw_get L h1 h2 hd (kk x h3)
theorem ar_gL {idx ci k : Nat} {r : Option Nat} {K : Int → Prop} (L : fl M.1.cls idx ci k) (hd : decode M.2.1 pc = .ok (.getfield idx, 3)) (h : gL F r ci k K) (kk : ∀ x, K x → awx ex M d kc ks (pc + 3) lo (vl x :: st) F Q) : awx ex M d kc ks pc lo (vr r :: st) F Q := by
  obtain ⟨a, fs, x, rfl, h1, h2, h3⟩ := gL_inv h
  exact aw_get L h1 h2 hd (kk x h3)
theorem ar_gR {idx ci k : Nat} {r : Option Nat} {K : Option Nat → Prop} (L : fl M.1.cls idx ci k) (hd : decode M.2.1 pc = .ok (.getfield idx, 3)) (h : gR F r ci k K) (kk : ∀ x, K x → awx ex M d kc ks (pc + 3) lo (vr x :: st) F Q) : awx ex M d kc ks pc lo (vr r :: st) F Q := by
  obtain ⟨a, fs, x, rfl, h1, h2, h3⟩ := gR_inv h
  exact aw_get L h1 h2 hd (kk x h3)
theorem ar_pF {idx ci k : Nat} {r : Option Nat} {v : av} {ty : FieldType} {K : hp → Prop} (L : fl M.1.cls idx ci k) (L2 : ft ci k false ty) (hv : ∀ g, okty g ty v) (hd : decode M.2.1 pc = .ok (.putfield idx, 3)) (h : pF F r ci k v K) (kk : ∀ F', K F' → awx ex M d kc ks (pc + 3) lo st F' Q) : awx ex M d kc ks pc lo (v :: vr r :: st) F Q := by
  obtain ⟨a, fs, rfl, h1, h2, h3⟩ := pF_inv h
  exact aw_put L L2 h1 h2 hv hd (kk _ h3)
theorem ar_pFF {idx ci k : Nat} {r : Option Nat} {v : av} {ty : FieldType} {K : hp → Prop} (L : fl M.1.cls idx ci k) (L2 : ft ci k true ty) (hC : (vwCl[ci]?).map (fun q => q.1) = some M.1.cls) (hn : M.1.name = "<init>") (hv : ∀ g, okty g ty v) (hd : decode M.2.1 pc = .ok (.putfield idx, 3)) (h : pF F r ci k v K) (kk : ∀ F', K F' → awx ex M d kc ks (pc + 3) lo st F' Q) : awx ex M d kc ks pc lo (v :: vr r :: st) F Q := by
  obtain ⟨a, fs, rfl, h1, h2, h3⟩ := pF_inv h
  exact aw_putF L L2 hC hn h1 h2 hv hd (kk _ h3)
theorem ar_aI {i : Int} {r : Option Nat} {K : Int → Prop} (hd : decode M.2.1 pc = .ok (.iaload, 1)) (h : aI F r 0 i K) (kk : ∀ x, K x → awx ex M d kc ks (pc + 1) lo (vi x :: st) F Q) : awx ex M d kc ks pc lo (vi i :: vr r :: st) F Q := by
  obtain ⟨a, n, f, rfl, h1, h2, h3⟩ := aI_inv h
  exact aw_iald h1 h2.2.2 h2.1 h2.2.1 hd (kk _ h3)
theorem ar_aB {i : Int} {r : Option Nat} {K : Int → Prop} (hd : decode M.2.1 pc = .ok (.baload, 1)) (h : aI F r 1 i K) (kk : ∀ x, K x → awx ex M d kc ks (pc + 1) lo (vi x :: st) F Q) : awx ex M d kc ks pc lo (vi i :: vr r :: st) F Q := by
  obtain ⟨a, n, f, rfl, h1, h2, h3⟩ := aI_inv h
  exact aw_bald h1 h2.2.2 h2.1 h2.2.1 hd (kk _ h3)
theorem ar_aZ {i : Int} {r : Option Nat} {K : Int → Prop} (hd : decode M.2.1 pc = .ok (.baload, 1)) (h : aI F r 2 i K) (kk : ∀ x, K x → awx ex M d kc ks (pc + 1) lo (vi x :: st) F Q) : awx ex M d kc ks pc lo (vi i :: vr r :: st) F Q := by
  obtain ⟨a, n, f, rfl, h1, h2, h3⟩ := aI_inv h
  exact aw_zald h1 h2.2.2 h2.1 h2.2.1 hd (kk _ h3)
theorem ar_aL {i : Int} {r : Option Nat} {K : Int → Prop} (hd : decode M.2.1 pc = .ok (.laload, 1)) (h : aI F r 3 i K) (kk : ∀ x, K x → awx ex M d kc ks (pc + 1) lo (vl x :: st) F Q) : awx ex M d kc ks pc lo (vi i :: vr r :: st) F Q := by
  obtain ⟨a, n, f, rfl, h1, h2, h3⟩ := aI_inv h
  exact aw_lald h1 h2.2.2 h2.1 h2.2.1 hd (kk _ h3)
theorem ar_aR {i : Int} {r : Option Nat} {K : Option Nat → Prop} (hd : decode M.2.1 pc = .ok (.aaload, 1)) (h : aR F r i K) (kk : ∀ x, K x → awx ex M d kc ks (pc + 1) lo (vr x :: st) F Q) : awx ex M d kc ks pc lo (vi i :: vr r :: st) F Q := by
  obtain ⟨a, n, f, rfl, h1, h2, h3⟩ := aR_inv h
  exact aw_aald h1 h2.2.2 h2.1 h2.2.1 hd (kk _ h3)
theorem ar_sI {i v : Int} {r : Option Nat} {K : hp → Prop} (hd : decode M.2.1 pc = .ok (.iastore, 1)) (h : sI F r 0 i v K) (kk : ∀ F', K F' → awx ex M d kc ks (pc + 1) lo st F' Q) : awx ex M d kc ks pc lo (vi v :: vi i :: vr r :: st) F Q := by
  obtain ⟨a, n, f, rfl, h1, h2, h3⟩ := sI_inv h
  exact aw_iast h1 h2.2.2 h2.1 h2.2.1 hd (kk _ h3)
theorem ar_sB {i v : Int} {r : Option Nat} {K : hp → Prop} (hd : decode M.2.1 pc = .ok (.bastore, 1)) (h : sI F r 1 i (iB v) K) (kk : ∀ F', K F' → awx ex M d kc ks (pc + 1) lo st F' Q) : awx ex M d kc ks pc lo (vi v :: vi i :: vr r :: st) F Q := by
  obtain ⟨a, n, f, rfl, h1, h2, h3⟩ := sI_inv h
  exact aw_bast h1 h2.2.2 h2.1 h2.2.1 hd (kk _ h3)
theorem ar_sZ {i v : Int} {r : Option Nat} {K : hp → Prop} (hd : decode M.2.1 pc = .ok (.bastore, 1)) (h : (v = 0 ∨ v = 1) ∧ sI F r 2 i v K) (kk : ∀ F', K F' → awx ex M d kc ks (pc + 1) lo st F' Q) : awx ex M d kc ks pc lo (vi v :: vi i :: vr r :: st) F Q := by
  obtain ⟨a, n, f, rfl, h1, h2, h3⟩ := sI_inv h.2
  exact aw_zast h1 h2.2.2 h2.1 h2.2.1 h.1 hd (kk _ h3)
theorem ar_sL {i v : Int} {r : Option Nat} {K : hp → Prop} (hd : decode M.2.1 pc = .ok (.lastore, 1)) (h : sI F r 3 i v K) (kk : ∀ F', K F' → awx ex M d kc ks (pc + 1) lo st F' Q) : awx ex M d kc ks pc lo (vl v :: vi i :: vr r :: st) F Q := by
  obtain ⟨a, n, f, rfl, h1, h2, h3⟩ := sI_inv h
  exact aw_last h1 h2.2.2 h2.1 h2.2.1 hd (kk _ h3)
theorem us_qN (g : Nat → Nat) (f : Int → Option Nat) {i : Int} (h : 0 ≤ i) : (fun j : Nat => (us f i none j).map g) = va_up (fun j : Nat => (f j).map g) i.toNat none := by
  funext j
  unfold us va_up
  by_cases hj : j = i.toNat
  · rw [if_pos hj, if_pos (by omega)]; rfl
  · rw [if_neg hj, if_neg (by omega)]
theorem aw_aastN {a : Nat} {n i : Int} {f : Int → Option Nat} (he : F a = some (cT n f)) (hn : n ≤ 2147483647) (h0 : 0 ≤ i) (h1 : i < n) (hd : decode M.2.1 pc = .ok (.aastore, 1)) (kk : awx ex M d kc ks (pc + 1) lo st (hs F a (cT n (us f i none))) Q) : awx ex M d kc ks pc lo (vr none :: vi i :: vr (some a) :: st) F Q := by
  intro l p e R s m args below meth c H locs cells slots sa base ca D N ls k0 n0 X
  have hW := X.2.2.2.2.2.1
  refine va_astqN (C := "RailsGrowWider$Text") X.1.1 X.1.2.1 hW.2.2 hW.2.1 (ch_D sa base ca N F) X.2.2.2.1 (a - 8) 4 (ch_at hW.1 he) rfl (ix_in h0 h1 hn) hd (fun H1 locs1 hP _ hS => ?_)
  refine kk l p e R s m args below meth c H1 locs1 cells slots sa base ca D N ls k0 n0 (wx_F X hS (hs_sz hW.1 he) ?_)
  have e2 := ch_set (g := ad sa base) (ca := ca) (c' := cT n (us f i none)) hW.1 he
  rw [← e2]
  show va_P D vwCl ((ch (ad sa base) ca N F).set (a - 8) (ad sa base a, .inl (ca 4, n.toNat, .inr (.inr (.inr (.inr (fun j => (us f i none j).map (ad sa base)))))))) H1
  rw [us_qN _ f h0]
  rw [ix_cl h0 (by omega)] at hP
  exact hP
theorem ar_sR {i : Int} {r v : Option Nat} {K : hp → Prop} (hd : decode M.2.1 pc = .ok (.aastore, 1)) (h : sR F r i v K) (kk : ∀ F', K F' → awx ex M d kc ks (pc + 1) lo st F' Q) : awx ex M d kc ks pc lo (vr v :: vi i :: vr r :: st) F Q := by
  unfold sR at h
  split at h
  · rename_i a
    split at h
    · rename_i n f he
      obtain ⟨h1, h2, h3⟩ := h
      cases v with
      | none => exact aw_aastN he h2.2.2 h2.1 h2.2.1 hd (kk _ h3)
      | some b =>
        obtain ⟨fs, h4⟩ := h1 b rfl
        exact aw_aast he h4 h2.2.2 h2.1 h2.2.1 hd (kk _ h3)
    · exact h.elim
  · exact h.elim
theorem ar_aN {r : Option Nat} {K : Int → Prop} (hd : decode M.2.1 pc = .ok (.arraylength, 1)) (h : aN F r K) (kk : ∀ x, K x → awx ex M d kc ks (pc + 1) lo (vi x :: st) F Q) : awx ex M d kc ks pc lo (vr r :: st) F Q := by
  obtain ⟨a, k, n, f, rfl, h1, h2, h3⟩ := aN_inv h
  exact aw_alen h1 h2.1 h2.2.1 h2.2.2 hd (kk _ h3)
theorem ar_cpI {idx : Nat} {sp dp n : Int} {r q : Option Nat} {K : hp → Prop} (hw : Cond.methodLink M.1.cls idx arraycopyName ∈ lw_g) (hw2 : Cond.native arraycopyName ∈ lw_g ∧ Cond.static arraycopyName ∈ lw_g ∧ Cond.initialized "java/lang/System" ∈ lw_g) (hc : (st.map ctg).sum ≤ 8) (hd : decode M.2.1 pc = .ok (.invokestatic idx, 3)) (h : cpI F r sp q dp n K) (kk : ∀ F', K F' → awx ex M (d + 1) kc ks (pc + 3) lo st F' Q) : awx ex M (d + 1) kc ks pc lo (vi n :: vi dp :: vr q :: vi sp :: vr r :: st) F Q := by
  unfold cpI at h
  split at h
  · rename_i a b
    split at h
    · rename_i k n0 f k' n1 g he0 he1
      obtain ⟨⟨rfl, rfl, h1, h2⟩, ⟨g1, g2, g3, g4, g5⟩, h3⟩ := h
      exact aw_copy hw hw2 he0 he1 h1 h2 g1 g2 g3 g4 g5 hc hd (kk _ h3)
    · exact h.elim
  · exact h.elim
theorem aw_mask (mk : List Bool) (k : awx ex M d kc ks pc (lmask mk lo) st F Q) : awx ex M d kc ks pc lo st F Q := by
  intro l p e R s m args below meth c H locs cells slots sa base ca D N ls k0 n0 X
  refine k l p e R s m args below meth c H locs cells slots sa base ca D N ls k0 n0 (wx_lo X ?_)
  have hl := X.2.2.2.2.2.2.1
  refine ⟨hl.1, hl.2.1, fun q hq => ?_⟩
  obtain ⟨i, v, h1, rfl⟩ := (lc_mem _ _ 0 q).mp hq
  exact hl.2.2 _ ((lc_mem _ _ 0 _).mpr ⟨i, v, lmask_get _ _ i v h1, rfl⟩)
theorem ac_eq {x y x' y' off : Int} {tgt : Nat} (hx : w32 x = x') (hy : w32 y = y') (hd : decode M.2.1 pc = .ok (.if_icmp .eq off, 3)) (ht : (pc : Int) + off = (tgt : Int)) (k1 : x' = y' → awx ex M d kc ks tgt lo st F Q) (k2 : ¬ x' = y' → awx ex M d kc ks (pc + 3) lo st F Q) : awx ex M d kc ks pc lo (vi y :: vi x :: st) F Q := by
  subst hx hy
  exact aw_icmp_eq hd ht k1 k2
theorem ac_ne {x y x' y' off : Int} {tgt : Nat} (hx : w32 x = x') (hy : w32 y = y') (hd : decode M.2.1 pc = .ok (.if_icmp .ne off, 3)) (ht : (pc : Int) + off = (tgt : Int)) (k1 : x' = y' → awx ex M d kc ks (pc + 3) lo st F Q) (k2 : ¬ x' = y' → awx ex M d kc ks tgt lo st F Q) : awx ex M d kc ks pc lo (vi y :: vi x :: st) F Q := by
  subst hx hy
  exact aw_icmp_ne hd ht k1 k2
theorem ac_lt {x y x' y' off : Int} {tgt : Nat} (hx : w32 x = x') (hy : w32 y = y') (hd : decode M.2.1 pc = .ok (.if_icmp .lt off, 3)) (ht : (pc : Int) + off = (tgt : Int)) (k1 : x' < y' → awx ex M d kc ks tgt lo st F Q) (k2 : ¬ x' < y' → awx ex M d kc ks (pc + 3) lo st F Q) : awx ex M d kc ks pc lo (vi y :: vi x :: st) F Q := by
  subst hx hy
  exact aw_icmp_lt hd ht k1 k2
theorem ac_ge {x y x' y' off : Int} {tgt : Nat} (hx : w32 x = x') (hy : w32 y = y') (hd : decode M.2.1 pc = .ok (.if_icmp .ge off, 3)) (ht : (pc : Int) + off = (tgt : Int)) (k1 : x' < y' → awx ex M d kc ks (pc + 3) lo st F Q) (k2 : ¬ x' < y' → awx ex M d kc ks tgt lo st F Q) : awx ex M d kc ks pc lo (vi y :: vi x :: st) F Q := by
  subst hx hy
  exact aw_icmp_ge hd ht k1 k2
theorem ac_gt {x y x' y' off : Int} {tgt : Nat} (hx : w32 x = x') (hy : w32 y = y') (hd : decode M.2.1 pc = .ok (.if_icmp .gt off, 3)) (ht : (pc : Int) + off = (tgt : Int)) (k1 : y' < x' → awx ex M d kc ks tgt lo st F Q) (k2 : ¬ y' < x' → awx ex M d kc ks (pc + 3) lo st F Q) : awx ex M d kc ks pc lo (vi y :: vi x :: st) F Q := by
  subst hx hy
  exact aw_icmp_gt hd ht k1 k2
theorem ac_le {x y x' y' off : Int} {tgt : Nat} (hx : w32 x = x') (hy : w32 y = y') (hd : decode M.2.1 pc = .ok (.if_icmp .le off, 3)) (ht : (pc : Int) + off = (tgt : Int)) (k1 : y' < x' → awx ex M d kc ks (pc + 3) lo st F Q) (k2 : ¬ y' < x' → awx ex M d kc ks tgt lo st F Q) : awx ex M d kc ks pc lo (vi y :: vi x :: st) F Q := by
  subst hx hy
  exact aw_icmp_le hd ht k1 k2
theorem ac_div {x y y' : Int} (hy : w32 y = y') (hne : y' ≠ 0) (hd : decode M.2.1 pc = .ok (.idiv, 1)) (k : awx ex M d kc ks (pc + 1) lo (vi ((w32 x).tdiv y') :: st) F Q) : awx ex M d kc ks pc lo (vi y :: vi x :: st) F Q := by
  subst hy
  exact aw_idiv hd hne k
theorem ac_rem {x y y' : Int} (hy : w32 y = y') (hne : y' ≠ 0) (hd : decode M.2.1 pc = .ok (.irem, 1)) (k : awx ex M d kc ks (pc + 1) lo (vi ((w32 x).tmod y') :: st) F Q) : awx ex M d kc ks pc lo (vi y :: vi x :: st) F Q := by
  subst hy
  exact aw_irem hd hne k
theorem ac_ldiv {x y y' : Int} (hy : w64 y = y') (hne : y' ≠ 0) (hd : decode M.2.1 pc = .ok (.ldiv, 1)) (k : awx ex M d kc ks (pc + 1) lo (vl ((w64 x).tdiv y') :: st) F Q) : awx ex M d kc ks pc lo (vl y :: vl x :: st) F Q := by
  subst hy
  exact aw_ldiv hd hne k
theorem ac_lrem {x y y' : Int} (hy : w64 y = y') (hne : y' ≠ 0) (hd : decode M.2.1 pc = .ok (.lrem, 1)) (k : awx ex M d kc ks (pc + 1) lo (vl ((w64 x).tmod y') :: st) F Q) : awx ex M d kc ks pc lo (vl y :: vl x :: st) F Q := by
  subst hy
  exact aw_lrem hd hne k
theorem ar_new {idx ci : Nat} {fs : List av} {K : Nat → hp → Prop} (L : nl M.1.cls idx ci fs) (n : Nat) (hn : fs.length = n) (hd : decode M.2.1 pc = .ok (.new idx, 3)) (h : nwc F (cO ci fs) K) (kk : ∀ a F', K a F' → awx ex M d kc ks (pc + 3) lo (vr (some a) :: st) F' Q) : awx ex M d (kc + 1) (ks + n) pc lo st F Q := by
  subst hn
  exact aw_new L hd (fun a ha => kk a _ (h a ha))
theorem ar_newarr {k : Nat} {at' : ArrayType} {ty : FieldType} {n : Int} {ms : Nat} {K : Nat → hp → Prop} (hk : (k, at') = (0, ArrayType.int) ∨ (k, at') = (1, ArrayType.byte) ∨ (k, at') = (2, ArrayType.boolean) ∨ (k, at') = (3, ArrayType.long)) (hty : newarray.typeOf at' = ty) (hw : Cond.arrayClass ty ∈ lw_g) (h0 : 0 ≤ n ∧ n ≤ 60000000 ∧ n.toNat ≤ ms) (hd : decode M.2.1 pc = .ok (.newarray at', 2)) (h : nwc F (cA k n (fun _ => 0)) K) (kk : ∀ a F', K a F' → awx ex M d kc ks (pc + 2) lo (vr (some a) :: st) F' Q) : awx ex M d (kc + 1) (ks + ms) pc lo (vi n :: st) F Q :=
  aw_newarr hk hty hw h0.1 h0.2.1 h0.2.2 hd (fun a ha => kk a _ (h a ha))
theorem ar_anew {idx : Nat} {n : Int} {ms : Nat} {K : Nat → hp → Prop} (hw : Cond.classLink M.1.cls idx "RailsGrowWider$Text" ∈ lw_g) (h0 : 0 ≤ n ∧ n ≤ 60000000 ∧ n.toNat ≤ ms) (hd : decode M.2.1 pc = .ok (.anewarray idx, 3)) (h : nwc F (cT n (fun _ => none)) K) (kk : ∀ a F', K a F' → awx ex M d kc ks (pc + 3) lo (vr (some a) :: st) F' Q) : awx ex M d (kc + 1) (ks + ms) pc lo (vi n :: st) F Q :=
  aw_anew hw h0.1 h0.2.1 h0.2.2 hd (fun a ha => kk a _ (h a ha))
theorem ar_clone {idx : Nat} {r : Option Nat} {ms : Nat} {K : Nat → hp → Prop} (hw : Cond.methodLink M.1.cls idx ⟨"[I", "clone", "()Ljava/lang/Object;"⟩ ∈ lw_g) (hw2 : Cond.sameMethod "[I" "java/lang/Object" "clone" "()Ljava/lang/Object;" ∈ lw_g ∧ Cond.native ⟨"java/lang/Object", "clone", "()Ljava/lang/Object;"⟩ ∈ lw_g ∧ Cond.instanceMethod ⟨"java/lang/Object", "clone", "()Ljava/lang/Object;"⟩ ∈ lw_g ∧ Cond.selects "[I" ⟨"[I", "clone", "()Ljava/lang/Object;"⟩ ⟨"java/lang/Object", "clone", "()Ljava/lang/Object;"⟩ ∈ lw_g) (hc : (st.map ctg).sum ≤ 8) (hd : decode M.2.1 pc = .ok (.invokevirtual idx, 3)) (h : clI F r ms K) (kk : ∀ b F', K b F' → awx ex M (d + 1) kc ks (pc + 3) lo (vr (some b) :: st) F' Q) : awx ex M (d + 1) (kc + 1) (ks + ms) pc lo (vr r :: st) F Q := by
  obtain ⟨a, n, f, rfl, h1, h2, h3⟩ := h
  exact aw_clone hw hw2 h1 h2 hc hd (fun b hb => kk b _ (h3 b hb))
theorem ar_castI {idx : Nat} {r : Option Nat} {K : Prop} (hl : Cond.classLink M.1.cls idx "[I" ∈ lw_g) (hd : decode M.2.1 pc = .ok (.checkcast idx, 3)) (h : (∃ a n f, r = some a ∧ F a = some (cA 0 n f)) ∧ K) (kk : K → awx ex M d kc ks (pc + 3) lo (vr r :: st) F Q) : awx ex M d kc ks pc lo (vr r :: st) F Q := by
  obtain ⟨⟨a, n, f, rfl, h1⟩, h2⟩ := h
  exact aw_castI hl h1 hd (kk h2)
theorem aw_less {kc' ks' : Nat} (h1 : kc' ≤ kc) (h2 : ks' ≤ ks) (k : awx ex M d kc' ks' pc lo st F Q) : awx ex M d kc ks pc lo st F Q := by
  intro l p e R s m args below meth c H locs cells slots sa base ca D N ls k0 n0 X
  obtain ⟨g1, g2, g3, g4, g5, g6, g7, g8, g9, g10, g11⟩ := X
  exact k l p e R s m args below meth c H locs cells slots sa base ca D N ls k0 n0 ⟨g1, g2, g3, g4, g5, g6, g7, by omega, by omega, g10, g11⟩
theorem am_less {as : List av} {kc' ks' : Nat} (h1 : kc' = kc) (h2 : ks' = ks) (k : am M d kc' ks' as F Q) : am M d kc ks as F Q := by
  subst h1 h2
  exact k
-- calls, by what they answer
theorem ar_SI {M' : mi} {kc' ks' idx n : Nat} {as : List av} {Q' : Int → hp → Prop} (hM : am M' d kc' ks' as F (qI Q')) (hw : mt M' n) (hl : Cond.methodLink M.1.cls idx M'.1 ∈ lw_g) (hs : Cond.static M'.1 ∈ lw_g) (hn : as.length = n) (hc : (st.map ctg).sum ≤ 8) (hd : decode M.2.1 pc = .ok (.invokestatic idx, 3)) (kk : ∀ x F', Q' x F' → awx ex M (d + 1) kc ks (pc + 3) lo (vi x :: st) F' Q) : awx ex M (d + 1) (kc' + kc) (ks' + ks) pc lo (as.reverse ++ st) F Q :=
  aw_callS hM hw hl hs hn hc hd (fun r F' h => by obtain ⟨x, rfl, h⟩ := h; exact kk x F' h)
theorem ar_SL {M' : mi} {kc' ks' idx n : Nat} {as : List av} {Q' : Int → hp → Prop} (hM : am M' d kc' ks' as F (qL Q')) (hw : mt M' n) (hl : Cond.methodLink M.1.cls idx M'.1 ∈ lw_g) (hs : Cond.static M'.1 ∈ lw_g) (hn : as.length = n) (hc : (st.map ctg).sum ≤ 8) (hd : decode M.2.1 pc = .ok (.invokestatic idx, 3)) (kk : ∀ x F', Q' x F' → awx ex M (d + 1) kc ks (pc + 3) lo (vl x :: st) F' Q) : awx ex M (d + 1) (kc' + kc) (ks' + ks) pc lo (as.reverse ++ st) F Q :=
  aw_callS hM hw hl hs hn hc hd (fun r F' h => by obtain ⟨x, rfl, h⟩ := h; exact kk x F' h)
theorem ar_SR {M' : mi} {kc' ks' idx n : Nat} {as : List av} {Q' : Option Nat → hp → Prop} (hM : am M' d kc' ks' as F (qR Q')) (hw : mt M' n) (hl : Cond.methodLink M.1.cls idx M'.1 ∈ lw_g) (hs : Cond.static M'.1 ∈ lw_g) (hn : as.length = n) (hc : (st.map ctg).sum ≤ 8) (hd : decode M.2.1 pc = .ok (.invokestatic idx, 3)) (kk : ∀ x F', Q' x F' → awx ex M (d + 1) kc ks (pc + 3) lo (vr x :: st) F' Q) : awx ex M (d + 1) (kc' + kc) (ks' + ks) pc lo (as.reverse ++ st) F Q :=
  aw_callS hM hw hl hs hn hc hd (fun r F' h => by obtain ⟨x, rfl, h⟩ := h; exact kk x F' h)
theorem ar_SV {M' : mi} {kc' ks' idx n : Nat} {as : List av} {Q' : hp → Prop} (hM : am M' d kc' ks' as F (qV Q')) (hw : mt M' n) (hl : Cond.methodLink M.1.cls idx M'.1 ∈ lw_g) (hs : Cond.static M'.1 ∈ lw_g) (hn : as.length = n) (hc : (st.map ctg).sum ≤ 8) (hd : decode M.2.1 pc = .ok (.invokestatic idx, 3)) (kk : ∀ F', Q' F' → awx ex M (d + 1) kc ks (pc + 3) lo st F' Q) : awx ex M (d + 1) (kc' + kc) (ks' + ks) pc lo (as.reverse ++ st) F Q :=
  aw_callS hM hw hl hs hn hc hd (fun r F' h => by obtain ⟨rfl, h⟩ := h; exact kk F' h)
theorem ar_SNI {M' : mi} {kc' ks' idx n : Nat} {host : String} {as : List av} {Q' : Int → hp → Prop} (hM : am M' d kc' ks' as F (qI Q')) (hw : mt M' n) (hl : (M.1.cls, idx, M'.1, host) ∈ nestL) (hs : Cond.static M'.1 ∈ lw_g) (hn : as.length = n) (hc : (st.map ctg).sum ≤ 8) (hd : decode M.2.1 pc = .ok (.invokestatic idx, 3)) (kk : ∀ x F', Q' x F' → awx ex M (d + 1) kc ks (pc + 3) lo (vi x :: st) F' Q) : awx ex M (d + 1) (kc' + kc) (ks' + ks) pc lo (as.reverse ++ st) F Q :=
  aw_callSN hM hw hl hs hn hc hd (fun r F' h => by obtain ⟨x, rfl, h⟩ := h; exact kk x F' h)
theorem ar_VI {M' : mi} {kc' ks' idx n a ci : Nat} {as fs : List av} {Q' : Int → hp → Prop} (hM : am M' d kc' ks' (vr (some a) :: as) F (qI Q')) (hw : mt M' n) (hC : (vwCl[ci]?).map (fun q => q.1) = some M'.1.cls) (hl : Cond.methodLink M.1.cls idx M'.1 ∈ lw_g) (hs : Cond.instanceMethod M'.1 ∈ lw_g) (hs2 : Cond.selects M'.1.cls M'.1 M'.1 ∈ lw_g) (he : F a = some (cO ci fs)) (hn : as.length = n) (hc : (st.map ctg).sum ≤ 8) (hd : decode M.2.1 pc = .ok (.invokevirtual idx, 3)) (kk : ∀ x F', Q' x F' → awx ex M (d + 1) kc ks (pc + 3) lo (vi x :: st) F' Q) : awx ex M (d + 1) (kc' + kc) (ks' + ks) pc lo (as.reverse ++ vr (some a) :: st) F Q :=
  aw_callV hM hw hC hl hs hs2 he hn hc hd (fun r F' h => by obtain ⟨x, rfl, h⟩ := h; exact kk x F' h)
theorem ar_VL {M' : mi} {kc' ks' idx n a ci : Nat} {as fs : List av} {Q' : Int → hp → Prop} (hM : am M' d kc' ks' (vr (some a) :: as) F (qL Q')) (hw : mt M' n) (hC : (vwCl[ci]?).map (fun q => q.1) = some M'.1.cls) (hl : Cond.methodLink M.1.cls idx M'.1 ∈ lw_g) (hs : Cond.instanceMethod M'.1 ∈ lw_g) (hs2 : Cond.selects M'.1.cls M'.1 M'.1 ∈ lw_g) (he : F a = some (cO ci fs)) (hn : as.length = n) (hc : (st.map ctg).sum ≤ 8) (hd : decode M.2.1 pc = .ok (.invokevirtual idx, 3)) (kk : ∀ x F', Q' x F' → awx ex M (d + 1) kc ks (pc + 3) lo (vl x :: st) F' Q) : awx ex M (d + 1) (kc' + kc) (ks' + ks) pc lo (as.reverse ++ vr (some a) :: st) F Q :=
  aw_callV hM hw hC hl hs hs2 he hn hc hd (fun r F' h => by obtain ⟨x, rfl, h⟩ := h; exact kk x F' h)
theorem ar_VR {M' : mi} {kc' ks' idx n a ci : Nat} {as fs : List av} {Q' : Option Nat → hp → Prop} (hM : am M' d kc' ks' (vr (some a) :: as) F (qR Q')) (hw : mt M' n) (hC : (vwCl[ci]?).map (fun q => q.1) = some M'.1.cls) (hl : Cond.methodLink M.1.cls idx M'.1 ∈ lw_g) (hs : Cond.instanceMethod M'.1 ∈ lw_g) (hs2 : Cond.selects M'.1.cls M'.1 M'.1 ∈ lw_g) (he : F a = some (cO ci fs)) (hn : as.length = n) (hc : (st.map ctg).sum ≤ 8) (hd : decode M.2.1 pc = .ok (.invokevirtual idx, 3)) (kk : ∀ x F', Q' x F' → awx ex M (d + 1) kc ks (pc + 3) lo (vr x :: st) F' Q) : awx ex M (d + 1) (kc' + kc) (ks' + ks) pc lo (as.reverse ++ vr (some a) :: st) F Q :=
  aw_callV hM hw hC hl hs hs2 he hn hc hd (fun r F' h => by obtain ⟨x, rfl, h⟩ := h; exact kk x F' h)
theorem ar_VV {M' : mi} {kc' ks' idx n a ci : Nat} {as fs : List av} {Q' : hp → Prop} (hM : am M' d kc' ks' (vr (some a) :: as) F (qV Q')) (hw : mt M' n) (hC : (vwCl[ci]?).map (fun q => q.1) = some M'.1.cls) (hl : Cond.methodLink M.1.cls idx M'.1 ∈ lw_g) (hs : Cond.instanceMethod M'.1 ∈ lw_g) (hs2 : Cond.selects M'.1.cls M'.1 M'.1 ∈ lw_g) (he : F a = some (cO ci fs)) (hn : as.length = n) (hc : (st.map ctg).sum ≤ 8) (hd : decode M.2.1 pc = .ok (.invokevirtual idx, 3)) (kk : ∀ F', Q' F' → awx ex M (d + 1) kc ks (pc + 3) lo st F' Q) : awx ex M (d + 1) (kc' + kc) (ks' + ks) pc lo (as.reverse ++ vr (some a) :: st) F Q :=
  aw_callV hM hw hC hl hs hs2 he hn hc hd (fun r F' h => by obtain ⟨rfl, h⟩ := h; exact kk F' h)
theorem ar_IV {M' : mi} {kc' ks' idx n a : Nat} {as : List av} {Q' : hp → Prop} (hM : am M' d kc' ks' (vr (some a) :: as) F (qV Q')) (hw : mt M' n) (hv : M'.2.2.2 = none) (hi : M'.1.name = "<init>") (hl : Cond.methodLink M.1.cls idx M'.1 ∈ lw_g) (hs : Cond.instanceMethod M'.1 ∈ lw_g) (hn : as.length = n) (hc : (st.map ctg).sum ≤ 8) (hd : decode M.2.1 pc = .ok (.invokespecial idx, 3)) (kk : ∀ F', Q' F' → awx ex M (d + 1) kc ks (pc + 3) lo st F' Q) : awx ex M (d + 1) (kc' + kc) (ks' + ks) pc lo (as.reverse ++ vr (some a) :: st) F Q :=
  aw_callI hM hw hv hi hl hs hn hc hd (fun r F' h => by obtain ⟨rfl, h⟩ := h; exact kk F' h)
theorem ar_INV {M' : mi} {kc' ks' idx n a : Nat} {host : String} {as : List av} {Q' : hp → Prop} (hM : am M' d kc' ks' (vr (some a) :: as) F (qV Q')) (hw : mt M' n) (hv : M'.2.2.2 = none) (hi : M'.1.name = "<init>") (hl : (M.1.cls, idx, M'.1, host) ∈ nestL) (hs : Cond.instanceMethod M'.1 ∈ lw_g) (hn : as.length = n) (hc : (st.map ctg).sum ≤ 8) (hd : decode M.2.1 pc = .ok (.invokespecial idx, 3)) (kk : ∀ F', Q' F' → awx ex M (d + 1) kc ks (pc + 3) lo st F' Q) : awx ex M (d + 1) (kc' + kc) (ks' + ks) pc lo (as.reverse ++ vr (some a) :: st) F Q :=
  aw_callIN hM hw hv hi hl hs hn hc hd (fun r F' h => by obtain ⟨rfl, h⟩ := h; exact kk F' h)
end AR
