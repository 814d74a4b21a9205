-- A MACHINE OF PLAIN NUMBERS OVER THE KIT'S: ints and longs are whole numbers, references are handles, the heap is a function of handles.
-- Handles below 8 are things that stand still (a static array, two Strings and their bytes); a handle k + 8 is the k-th cell made since the law began.
-- the words that a callee may take over
def lw_g : List Cond := lw_tbl.filter goodWord
def nestL : List (String × Nat × MethodName × String) := [("RailsGrowWider", 9, ⟨"RailsGrowWider$Works", "<init>", "()V"⟩, "RailsGrowWider"), ("RailsGrowWider$Works", 11, ⟨"RailsGrowWider$Station", "<init>", "()V"⟩, "RailsGrowWider"), ("RailsGrowWider$Station", 20, ⟨"RailsGrowWider$Steps", "<init>", "()V"⟩, "RailsGrowWider"), ("RailsGrowWider$Works", 20, ⟨"RailsGrowWider$Scale", "<init>", "()V"⟩, "RailsGrowWider"), ("RailsGrowWider", 23, ⟨"RailsGrowWider$Station", "<init>", "()V"⟩, "RailsGrowWider"), ("RailsGrowWider", 29, ⟨"RailsGrowWider$Reader", "<init>", "()V"⟩, "RailsGrowWider"), ("RailsGrowWider", 36, ⟨"RailsGrowWider$Shunter", "<init>", "()V"⟩, "RailsGrowWider"), ("RailsGrowWider", 43, ⟨"RailsGrowWider$Orders", "<init>", "()V"⟩, "RailsGrowWider"), ("RailsGrowWider", 50, ⟨"RailsGrowWider$Accounts", "<init>", "()V"⟩, "RailsGrowWider"), ("RailsGrowWider$Reader", 114, ⟨"RailsGrowWider", "within", "(III)Z"⟩, "RailsGrowWider")]
abbrev av : Type := Int ⊕ (Int ⊕ Option Nat)
abbrev vi (x : Int) : av := .inl x
abbrev vl (x : Int) : av := .inr (.inl x)
abbrev vr (a : Option Nat) : av := .inr (.inr a)
-- a cell: an array of numbers (kind 0 int, 1 byte, 2 boolean, 3 long; length; contents), an array of TEXTs, an object
abbrev ac : Type := (Nat × Int × (Int → Int)) ⊕ ((Int × (Int → Option Nat)) ⊕ (Nat × List av))
abbrev cA (k : Nat) (n : Int) (f : Int → Int) : ac := .inl (k, n, f)
abbrev cT (n : Int) (f : Int → Option Nat) : ac := .inr (.inl (n, f))
abbrev cO (c : Nat) (fs : List av) : ac := .inr (.inr (c, fs))
abbrev hp : Type := Nat → Option ac
-- the address of a handle
def ad (sa : Nat → Nat) (base h : Nat) : Nat := if h < 8 then sa h else base + (h - 8)
def cv (g : Nat → Nat) : av → Value
  | .inl x => .int (Int32.ofInt x)
  | .inr (.inl x) => .long (Int64.ofInt x)
  | .inr (.inr r) => va_rf (r.map g)
def ce (g : Nat → Nat) (ca : Nat → ClassId) : ac → va_E
  | .inl (k, n, f) => if k = 3 then .inl (ca 3, n.toNat, .inr (.inl (fun j => Int64.ofInt (f j)))) else .inl (ca k, n.toNat, .inl (fun j => Int32.ofInt (f j)))
  | .inr (.inl (n, f)) => .inl (ca 4, n.toNat, .inr (.inr (.inr (.inr (fun j => (f j).map g)))))
  | .inr (.inr (c, fs)) => .inr (c, fs.map (cv g))
def co (g : Nat → Nat) (ca : Nat → ClassId) : Option ac → va_E
  | some c => ce g ca c
  | none => .inr (0, [])
def ch (g : Nat → Nat) (ca : Nat → ClassId) (N : Nat) (F : hp) : va_W := (List.range N).map (fun i => (g (i + 8), co g ca (F (i + 8))))
-- the heap holds just the handles 8 .. N + 7
def sz (F : hp) (N : Nat) : Prop := ∀ h : Nat, F h = none ↔ (h < 8 ∨ N + 8 ≤ h)
def hs (F : hp) (h : Nat) (c : ac) : hp := fun j => if j = h then some c else F j
def us {α : Type} (f : Int → α) (i : Int) (v : α) : Int → α := fun j => if j = i then v else f j
abbrev tys (ca : Nat → ClassId) : List (ClassId × FieldType) := [(ca 0, .int), (ca 1, .byte), (ca 2, .boolean), (ca 3, .long), (ca 4, .object "RailsGrowWider$Text")]
abbrev bs (base : Nat) : Nat → Prop := fun q => base ≤ q
-- the two literals' bytes, the static row
def wordsB : List Int32 := ("hour number load kind wide worn from to many narrow broad moves changes car forbid move change lend by of odd top if then else end or and not ".toList.map (fun c => Int32.ofNat c.toNat))
def signsB : List Int32 := ("<>=#+-*/();".toList.map (fun c => Int32.ofNat c.toNat))
def rowsB : List Int32 := [24, 6, 2, 1, 1]
-- what stands still
def stt (sa : Nat → Nat) (base : Nat) (U : State) : Prop :=
  va_Z RX1 "ROWS_BEHIND" "[I" (.ref (sa 0)) (bs base) U U.heap ∧ va_T .int (sa 0) 5 (fun j => .int (rowsB.getD j 0)) (bs base) U U.heap ∧
  vk_S 2 [142, 11] [wordsB, signsB] (fun i => sa (1 + i)) (fun i => sa (3 + i)) (bs base) U U.heap ∧
  vk_R RX2 118 "hour number load kind wide worn from to many narrow broad moves changes car forbid move change lend by of odd top if then else end or and not " (sa 1) U ∧ vk_R RX2 132 "<>=#+-*/();" (sa 2) U ∧
  va_Z "java/lang/String" "COMPACT_STRINGS" "Z" (.int 1) (bs base) U U.heap ∧ (va_Z "jdk/internal/util/Preconditions" "SIOOBE_FORMATTER" "Ljava/util/function/BiFunction;" .null (bs base) U U.heap ∨ va_Z "jdk/internal/util/Preconditions" "SIOOBE_FORMATTER" "Ljava/util/function/BiFunction;" (.ref (sa 5)) (bs base) U U.heap) ∧
  va_AO "RailsGrowWider$Text" U ∧ va_Nw (.castable "[I" "java/lang/Cloneable") U ∧ ∀ q ∈ nestL, va_Nw (.methodLinkNest q.1 q.2.1 q.2.2.1 q.2.2.2) U
-- a method: its name, bytes, locals, what it returns
abbrev mi : Type := MethodName × ByteArray × Nat × Option FieldType
-- locals: what is known of each
def lc (g : Nat → Nat) : Nat → List (Option av) → List (Nat × Value)
  | _, [] => []
  | k, none :: r => lc g (k + 1) r
  | k, some v :: r => (k, cv g v) :: lc g (k + 1) r
def cx (M : mi) (d : Nat) (p : Program) (R : Room) (s : State) (m : MethodId) (args : Array Value) (meth : Method) (c : Code) : Prop :=
  p.tables.exec = Jvm.exec ∧ c.code = M.2.1 ∧ c.maxLocals = M.2.2.1 ∧ meth.sig.returnType = M.2.2.2 ∧ s.vm.findClass M.1.cls = some m.cls ∧ meth.locks = false ∧ (M.1.name = "<init>" → meth.name = "<init>") ∧
  (∀ w ∈ lw_g, w.before args s = true) ∧ d ≤ R.frames ∧ 64 * d ≤ R.locals
-- the world at a state
def wl (sa : Nat → Nat) (base : Nat) (ca : Nat → ClassId) (D : va_G) (N : Nat) (F : hp) (U : State) (H : Heap) : Prop :=
  sz F N ∧ va_P D vwCl (ch (ad sa base) ca N F) H ∧ va_K D vwCl (tys ca) U
-- what a method leaves behind
def qq (sa : Nat → Nat) (base : Nat) (ca : Nat → ClassId) (D : va_G) (Q : Option av → hp → Prop) : Array Value → State → Outcome → State → Prop := fun _ st oc t =>
  (∃ (r : Option av) (F : hp) (N : Nat), oc = .returned (r.map (cv (ad sa base))) ∧ Q r F ∧ t.heap.size = base + N ∧ wl sa base ca D N F t t.heap) ∧ va_F (bs base) st t
def wx (ex : State → (Nat → Nat) → Nat → Prop) (M : mi) (d kc ks : Nat) (lo : List (Option av)) (F : hp) (p : Program) (R : Room) (s : State) (m : MethodId) (args : Array Value) (meth : Method) (c : Code) (H : Heap) (locs : List Loc) (cells slots : Nat) (sa : Nat → Nat) (base : Nat) (ca : Nat → ClassId) (D : va_G) (N : Nat) (ls : Array Slot) (k0 n0 : Nat) : Prop :=
  cx M d p R s m args meth c ∧ stt sa base s ∧ base ≤ s.heap.size ∧ va_S (bs base) s.heap H locs ∧ s.heap.size + cells = base + N ∧ wl sa base ca D N F s H ∧ lv_has ls M.2.2.1 (lc (ad sa base) 0 lo) ∧ cells + kc ≤ k0 ∧ slots + ks ≤ n0 ∧ k0 ≤ R.cells ∧ n0 ≤ R.slots ∧ ex s sa base
-- from here the method comes to its end, with Q; kc cells of ks slots may yet be made
def awx (ex : State → (Nat → Nat) → Nat → Prop) (M : mi) (d kc ks pc : Nat) (lo : List (Option av)) (st : List av) (F : hp) (Q : Option av → hp → Prop) : Prop :=
  ∀ (l : Launch) (p : Program) (e : Env) (R : Room) (s : State) (m : MethodId) (args : Array Value) (below : List Frame) (meth : Method) (c : Code) (H : Heap) (locs : List Loc) (cells slots : Nat) (sa : Nat → Nat) (base : Nat) (ca : Nat → ClassId) (D : va_G) (N : Nat) (ls : Array Slot) (k0 n0 : Nat),
    wx ex M d kc ks lo F p R s m args meth c H locs cells slots sa base ca D N ls k0 n0 →
    W p l e R s m args below meth c H locs cells slots (MQ below (qq sa base ca D Q) args s k0 n0 (bs base)) (F0 m pc ls (st.map (cv (ad sa base))))
abbrev aw (M : mi) (d kc ks pc : Nat) (lo : List (Option av)) (st : List av) (F : hp) (Q : Option av → hp → Prop) : Prop := awx (fun _ _ _ => True) M d kc ks pc lo st F Q
-- the words of every method: its code, and all that the tables say
abbrev wsM (M : mi) : List Cond := .code M.1 M.2.1 M.2.2.1 M.2.2.2 :: lw_g
abbrev rmM (d kc ks : Nat) : Room := { frames := d, cells := kc, slots := ks, locals := 64 * d }
def pq (sa : Nat → Nat) (base : Nat) (ca : Nat → ClassId) (D : va_G) (F : hp) (U : State) : Prop := stt sa base U ∧ ∃ N : Nat, U.heap.size = base + N ∧ wl sa base ca D N F U U.heap
-- a method's contract
def am (M : mi) (d kc ks : Nat) (as : List av) (F : hp) (Q : Option av → hp → Prop) : Prop :=
  ∀ (l : Launch) (sa : Nat → Nat) (base : Nat) (ca : Nat → ClassId) (D : va_G),
    Met l M.1 (wsM M) (rmM d kc ks) (va_Pc (as.map (cv (ad sa base))) (pq sa base ca D F)) (qq sa base ca D Q) kc ks (bs base)
-- ----- rows on the pictures -----
theorem ad_hi (sa : Nat → Nat) (base k : Nat) : ad sa base (k + 8) = base + k := by
  unfold ad
  rw [if_neg (by omega)]
  omega
theorem ch_get (g : Nat → Nat) (ca : Nat → ClassId) (N : Nat) (F : hp) (k : Nat) : (ch g ca N F)[k]? = if k < N then some (g (k + 8), co g ca (F (k + 8))) else none := by
  unfold ch
  rw [List.getElem?_map]
  by_cases h : k < N
  · rw [List.getElem?_range h, if_pos h]; rfl
  · rw [if_neg h, List.getElem?_eq_none (by simpa using Nat.not_lt.mp h)]; rfl
theorem sz_some {F : hp} {N h : Nat} {c : ac} (hN : sz F N) (he : F h = some c) : ∃ k, h = k + 8 ∧ k < N := by
  have h1 : ¬ (h < 8 ∨ N + 8 ≤ h) := fun q => by
    have := (hN h).mpr q
    rw [he] at this
    cases this
  exact ⟨h - 8, by omega, by omega⟩
theorem ch_at {g : Nat → Nat} {ca : Nat → ClassId} {F : hp} {N h : Nat} {c : ac} (hN : sz F N) (he : F h = some c) : (ch g ca N F)[h - 8]? = some (g h, ce g ca c) := by
  obtain ⟨k, rfl, hk⟩ := sz_some hN he
  rw [ch_get, show k + 8 - 8 = k by omega, if_pos hk, he]
  rfl
theorem ch_set {g : Nat → Nat} {ca : Nat → ClassId} {F : hp} {N h : Nat} {c c' : ac} (hN : sz F N) (he : F h = some c) : (ch g ca N F).set (h - 8) (g h, ce g ca c') = ch g ca N (hs F h c') := by
  obtain ⟨k, rfl, hk⟩ := sz_some hN he
  apply List.ext_getElem?
  intro j
  rw [ch_get, List.getElem?_set, ch_get, show k + 8 - 8 = k by omega]
  have hl : (ch g ca N F).length = N := by unfold ch; simp
  by_cases hj : k = j
  · subst hj
    rw [if_pos rfl, hl, if_pos hk, if_pos hk]
    simp [hs, co]
  · rw [if_neg hj]
    have : ¬ j = k := fun e => hj e.symm
    simp [hs, this]
theorem hs_sz {F : hp} {N h : Nat} {c c' : ac} (hN : sz F N) (he : F h = some c) : sz (hs F h c') N := by
  intro j
  by_cases hj : j = h
  · subst hj
    simp only [hs, if_true]
    have h1 := hN j
    rw [he] at h1
    constructor
    · intro q; cases q
    · intro q; exact absurd (h1.mpr q) (by simp)
  · simp only [hs, if_neg hj]
    exact hN j
theorem sz_new {F : hp} {N : Nat} {c : ac} (hN : sz F N) : sz (hs F (N + 8) c) (N + 1) := by
  intro j
  by_cases hj : j = N + 8
  · subst hj
    simp only [hs, if_true]
    constructor
    · intro q; cases q
    · intro q; omega
  · simp only [hs, if_neg hj]
    rw [hN j]
    omega
theorem ch_new {g : Nat → Nat} {ca : Nat → ClassId} {F : hp} {N : Nat} {c : ac} : ch g ca N F ++ [(g (N + 8), ce g ca c)] = ch g ca (N + 1) (hs F (N + 8) c) := by
  apply List.ext_getElem?
  intro j
  have hl : (ch g ca N F).length = N := by unfold ch; simp
  rw [ch_get]
  by_cases hj : j < N
  · rw [List.getElem?_append_left (by omega), ch_get, if_pos hj, if_pos (by omega)]
    have : ¬ j = N := by omega
    simp [hs, this]
  · rw [List.getElem?_append_right (by omega), hl]
    by_cases hj2 : j = N
    · subst hj2
      simp [hs, co]
    · rw [if_neg (by omega), List.getElem?_eq_none (by simp; omega)]
theorem ch_D (sa : Nat → Nat) (base : Nat) (ca : Nat → ClassId) (N : Nat) (F : hp) : va_D (bs base) (ch (ad sa base) ca N F) := by
  constructor
  · intro i j p q hi hj hpq
    rw [ch_get] at hi hj
    by_cases h1 : i < N
    · by_cases h2 : j < N
      · rw [if_pos h1] at hi
        rw [if_pos h2] at hj
        cases hi
        cases hj
        simp only [ad_hi] at hpq
        omega
      · rw [if_neg h2] at hj; cases hj
    · rw [if_neg h1] at hi; cases hi
  · intro k q hk
    rw [ch_get] at hk
    by_cases h1 : k < N
    · rw [if_pos h1] at hk
      cases hk
      show base ≤ ad sa base (k + 8)
      rw [ad_hi]
      omega
    · rw [if_neg h1] at hk; cases hk
theorem lc_mem (g : Nat → Nat) : ∀ (lo : List (Option av)) (k : Nat) (q : Nat × Value), q ∈ lc g k lo ↔ ∃ (i : Nat) (v : av), lo[i]? = some (some v) ∧ q = (k + i, cv g v) := by
  intro lo
  induction lo with
  | nil =>
    intro k q
    simp [lc]
  | cons a r ih =>
    intro k q
    have key : (∃ (i : Nat) (v : av), (a :: r)[i]? = some (some v) ∧ q = (k + i, cv g v)) ↔ (∃ v, a = some v ∧ q = (k, cv g v)) ∨ q ∈ lc g (k + 1) r := by
      rw [ih]
      constructor
      · rintro ⟨i, v, h1, h2⟩
        cases i with
        | zero => exact Or.inl ⟨v, by simpa using h1, h2⟩
        | succ i => exact Or.inr ⟨i, v, by simpa using h1, by rw [h2]; congr 1; omega⟩
      · rintro (⟨v, h1, h2⟩ | ⟨i, v, h1, h2⟩)
        · exact ⟨0, v, by simp [h1], h2⟩
        · exact ⟨i + 1, v, by simpa using h1, by rw [h2]; congr 1; omega⟩
    rw [key]
    cases a with
    | none => simp [lc]
    | some v =>
      simp only [lc, List.mem_cons]
      constructor
      · rintro (h | h)
        · exact Or.inl ⟨v, rfl, h⟩
        · exact Or.inr h
      · rintro (⟨w, h1, h2⟩ | h)
        · cases h1; exact Or.inl h2
        · exact Or.inr h
theorem lo_at {g : Nat → Nat} {ls : Array Slot} {nL : Nat} {lo : List (Option av)} (h : lv_has ls nL (lc g 0 lo)) {i : Nat} {v : av} (hi : lo[i]? = some (some v)) : ls[i]? = some (.val (cv g v)) :=
  h.2.2 (i, cv g v) ((lc_mem g lo 0 _).mpr ⟨i, v, hi, by simp⟩)
-- a local of two words dies when its second word is written
def kl : Option av → Option av
  | some (.inr (.inl _)) => none
  | x => x
def st1 : List (Option av) → Nat → av → List (Option av)
  | [], _, _ => []
  | _ :: r, 0, v => some v :: r
  | a :: r, i + 1, v => (if i = 0 then kl a else a) :: st1 r i v
def st2 : List (Option av) → Nat → av → List (Option av)
  | [], _, _ => []
  | _ :: [], 0, _ => []
  | _ :: _ :: r, 0, v => some v :: none :: r
  | a :: r, i + 1, v => (if i = 0 then kl a else a) :: st2 r i v
theorem st1_get : ∀ (lo : List (Option av)) (i : Nat) (v : av) (j : Nat) (w : av), (st1 lo i v)[j]? = some (some w) → (j = i ∧ w = v) ∨ (j ≠ i ∧ lo[j]? = some (some w) ∧ ¬ (j + 1 = i ∧ ∃ z, w = vl z)) := by
  intro lo
  induction lo with
  | nil => intro i v j w h; simp [st1] at h
  | cons a r ih =>
    intro i v j w h
    cases i with
    | zero =>
      cases j with
      | zero => left; simp [st1] at h; exact ⟨rfl, h.symm⟩
      | succ j => right; simp [st1] at h; exact ⟨by omega, by simpa using h, by omega⟩
    | succ i =>
      cases j with
      | zero =>
        right
        simp only [st1, List.getElem?_cons_zero, Option.some.injEq] at h
        by_cases hi : i = 0
        · rw [if_pos hi] at h
          cases a with
          | none => cases h
          | some x =>
            rcases x with x | x | x
            · cases h; exact ⟨by omega, rfl, fun ⟨_, z, hz⟩ => by cases hz⟩
            · cases h
            · cases h; exact ⟨by omega, rfl, fun ⟨_, z, hz⟩ => by cases hz⟩
        · rw [if_neg hi] at h
          exact ⟨by omega, by simpa using h, fun ⟨q, _⟩ => by omega⟩
      | succ j =>
        simp only [st1, List.getElem?_cons_succ] at h
        rcases ih i v j w h with ⟨h1, h2⟩ | ⟨h1, h2, h3⟩
        · exact Or.inl ⟨by omega, h2⟩
        · exact Or.inr ⟨by omega, by simpa using h2, fun ⟨q, z⟩ => h3 ⟨by omega, z⟩⟩
theorem st2_get : ∀ (lo : List (Option av)) (i : Nat) (v : av) (j : Nat) (w : av), (st2 lo i v)[j]? = some (some w) → (j = i ∧ w = v) ∨ (j ≠ i ∧ j ≠ i + 1 ∧ lo[j]? = some (some w) ∧ ¬ (j + 1 = i ∧ ∃ z, w = vl z)) := by
  intro lo
  induction lo with
  | nil => intro i v j w h; simp [st2] at h
  | cons a r ih =>
    intro i v j w h
    cases i with
    | zero =>
      cases r with
      | nil => simp [st2] at h
      | cons b r =>
        cases j with
        | zero => left; simp [st2] at h; exact ⟨rfl, h.symm⟩
        | succ j =>
          cases j with
          | zero => simp [st2] at h
          | succ j => right; simp [st2] at h; exact ⟨by omega, by omega, by simpa using h, by omega⟩
    | succ i =>
      cases j with
      | zero =>
        right
        simp only [st2, List.getElem?_cons_zero, Option.some.injEq] at h
        by_cases hi : i = 0
        · rw [if_pos hi] at h
          cases a with
          | none => cases h
          | some x =>
            rcases x with x | x | x
            · cases h; exact ⟨by omega, by omega, rfl, fun ⟨_, z, hz⟩ => by cases hz⟩
            · cases h
            · cases h; exact ⟨by omega, by omega, rfl, fun ⟨_, z, hz⟩ => by cases hz⟩
        · rw [if_neg hi] at h
          exact ⟨by omega, by omega, by simpa using h, fun ⟨q, _⟩ => by omega⟩
      | succ j =>
        simp only [st2, List.getElem?_cons_succ] at h
        rcases ih i v j w h with ⟨h1, h2⟩ | ⟨h1, h2, h3, h4⟩
        · exact Or.inl ⟨by omega, h2⟩
        · exact Or.inr ⟨by omega, by omega, by simpa using h3, fun ⟨q, z⟩ => h4 ⟨by omega, z⟩⟩
theorem cat_cv {g : Nat → Nat} {v : av} (h : (cv g v).category = 2) : ∃ z, v = vl z := by
  rcases v with x | x | x
  · simp [cv, Value.category] at h
  · exact ⟨x, rfl⟩
  · cases x <;> simp [cv, va_rf, Value.category] at h
theorem lo_st1 {g : Nat → Nat} {ls : Array Slot} {nL i : Nat} {lo : List (Option av)} {v : av} (h : lv_has ls nL ((i, cv g v) :: (lc g 0 lo).filter (fun q => !(q.1 == i) && !(q.1 + 1 == i && q.2.category == 2)))) : lv_has ls nL (lc g 0 (st1 lo i v)) := by
  refine ⟨h.1, h.2.1, fun q hq => ?_⟩
  obtain ⟨j, w, h1, rfl⟩ := (lc_mem g _ 0 q).mp hq
  rcases st1_get lo i v j w h1 with ⟨rfl, rfl⟩ | ⟨h2, h3, h4⟩
  · exact h.2.2 _ (by simp)
  · refine h.2.2 _ (List.mem_cons_of_mem _ (List.mem_filter.mpr ⟨(lc_mem g lo 0 _).mpr ⟨j, w, h3, rfl⟩, ?_⟩))
    simp only [Nat.zero_add, Bool.and_eq_true, Bool.not_eq_true', beq_eq_false_iff_ne, ne_eq, Bool.and_eq_false_iff]
    refine ⟨h2, ?_⟩
    by_cases hj : j + 1 = i
    · right
      intro hc
      exact h4 ⟨hj, cat_cv hc⟩
    · left; exact hj
theorem lo_st2 {g : Nat → Nat} {ls : Array Slot} {nL i : Nat} {lo : List (Option av)} {v : av} (h : lv_has ls nL ((i, cv g v) :: (lc g 0 lo).filter (fun q => !(q.1 == i) && (!(q.1 == i + 1) && !(q.1 + 1 == i && q.2.category == 2))))) : lv_has ls nL (lc g 0 (st2 lo i v)) := by
  refine ⟨h.1, h.2.1, fun q hq => ?_⟩
  obtain ⟨j, w, h1, rfl⟩ := (lc_mem g _ 0 q).mp hq
  rcases st2_get lo i v j w h1 with ⟨rfl, rfl⟩ | ⟨h2, h5, h3, h4⟩
  · exact h.2.2 _ (by simp)
  · refine h.2.2 _ (List.mem_cons_of_mem _ (List.mem_filter.mpr ⟨(lc_mem g lo 0 _).mpr ⟨j, w, h3, rfl⟩, ?_⟩))
    simp only [Nat.zero_add, Bool.and_eq_true, Bool.not_eq_true', beq_eq_false_iff_ne, ne_eq, Bool.and_eq_false_iff]
    refine ⟨h2, h5, ?_⟩
    by_cases hj : j + 1 = i
    · right
      intro hc
      exact h4 ⟨hj, cat_cv hc⟩
    · left; exact hj
