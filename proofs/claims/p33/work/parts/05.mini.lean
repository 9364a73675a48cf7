/-! THE MINI MACHINE'S WORDS: worlds as lists of cells whose references are places of the list; one judgement, EvF: from this frame, in this world, the method comes to its end as Qf says -/
abbrev mC : Type := (Nat × Nat × ((Nat → Int32) ⊕ ((Nat → Int64) ⊕ (Nat → Option Nat)))) ⊕ (Nat × List Value)
abbrev mW : Type := List mC
/-- a method: its name, code, locals, return type, room, handlers, is it a constructor, how many cells the world has when it starts (for methods that make cells), the script it may read -/
abbrev mM : Type := MethodName × ByteArray × Nat × Option FieldType × Room × List (Nat × Nat × Nat × Nat) × Bool × Option Nat × Option (Nat × (Nat → Int32))
abbrev mMy (M : mM) : MethodName := M.1
abbrev mMc (M : mM) : ByteArray := M.2.1
abbrev mMn (M : mM) : Nat := M.2.2.1
abbrev mMr (M : mM) : Option FieldType := M.2.2.2.1
abbrev mMR (M : mM) : Room := M.2.2.2.2.1
abbrev mMh (M : mM) : List (Nat × Nat × Nat × Nat) := M.2.2.2.2.2.1
abbrev mMi (M : mM) : Bool := M.2.2.2.2.2.2.1
abbrev mMz (M : mM) : Option Nat := M.2.2.2.2.2.2.2.1
abbrev mMs (M : mM) : Option (Nat × (Nat → Int32)) := M.2.2.2.2.2.2.2.2
/-- where the world lies: the first free address, and the cells' addresses -/
abbrev mZ : Type := Nat × (Nat → Nat)
abbrev hole : Value := .retAddr 0
abbrev scr1 : Value := .retAddr 1
def mV (z : mZ) (b : Nat) (v : Value) : Value := match v with
  | .ref k => .ref (z.2 k)
  | .retAddr (_ + 1) => .ref b
  | v => v
def mE (z : mZ) (b : Nat) (cA : Nat → ClassId) (e : mC) : va_E := match e with
  | .inl (t, n, .inl f) => .inl (cA t, n, .inl f)
  | .inl (t, n, .inr (.inl f)) => .inl (cA t, n, .inr (.inl f))
  | .inl (t, n, .inr (.inr f)) => .inl (cA t, n, .inr (.inr (.inr (.inr (fun k => (f k).map (fun a => z.2 a))))))
  | .inr (ci, fs) => .inr (ci, fs.map (mV z b))
def mR (z : mZ) (b : Nat) (cA : Nat → ClassId) (w : List mC) : va_W := w.mapIdx (fun k e => (z.2 k, mE z b cA e))
theorem mR_get {z : mZ} {b : Nat} {cA : Nat → ClassId} {w : List mC} {k : Nat} {e : mC} (h : w[k]? = some e) : (mR z b cA w)[k]? = some (z.2 k, mE z b cA e) := by
  simp [mR, List.getElem?_mapIdx, h]
theorem mR_set {z : mZ} {b : Nat} {cA : Nat → ClassId} {w : List mC} {k : Nat} {e : mC} : (mR z b cA w).set k (z.2 k, mE z b cA e) = mR z b cA (w.set k e) := by
  apply List.ext_getElem?
  intro j
  simp only [mR, List.getElem?_set, List.getElem?_mapIdx, List.length_mapIdx]
  by_cases hk : k = j
  · subst hk
    by_cases hl : k < w.length <;> simp [hl]
  · simp [hk]
theorem mR_app {z : mZ} {b : Nat} {cA : Nat → ClassId} {w : List mC} {e : mC} : mR z b cA (w ++ [e]) = mR z b cA w ++ [(z.2 w.length, mE z b cA e)] := by
  simp [mR, List.mapIdx_append]
/-- the addresses of n cells: apart, behind what was there -/
def mOkz (z : mZ) (n : Nat) : Prop := (∀ i, i < n → z.1 ≤ z.2 i) ∧ ∀ i j, i < n → j < n → z.2 i = z.2 j → i = j
theorem mOkz_x {z0 n : Nat} : mOkz (z0, fun k => z0 + k) n := ⟨fun i _ => Nat.le_add_right _ _, fun i j _ _ h => Nat.add_left_cancel h⟩
theorem mOkz_le {z : mZ} {m n : Nat} (hmn : m ≤ n) (h : mOkz z n) : mOkz z m := ⟨fun i hi => h.1 i (by omega), fun i j hi hj => h.2 i j (by omega) (by omega)⟩
theorem mR_key {z : mZ} {b : Nat} {cA : Nat → ClassId} {w : List mC} (k : Nat) (q : Nat × va_E) (h : (mR z b cA w)[k]? = some q) : q.1 = z.2 k ∧ k < w.length := by
  simp only [mR, List.getElem?_mapIdx, Option.map_eq_some_iff] at h
  obtain ⟨e, h1, h⟩ := h
  rw [← h]
  exact ⟨rfl, (List.getElem?_eq_some_iff.mp h1).1⟩
theorem mR_D {z : mZ} {b : Nat} {cA : Nat → ClassId} {w : List mC} (hz : mOkz z w.length) : va_D (fun q => z.1 ≤ q) (mR z b cA w) := by
  refine ⟨fun i j p q h1 h2 h3 => ?_, fun k q h => ?_⟩
  · obtain ⟨a1, a2⟩ := mR_key i p h1
    obtain ⟨b1, b2⟩ := mR_key j q h2
    exact hz.2 i j a2 b2 (by rw [← a1, ← b1]; exact h3)
  · obtain ⟨a1, a2⟩ := mR_key k q h
    show z.1 ≤ q.1
    rw [a1]
    exact hz.1 k a2
def mT (cA : Nat → ClassId) : List (ClassId × FieldType) := [(cA 0, .int), (cA 1, .boolean), (cA 2, .long), (cA 3, .object "Copperleaf$State")]
/-- the good words of the tables -/
def WA : List Jvm.Cond := lw_tbl.filter goodWord
theorem wa_m {w : Jvm.Cond} (i : Nat) (h : lw_tbl[i]? = some w) (g : goodWord w = true) : w ∈ WA := List.mem_filter.mpr ⟨List.mem_of_getElem? h, g⟩
theorem wa_good {w : Jvm.Cond} (h : w ∈ WA) : goodWord w = true := (List.mem_filter.mp h).2
/-- the exceptions' names -/
def mX : List String := ["java/lang/IllegalStateException", "java/lang/IllegalArgumentException", "java/util/NoSuchElementException", "java/lang/IndexOutOfBoundsException"]
def mSt : List (Nat × String) := [(64, "there is a batch"), (206, "key is not 0 to 99"), (208, "there is no batch"), (230, "the tree does not have the key"), (113, "all readers are open"), (210, "no open reader has this number"), (150, "no such page"), (212, "no such page in use"), (214, "no such entry"), (216, "no such slot"), (180, "no such word"), (189, "the other slot is torn"), (198, "words is out of range"), (201, "no slot would be whole")]
def mDe : List Jvm.Cond := [.declares (Bundle.initS "java/lang/RuntimeException"), .declares (Bundle.initS "java/lang/Exception"), .declares (Bundle.initS "java/lang/Throwable")]
/-- what isn't a good word -/
def mXF (U : State) : Prop := (∀ E ∈ mX, va_Nw (.castable E E) U) ∧ (∀ E ∈ mX, ∀ F ∈ mX, E ≠ F → va_Nc E F U) ∧ va_Nw (.methodLinkNest "Copperleaf" 11 yX0_init "Copperleaf") U ∧ va_Nw (.methodLinkNest "Copperleaf" 18 yX1_init "Copperleaf") U ∧ va_AO "Copperleaf$State" U ∧ (∀ q ∈ mSt, ∃ a, vk_R "Copperleaf" q.1 q.2 a U) ∧ ∀ x ∈ mDe, va_Nw x U
theorem mXF.warm {s U : State} (hW : s.WarmedH U.vm) (h : mXF s) : mXF U :=
  ⟨fun E hE => va_Nw.warmC hW (h.1 E hE), fun E hE F hF n => va_Nc.moved hW.alike (h.2.1 E hE F hF n), va_Nw.warmM hW h.2.2.1, va_Nw.warmM hW h.2.2.2.1, va_AO.moved hW.alike h.2.2.2.2.1, fun q hq => by
    obtain ⟨a, ha⟩ := h.2.2.2.2.2.1 q hq
    exact ⟨a, vk_R.warm hW ha⟩, fun x hx => by
    have h9 := h.2.2.2.2.2.2
    simp only [mDe, List.forall_mem_cons, List.not_mem_nil, false_implies, implies_true, and_true] at h9
    simp only [mDe, List.mem_cons, List.not_mem_nil, or_false] at hx
    rcases hx with rfl | rfl | rfl
    · exact va_Nw.warmD hW h9.1
    · exact va_Nw.warmD hW h9.2.1
    · exact va_Nw.warmD hW h9.2.2⟩
abbrev mZ1 (z : mZ) (U : State) (H : Heap) : Prop := vx_Zq Bundle.tN "UNASSIGNED_STACK" Bundle.steD (fun q => z.1 ≤ q) U H
abbrev mZ2 (z : mZ) (U : State) (H : Heap) : Prop := vx_Zq Bundle.tN "SUPPRESSED_SENTINEL" Bundle.listD (fun q => z.1 ≤ q) U H
/-- what holds of the machine, the method and its start -/
def mCX (M : mM) (z : mZ) (b : Nat) (G : va_G) (cA : Nat → ClassId) (p : Program) (l : Launch) (s : State) (m : MethodId) (args : Array Value) (meth : Method) (c : Code) : Prop :=
  p.tables.exec = Jvm.exec ∧ c.code = mMc M ∧ c.maxLocals = mMn M ∧ meth.sig.returnType = mMr M ∧ s.vm.findClass (mMy M).cls = some m.cls ∧ (∀ w ∈ WA, w.before args s = true) ∧ meth.locks = false ∧ c.exceptionTable.toList = tableOf (mMh M) ∧ (mMi M = true → meth.name = "<init>") ∧ va_K G vwCl (mT cA) s ∧ mXF s ∧ l.stackTraces = false ∧ mZ1 z s s.heap ∧ mZ2 z s s.heap ∧ z.1 ≤ s.heap.size ∧ (∀ n0 : Nat, mMz M = some n0 → s.heap.size = z.1 + n0 ∧ z.2 = fun k => z.1 + k) ∧
  (∀ (Ls : Nat) (xs : Nat → Int32), mMs M = some (Ls, xs) → va_X b Ls xs s s.heap ∧ b < s.heap.size ∧ b < z.1)
/-- the world lies in the heap -/
def mWR (z : mZ) (b : Nat) (G : va_G) (cA : Nat → ClassId) (w : mW) (s : State) (H : Heap) (locs : List Loc) : Prop :=
  va_P G vwCl (mR z b cA w) H ∧ va_S (fun q => z.1 ≤ q) s.heap H locs ∧ mOkz z w.length
/-- the locals -/
def mLs (z : mZ) (b nL : Nat) (ls : Array Slot) (L : List Value) : Prop := ls.size = nL ∧ L.length = nL ∧ lv_wf ls ∧ ∀ (i : Nat) (v : Value), L[i]? = some v → v ≠ hole → ls[i]? = some (.val (mV z b v))
abbrev mQ : Type := mZ → Nat → va_G → (Nat → ClassId) → List Frame → Array Value → State → State → Prop
def EvF (M : mM) (Qf : mQ) (pc : Nat) (L st : List Value) (k n : Nat) (w : mW) : Prop :=
  ∀ (z : mZ) (b : Nat) (G : va_G) (cA : Nat → ClassId) (p : Program) (l : Launch) (e : Env) (s : State) (m : MethodId) (args : Array Value) (below : List Frame) (meth : Method) (c : Code) (H : Heap) (locs : List Loc) (ls : Array Slot),
    mCX M z b G cA p l s m args meth c → mWR z b G cA w s H locs → mLs z b (mMn M) ls L → W p l e (mMR M) s m args below meth c H locs k n (Qf z b G cA below args s) (F0 m pc ls (st.map (mV z b)))
theorem mV_int {z : mZ} {b : Nat} {x : Int32} : mV z b (.int x) = .int x := rfl
theorem mV_cat (z : mZ) (b : Nat) (v : Value) : (mV z b v).category = v.category := by
  cases v with
  | retAddr n => cases n <;> rfl
  | _ => rfl
theorem mV_sum (z : mZ) (b : Nat) (st : List Value) : ((st.map (mV z b)).map fun v => v.category).sum = (st.map fun v => v.category).sum := by
  rw [List.map_map]
  congr 1
  apply List.map_congr_left
  intro v _
  exact mV_cat z b v
theorem mLs_at {z : mZ} {b nL : Nat} {ls : Array Slot} {L : List Value} (h : mLs z b nL ls L) {i : Nat} {v : Value} (hi : L[i]? = some v) (hv : v ≠ hole) : ls[i]? = some (.val (mV z b v)) := h.2.2.2 i v hi hv
/-- the known locals as a list -/
def mLo (z : mZ) (b : Nat) (L : List Value) : List (Nat × Value) := (List.range L.length).filterMap (fun i => match L[i]? with
  | some v => if v = hole then none else some (i, mV z b v)
  | none => none)
theorem mLo_mem {z : mZ} {b : Nat} {L : List Value} {q : Nat × Value} : q ∈ mLo z b L ↔ ∃ v, L[q.1]? = some v ∧ v ≠ hole ∧ q.2 = mV z b v := by
  unfold mLo
  rw [List.mem_filterMap]
  constructor
  · rintro ⟨i, hi, h⟩
    cases hv : L[i]? with
    | none => rw [hv] at h; cases h
    | some v =>
      rw [hv] at h
      by_cases he : v = hole
      · simp [he] at h
      · simp only [if_neg he, Option.some.injEq] at h
        rw [← h]
        exact ⟨v, hv, he, rfl⟩
  · rintro ⟨v, h1, h2, h3⟩
    refine ⟨q.1, ?_, ?_⟩
    · rw [List.mem_range]
      exact (List.getElem?_eq_some_iff.mp h1).1
    · simp only [h1, if_neg h2]
      rw [← h3]
theorem mLs_has {z : mZ} {b nL : Nat} {ls : Array Slot} {L : List Value} (h : mLs z b nL ls L) : lv_has ls nL (mLo z b L) :=
  ⟨h.1, h.2.2.1, fun q hq => by
    obtain ⟨v, h1, h2, h3⟩ := mLo_mem.mp hq
    rw [h3]
    exact h.2.2.2 _ _ h1 h2⟩
/-- a value of two slots doesn't end just before this place -/
def mc1 (L : List Value) (i : Nat) : Bool := match i with
  | 0 => true
  | j + 1 => match L[j]? with
    | some v => v.category == 1
    | none => true
theorem mc1_ok {z : mZ} {b : Nat} {L : List Value} {i : Nat} (h : mc1 L i = true) {q : Nat × Value} (hq : q ∈ mLo z b L) (hi : q.1 + 1 = i) : q.2.category = 1 := by
  obtain ⟨v, h1, -, h3⟩ := mLo_mem.mp hq
  subst hi
  simp only [mc1, h1, beq_iff_eq] at h
  rw [h3, mV_cat]
  exact h
theorem mLs_set1 {z : mZ} {b nL : Nat} {ls' : Array Slot} {L : List Value} {i : Nat} {v : Value} {u : Value} (hL : L.length = nL) (hu : mV z b v = u) (hm : mc1 L i = true)
    (h : lv_has ls' nL ((i, u) :: (mLo z b L).filter (fun q => !(q.1 == i) && !(q.1 + 1 == i && q.2.category == 2)))) : mLs z b nL ls' (L.set i v) := by
  refine ⟨h.1, by rw [List.length_set, hL], h.2.1, fun j x hj hx => ?_⟩
  by_cases hij : i = j
  · subst hij
    rw [List.getElem?_set] at hj
    by_cases hl : i < L.length
    · simp only [if_pos rfl, if_pos hl] at hj
      cases hj
      rw [hu]
      exact h.2.2 (i, u) List.mem_cons_self
    · simp only [if_pos rfl, if_neg hl] at hj
      cases hj
  · rw [List.getElem?_set_ne hij] at hj
    refine h.2.2 (j, mV z b x) (List.mem_cons_of_mem _ (List.mem_filter.mpr ⟨mLo_mem.mpr ⟨x, hj, hx, rfl⟩, ?_⟩))
    simp only [Bool.and_eq_true, Bool.not_eq_true', beq_eq_false_iff_ne, ne_eq, Bool.and_eq_false_iff]
    refine ⟨fun q => hij q.symm, ?_⟩
    by_cases hc : j + 1 = i
    · right
      have h1 := mc1_ok (z := z) (b := b) hm (q := (j, mV z b x)) (mLo_mem.mpr ⟨x, hj, hx, rfl⟩) hc
      dsimp only at h1 ⊢
      omega
    · exact Or.inl hc
theorem mLs_set2 {z : mZ} {b nL : Nat} {ls' : Array Slot} {L : List Value} {i : Nat} {v : Value} {u : Value} (hL : L.length = nL) (hu : mV z b v = u) (hm : mc1 L i = true)
    (h : lv_has ls' nL ((i, u) :: (mLo z b L).filter (fun q => !(q.1 == i) && (!(q.1 == i + 1) && !(q.1 + 1 == i && q.2.category == 2))))) : mLs z b nL ls' ((L.set i v).set (i + 1) hole) := by
  refine ⟨h.1, by rw [List.length_set, List.length_set, hL], h.2.1, fun j x hj hx => ?_⟩
  by_cases hj1 : i + 1 = j
  · subst hj1
    rw [List.getElem?_set] at hj
    by_cases hl : i + 1 < (L.set i v).length
    · simp only [if_pos rfl, if_pos hl] at hj
      cases hj
      exact absurd rfl hx
    · simp only [if_pos rfl, if_neg hl] at hj
      cases hj
  · rw [List.getElem?_set_ne hj1] at hj
    by_cases hij : i = j
    · subst hij
      rw [List.getElem?_set] at hj
      by_cases hl : i < L.length
      · simp only [if_pos rfl, if_pos hl] at hj
        cases hj
        rw [hu]
        exact h.2.2 (i, u) List.mem_cons_self
      · simp only [if_pos rfl, if_neg hl] at hj
        cases hj
    · rw [List.getElem?_set_ne hij] at hj
      refine h.2.2 (j, mV z b x) (List.mem_cons_of_mem _ (List.mem_filter.mpr ⟨mLo_mem.mpr ⟨x, hj, hx, rfl⟩, ?_⟩))
      simp only [Bool.and_eq_true, Bool.not_eq_true', beq_eq_false_iff_ne, ne_eq, Bool.and_eq_false_iff]
      refine ⟨fun q => hij q.symm, fun q => hj1 q.symm, ?_⟩
      by_cases hc : j + 1 = i
      · right
        have h1 := mc1_ok (z := z) (b := b) hm (q := (j, mV z b x)) (mLo_mem.mpr ⟨x, hj, hx, rfl⟩) hc
        dsimp only at h1 ⊢
        omega
      · exact Or.inl hc
