/-! what is reached; lists of roots; slots and views as they are meant -/
theorem lvl_kid {T : Nat → Nd} {p : Nat} : ∀ (n : Nat) (q : Nat), q ∈ lvl T p (n + 1) ↔ ∃ c ∈ kids (T p), q ∈ lvl T c n
  | 0, q => by simp [lvl]
  | n + 1, q => by
    rw [lvl, List.mem_flatMap]
    constructor
    · rintro ⟨x, hx, hq⟩
      obtain ⟨c, hc, hxc⟩ := (lvl_kid n x).mp hx
      exact ⟨c, hc, by rw [lvl, List.mem_flatMap]; exact ⟨x, hxc, hq⟩⟩
    · rintro ⟨c, hc, hq⟩
      rw [lvl, List.mem_flatMap] at hq
      obtain ⟨x, hx, hq⟩ := hq
      exact ⟨x, (lvl_kid n x).mpr ⟨c, hc, hx⟩, hq⟩
theorem Rch_self {T : Nat → Nd} {r : Nat} : Rch T r r := ⟨0, by simp [lvl]⟩
theorem Rch_step {T : Nat → Nd} {r q : Nat} : Rch T r q ↔ q = r ∨ ∃ c ∈ kids (T r), Rch T c q := by
  constructor
  · rintro ⟨n, hn⟩
    cases n with
    | zero => exact Or.inl (by simpa [lvl] using hn)
    | succ n =>
      obtain ⟨c, hc, hq⟩ := (lvl_kid n q).mp hn
      exact Or.inr ⟨c, hc, n, hq⟩
  · rintro (rfl | ⟨c, hc, n, hq⟩)
    · exact Rch_self
    · exact ⟨n + 1, (lvl_kid n q).mpr ⟨c, hc, hq⟩⟩
theorem Rch_trans {T : Nat → Nd} {r p q : Nat} (h1 : Rch T r p) (h2 : Rch T p q) : Rch T r q := by
  obtain ⟨n, hn⟩ := h1
  induction n generalizing r with
  | zero =>
    have : p = r := by simpa [lvl] using hn
    subst this
    exact h2
  | succ n ih =>
    obtain ⟨c, hc, hp⟩ := (lvl_kid n p).mp hn
    exact Rch_step.mpr (Or.inr ⟨c, hc, ih hp⟩)
theorem rt_kid {T : Nat → Nd} {U : Nat → Prop} {d p c : Nat} (h : rt T U (d + 1) p) (hc : c ∈ kids (T p)) : fl T U d c := by
  obtain ⟨-, l, hl, -, -, hk⟩ := h
  rw [hl] at hc
  exact hk c hc
theorem fl_rt {T : Nat → Nd} {U : Nat → Prop} : ∀ {d p : Nat}, fl T U d p → rt T U d p
  | 0, _, h => by
    obtain ⟨hu, l, hl, -, h4⟩ := h
    exact ⟨hu, l, hl, h4⟩
  | _ + 1, _, h => h
theorem bfs_Rch {T : Nat → Nd} {U : Nat → Prop} : ∀ {d : Nat} {ps : List Nat}, (∀ p ∈ ps, rt T U d p) → ∀ q, q ∈ bfs T d ps ↔ ∃ p ∈ ps, Rch T p q
  | 0, ps, h, q => by
    constructor
    · intro hq
      exact ⟨q, hq, Rch_self⟩
    · rintro ⟨p, hp, hr⟩
      rcases Rch_step.mp hr with rfl | ⟨c, hc, -⟩
      · exact hp
      · obtain ⟨-, l, hl, -⟩ := h p hp
        rw [hl] at hc
        exact absurd hc List.not_mem_nil
  | d + 1, ps, h, q => by
    have h2 : ∀ c ∈ ps.flatMap (fun p => kids (T p)), rt T U d c := fun c hc => by
      obtain ⟨p, hp, hc⟩ := List.mem_flatMap.mp hc
      exact fl_rt (rt_kid (h p hp) hc)
    rw [bfs, List.mem_append, bfs_Rch h2 q]
    constructor
    · rintro (hq | ⟨c, hc, hr⟩)
      · exact ⟨q, hq, Rch_self⟩
      · obtain ⟨p, hp, hc⟩ := List.mem_flatMap.mp hc
        exact ⟨p, hp, Rch_step.mpr (Or.inr ⟨c, hc, hr⟩)⟩
    · rintro ⟨p, hp, hr⟩
      rcases Rch_step.mp hr with rfl | ⟨c, hc, hr⟩
      · exact Or.inl hp
      · exact Or.inr ⟨c, List.mem_flatMap.mpr ⟨p, hp, hc⟩, hr⟩
/-- a state's tree -/
def okR (T : Nat → Nd) (U : Nat → Prop) (p : Nat) : Prop := ∃ d, d ≤ 6 ∧ rt T U d p ∧ (bfs T d [p]).length ≤ 100
theorem okR_mem {T : Nat → Nd} {U : Nat → Prop} {d p : Nat} (h : rt T U d p) (q : Nat) : q ∈ bfs T d [p] ↔ Rch T p q := by
  rw [bfs_Rch (fun x hx => by rw [List.mem_singleton.mp hx]; exact h) q]
  constructor
  · rintro ⟨x, hx, hr⟩
    rw [List.mem_singleton.mp hx] at hr
    exact hr
  · exact fun hr => ⟨p, List.mem_singleton.mpr rfl, hr⟩
def RS (T : Nat → Nd) (rs : List Nat) (q : Nat) : Prop := ∃ r ∈ rs, Rch T r q
/-- the slots: whole, with epoch, root, keys, or not -/
def SLR (sw : Nat → Int64) (so : Nat → Option RS3) : Prop := ∀ s, s < 2 → match so s with
  | none => ¬ whl sw s
  | some x => whl sw s ∧ sw (4 * s) = (nI x.1).toInt64 ∧ sw (4 * s + 1) = (nI x.2.1).toInt64 ∧ sw (4 * s + 2) = (nI x.2.2).toInt64
def oRt (o : Option RS3) : List Nat := match o with
  | none => []
  | some x => [x.2.1]
def rtsF (rd : Nat → Option RS3) : Nat → Nat → List Nat
  | _, 0 => []
  | j, m + 1 => oRt (rd j) ++ rtsF rd (j + 1) m
/-- the roots of the states -/
def rts (c : RS3) (so rd : Nat → Option RS3) : List Nat := c.2.1 :: (rtsF so 0 2 ++ rtsF rd 0 4)
/-- the readers without one -/
def rdW (rd : Nat → Option RS3) (wo : Int32) : Nat → Option RS3 := fun j => if nI j = wo then none else rd j
/-- what a view names -/
def vwF (c : RS3) (b : Option RS3) (rd : Nat → Option RS3) (i : Int32) : Option RS3 :=
  if i = -1 then some (b.getD c) else if i = nI 0 then rd 0 else if i = nI 1 then rd 1 else if i = nI 2 then rd 2 else if i = nI 3 then rd 3 else none
def CS (cu ba r0 r1 r2 r3 : Q4) (c : RS3) (b : Option RS3) (rd : Nat → Option RS3) : Prop := (∃ o, cu = (nI c.1, nI c.2.1, nI c.2.2, o)) ∧ rdC ba b ∧ RD r0 r1 r2 r3 rd
/-! counting -/
def cntB (f : Nat → Bool) : Nat → Nat
  | 0 => 0
  | n + 1 => cntB f n + (if f n then 1 else 0)
theorem cntB_le (f : Nat → Bool) : ∀ n, cntB f n ≤ n
  | 0 => Nat.le_refl _
  | n + 1 => by
    have := cntB_le f n
    unfold cntB
    split <;> omega
theorem cntB_congr {f g : Nat → Bool} : ∀ {n : Nat}, (∀ q, q < n → f q = g q) → cntB f n = cntB g n
  | 0, _ => rfl
  | n + 1, h => by
    unfold cntB
    rw [cntB_congr (fun q hq => h q (by omega)), h n (by omega)]
