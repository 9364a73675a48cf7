/-! TREES: weights, keys in their order, what a change leaves alone -/
def smN (g : Nat → Nat) (l : List Nat) : Nat := (l.map g).sum
theorem smN_nil (g : Nat → Nat) : smN g [] = 0 := rfl
theorem smN_cons (g : Nat → Nat) (x : Nat) (l : List Nat) : smN g (x :: l) = g x + smN g l := by simp [smN]
theorem smN_app (g : Nat → Nat) (a b : List Nat) : smN g (a ++ b) = smN g a + smN g b := by simp [smN]
theorem list_split {α : Type} : ∀ {l : List α} {e : Nat} {c : α}, l[e]? = some c → l = l.take e ++ c :: l.drop (e + 1)
  | [], e, c, h => by simp at h
  | x :: l, 0, c, h => by
    simp at h
    simp [h]
  | x :: l, e + 1, c, h => by
    have h1 : l[e]? = some c := by simpa using h
    have h2 := list_split h1
    simp only [List.take_succ_cons, List.drop_succ_cons, List.cons_append]
    rw [← h2]
theorem smN_split (g : Nat → Nat) {l : List Nat} {e c : Nat} (h : l[e]? = some c) : smN g l = smN g (l.take e) + g c + smN g (l.drop (e + 1)) := by
  have h2 := congrArg (smN g) (list_split h)
  rw [smN_app, smN_cons] at h2
  omega
theorem smN_set (g : Nat → Nat) {l : List Nat} {e c x : Nat} (h : l[e]? = some c) : smN g (l.set e x) = smN g (l.take e) + g x + smN g (l.drop (e + 1)) := by
  have he : e < l.length := (List.getElem?_eq_some_iff.mp h).1
  have h1 : (l.set e x)[e]? = some x := List.getElem?_set_self he
  rw [smN_split g h1]
  congr 1
  · congr 1
    rw [List.take_set_of_le (Nat.le_refl _)]
  · rw [List.drop_set_of_lt (by omega)]
theorem smN_mem (g : Nat → Nat) : ∀ {l : List Nat} {x : Nat}, x ∈ l → g x ≤ smN g l
  | y :: l, x, h => by
    rw [smN_cons]
    rcases List.mem_cons.mp h with rfl | h
    · omega
    · have := smN_mem g h
      omega
theorem smN_cg {g h : Nat → Nat} : ∀ {l : List Nat}, (∀ x ∈ l, g x = h x) → smN g l = smN h l
  | [], _ => rfl
  | y :: l, hl => by
    rw [smN_cons, smN_cons, hl y List.mem_cons_self, smN_cg (fun x hx => hl x (List.mem_cons_of_mem _ hx))]
theorem smN_pos {g : Nat → Nat} : ∀ {l : List Nat}, 1 ≤ smN g l → ∃ x ∈ l, 1 ≤ g x
  | [], h => by simp [smN] at h
  | y :: l, h => by
    rw [smN_cons] at h
    by_cases hy : 1 ≤ g y
    · exact ⟨y, List.mem_cons_self, hy⟩
    · obtain ⟨x, hx, hg⟩ := smN_pos (g := g) (l := l) (by omega)
      exact ⟨x, List.mem_cons_of_mem _ hx, hg⟩
theorem smN_le {g h : Nat → Nat} : ∀ {l : List Nat}, (∀ x ∈ l, g x ≤ h x) → smN g l ≤ smN h l
  | [], _ => Nat.le_refl _
  | y :: l, hl => by
    rw [smN_cons, smN_cons]
    have h1 := hl y List.mem_cons_self
    have h2 := smN_le (l := l) (fun x hx => hl x (List.mem_cons_of_mem _ hx))
    omega
theorem wsm_s (T : Nat → Nd) (f : Nat → Nat) (d p : Nat) : wsm T f (d + 1) p = f p + smN (wsm T f d) (kids (T p)) := rfl
theorem wsm_0 (T : Nat → Nd) (f : Nat → Nat) (p : Nat) : wsm T f 0 p = f p := rfl
/-- is it this page -/
def dl (q p : Nat) : Nat := if p = q then 1 else 0
theorem dl_s (q : Nat) : dl q q = 1 := if_pos rfl
theorem dl_n {q p : Nat} (h : p ≠ q) : dl q p = 0 := if_neg h
theorem dl_1 {q p : Nat} (h : 1 ≤ dl q p) : p = q := by
  unfold dl at h
  split at h
  · assumption
  · omega
theorem dl_le (q p : Nat) : dl q p ≤ 1 := by
  unfold dl
  split <;> omega
/-- is a page in a tree -/
def inP (T : Nat → Nd) (d p q : Nat) : Prop := 1 ≤ wsm T (dl q) d p
theorem in_self (T : Nat → Nd) : ∀ (d p : Nat), inP T d p p
  | 0, p => by unfold inP; rw [wsm_0, dl_s]; exact Nat.le_refl _
  | d + 1, p => by unfold inP; rw [wsm_s, dl_s]; omega
theorem in_kid {T : Nat → Nd} {d p c q : Nat} (hc : c ∈ kids (T p)) (h : inP T d c q) : inP T (d + 1) p q := by
  unfold inP at h ⊢
  rw [wsm_s]
  have := smN_mem (wsm T (dl q) d) hc
  omega
theorem in_cases {T : Nat → Nd} {d p q : Nat} (h : inP T (d + 1) p q) : q = p ∨ ∃ c ∈ kids (T p), inP T d c q := by
  unfold inP at h
  rw [wsm_s] at h
  by_cases hp : 1 ≤ dl q p
  · exact Or.inl (dl_1 hp).symm
  · obtain ⟨c, hc, h⟩ := smN_pos (g := wsm T (dl q) d) (l := kids (T p)) (by omega)
    exact Or.inr ⟨c, hc, h⟩
theorem in_0 {T : Nat → Nd} {p q : Nat} (h : inP T 0 p q) : q = p := (dl_1 h).symm
/-- the keys with their values, in order -/
def lvE : Nd → List (Nat × Int32)
  | .inl l => l
  | .inr _ => []
def kyl (T : Nat → Nd) : Nat → Nat → List (Nat × Int32)
  | 0, p => lvE (T p)
  | d + 1, p => (kids (T p)).flatMap (kyl T d)
theorem kyl_s (T : Nat → Nd) (d p : Nat) : kyl T (d + 1) p = (kids (T p)).flatMap (kyl T d) := rfl
theorem kyl_0 (T : Nat → Nd) (p : Nat) : kyl T 0 p = lvE (T p) := rfl
/-- any number of entries, all below in order -/
def sb (T : Nat → Nd) (U : Nat → Prop) : Nat → Nat → Prop
  | 0, p => U p ∧ ∃ l, T p = .inl l
  | d + 1, p => U p ∧ ∃ l, T p = .inr l ∧ ∀ c ∈ l, fl T U d c
theorem sb_fl {T : Nat → Nd} {U : Nat → Prop} : ∀ {d p : Nat}, sb T U d p → 2 ≤ nlen (T p) → nlen (T p) ≤ 4 → fl T U d p
  | 0, p, ⟨hu, l, hl⟩, h2, h4 => ⟨hu, l, hl, by rw [hl] at h2; exact h2, by rw [hl] at h4; exact h4⟩
  | d + 1, p, ⟨hu, l, hl, hk⟩, h2, h4 => ⟨hu, l, hl, by rw [hl] at h2; exact h2, by rw [hl] at h4; exact h4, hk⟩
theorem fl_sb {T : Nat → Nd} {U : Nat → Prop} : ∀ {d p : Nat}, fl T U d p → sb T U d p ∧ 2 ≤ nlen (T p) ∧ nlen (T p) ≤ 4
  | 0, p, ⟨hu, l, hl, h2, h4⟩ => ⟨⟨hu, l, hl⟩, by rw [hl]; exact h2, by rw [hl]; exact h4⟩
  | d + 1, p, ⟨hu, l, hl, h2, h4, hk⟩ => ⟨⟨hu, l, hl, hk⟩, by rw [hl]; exact h2, by rw [hl]; exact h4⟩
theorem rt_sb {T : Nat → Nd} {U : Nat → Prop} : ∀ {d p : Nat}, rt T U d p → sb T U d p ∧ nlen (T p) ≤ 4 ∧ (0 < d → 2 ≤ nlen (T p))
  | 0, p, ⟨hu, l, hl, h4⟩ => ⟨⟨hu, l, hl⟩, by rw [hl]; exact h4, fun h => absurd h (Nat.lt_irrefl 0)⟩
  | d + 1, p, h => by
    obtain ⟨a, b, c⟩ := fl_sb (d := d + 1) h
    exact ⟨a, c, fun _ => b⟩
theorem sb_rt {T : Nat → Nd} {U : Nat → Prop} : ∀ {d p : Nat}, sb T U d p → nlen (T p) ≤ 4 → (0 < d → 2 ≤ nlen (T p)) → rt T U d p
  | 0, p, ⟨hu, l, hl⟩, h4, _ => ⟨hu, l, hl, by rw [hl] at h4; exact h4⟩
  | d + 1, p, h, h4, h2 => sb_fl (d := d + 1) h (h2 (Nat.succ_pos d)) h4
theorem fl_in {T : Nat → Nd} {U : Nat → Prop} : ∀ {d p q : Nat}, fl T U d p → inP T d p q → U q
  | 0, p, q, h, hq => by rw [in_0 hq]; exact h.1
  | d + 1, p, q, h, hq => by
    rcases in_cases hq with rfl | ⟨c, hc, hq⟩
    · exact h.1
    · obtain ⟨-, l, hl, -, -, hk⟩ := h
      rw [hl] at hc
      exact fl_in (hk c hc) hq
theorem sb_in {T : Nat → Nd} {U : Nat → Prop} : ∀ {d p q : Nat}, sb T U d p → inP T d p q → U q
  | 0, p, q, h, hq => by rw [in_0 hq]; exact h.1
  | d + 1, p, q, h, hq => by
    rcases in_cases hq with rfl | ⟨c, hc, hq⟩
    · exact h.1
    · obtain ⟨-, l, hl, hk⟩ := h
      rw [hl] at hc
      exact fl_in (hk c hc) hq
/-! what a change leaves alone -/
section FRM
variable {T T' : Nat → Nd}
theorem wsm_fr (f : Nat → Nat) : ∀ {d p : Nat}, (∀ q, inP T d p q → T' q = T q) → wsm T' f d p = wsm T f d p
  | 0, p, _ => rfl
  | d + 1, p, h => by
    rw [wsm_s, wsm_s, h p (in_self T _ p)]
    congr 1
    exact smN_cg (fun c hc => wsm_fr f (fun q hq => h q (in_kid hc hq)))
theorem kyl_fr : ∀ {d p : Nat}, (∀ q, inP T d p q → T' q = T q) → kyl T' d p = kyl T d p
  | 0, p, h => by rw [kyl_0, kyl_0, h p (in_self T _ p)]
  | d + 1, p, h => by
    rw [kyl_s, kyl_s, h p (in_self T _ p)]
    have : ∀ l : List Nat, (∀ c ∈ l, kyl T' d c = kyl T d c) → l.flatMap (kyl T' d) = l.flatMap (kyl T d) := fun l => by
      induction l with
      | nil => intro _; rfl
      | cons x l ih =>
        intro hl
        rw [List.flatMap_cons, List.flatMap_cons, hl x List.mem_cons_self, ih (fun c hc => hl c (List.mem_cons_of_mem _ hc))]
    exact this _ (fun c hc => kyl_fr (fun q hq => h q (in_kid hc hq)))
theorem fmap_cg {g h : Nat → List (Nat × Int32)} : ∀ {l : List Nat}, (∀ c ∈ l, g c = h c) → l.flatMap g = l.flatMap h
  | [], _ => rfl
  | x :: l, hl => by rw [List.flatMap_cons, List.flatMap_cons, hl x List.mem_cons_self, fmap_cg (fun c hc => hl c (List.mem_cons_of_mem _ hc))]
theorem fl_fr {U U' : Nat → Prop} : ∀ {d p : Nat}, fl T U d p → (∀ q, inP T d p q → U' q ∧ T' q = T q) → fl T' U' d p
  | 0, p, h, hf => by
    obtain ⟨hu, l, hl, h2, h4⟩ := h
    obtain ⟨a, b⟩ := hf p (in_self T _ p)
    exact ⟨a, l, b.trans hl, h2, h4⟩
  | d + 1, p, h, hf => by
    obtain ⟨hu, l, hl, h2, h4, hk⟩ := h
    obtain ⟨a, b⟩ := hf p (in_self T _ p)
    exact ⟨a, l, b.trans hl, h2, h4, fun c hc => fl_fr (hk c hc) (fun q hq => hf q (in_kid (by rw [hl]; exact hc) hq))⟩
theorem rt_fr {U U' : Nat → Prop} {d p : Nat} (h : rt T U d p) (hf : ∀ q, inP T d p q → U' q ∧ T' q = T q) : rt T' U' d p := by
  cases d with
  | zero =>
    obtain ⟨hu, l, hl, h4⟩ := h
    obtain ⟨a, b⟩ := hf p (in_self T _ p)
    exact ⟨a, l, b.trans hl, h4⟩
  | succ d => exact fl_fr (d := d + 1) h hf
theorem mkT_fr : ∀ {d p : Nat}, (∀ q, inP T d p q → T' q = T q) → mkT T' d p = mkT T d p
  | 0, p, h => by
    unfold mkT
    rw [h p (in_self T _ p)]
  | d + 1, p, h => by
    unfold mkT
    rw [h p (in_self T _ p)]
    cases hT : T p with
    | inl l => rfl
    | inr l =>
      cases l with
      | nil => rfl
      | cons c l => exact mkT_fr (fun q hq => h q (in_kid (by rw [hT]; exact List.mem_cons_self) hq))
end FRM
/-- depth alone -/
def dpt (T : Nat → Nd) : Nat → Nat → Prop
  | 0, p => ∃ l, T p = .inl l
  | d + 1, p => ∃ l, T p = .inr l ∧ ∀ c ∈ l, dpt T d c
theorem fl_dpt {T : Nat → Nd} {U : Nat → Prop} : ∀ {d p : Nat}, fl T U d p → dpt T d p
  | 0, p, ⟨_, l, hl, _⟩ => ⟨l, hl⟩
  | d + 1, p, ⟨_, l, hl, _, _, hk⟩ => ⟨l, hl, fun c hc => fl_dpt (hk c hc)⟩
theorem sb_dpt {T : Nat → Nd} {U : Nat → Prop} : ∀ {d p : Nat}, sb T U d p → dpt T d p
  | 0, p, ⟨_, l, hl⟩ => ⟨l, hl⟩
  | d + 1, p, ⟨_, l, hl, hk⟩ => ⟨l, hl, fun c hc => fl_dpt (hk c hc)⟩
theorem in_Rch {T : Nat → Nd} : ∀ {d p : Nat}, dpt T d p → ∀ q, inP T d p q ↔ Rch T p q
  | 0, p, ⟨l, hl⟩, q => by
    rw [Rch_step]
    constructor
    · exact fun h => Or.inl (in_0 h)
    · rintro (rfl | ⟨c, hc, -⟩)
      · exact in_self T _ _
      · rw [hl] at hc
        exact absurd hc List.not_mem_nil
  | d + 1, p, ⟨l, hl, hk⟩, q => by
    rw [Rch_step]
    have hkl : kids (T p) = l := by rw [hl]; rfl
    constructor
    · intro h
      rcases in_cases h with rfl | ⟨c, hc, h⟩
      · exact Or.inl rfl
      · exact Or.inr ⟨c, hc, (in_Rch (hk c (hkl ▸ hc)) q).mp h⟩
    · rintro (rfl | ⟨c, hc, h⟩)
      · exact in_self T _ _
      · exact in_kid hc ((in_Rch (hk c (hkl ▸ hc)) q).mpr h)
