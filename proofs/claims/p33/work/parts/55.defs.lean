/-! words that the class and its trees share; out of whole's parts 41, 44, 50, 51, 53 -/
def wsm (T : Nat → Nd) (f : Nat → Nat) : Nat → Nat → Nat
  | 0, p => f p
  | d + 1, p => f p + ((kids (T p)).map (wsm T f d)).sum
def cnL : List (Nat × Int32) → Int32 → Nat
  | [], _ => 0
  | x :: r, a => (if nI x.1 < a then 1 else 0) + cnL r a
def lfW (T : Nat → Nd) (a : Int32) (p : Nat) : Nat := match T p with
  | .inl l => cnL l a
  | .inr _ => 0
def mkW (met : Nat → Int32) (p : Nat) : Nat := if met p = 0 then 0 else 1
abbrev one1 : Nat → Nat := fun _ => 1
def bbC : Option RS3 → Int32
  | none => -1
  | some x => nI x.2.1
theorem RS_cl {T : Nat → Nd} {rs : List Nat} (q : Nat) (h : RS T rs q) : ∀ c ∈ kids (T q), RS T rs c := fun c hc => by
  obtain ⟨r, hr, h⟩ := h
  exact ⟨r, hr, Rch_trans h (Rch_step.mpr (Or.inr ⟨c, hc, Rch_self⟩))⟩
theorem RS_cons {T : Nat → Nd} {r : Nat} {rs : List Nat} (q : Nat) : RS T (r :: rs) q ↔ Rch T r q ∨ RS T rs q := by
  constructor
  · rintro ⟨x, hx, h⟩
    rcases List.mem_cons.mp hx with rfl | hx
    · exact Or.inl h
    · exact Or.inr ⟨x, hx, h⟩
  · rintro (h | ⟨x, hx, h⟩)
    · exact ⟨r, List.mem_cons_self, h⟩
    · exact ⟨x, List.mem_cons_of_mem _ hx, h⟩
theorem RS_app {T : Nat → Nd} {as bs : List Nat} (q : Nat) : RS T (as ++ bs) q ↔ RS T as q ∨ RS T bs q := by
  constructor
  · rintro ⟨x, hx, h⟩
    exact (List.mem_append.mp hx).elim (fun hx => Or.inl ⟨x, hx, h⟩) (fun hx => Or.inr ⟨x, hx, h⟩)
  · rintro (⟨x, hx, h⟩ | ⟨x, hx, h⟩)
    · exact ⟨x, List.mem_append_left _ hx, h⟩
    · exact ⟨x, List.mem_append_right _ hx, h⟩
theorem RS_nil {T : Nat → Nd} (q : Nat) : ¬ RS T [] q := fun ⟨_, h, _⟩ => absurd h List.not_mem_nil
theorem RS_frame {T T' : Nat → Nd} {rs : List Nat} (h : ∀ q, RS T rs q → T' q = T q) (q : Nat) : RS T' rs q ↔ RS T rs q := by
  have h1 : ∀ (n r x : Nat), RS T rs r → (x ∈ lvl T' r n ↔ x ∈ lvl T r n) := fun n => by
    induction n with
    | zero => exact fun r x _ => Iff.rfl
    | succ n ih =>
      intro r x hr
      rw [lvl_kid, lvl_kid, h r hr]
      constructor
      · rintro ⟨c, hc, hx⟩
        exact ⟨c, hc, (ih c x (RS_cl r hr c hc)).mp hx⟩
      · rintro ⟨c, hc, hx⟩
        exact ⟨c, hc, (ih c x (RS_cl r hr c hc)).mpr hx⟩
  constructor
  · rintro ⟨r, hr, n, hn⟩
    exact ⟨r, hr, n, (h1 n r q ⟨r, hr, Rch_self⟩).mp hn⟩
  · rintro ⟨r, hr, n, hn⟩
    exact ⟨r, hr, n, (h1 n r q ⟨r, hr, Rch_self⟩).mpr hn⟩
theorem K_frame {K : Nat → Prop} {T T' : Nat → Nd} {rs : List Nat} (hK : ∀ q, K q ↔ RS T rs q) (h : ∀ q, K q → T' q = T q) (q : Nat) : K q ↔ RS T' rs q := (hK q).trans (RS_frame (fun q hq => h q ((hK q).mpr hq)) q).symm
section M11
variable {K U : Nat → Prop} {c : RS3} {so rd : Nat → Option RS3}
theorem fdR_U {T : Nat → Nd} {key : Int32} : ∀ {d p : Nat} {P : List (Nat × Nat)} {lf : Nat}, fdR T U key d p P lf → U lf ∧ P.length = d ∧ U p
  | 0, _, _, _, h => by
    obtain ⟨rfl, rfl, hu, -⟩ := h
    exact ⟨hu, rfl, hu⟩
  | d + 1, _, _, _, h => by
    obtain ⟨hu, l, e, x, P', -, -, -, -, -, rfl, h⟩ := h
    obtain ⟨a, b, -⟩ := fdR_U h
    exact ⟨a, by simp [b], hu⟩
end M11
def mUse (T : Nat → Nd) (c : RS3) (b : Option RS3) (so rd : Nat → Option RS3) (q : Nat) : Prop := RS T (rts c so rd) q ∨ RS T (oRt b) q
section M14
variable {U : Nat → Prop} {T : Nat → Nd} {c : RS3} {b : Option RS3} {so rd : Nat → Option RS3}
theorem rts_set {j : Nat} (hj : j < 4) : rts c so (rdW rd (nI j)) = rts c so (setR rd j none) := by
  have h : ∀ i, i < 4 → rdW rd (nI j) i = setR rd j none i := fun i hi => by
    unfold rdW setR
    by_cases hij : i = j
    · rw [if_pos (by rw [hij]), if_pos hij]
    · rw [if_neg (fun h => hij (nI_inj (by omega) (by omega) h)), if_neg hij]
  simp [rts, rtsF, h 0 (by decide), h 1 (by decide), h 2 (by decide), h 3 (by decide)]
theorem rtsF_W {wo : Int32} : ∀ (m j : Nat) (r : Nat), r ∈ rtsF (rdW rd wo) j m → r ∈ rtsF rd j m
  | 0, _, _, h => h
  | m + 1, j, r, h => by
    rcases List.mem_append.mp h with h | h
    · refine List.mem_append_left _ ?_
      unfold rdW at h
      by_cases hw : nI j = wo
      · rw [if_pos hw] at h
        exact absurd h List.not_mem_nil
      · rw [if_neg hw] at h
        exact h
    · exact List.mem_append_right _ (rtsF_W m (j + 1) r h)
theorem rts_W {wo : Int32} {r : Nat} (h : r ∈ rts c so (rdW rd wo)) : r ∈ rts c so rd := by
  rcases List.mem_cons.mp h with h | h
  · exact List.mem_cons.mpr (Or.inl h)
  · rcases List.mem_append.mp h with h | h
    · exact List.mem_cons_of_mem _ (List.mem_append_left _ h)
    · exact List.mem_cons_of_mem _ (List.mem_append_right _ (rtsF_W 4 0 r h))
end M14
theorem i_hi {a m : Int32} {n : Nat} (hm : m.toInt = (n : Int)) (hn : n + 1 < 2147483648) : nI (n + 1) ≤ a → m < a := fun h => Int32.lt_iff_toInt_lt.mpr (by
  have h1 := Int32.le_iff_toInt_le.mp h
  rw [nI_toInt (by omega)] at h1
  omega)
