/-! SORTED KEYS: how many, where a key belongs -/
def Srt (L : List (Nat × Int32)) : Prop := L.Pairwise (fun x y => x.1 < y.1)
theorem Srt_app {A B : List (Nat × Int32)} : Srt (A ++ B) ↔ Srt A ∧ Srt B ∧ ∀ x ∈ A, ∀ y ∈ B, x.1 < y.1 := List.pairwise_append
theorem Srt_cons {x : Nat × Int32} {B : List (Nat × Int32)} : Srt (x :: B) ↔ (∀ y ∈ B, x.1 < y.1) ∧ Srt B := List.pairwise_cons
def k100 (L : List (Nat × Int32)) : Prop := ∀ x ∈ L, x.1 < 100
theorem k100_app {A B : List (Nat × Int32)} : k100 (A ++ B) ↔ k100 A ∧ k100 B := List.forall_mem_append
theorem Srt_len : ∀ {L : List (Nat × Int32)} {m : Nat}, Srt L → k100 L → (∀ x ∈ L, m ≤ x.1) → m ≤ 100 → L.length + m ≤ 100
  | [], m, _, _, _, h => by simpa using h
  | x :: L, m, h, hk, hm, _ => by
    obtain ⟨h1, h2⟩ := Srt_cons.mp h
    have a := hm x List.mem_cons_self
    have b := hk x List.mem_cons_self
    have c := Srt_len (L := L) (m := x.1 + 1) h2 (fun y hy => hk y (List.mem_cons_of_mem _ hy)) (fun y hy => h1 y hy) (by omega)
    rw [List.length_cons]
    omega
theorem Srt_100 {L : List (Nat × Int32)} (h : Srt L) (hk : k100 L) : L.length ≤ 100 := Srt_len (m := 0) h hk (fun _ _ => Nat.zero_le _) (by decide)
/-- fewer pages than keys -/
theorem fl_pages {T : Nat → Nd} {U : Nat → Prop} : ∀ {d p : Nat}, fl T U d p → wsm T one1 d p + 1 ≤ (kyl T d p).length
  | 0, p, ⟨_, l, hl, h2, _⟩ => by
    rw [wsm_0, kyl_0, hl]
    exact h2
  | d + 1, p, ⟨_, l, hl, h2, _, hk⟩ => by
    have hkl : kids (T p) = l := by rw [hl]; rfl
    rw [wsm_s, kyl_s, hkl]
    have h : ∀ l : List Nat, (∀ c ∈ l, wsm T one1 d c + 1 ≤ (kyl T d c).length) → smN (wsm T one1 d) l + l.length ≤ (l.flatMap (kyl T d)).length := fun l => by
      induction l with
      | nil => intro _; exact Nat.le_refl _
      | cons x l ih =>
        intro hl
        have a := hl x List.mem_cons_self
        have b := ih (fun c hc => hl c (List.mem_cons_of_mem _ hc))
        rw [smN_cons, List.flatMap_cons, List.length_append, List.length_cons]
        omega
    have := h l (fun c hc => fl_pages (hk c hc))
    show 1 + _ + 1 ≤ _
    omega
theorem fl_deep {T : Nat → Nd} {U : Nat → Prop} : ∀ {d p : Nat}, fl T U d p → 2 ^ (d + 1) ≤ (kyl T d p).length
  | 0, p, ⟨_, l, hl, h2, _⟩ => by
    rw [kyl_0, hl]
    exact h2
  | d + 1, p, ⟨_, l, hl, h2, _, hk⟩ => by
    have hkl : kids (T p) = l := by rw [hl]; rfl
    rw [kyl_s, hkl]
    have h : ∀ l : List Nat, (∀ c ∈ l, 2 ^ (d + 1) ≤ (kyl T d c).length) → 2 ^ (d + 1) * l.length ≤ (l.flatMap (kyl T d)).length := fun l => by
      induction l with
      | nil => intro _; exact Nat.le_refl _
      | cons x l ih =>
        intro hl
        have a := hl x List.mem_cons_self
        have b := ih (fun c hc => hl c (List.mem_cons_of_mem _ hc))
        rw [List.flatMap_cons, List.length_append, List.length_cons, Nat.mul_succ]
        omega
    have h3 := h l (fun c hc => fl_deep (hk c hc))
    have h4 : 2 ^ (d + 1) * 2 ≤ 2 ^ (d + 1) * l.length := Nat.mul_le_mul_left _ h2
    rw [Nat.pow_succ 2 (d + 1)]
    omega
theorem rt_d5 {T : Nat → Nd} {U : Nat → Prop} {d p : Nat} (h : rt T U d p) (hl : (kyl T d p).length ≤ 100) : d ≤ 5 := by
  cases d with
  | zero => exact Nat.zero_le _
  | succ d =>
    have h1 := fl_deep (d := d + 1) h
    have h2 : ∀ n, 5 ≤ n → 2 ^ 7 ≤ 2 ^ (n + 1 + 1) := fun n hn => Nat.pow_le_pow_right (by decide) (by omega)
    by_cases h5 : 5 ≤ d
    · have := h2 d h5
      have e : (2 : Nat) ^ 7 = 128 := rfl
      omega
    · omega
theorem rt_pages {T : Nat → Nd} {U : Nat → Prop} {d p : Nat} (h : rt T U d p) (hl : (kyl T d p).length ≤ 100) : wsm T one1 d p ≤ 99 := by
  cases d with
  | zero => rw [wsm_0]; exact (by decide : (1 : Nat) ≤ 99)
  | succ d =>
    have h1 := fl_pages (d := d + 1) h
    omega
/-- the least key is the first -/
theorem mk_first {T : Nat → Nd} {U : Nat → Prop} : ∀ {d p : Nat}, fl T U d p → ∃ x r, kyl T d p = x :: r ∧ mkT T d p = x.1
  | 0, p, ⟨_, l, hl, h2, _⟩ => by
    cases l with
    | nil => simp at h2
    | cons x r => exact ⟨x, r, by rw [kyl_0, hl]; rfl, by unfold mkT; rw [hl]⟩
  | d + 1, p, ⟨_, l, hl, h2, _, hk⟩ => by
    cases l with
    | nil => simp at h2
    | cons c l =>
      obtain ⟨x, r, h1, h3⟩ := mk_first (hk c List.mem_cons_self)
      refine ⟨x, r ++ l.flatMap (kyl T d), ?_, ?_⟩
      · have hkl : kids (T p) = c :: l := by rw [hl]; rfl
        rw [kyl_s, hkl, List.flatMap_cons, h1]
        rfl
      · unfold mkT
        rw [hl]
        exact h3
theorem nI_leN {a b : Nat} (ha : a < 100) (hb : b < 100) : nI a ≤ nI b ↔ a ≤ b := nI_leI (by omega) (by omega)
theorem nI_ltN {a b : Nat} (ha : a < 100) (hb : b < 100) : nI a < nI b ↔ a < b := nI_ltI (by omega) (by omega)
/-- where the way goes -/
theorem srch {T : Nat → Nd} {U : Nat → Prop} {d k : Nat} (hk : k < 100) : ∀ (r : List Nat) (c0 : Nat), (∀ c ∈ c0 :: r, fl T U d c) → Srt ((c0 :: r).flatMap (kyl T d)) → k100 ((c0 :: r).flatMap (kyl T d)) →
    efr T d r (nI k) ≤ r.length ∧ (efr T d r (nI k) = 0 ∨ ∀ c, (c0 :: r)[efr T d r (nI k)]? = some c → mkT T d c ≤ k) ∧ (∀ j x, efr T d r (nI k) < j → (c0 :: r)[j]? = some x → k < mkT T d x) ∧ (∀ x ∈ ((c0 :: r).take (efr T d r (nI k))).flatMap (kyl T d), x.1 < k) ∧ (∀ x ∈ ((c0 :: r).drop (efr T d r (nI k) + 1)).flatMap (kyl T d), k < x.1)
  | [], c0, hf, hs, h1 => by
    refine ⟨Nat.le_refl _, Or.inl rfl, fun j x hj hx => ?_, fun x hx => by simp [efr] at hx, fun x hx => by simp [efr] at hx⟩
    have : j < [c0].length := (List.getElem?_eq_some_iff.mp hx).1
    simp [efr] at hj this
    omega
  | c1 :: r, c0, hf, hs, h1 => by
    rw [List.flatMap_cons] at hs h1
    obtain ⟨s1, s2, s3⟩ := Srt_app.mp hs
    obtain ⟨q1, q2⟩ := k100_app.mp h1
    obtain ⟨x1, r1, e1, m1⟩ := mk_first (hf c1 (List.mem_cons_of_mem _ List.mem_cons_self))
    have hx1 : x1 ∈ (c1 :: r).flatMap (kyl T d) := List.mem_flatMap.mpr ⟨c1, List.mem_cons_self, by rw [e1]; exact List.mem_cons_self⟩
    have hx100 : x1.1 < 100 := q2 x1 hx1
    by_cases hle : mkT T d c1 ≤ k
    · have he : efr T d (c1 :: r) (nI k) = efr T d r (nI k) + 1 := by
        simp only [efr]
        rw [if_pos ((nI_leN (by rw [m1]; exact hx100) hk).mpr hle)]
      obtain ⟨a1, a2, a3, a4, a5⟩ := srch hk r c1 (fun c hc => hf c (List.mem_cons_of_mem _ hc)) s2 q2
      rw [he]
      refine ⟨by simpa using a1, Or.inr (fun c hc => ?_), fun j x hj hx => ?_, fun x hx => ?_, fun x hx => ?_⟩
      · rw [List.getElem?_cons_succ] at hc
        rcases a2 with h0 | h0
        · rw [h0] at hc
          simp at hc
          rw [← hc]
          exact hle
        · exact h0 c hc
      · obtain ⟨j, rfl⟩ : ∃ i, j = i + 1 := ⟨j - 1, by omega⟩
        rw [List.getElem?_cons_succ] at hx
        exact a3 j x (by omega) hx
      · rw [List.take_succ_cons, List.flatMap_cons] at hx
        rcases List.mem_append.mp hx with hx | hx
        · have := s3 x hx x1 hx1
          omega
        · exact a4 x hx
      · rw [List.drop_succ_cons] at hx
        exact a5 x hx
    · have he : efr T d (c1 :: r) (nI k) = 0 := by
        simp only [efr]
        rw [if_neg (fun h => hle ((nI_leN (by rw [m1]; exact hx100) hk).mp h))]
      rw [he]
      have hall : ∀ x ∈ (c1 :: r).flatMap (kyl T d), k < x.1 := fun x hx => by
        rw [List.flatMap_cons, e1, List.cons_append] at hx s2
        rcases List.mem_cons.mp hx with rfl | hx
        · omega
        · have := (Srt_cons.mp s2).1 x hx
          omega
      refine ⟨Nat.zero_le _, Or.inl rfl, fun j x hj hx => ?_, fun x hx => by simp at hx, fun x hx => hall x (by simpa using hx)⟩
      obtain ⟨j, rfl⟩ : ∃ i, j = i + 1 := ⟨j - 1, by omega⟩
      rw [List.getElem?_cons_succ] at hx
      have hm := List.mem_of_getElem? hx
      obtain ⟨y, ry, ey, my⟩ := mk_first (hf x (List.mem_cons_of_mem _ hm))
      rw [my]
      exact hall y (List.mem_flatMap.mpr ⟨x, hm, by rw [ey]; exact List.mem_cons_self⟩)
/-- the place in a sorted leaf -/
theorem plc_spec {k : Nat} (hk : k < 100) : ∀ {l : List (Nat × Int32)}, Srt l → k100 l → (∀ x ∈ l.take (plc l (nI k)), x.1 < k) ∧ (∀ x ∈ l.drop (plc l (nI k)), k ≤ x.1)
  | [], _, _ => ⟨fun x hx => by simp at hx, fun x hx => by simp at hx⟩
  | y :: l, hs, h1 => by
    obtain ⟨s1, s2⟩ := Srt_cons.mp hs
    have hy := h1 y List.mem_cons_self
    by_cases h : y.1 < k
    · have he : plc (y :: l) (nI k) = plc l (nI k) + 1 := by
        simp only [plc]
        rw [if_pos ((nI_ltN hy hk).mpr h)]
      obtain ⟨a, b⟩ := plc_spec hk s2 (fun x hx => h1 x (List.mem_cons_of_mem _ hx))
      rw [he]
      refine ⟨fun x hx => ?_, fun x hx => b x (by simpa using hx)⟩
      rw [List.take_succ_cons] at hx
      rcases List.mem_cons.mp hx with rfl | hx
      · exact h
      · exact a x hx
    · have he : plc (y :: l) (nI k) = 0 := by
        simp only [plc]
        rw [if_neg (fun h2 => h ((nI_ltN hy hk).mp h2))]
      rw [he]
      refine ⟨fun x hx => by simp at hx, fun x hx => ?_⟩
      rw [List.drop_zero] at hx
      rcases List.mem_cons.mp hx with rfl | hx
      · omega
      · have := s1 x hx
        omega
theorem hld_iff {k : Nat} (hk : k < 100) {l : List (Nat × Int32)} (hs : Srt l) (h1 : k100 l) : hld l (plc l (nI k)) (nI k) ↔ ∃ x ∈ l, x.1 = k := by
  obtain ⟨a, b⟩ := plc_spec hk hs h1
  constructor
  · rintro ⟨x, hx, hn⟩
    have hm := List.mem_of_getElem? hx
    have hx1 := h1 x hm
    exact ⟨x, hm, nI_inj (by omega) (by omega) hn⟩
  · rintro ⟨x, hx, rfl⟩
    rw [← List.take_append_drop (plc l (nI x.1)) l] at hx
    rcases List.mem_append.mp hx with hx | hx
    · exact absurd (a x hx) (Nat.lt_irrefl _)
    · cases hd : l.drop (plc l (nI x.1)) with
      | nil => rw [hd] at hx; exact absurd hx List.not_mem_nil
      | cons y r =>
        have hy : l[plc l (nI x.1)]? = some y := by
          have := congrArg (fun z => z[0]?) hd
          simpa using this
        have hsd : Srt (y :: r) := by
          rw [← hd]
          exact List.Pairwise.sublist (List.drop_sublist _ _) hs
        have hyx := b y (by rw [hd]; exact List.mem_cons_self)
        rw [hd] at hx
        refine ⟨y, hy, ?_⟩
        rcases List.mem_cons.mp hx with rfl | hx
        · rfl
        · have := (Srt_cons.mp hsd).1 x hx
          omega
/-- the entry found is the key's -/
theorem hld_key {k : Nat} (hk : k < 100) {l : List (Nat × Int32)} (h1 : k100 l) (h : hld l (plc l (nI k)) (nI k)) : ∃ v, l[plc l (nI k)]? = some (k, v) := by
  obtain ⟨x, hx, hn⟩ := h
  have hx1 := h1 x (List.mem_of_getElem? hx)
  have e : x.1 = k := nI_inj (by omega) (by omega) hn
  exact ⟨x.2, by rw [hx, ← e]⟩
