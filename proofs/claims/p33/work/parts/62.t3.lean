/-! FINDING; what is listed level by level against what is summed -/
theorem srt_leaf {A l B : List (Nat × Int32)} (h : Srt (A ++ l ++ B)) : Srt l := (Srt_app.mp (Srt_app.mp h).1).2.1
theorem k100_leaf {A l B : List (Nat × Int32)} (h : k100 (A ++ l ++ B)) : k100 l := (k100_app.mp (k100_app.mp h).1).2
theorem fmap_split {l : List Nat} {e c : Nat} (h : l[e]? = some c) (g : Nat → List (Nat × Int32)) : l.flatMap g = (l.take e).flatMap g ++ g c ++ (l.drop (e + 1)).flatMap g := by
  have h2 := congrArg (fun z => z.flatMap g) (list_split h)
  simp only [List.flatMap_append, List.flatMap_cons] at h2
  rw [List.append_assoc]
  exact h2
theorem fd_ex {T : Nat → Nd} {U : Nat → Prop} {k : Nat} (hk : k < 100) : ∀ {d p : Nat}, rt T U d p → Srt (kyl T d p) → k100 (kyl T d p) → ∃ P l A B, fdR T U (nI k) d p P (lfF T d p (nI k)) ∧ T (lfF T d p (nI k)) = .inl l ∧ kyl T d p = A ++ l ++ B ∧ (∀ x ∈ A, x.1 < k) ∧ (∀ x ∈ B, k < x.1)
  | 0, p, ⟨hu, l, hl, _⟩, _, _ => ⟨[], l, [], [], ⟨rfl, rfl, hu, l, hl⟩, hl, by rw [kyl_0, hl]; simp [lvE], fun x hx => absurd hx List.not_mem_nil, fun x hx => absurd hx List.not_mem_nil⟩
  | d + 1, p, ⟨hu, l, hl, h2, h4, hf⟩, hs, h1 => by
    have hkl : kids (T p) = l := by rw [hl]; rfl
    rw [kyl_s, hkl] at hs h1
    cases hl0 : l with
    | nil => rw [hl0] at h2; simp at h2
    | cons c0 r =>
      rw [hl0] at hs h1 hf
      obtain ⟨a1, a2, a3, a4, a5⟩ := srch hk r c0 hf hs h1
      have he : eix T d (c0 :: r) (nI k) = efr T d r (nI k) := rfl
      have hlt : efr T d r (nI k) < (c0 :: r).length := by rw [List.length_cons]; omega
      obtain ⟨c, hc⟩ : ∃ c, (c0 :: r)[efr T d r (nI k)]? = some c := ⟨_, List.getElem?_eq_getElem hlt⟩
      have hcm := List.mem_of_getElem? hc
      rw [fmap_split hc] at hs h1
      obtain ⟨P, lf, A, B, f1, f2, f3, f4, f5⟩ := fd_ex hk (fl_rt (hf c hcm)) (Srt_app.mp (Srt_app.mp hs).1).2.1 (k100_app.mp (k100_app.mp h1).1).2
      have hmk : ∀ x ∈ c0 :: r, mkT T d x < 100 := fun x hx => by
        rw [← fmap_split hc] at h1
        obtain ⟨y, ry, ey, my⟩ := mk_first (hf x hx)
        rw [my]
        exact h1 y (List.mem_flatMap.mpr ⟨x, hx, by rw [ey]; exact List.mem_cons_self⟩)
      have hlf : lfF T (d + 1) p (nI k) = lfF T d c (nI k) := by
        simp only [lfF, hl, hl0, he]
        congr 1
        rw [List.getD_eq_getElem?_getD, hc]
        rfl
      refine ⟨(p, efr T d r (nI k)) :: P, lf, ((c0 :: r).take (efr T d r (nI k))).flatMap (kyl T d) ++ A, B ++ ((c0 :: r).drop (efr T d r (nI k) + 1)).flatMap (kyl T d), ⟨hu, c0 :: r, efr T d r (nI k), c, P, by rw [hl, hl0], hf, hc, fun j x hj hx => ?_, ?_, rfl, by rw [hlf]; exact f1⟩, by rw [hlf]; exact f2, ?_, fun x hx => ?_, fun x hx => ?_⟩
      · exact (nI_ltN hk (hmk x (List.mem_of_getElem? hx))).mpr (a3 j x hj hx)
      · rcases a2 with h0 | h0
        · exact Or.inl h0
        · exact Or.inr ((nI_leN (hmk c hcm) hk).mpr (h0 c hc))
      · rw [kyl_s, hkl, hl0, fmap_split hc, f3]
        simp only [List.append_assoc]
      · exact (List.mem_append.mp hx).elim (a4 x) (f4 x)
      · exact (List.mem_append.mp hx).elim (f5 x) (a5 x)
theorem key_in {A l B : List (Nat × Int32)} {k : Nat} (hA : ∀ x ∈ A, x.1 < k) (hB : ∀ x ∈ B, k < x.1) : (∃ x ∈ A ++ l ++ B, x.1 = k) ↔ ∃ x ∈ l, x.1 = k := by
  constructor
  · rintro ⟨x, hx, rfl⟩
    rcases List.mem_append.mp hx with hx | hx
    · rcases List.mem_append.mp hx with hx | hx
      · exact absurd (hA x hx) (Nat.lt_irrefl _)
      · exact ⟨x, hx, rfl⟩
    · exact absurd (hB x hx) (Nat.lt_irrefl _)
  · rintro ⟨x, hx, h⟩
    exact ⟨x, List.mem_append_left _ (List.mem_append_right _ hx), h⟩
/-! sums over the list of a tree's pages -/
theorem bfs_sum (T : Nat → Nd) (f : Nat → Nat) : ∀ (d : Nat) (ps : List Nat), smN f (bfs T d ps) = smN (wsm T f d) ps
  | 0, ps => rfl
  | d + 1, ps => by
    have hk : ∀ l : List Nat, smN f l + smN (wsm T f d) (l.flatMap (fun p => kids (T p))) = smN (wsm T f (d + 1)) l := fun l => by
      induction l with
      | nil => rfl
      | cons x l ih =>
        rw [List.flatMap_cons, smN_app, smN_cons, smN_cons, ← ih, wsm_s]
        omega
    rw [bfs, smN_app, bfs_sum T f d, hk]
theorem smN_1 (g : Nat → Nat) (p : Nat) : smN g [p] = g p := by rw [smN_cons, smN_nil]; omega
theorem bfs_sum1 (T : Nat → Nd) (f : Nat → Nat) (d p : Nat) : smN f (bfs T d [p]) = wsm T f d p := by rw [bfs_sum, smN_1]
theorem smN_one : ∀ l : List Nat, smN one1 l = l.length
  | [] => rfl
  | x :: l => by
    rw [smN_cons, smN_one l, List.length_cons]
    show 1 + _ = _
    omega
theorem bfs_len (T : Nat → Nd) (d p : Nat) : (bfs T d [p]).length = wsm T one1 d p := by rw [← smN_one, bfs_sum1]
theorem cmk_sum (mk : Nat → Int32) : ∀ L : List Nat, cmk mk L = smN (mkW mk) L
  | [] => rfl
  | c :: r => by
    rw [smN_cons, ← cmk_sum mk r]
    rfl
theorem ksb_sum (T : Nat → Nd) (a : Int32) : ∀ L : List Nat, (∀ p ∈ L, ∀ l, T p = .inl l → plc l a = cnL l a) → ksb T L a = smN (lfW T a) L
  | [], _ => rfl
  | p :: r, hs => by
    have ih := ksb_sum T a r (fun q hq => hs q (List.mem_cons_of_mem _ hq))
    rw [smN_cons, ← ih]
    show (match T p with
      | .inr _ => 0
      | .inl l => plc l a) + ksb T r a = lfW T a p + ksb T r a
    congr 1
    unfold lfW
    cases hT : T p with
    | inl l => exact hs p List.mem_cons_self l hT
    | inr l => rfl
theorem cnL_0 {a : Int32} : ∀ {l : List (Nat × Int32)}, (∀ x ∈ l, ¬ nI x.1 < a) → cnL l a = 0
  | [], _ => rfl
  | y :: l, h => by
    unfold cnL
    rw [if_neg (h y List.mem_cons_self), cnL_0 (fun x hx => h x (List.mem_cons_of_mem _ hx))]
/-- in a sorted leaf the place is the count -/
theorem plc_cnL {a : Int32} : ∀ {l : List (Nat × Int32)}, Srt l → k100 l → plc l a = cnL l a
  | [], _, _ => rfl
  | y :: l, hs, h1 => by
    obtain ⟨s1, s2⟩ := Srt_cons.mp hs
    have hy := h1 y List.mem_cons_self
    have ih := plc_cnL (a := a) s2 (fun x hx => h1 x (List.mem_cons_of_mem _ hx))
    by_cases h : nI y.1 < a
    · simp only [plc, cnL]
      rw [if_pos h, if_pos h, ih]
      omega
    · simp only [plc, cnL]
      rw [if_neg h, if_neg h, cnL_0 (fun x hx h2 => h (Int32.lt_trans ((nI_ltN hy (h1 x (List.mem_cons_of_mem _ hx))).mpr (s1 x hx)) h2))]
theorem cnL_app (a : Int32) : ∀ (A B : List (Nat × Int32)), cnL (A ++ B) a = cnL A a + cnL B a
  | [], B => by simp [cnL]
  | x :: A, B => by
    rw [List.cons_append]
    simp only [cnL]
    rw [cnL_app a A B]
    omega
theorem cnL_100 : ∀ {l : List (Nat × Int32)}, k100 l → cnL l 100 = l.length
  | [], _ => rfl
  | x :: l, h => by
    simp only [cnL]
    rw [if_pos (by exact nI_lt (h x List.mem_cons_self) (by decide)), cnL_100 (fun y hy => h y (List.mem_cons_of_mem _ hy)), List.length_cons]
    omega
/-- the weights of keys are a count over the keys in order -/
theorem wsm_keys {T : Nat → Nd} (a : Int32) : ∀ {d p : Nat}, dpt T d p → wsm T (lfW T a) d p = cnL (kyl T d p) a
  | 0, p, ⟨l, hl⟩ => by
    rw [wsm_0, kyl_0]
    unfold lfW
    rw [hl]
    rfl
  | d + 1, p, ⟨l, hl, hk⟩ => by
    have hkl : kids (T p) = l := by rw [hl]; rfl
    have h0 : lfW T a p = 0 := by unfold lfW; rw [hl]
    have h : ∀ l : List Nat, (∀ c ∈ l, wsm T (lfW T a) d c = cnL (kyl T d c) a) → smN (wsm T (lfW T a) d) l = cnL (l.flatMap (kyl T d)) a := fun l => by
      induction l with
      | nil => intro _; rfl
      | cons x l ih =>
        intro hl
        rw [smN_cons, List.flatMap_cons, cnL_app, hl x List.mem_cons_self, ih (fun c hc => hl c (List.mem_cons_of_mem _ hc))]
    rw [wsm_s, kyl_s, hkl, h0, h l (fun c hc => wsm_keys a (hk c hc)), Nat.zero_add]
/-- a leaf of a tree with sorted keys is sorted -/
theorem leaf_srt {T : Nat → Nd} : ∀ {d p q : Nat} {l : List (Nat × Int32)}, dpt T d p → inP T d p q → T q = .inl l → ∃ A B, kyl T d p = A ++ l ++ B
  | 0, p, q, l, _, hq, hl => by
    rw [in_0 hq] at hl
    exact ⟨[], [], by rw [kyl_0, hl]; simp [lvE]⟩
  | d + 1, p, q, l, ⟨lk, hlk, hk⟩, hq, hl => by
    have hkl : kids (T p) = lk := by rw [hlk]; rfl
    rcases in_cases hq with rfl | ⟨c, hc, hq⟩
    · rw [hlk] at hl
      cases hl
    · rw [hkl] at hc
      obtain ⟨A, B, e⟩ := leaf_srt (hk c hc) hq hl
      obtain ⟨i, hi⟩ := List.getElem?_of_mem hc
      refine ⟨(lk.take i).flatMap (kyl T d) ++ A, B ++ (lk.drop (i + 1)).flatMap (kyl T d), ?_⟩
      rw [kyl_s, hkl, fmap_split hi, e]
      simp only [List.append_assoc]
/-! the class's scan for the next key -/
def lkL : List (Nat × Int32) → Int32 → Int32
  | [], _ => -1
  | x :: r, a => if nI x.1 < a then lkL r a else nI x.1
theorem lkL_leaf {a : Int32} (R : List (Nat × Int32)) : ∀ l : List (Nat × Int32), lkL (l ++ R) a = match l[plc l a]? with
    | some x => nI x.1
    | none => lkL R a
  | [] => rfl
  | x :: l => by
    rw [List.cons_append]
    simp only [lkL, plc]
    by_cases h : nI x.1 < a
    · rw [if_pos h, if_pos h, lkL_leaf R l, List.getElem?_cons_succ]
    · rw [if_neg h, if_neg h]
      rfl
theorem lkf_L (T : Nat → Nd) (a : Int32) : ∀ L : List Nat, lkf T L a = lkL (L.flatMap (fun p => lvE (T p))) a
  | [] => rfl
  | p :: r => by
    rw [List.flatMap_cons]
    unfold lkf
    cases hT : T p with
    | inl l =>
      show _ = lkL (l ++ _) a
      rw [lkL_leaf, ← lkf_L T a r]
      rfl
    | inr l =>
      show lkf T r a = lkL ([] ++ _) a
      rw [lkf_L T a r]
      rfl
theorem bfs_keys {T : Nat → Nd} : ∀ {d : Nat} {ps : List Nat}, (∀ p ∈ ps, dpt T d p) → (bfs T d ps).flatMap (fun p => lvE (T p)) = ps.flatMap (kyl T d)
  | 0, ps, _ => rfl
  | d + 1, ps, h => by
    have h2 : ∀ c ∈ ps.flatMap (fun p => kids (T p)), dpt T d c := fun c hc => by
      obtain ⟨p, hp, hc⟩ := List.mem_flatMap.mp hc
      obtain ⟨l, hl, hk⟩ := h p hp
      rw [hl] at hc
      exact hk c hc
    have h3 : ∀ ps : List Nat, (∀ p ∈ ps, dpt T (d + 1) p) → ps.flatMap (fun p => lvE (T p)) = [] ∧ (ps.flatMap (fun p => kids (T p))).flatMap (kyl T d) = ps.flatMap (kyl T (d + 1)) := fun ps => by
      induction ps with
      | nil => intro _; exact ⟨rfl, rfl⟩
      | cons x ps ih =>
        intro hp
        obtain ⟨i1, i2⟩ := ih (fun p hq => hp p (List.mem_cons_of_mem _ hq))
        obtain ⟨l, hl, -⟩ := hp x List.mem_cons_self
        constructor
        · rw [List.flatMap_cons, i1, hl]; rfl
        · rw [List.flatMap_cons, List.flatMap_append, i2, List.flatMap_cons, kyl_s]
    obtain ⟨i1, i2⟩ := h3 ps h
    rw [bfs, List.flatMap_append, bfs_keys h2, i1, i2]
    rfl
theorem lkf_keys {T : Nat → Nd} {d p : Nat} (h : dpt T d p) (a : Int32) : lkf T (bfs T d [p]) a = lkL (kyl T d p) a := by
  rw [lkf_L, bfs_keys (fun x hx => by rw [List.mem_singleton.mp hx]; exact h)]
  simp
/-- the least key from a number on -/
theorem lkL_min {a : Int32} : ∀ {L : List (Nat × Int32)}, Srt L → k100 L → ∃ k, k ≤ 100 ∧ (k < 100 → (∃ x ∈ L, x.1 = k) ∧ a ≤ nI k) ∧ (∀ q, q < k → a ≤ nI q → ¬ ∃ x ∈ L, x.1 = q) ∧ lkL L a = if k < 100 then nI k else -1
  | [], _, _ => ⟨100, Nat.le_refl _, fun h => absurd h (Nat.lt_irrefl _), fun q _ _ ⟨x, hx, _⟩ => absurd hx List.not_mem_nil, rfl⟩
  | y :: L, hs, h1 => by
    obtain ⟨s1, s2⟩ := Srt_cons.mp hs
    have hy := h1 y List.mem_cons_self
    by_cases h : nI y.1 < a
    · obtain ⟨k, a1, a2, a3, a4⟩ := lkL_min (a := a) s2 (fun x hx => h1 x (List.mem_cons_of_mem _ hx))
      refine ⟨k, a1, fun hk => ?_, fun q hq ha ⟨x, hx, e⟩ => ?_, ?_⟩
      · obtain ⟨⟨x, hx, e⟩, b⟩ := a2 hk
        exact ⟨⟨x, List.mem_cons_of_mem _ hx, e⟩, b⟩
      · rcases List.mem_cons.mp hx with rfl | hx
        · rw [← e] at ha
          exact Int32.not_lt.mpr ha h
        · exact a3 q hq ha ⟨x, hx, e⟩
      · simp only [lkL]
        rw [if_pos h, a4]
    · refine ⟨y.1, by omega, fun _ => ⟨⟨y, List.mem_cons_self, rfl⟩, Int32.not_lt.mp h⟩, fun q hq ha ⟨x, hx, e⟩ => ?_, ?_⟩
      · rcases List.mem_cons.mp hx with rfl | hx
        · omega
        · have := s1 x hx
          omega
      · simp only [lkL]
        rw [if_neg h, if_pos hy]
