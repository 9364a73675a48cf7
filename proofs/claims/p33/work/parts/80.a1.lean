/-! THE INVARIANT: what the class and the model hold together -/
/-- a state's tree is good, and its number of keys is right -/
def oR (T : Nat → Nd) (K : Nat → Prop) (x : RS3) : Prop := ∃ d, rt T K d x.2.1 ∧ (∀ q, wsm T (dl q) d x.2.1 ≤ 1) ∧ Srt (kyl T d x.2.1) ∧ k100 (kyl T d x.2.1) ∧ x.2.2 = (kyl T d x.2.1).length
def bG (K W : Nat → Prop) (T : Nat → Nd) (c x : RS3) : Prop := (∃ d, GT K (fun q => Rch T c.2.1 q) W T d x.2.1 ∧ Srt (kyl T d x.2.1) ∧ k100 (kyl T d x.2.1) ∧ x.2.2 = (kyl T d x.2.1).length) ∧ x.1 = c.1 + 1
def bI (K W : Nat → Prop) (T : Nat → Nd) (c : RS3) (b : Option RS3) : Prop := (b = none → ∀ q, ¬ W q) ∧ ∀ x, b = some x → bG K W T c x
def wdI (N : Nat) (sw : Nat → Int64) (t : Nat) : Prop := ∃ e p k, e ≤ N ∧ p < 720 ∧ k ≤ 100 ∧ sw (4 * t) = (nI e).toInt64 ∧ sw (4 * t + 1) = (nI p).toInt64 ∧ sw (4 * t + 2) = (nI k).toInt64
def smI (E : Nat) (sw : Nat → Int64) (t : Nat) : Prop := sw (4 * t + 3) = -1 ∨ ∃ e p k, e ≤ E ∧ p < 720 ∧ k ≤ 100 ∧ sw (4 * t + 3) = sumW (nI e).toInt64 (nI p).toInt64 (nI k).toInt64
def slI (N : Nat) (c : RS3) (so : Nat → Option RS3) (s : Nat) (sw : Nat → Int64) : Prop := SLR sw so ∧ (so s = some c ∨ (so s = none ∧ sw (4 * s + 3) = -1)) ∧ ((∃ x, so 0 = some x) ∨ ∃ x, so 1 = some x) ∧ (∀ t x, t < 2 → so t = some x → x.1 ≤ c.1) ∧ (∀ t, t < 2 → wdI N sw t) ∧ (∀ t, t < 2 → smI c.1 sw t) ∧ c.1 ≤ N
def AI (N : Nat) (K W : Nat → Prop) (T : Nat → Nd) (c : RS3) (b : Option RS3) (so rd : Nat → Option RS3) (s : Nat) (sw : Nat → Int64) : Prop := (∀ q, K q ↔ RS T (rts c so rd) q) ∧ (oR T K c ∧ (∀ t x, t < 2 → so t = some x → oR T K x) ∧ (∀ j x, j < 4 → rd j = some x → oR T K x)) ∧ (∀ q, K q ∨ W q → q < 720) ∧ bI K W T c b ∧ s < 2 ∧ slI N c so s sw
theorem oR_mono {T T' : Nat → Nd} {K K' : Nat → Prop} {x : RS3} (h : oR T K x) (hK : ∀ q, Rch T x.2.1 q → K' q ∧ T' q = T q) : oR T' K' x := by
  obtain ⟨d, h1, h2, h3, h4, h5⟩ := h
  have hin : ∀ q, inP T d x.2.1 q → K' q ∧ T' q = T q := fun q hq => hK q ((in_Rch (sb_dpt (rt_sb h1).1) q).mp hq)
  have e1 : kyl T' d x.2.1 = kyl T d x.2.1 := kyl_fr (fun q hq => (hin q hq).2)
  exact ⟨d, rt_fr h1 hin, fun q => by rw [wsm_fr _ (fun q hq => (hin q hq).2)]; exact h2 q, by rw [e1]; exact h3, by rw [e1]; exact h4, by rw [e1]; exact h5⟩
theorem Rch_fr {T T' : Nat → Nd} {r : Nat} (h : ∀ q, Rch T r q → T' q = T q) (q : Nat) : Rch T' r q ↔ Rch T r q := by
  have e := RS_frame (T := T) (T' := T') (rs := [r]) (fun q hq => by
    obtain ⟨x, hx, hr⟩ := hq
    rw [List.mem_singleton.mp hx] at hr
    exact h q hr) q
  constructor
  · intro hq
    obtain ⟨x, hx, hr⟩ := e.mp ⟨r, List.mem_singleton.mpr rfl, hq⟩
    rw [List.mem_singleton.mp hx] at hr
    exact hr
  · intro hq
    obtain ⟨x, hx, hr⟩ := e.mpr ⟨r, List.mem_singleton.mpr rfl, hq⟩
    rw [List.mem_singleton.mp hx] at hr
    exact hr
theorem mem_rtsF {rd : Nat → Option RS3} : ∀ {m j r : Nat}, r ∈ rtsF rd j m ↔ ∃ i x, j ≤ i ∧ i < j + m ∧ rd i = some x ∧ x.2.1 = r
  | 0, j, r => by
    constructor
    · intro h; exact absurd h List.not_mem_nil
    · rintro ⟨i, x, h1, h2, -⟩; omega
  | m + 1, j, r => by
    show r ∈ oRt (rd j) ++ rtsF rd (j + 1) m ↔ _
    rw [List.mem_append, mem_rtsF]
    constructor
    · rintro (h | ⟨i, x, h1, h2, h3, h4⟩)
      · cases hj : rd j with
        | none => rw [hj] at h; exact absurd h List.not_mem_nil
        | some x =>
          rw [hj] at h
          exact ⟨j, x, Nat.le_refl _, by omega, hj, (List.mem_singleton.mp h).symm⟩
      · exact ⟨i, x, by omega, by omega, h3, h4⟩
    · rintro ⟨i, x, h1, h2, h3, h4⟩
      by_cases hij : i = j
      · subst hij
        refine Or.inl ?_
        rw [h3, ← h4]
        exact List.mem_cons_self
      · exact Or.inr ⟨i, x, by omega, by omega, h3, h4⟩
theorem mem_rts {c : RS3} {so rd : Nat → Option RS3} {r : Nat} : r ∈ rts c so rd ↔ r = c.2.1 ∨ (∃ t x, t < 2 ∧ so t = some x ∧ x.2.1 = r) ∨ ∃ j x, j < 4 ∧ rd j = some x ∧ x.2.1 = r := by
  unfold rts
  rw [List.mem_cons, List.mem_append, mem_rtsF, mem_rtsF]
  constructor
  · rintro (h | ⟨i, x, h1, h2, h3, h4⟩ | ⟨i, x, h1, h2, h3, h4⟩)
    · exact Or.inl h
    · exact Or.inr (Or.inl ⟨i, x, by omega, h3, h4⟩)
    · exact Or.inr (Or.inr ⟨i, x, by omega, h3, h4⟩)
  · rintro (h | ⟨i, x, h2, h3, h4⟩ | ⟨i, x, h2, h3, h4⟩)
    · exact Or.inl h
    · exact Or.inr (Or.inl ⟨i, x, by omega, by omega, h3, h4⟩)
    · exact Or.inr (Or.inr ⟨i, x, by omega, by omega, h3, h4⟩)
/-- what a state's tree has -/
theorem oR_use {T : Nat → Nd} {K U : Nat → Prop} {x : RS3} (h : oR T K x) (hK : ∀ q, K q → U q) : ∃ d, rt T U d x.2.1 ∧ d ≤ 5 ∧ Srt (kyl T d x.2.1) ∧ k100 (kyl T d x.2.1) ∧ x.2.2 = (kyl T d x.2.1).length ∧ wsm T one1 d x.2.1 ≤ 99 ∧ (bfs T d [x.2.1]).length ≤ 99 ∧ x.2.2 ≤ 100 := by
  obtain ⟨d, h1, h2, h3, h4, h5⟩ := h
  have hl := Srt_100 h3 h4
  have hp := rt_pages h1 hl
  exact ⟨d, rt_fr h1 (fun q hq => ⟨hK q (by
    have := sb_in (rt_sb h1).1 hq
    exact this), rfl⟩), rt_d5 h1 hl, h3, h4, h5, hp, by rw [bfs_len]; exact hp, by omega⟩
theorem oR_list {T : Nat → Nd} {K : Nat → Prop} {x : RS3} (h : oR T K x) : ∃ L : List Nat, L.length ≤ 99 ∧ ∀ q, Rch T x.2.1 q → q ∈ L := by
  obtain ⟨d, h1, -, -, -, -, -, h7, -⟩ := oR_use h (fun q hq => hq)
  exact ⟨bfs T d [x.2.1], h7, fun q hq => in_bfs ((in_Rch (sb_dpt (rt_sb h1).1) q).mpr hq)⟩
theorem oR_list' {T : Nat → Nd} {K : Nat → Prop} {o : Option RS3} (h : ∀ x, o = some x → oR T K x) : ∃ L : List Nat, L.length ≤ 99 ∧ ∀ x, o = some x → ∀ q, Rch T x.2.1 q → q ∈ L := by
  cases o with
  | none => exact ⟨[], by simp, fun x hx => by cases hx⟩
  | some y =>
    obtain ⟨L, h1, h2⟩ := oR_list (h y rfl)
    exact ⟨L, h1, fun x hx => by cases hx; exact h2⟩
section AIS
variable {N : Nat} {K W : Nat → Prop} {T : Nat → Nd} {c : RS3} {b : Option RS3} {so rd : Nat → Option RS3} {s : Nat} {sw : Nat → Int64}
theorem ai_cov (h : AI N K W T c b so rd s sw) : cov K 600 := by
  obtain ⟨hK, ⟨o1, o2, o3⟩, -, -, hs, hsl⟩ := h
  obtain ⟨L0, a0, b0⟩ := oR_list o1
  obtain ⟨L1, a1, b1⟩ := oR_list' (o := so (1 - s)) (fun x hx => o2 (1 - s) x (by omega) hx)
  obtain ⟨L2, a2, b2⟩ := oR_list' (o := rd 0) (fun x hx => o3 0 x (by omega) hx)
  obtain ⟨L3, a3, b3⟩ := oR_list' (o := rd 1) (fun x hx => o3 1 x (by omega) hx)
  obtain ⟨L4, a4, b4⟩ := oR_list' (o := rd 2) (fun x hx => o3 2 x (by omega) hx)
  obtain ⟨L5, a5, b5⟩ := oR_list' (o := rd 3) (fun x hx => o3 3 x (by omega) hx)
  refine ⟨L0 ++ (L1 ++ (L2 ++ (L3 ++ (L4 ++ L5)))), by simp only [List.length_append]; omega, fun q hq => ?_⟩
  obtain ⟨r, hr, hR⟩ := (hK q).mp hq
  simp only [List.mem_append]
  rcases mem_rts.mp hr with rfl | ⟨t, x, ht, hx, rfl⟩ | ⟨j, x, hj, hx, rfl⟩
  · exact Or.inl (b0 q hR)
  · by_cases hts : t = s
    · subst hts
      rcases hsl.2.1 with h | ⟨h, -⟩
      · rw [hx] at h
        cases h
        exact Or.inl (b0 q hR)
      · rw [hx] at h
        cases h
    · have : t = 1 - s := by omega
      subst this
      exact Or.inr (Or.inl (b1 x hx q hR))
  · rcases lt4 hj with rfl | rfl | rfl | rfl
    · exact Or.inr (Or.inr (Or.inl (b2 x hx q hR)))
    · exact Or.inr (Or.inr (Or.inr (Or.inl (b3 x hx q hR))))
    · exact Or.inr (Or.inr (Or.inr (Or.inr (Or.inl (b4 x hx q hR)))))
    · exact Or.inr (Or.inr (Or.inr (Or.inr (Or.inr (b5 x hx q hR)))))
/-- a view's tree -/
theorem ai_view (h : AI N K W T c b so rd s sw) {i : Int32} {x : RS3} (hv : vwF c b rd i = some x) : ∃ d, rt T (fun q => K q ∨ W q) d x.2.1 ∧ d ≤ 5 ∧ Srt (kyl T d x.2.1) ∧ k100 (kyl T d x.2.1) ∧ x.2.2 = (kyl T d x.2.1).length ∧ wsm T one1 d x.2.1 ≤ 99 ∧ (bfs T d [x.2.1]).length ≤ 99 ∧ x.2.1 < 720 := by
  obtain ⟨hK, ⟨o1, o2, o3⟩, h7, hb, hs, hsl⟩ := h
  have fin : ∀ y : RS3, oR T K y → ∃ d, rt T (fun q => K q ∨ W q) d y.2.1 ∧ d ≤ 5 ∧ Srt (kyl T d y.2.1) ∧ k100 (kyl T d y.2.1) ∧ y.2.2 = (kyl T d y.2.1).length ∧ wsm T one1 d y.2.1 ≤ 99 ∧ (bfs T d [y.2.1]).length ≤ 99 ∧ y.2.1 < 720 := fun y hy => by
    obtain ⟨d, a1, a2, a3, a4, a5, a6, a7, -⟩ := oR_use (U := fun q => K q ∨ W q) hy (fun q hq => Or.inl hq)
    exact ⟨d, a1, a2, a3, a4, a5, a6, a7, h7 _ (rt_U a1)⟩
  rcases vw_some hv with ⟨-, ⟨-, rfl⟩ | hx⟩ | ⟨-, j, hj, -, hx⟩
  · exact fin x o1
  · obtain ⟨⟨d, g, a3, a4, a5⟩, -⟩ := hb.2 x hx
    have hl := Srt_100 a3 a4
    have hp := rt_pages g.1 hl
    exact ⟨d, g.1, rt_d5 g.1 hl, a3, a4, a5, hp, by rw [bfs_len]; exact hp, h7 _ (rt_U g.1)⟩
  · exact fin x (o3 j x hj hx)
theorem ai_ok (h : AI N K W T c b so rd s sw) {U : Nat → Prop} (hU : ∀ q, K q → U q) : ∀ r ∈ rts c so rd, okR T U r := fun r hr => by
  obtain ⟨hK, ⟨o1, o2, o3⟩, h7, hb, hs, hsl⟩ := h
  have fin : ∀ y : RS3, oR T K y → okR T U y.2.1 := fun y hy => by
    obtain ⟨d, a1, a2, a3, a4, a5, a6, a7, -⟩ := oR_use (U := U) hy hU
    exact ⟨d, by omega, a1, by omega⟩
  rcases mem_rts.mp hr with rfl | ⟨t, x, ht, hx, rfl⟩ | ⟨j, x, hj, hx, rfl⟩
  · exact fin c o1
  · exact fin x (o2 t x ht hx)
  · exact fin x (o3 j x hj hx)
theorem ai_use (h : AI N K W T c b so rd s sw) (q : Nat) : mUse T c b so rd q ↔ K q ∨ W q := by
  obtain ⟨hK, -, h7, hb, -, -⟩ := h
  unfold mUse
  rw [← hK]
  cases b with
  | none =>
    constructor
    · rintro (h | h)
      · exact Or.inl h
      · exact absurd h (RS_nil q)
    · rintro (h | h)
      · exact Or.inl h
      · exact absurd h (hb.1 rfl q)
  | some x =>
    obtain ⟨⟨d, g, -⟩, -⟩ := hb.2 x rfl
    have hR := in_Rch (sb_dpt (rt_sb g.1).1) q
    constructor
    · rintro (h | ⟨r, hr, h⟩)
      · exact Or.inl h
      · rw [List.mem_singleton.mp hr] at h
        exact (g.2.2.2.1 q (hR.mpr h)).elim Or.inr (fun h => Or.inl h.1)
    · rintro (h | h)
      · exact Or.inl h
      · exact Or.inr ⟨x.2.1, List.mem_singleton.mpr rfl, hR.mp (g.2.2.1 q h)⟩
theorem mUse_cl {q : Nat} (h : mUse T c b so rd q) : ∀ x ∈ kids (T q), mUse T c b so rd x := fun x hx => h.imp (fun h => RS_cl q h x hx) (fun h => RS_cl q h x hx)
theorem ai_cl (h : AI N K W T c b so rd s sw) : ∀ q, K q ∨ W q → ∀ x ∈ kids (T q), K x ∨ W x := fun q hq x hx => (ai_use h x).mp (mUse_cl ((ai_use h q).mpr hq) x hx)
theorem ai_D (h : AI N K W T c b so rd s sw) : ∀ q, K q → ¬ W q := fun q hq hw => by
  cases hb : b with
  | none => exact h.2.2.2.1.1 hb q hw
  | some x =>
    obtain ⟨⟨d, g, -⟩, -⟩ := h.2.2.2.1.2 x hb
    exact g.2.2.2.2 q hq hw
theorem ai_mono {M : Nat} (hN : N ≤ M) (h : AI N K W T c b so rd s sw) : AI M K W T c b so rd s sw := by
  obtain ⟨h1, h2, h3, h4, h5, s1, s2, s3, s4, s5, s6, s7⟩ := h
  exact ⟨h1, h2, h3, h4, h5, s1, s2, s3, s4, fun t ht => by
    obtain ⟨e, p, k, a, b⟩ := s5 t ht
    exact ⟨e, p, k, by omega, b⟩, s6, by omega⟩
/-- what is free -/
theorem ai_free (h : AI N K W T c b so rd s sw) : ∃ n, frs K W n := by
  obtain ⟨L, hL, hm⟩ := ai_cov h
  cases hb : b with
  | none => exact frs_ex ⟨L, by omega, fun q hq => hq.elim (hm q) (fun hw => absurd hw (h.2.2.2.1.1 hb q))⟩
  | some x =>
    obtain ⟨⟨d, g, a3, a4, a5⟩, -⟩ := h.2.2.2.1.2 x hb
    have hp := rt_pages g.1 (Srt_100 a3 a4)
    exact frs_ex ⟨L ++ bfs T d [x.2.1], by rw [List.length_append, bfs_len]; omega, fun q hq => List.mem_append.mpr (hq.imp (hm q) (fun hw => in_bfs (g.2.2.1 q hw)))⟩
end AIS
