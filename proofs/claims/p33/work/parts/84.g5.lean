/-! BOTH: slots, commits, readers, crashes -/
theorem sumW_lN {e p k : Nat} (he : e ≤ 1000) (hp : p < 720) (hk : k ≤ 100) : sumW (nI e).toInt64 (nI p).toInt64 (nI k).toInt64 = lN (1000003 * e + 1009 * p + k) := by
  unfold sumW
  rw [nI_l (by omega), nI_l (by omega), nI_l (by omega), show (1000003 : Int64) = lN 1000003 from rfl, show (1009 : Int64) = lN 1009 from rfl, lN_mul, lN_mul, lN_add, lN_add]
theorem sumW_m1 {e p k : Nat} (he : e ≤ 1000) (hp : p < 720) (hk : k ≤ 100) : (-1 : Int64) ≠ sumW (nI e).toInt64 (nI p).toInt64 (nI k).toInt64 := fun h => by
  rw [sumW_lN he hp hk] at h
  have h1 := congrArg Int64.toInt h
  rw [lN_toInt (by omega)] at h1
  have h2 : (-1 : Int64).toInt = -1 := by decide
  omega
theorem sumW_ne {e p k e' p' k' : Nat} (he : e ≤ 1000) (hp : p < 720) (hk : k ≤ 100) (he' : e' ≤ 1000) (hp' : p' < 720) (hk' : k' ≤ 100) (hlt : e < e') : sumW (nI e).toInt64 (nI p).toInt64 (nI k).toInt64 ≠ sumW (nI e').toInt64 (nI p').toInt64 (nI k').toInt64 := fun h => by
  rw [sumW_lN he hp hk, sumW_lN he' hp' hk'] at h
  have h1 := (lN_eq (by omega) (by omega)).mp h
  omega
theorem wrS_in {sw : Nat → Int64} {t : Nat} {x : RS3} {n j : Nat} (hj : j < n) : wrS sw t x n (4 * t + j) = wdB x j := by
  unfold wrS
  rw [if_pos (by omega), Nat.add_sub_cancel_left]
theorem wrS_out {sw : Nat → Int64} {t : Nat} {x : RS3} {n j : Nat} (hj : n ≤ j) : wrS sw t x n (4 * t + j) = sw (4 * t + j) := by
  unfold wrS
  rw [if_neg (by omega)]
theorem wrS_oth {sw : Nat → Int64} {t u : Nat} {x : RS3} {n j : Nat} (ht : t < 2) (hn : n ≤ 4) (hj : j < 4) (hu : u ≠ t) : wrS sw t x n (4 * u + j) = sw (4 * u + j) := by
  unfold wrS
  rw [if_neg (by omega)]
theorem wrS_oth0 {sw : Nat → Int64} {t u : Nat} {x : RS3} {n : Nat} (hn : n ≤ 4) (hu : u ≠ t) : wrS sw t x n (4 * u) = sw (4 * u) := by
  unfold wrS
  rw [if_neg (by omega)]
theorem SLR_at {sw : Nat → Int64} {so : Nat → Option RS3} (h : SLR sw so) {t : Nat} (ht : t < 2) {x : RS3} (hx : so t = some x) : whl sw t ∧ sw (4 * t) = (nI x.1).toInt64 ∧ sw (4 * t + 1) = (nI x.2.1).toInt64 ∧ sw (4 * t + 2) = (nI x.2.2).toInt64 := by
  have g := h t ht
  rw [hx] at g
  exact g
theorem SLR_no {sw : Nat → Int64} {so : Nat → Option RS3} (h : SLR sw so) {t : Nat} (ht : t < 2) (hx : so t = none) : ¬ whl sw t := by
  have g := h t ht
  rw [hx] at g
  exact g
theorem SLR_wh {sw : Nat → Int64} {so : Nat → Option RS3} (h : SLR sw so) {t : Nat} (ht : t < 2) (hw : whl sw t) : ∃ x, so t = some x := by
  cases hx : so t with
  | none => exact absurd hw (SLR_no h ht hx)
  | some x => exact ⟨x, rfl⟩
section SLS
variable {N : Nat} {c y : RS3} {so : Nat → Option RS3} {s : Nat} {sw : Nat → Int64}
/-- all four words written -/
theorem sl_full (h : slI N c so s sw) (hs : s < 2) (hN : N ≤ 600) (hy1 : y.1 = c.1 + 1) (hy7 : y.2.1 < 720) (hyk : y.2.2 ≤ 100) : slI (N + 1) y (setR so (1 - s) (some y)) (1 - s) (wrS sw (1 - s) y 4) := by
  obtain ⟨h1, h2, h3, h4, h5, h6, h7⟩ := h
  have hss : s ≠ 1 - s := by omega
  have e0 : wrS sw (1 - s) y 4 (4 * (1 - s)) = (nI y.1).toInt64 := wrS_in (j := 0) (by decide)
  have e1 : wrS sw (1 - s) y 4 (4 * (1 - s) + 1) = (nI y.2.1).toInt64 := wrS_in (j := 1) (by decide)
  have e2 : wrS sw (1 - s) y 4 (4 * (1 - s) + 2) = (nI y.2.2).toInt64 := wrS_in (j := 2) (by decide)
  have e3 : wrS sw (1 - s) y 4 (4 * (1 - s) + 3) = sumW (nI y.1).toInt64 (nI y.2.1).toInt64 (nI y.2.2).toInt64 := wrS_in (j := 3) (by decide)
  have t2 : ∀ t, t < 2 → t = s ∨ t = 1 - s := fun t ht => by omega
  have eo : ∀ j, j < 4 → wrS sw (1 - s) y 4 (4 * s + j) = sw (4 * s + j) := fun j hj => wrS_oth (by omega) (by decide) hj hss
  have eo0 : wrS sw (1 - s) y 4 (4 * s) = sw (4 * s) := wrS_oth0 (by decide) hss
  have eo1 := eo 1 (by decide)
  have eo2 := eo 2 (by decide)
  have eo3 := eo 3 (by decide)
  have sN : setR so (1 - s) (some y) (1 - s) = some y := if_pos rfl
  have sO : setR so (1 - s) (some y) s = so s := if_neg hss
  refine ⟨fun t ht => ?_, Or.inl sN, ?_, fun t x ht hx => ?_, fun t ht => ?_, fun t ht => ?_, by omega⟩
  · rcases t2 t ht with rfl | rfl
    · rw [sO]
      have g := h1 t ht
      cases hx : so t with
      | none =>
        rw [hx] at g
        intro hw
        unfold whl at hw
        rw [eo0, eo1, eo2, eo3] at hw
        exact g hw
      | some x =>
        rw [hx] at g
        refine ⟨?_, by rw [eo0]; exact g.2.1, by rw [eo1]; exact g.2.2.1, by rw [eo2]; exact g.2.2.2⟩
        show _ = _
        rw [eo0, eo1, eo2, eo3]
        exact g.1
    · rw [sN]
      refine ⟨?_, e0, e1, e2⟩
      show _ = _
      rw [e0, e1, e2, e3]
  · have : 1 - s = 0 ∨ 1 - s = 1 := by omega
    rcases this with h | h
    · rw [h] at sN ⊢
      exact Or.inl ⟨y, sN⟩
    · rw [h] at sN ⊢
      exact Or.inr ⟨y, sN⟩
  · rcases t2 t ht with rfl | rfl
    · rw [sO] at hx
      have := h4 t x ht hx
      omega
    · rw [sN] at hx
      cases hx
      exact Nat.le_refl _
  · rcases t2 t ht with rfl | rfl
    · obtain ⟨e, p, k, b1, b2, b3, b4, b5, b6⟩ := h5 t ht
      exact ⟨e, p, k, by omega, b2, b3, by rw [eo0]; exact b4, by rw [eo1]; exact b5, by rw [eo2]; exact b6⟩
    · exact ⟨y.1, y.2.1, y.2.2, by omega, hy7, hyk, e0, e1, e2⟩
  · rcases t2 t ht with rfl | rfl
    · rcases h6 t ht with h | ⟨e, p, k, b1, b2, b3, b4⟩
      · exact Or.inl (by rw [eo3]; exact h)
      · exact Or.inr ⟨e, p, k, by omega, b2, b3, by rw [eo3]; exact b4⟩
    · exact Or.inr ⟨y.1, y.2.1, y.2.2, Nat.le_refl _, hy7, hyk, e3⟩
/-- what a crash needs of the slots -/
def slJ (M : Nat) (sw : Nat → Int64) (so : Nat → Option RS3) : Prop := SLR sw so ∧ ((∃ x, so 0 = some x) ∨ ∃ x, so 1 = some x) ∧ (∀ t, t < 2 → wdI M sw t) ∧ (∀ t x, t < 2 → so t = some x → x.1 ≤ M) ∧ ∀ s' x, s' < 2 → lat so s' → so s' = some x → ∀ t, t < 2 → smI x.1 sw t
theorem lat_le {so : Nat → Option RS3} {s' : Nat} {x : RS3} (h : lat so s') (hx : so s' = some x) : ∀ t y, t < 2 → so t = some y → y.1 ≤ x.1 := fun t y ht hy => by
  have t2 : t = 0 ∨ t = 1 := by omega
  rcases h with ⟨h0, rfl⟩ | ⟨x0, h0, ⟨x1, h1, hlt, rfl⟩ | ⟨h1 | ⟨x1, h1, hle⟩, rfl⟩⟩
  · rcases t2 with rfl | rfl
    · rw [h0] at hy; cases hy
    · rw [hx] at hy; cases hy; exact Nat.le_refl _
  · rw [h1] at hx
    cases hx
    rcases t2 with rfl | rfl
    · rw [h0] at hy; cases hy; omega
    · rw [h1] at hy; cases hy; exact Nat.le_refl _
  · rw [h0] at hx
    cases hx
    rcases t2 with rfl | rfl
    · rw [h0] at hy; cases hy; exact Nat.le_refl _
    · rw [h1] at hy; cases hy
  · rw [h0] at hx
    cases hx
    rcases t2 with rfl | rfl
    · rw [h0] at hy; cases hy; exact Nat.le_refl _
    · rw [h1] at hy; cases hy; exact hle
theorem lat_some {so : Nat → Option RS3} {s' : Nat} (h : lat so s') (hw : (∃ x, so 0 = some x) ∨ ∃ x, so 1 = some x) : ∃ x, so s' = some x := by
  rcases h with ⟨h0, rfl⟩ | ⟨x0, h0, ⟨x1, h1, hlt, rfl⟩ | ⟨h1 | ⟨x1, h1, hle⟩, rfl⟩⟩
  · rcases hw with ⟨x, hx⟩ | h
    · rw [h0] at hx; cases hx
    · exact h
  · exact ⟨x1, h1⟩
  · exact ⟨x0, h0⟩
  · exact ⟨x0, h0⟩
theorem sl_J (h : slI N c so s sw) (hs : s < 2) (h7 : ∀ t x, t < 2 → so t = some x → x.2.1 < 720 ∧ x.2.2 ≤ 100) : slJ N sw so := by
  obtain ⟨h1, h2, h3, h4, h5, h6, h8⟩ := h
  refine ⟨h1, h3, h5, fun t x ht hx => Nat.le_trans (h4 t x ht hx) h8, fun s' x hs' hl hx t ht => ?_⟩
  by_cases hts : t = s'
  · subst hts
    obtain ⟨g0, g1, g2, g3⟩ := SLR_at h1 ht hx
    obtain ⟨p7, k1⟩ := h7 t x ht hx
    unfold whl at g0
    rw [g1, g2, g3] at g0
    exact Or.inr ⟨x.1, x.2.1, x.2.2, Nat.le_refl _, p7, k1, g0⟩
  · rcases h2 with hc | ⟨hn, hm⟩
    · have hcx := lat_le hl hx s c hs hc
      rcases h6 t ht with h | ⟨e, p, k, b1, b2, b3, b4⟩
      · exact Or.inl h
      · exact Or.inr ⟨e, p, k, by omega, b2, b3, b4⟩
    · have hss : s' ≠ s := fun h => by
        rw [h, hn] at hx
        cases hx
      have : t = s := by omega
      rw [this]
      exact Or.inl hm
theorem sl_J' {M : Nat} (h : slJ M sw so) {s' : Nat} {x : RS3} (hs : s' < 2) (hl : lat so s') (hx : so s' = some x) : slI M x so s' sw := by
  obtain ⟨h1, h2, h3, h4, h5⟩ := h
  exact ⟨h1, Or.inl hx, h2, fun t y ht hy => lat_le hl hx t y ht hy, h3, h5 s' x hs hl hx, h4 s' x hs hx⟩
/-- the first words alone written: the slot is torn -/
theorem sl_part (h : slI N c so s sw) (hs : s < 2) (hN : N ≤ 600) {n : Nat} (hn : 0 < n ∧ n < 4) (hw : whl sw s) (hy1 : y.1 = c.1 + 1) (hy7 : y.2.1 < 720) (hyk : y.2.2 ≤ 100) (h7 : ∀ t x, t < 2 → so t = some x → x.2.1 < 720 ∧ x.2.2 ≤ 100) : slJ (N + 1) (wrS sw (1 - s) y n) (setR so (1 - s) none) := by
  obtain ⟨h1, h2, h3, h4, h5, h6, h8⟩ := h
  have hss : s ≠ 1 - s := by omega
  have t2 : ∀ t, t < 2 → t = s ∨ t = 1 - s := fun t ht => by omega
  have eo : ∀ j, j < 4 → wrS sw (1 - s) y n (4 * s + j) = sw (4 * s + j) := fun j hj => wrS_oth (by omega) (by omega) hj hss
  have eo0 : wrS sw (1 - s) y n (4 * s) = sw (4 * s) := wrS_oth0 (by omega) hss
  have eo1 := eo 1 (by decide)
  have eo2 := eo 2 (by decide)
  have eo3 := eo 3 (by decide)
  have sN : setR so (1 - s) none (1 - s) = none := if_pos rfl
  have sO : setR so (1 - s) none s = so s := if_neg hss
  have hc : so s = some c := by
    rcases h2 with h | ⟨h, -⟩
    · exact h
    · exact absurd hw (SLR_no h1 hs h)
  have e0 : wrS sw (1 - s) y n (4 * (1 - s)) = (nI y.1).toInt64 := wrS_in (j := 0) hn.1
  have e3 : wrS sw (1 - s) y n (4 * (1 - s) + 3) = sw (4 * (1 - s) + 3) := wrS_out (by omega)
  obtain ⟨oe, op, ok, b1, b2, b3, b4, b5, b6⟩ := h5 (1 - s) (by omega)
  have e1 : ∃ p, p < 720 ∧ wrS sw (1 - s) y n (4 * (1 - s) + 1) = (nI p).toInt64 := by
    by_cases h : 1 < n
    · exact ⟨y.2.1, hy7, wrS_in (j := 1) h⟩
    · exact ⟨op, b2, by rw [wrS_out (by omega)]; exact b5⟩
  have e2 : ∃ k, k ≤ 100 ∧ wrS sw (1 - s) y n (4 * (1 - s) + 2) = (nI k).toInt64 := by
    by_cases h : 2 < n
    · exact ⟨y.2.2, hyk, wrS_in (j := 2) h⟩
    · exact ⟨ok, b3, by rw [wrS_out (by omega)]; exact b6⟩
  obtain ⟨p, hp, e1⟩ := e1
  obtain ⟨k, hk, e2⟩ := e2
  have hnw : ¬ whl (wrS sw (1 - s) y n) (1 - s) := fun hwh => by
    unfold whl at hwh
    rw [e0, e1, e2, e3] at hwh
    rcases h6 (1 - s) (by omega) with h | ⟨e', p', k', c1, c2, c3, c4⟩
    · rw [h] at hwh
      exact sumW_m1 (by omega) hp hk hwh
    · rw [c4] at hwh
      exact sumW_ne (by omega) c2 c3 (by omega) hp hk (by omega) hwh
  refine ⟨fun t ht => ?_, ?_, fun t ht => ?_, fun t x ht hx => ?_, fun s' x hs' hl hx t ht => ?_⟩
  · rcases t2 t ht with rfl | rfl
    · rw [sO]
      have g := h1 t ht
      rw [hc] at g ⊢
      refine ⟨?_, by rw [eo0]; exact g.2.1, by rw [eo1]; exact g.2.2.1, by rw [eo2]; exact g.2.2.2⟩
      show _ = _
      rw [eo0, eo1, eo2, eo3]
      exact g.1
    · rw [sN]
      exact hnw
  · have : s = 0 ∨ s = 1 := by omega
    rcases this with h | h
    · rw [h] at sO hc ⊢
      exact Or.inl ⟨c, sO.trans hc⟩
    · rw [h] at sO hc ⊢
      exact Or.inr ⟨c, sO.trans hc⟩
  · rcases t2 t ht with rfl | rfl
    · obtain ⟨e', p', k', c1, c2, c3, c4, c5, c6⟩ := h5 t ht
      exact ⟨e', p', k', by omega, c2, c3, by rw [eo0]; exact c4, by rw [eo1]; exact c5, by rw [eo2]; exact c6⟩
    · exact ⟨y.1, p, k, by omega, hp, hk, e0, e1, e2⟩
  · rcases t2 t ht with rfl | rfl
    · rw [sO] at hx
      have := h4 t x ht hx
      omega
    · rw [sN] at hx
      cases hx
  · have hs's : s' = s := by
      rcases t2 s' hs' with h | h
      · exact h
      · rw [h, sN] at hx
        cases hx
    rw [hs's, sO, hc] at hx
    cases hx
    rcases t2 t ht with rfl | rfl
    · rcases h6 t ht with h | ⟨e', p', k', c1, c2, c3, c4⟩
      · exact Or.inl (by rw [eo3]; exact h)
      · exact Or.inr ⟨e', p', k', c1, c2, c3, by rw [eo3]; exact c4⟩
    · rcases h6 (1 - s) ht with h | ⟨e', p', k', c1, c2, c3, c4⟩
      · exact Or.inl (by rw [e3]; exact h)
      · exact Or.inr ⟨e', p', k', c1, c2, c3, by rw [e3]; exact c4⟩
/-- a slot spoilt -/
theorem sl_tear (h : slI N c so s sw) (hN : N ≤ 600) {t : Nat} (ht : t < 2) (hw : whl sw (1 - t)) : slI N c (setR so t none) s (vp_updL sw (4 * t + 3) (-1)) := by
  obtain ⟨h1, h2, h3, h4, h5, h6, h8⟩ := h
  have en : ∀ j, j ≠ 4 * t + 3 → vp_updL sw (4 * t + 3) (-1) j = sw j := fun j hj => pk_uLn hj
  have es : vp_updL sw (4 * t + 3) (-1) (4 * t + 3) = -1 := pk_uLs
  have sN : setR so t none t = none := if_pos rfl
  have sO : ∀ u, u ≠ t → setR so t none u = so u := fun u hu => if_neg hu
  obtain ⟨z, hz⟩ := SLR_wh h1 (t := 1 - t) (by omega) hw
  refine ⟨fun u hu => ?_, ?_, ?_, fun u x hu hx => ?_, fun u hu => ?_, fun u hu => ?_, h8⟩
  · by_cases hut : u = t
    · subst hut
      rw [sN]
      intro hwh
      unfold whl at hwh
      obtain ⟨e, p, k, b1, b2, b3, b4, b5, b6⟩ := h5 u hu
      rw [es, en _ (by omega), en _ (by omega), en _ (by omega), b4, b5, b6] at hwh
      exact sumW_m1 (by omega) b2 b3 hwh
    · rw [sO u hut]
      have g := h1 u hu
      cases hx : so u with
      | none =>
        rw [hx] at g
        intro hwh
        unfold whl at hwh
        rw [en _ (by omega), en _ (by omega), en _ (by omega), en _ (by omega)] at hwh
        exact g hwh
      | some x =>
        rw [hx] at g
        refine ⟨?_, by rw [en _ (by omega)]; exact g.2.1, by rw [en _ (by omega)]; exact g.2.2.1, by rw [en _ (by omega)]; exact g.2.2.2⟩
        show _ = _
        rw [en _ (by omega), en _ (by omega), en _ (by omega), en _ (by omega)]
        exact g.1
  · by_cases hst : s = t
    · subst hst
      exact Or.inr ⟨sN, es⟩
    · rw [sO s hst]
      rcases h2 with h | ⟨h, h'⟩
      · exact Or.inl h
      · exact Or.inr ⟨h, by rw [en _ (by omega)]; exact h'⟩
  · have : 1 - t = 0 ∨ 1 - t = 1 := by omega
    have h9 := sO (1 - t) (by omega)
    rcases this with h | h
    · rw [h] at h9 hz
      exact Or.inl ⟨z, h9.trans hz⟩
    · rw [h] at h9 hz
      exact Or.inr ⟨z, h9.trans hz⟩
  · by_cases hut : u = t
    · subst hut
      rw [sN] at hx
      cases hx
    · rw [sO u hut] at hx
      exact h4 u x hu hx
  · obtain ⟨e, p, k, b1, b2, b3, b4, b5, b6⟩ := h5 u hu
    exact ⟨e, p, k, b1, b2, b3, by rw [en _ (by omega)]; exact b4, by rw [en _ (by omega)]; exact b5, by rw [en _ (by omega)]; exact b6⟩
  · by_cases hut : u = t
    · subst hut
      exact Or.inl es
    · rcases h6 u hu with h | ⟨e, p, k, b1, b2, b3, b4⟩
      · exact Or.inl (by rw [en _ (by omega)]; exact h)
      · exact Or.inr ⟨e, p, k, b1, b2, b3, by rw [en _ (by omega)]; exact b4⟩
end SLS
