/-! what becomes of the invariant; out of whole's part 85 -/
theorem rs_U {U : Nat → Prop} {T : Nat → Nd} {c : RS3} {so rd : Nat → Option RS3} (o1 : oR T U c) (o2 : ∀ t x, t < 2 → so t = some x → oR T U x) (o3 : ∀ j x, j < 4 → rd j = some x → oR T U x) : ∀ q, RS T (rts c so rd) q → U q := fun q ⟨r, hr, hR⟩ => by
  rcases mem_rts.mp hr with rfl | ⟨t, x, ht, hx, rfl⟩ | ⟨j, x, hj, hx, rfl⟩
  · exact oR_Rch o1 hR
  · exact oR_Rch (o2 t x ht hx) hR
  · exact oR_Rch (o3 j x hj hx) hR
theorem rs_ok {U : Nat → Prop} {T : Nat → Nd} {c : RS3} {so rd : Nat → Option RS3} (o1 : oR T U c) (o2 : ∀ t x, t < 2 → so t = some x → oR T U x) (o3 : ∀ j x, j < 4 → rd j = some x → oR T U x) : ∀ r ∈ rts c so rd, okR T U r := fun r hr => by
  rcases mem_rts.mp hr with rfl | ⟨t, x, ht, hx, rfl⟩ | ⟨j, x, hj, hx, rfl⟩
  · exact oR_ok o1
  · exact oR_ok (o2 t x ht hx)
  · exact oR_ok (o3 j x hj hx)
theorem rs_oR {U : Nat → Prop} {T : Nat → Nd} {c : RS3} {so rd : Nat → Option RS3} (o1 : oR T U c) (o2 : ∀ t x, t < 2 → so t = some x → oR T U x) (o3 : ∀ j x, j < 4 → rd j = some x → oR T U x) : oR T (RS T (rts c so rd)) c ∧ (∀ t x, t < 2 → so t = some x → oR T (RS T (rts c so rd)) x) ∧ ∀ j x, j < 4 → rd j = some x → oR T (RS T (rts c so rd)) x :=
  ⟨oR_mono o1 (fun q hq => ⟨⟨c.2.1, mem_rts.mpr (Or.inl rfl), hq⟩, rfl⟩), fun t x ht hx => oR_mono (o2 t x ht hx) (fun q hq => ⟨⟨x.2.1, mem_rts.mpr (Or.inr (Or.inl ⟨t, x, ht, hx, rfl⟩)), hq⟩, rfl⟩), fun j x hj hx => oR_mono (o3 j x hj hx) (fun q hq => ⟨⟨x.2.1, mem_rts.mpr (Or.inr (Or.inr ⟨j, x, hj, hx, rfl⟩)), hq⟩, rfl⟩)⟩
theorem ai_fresh {M : Nat} {U : Nat → Prop} {T : Nat → Nd} {c : RS3} {so rd : Nat → Option RS3} {s : Nat} {sw : Nat → Int64} (o1 : oR T U c) (o2 : ∀ t x, t < 2 → so t = some x → oR T U x) (o3 : ∀ j x, j < 4 → rd j = some x → oR T U x) (h7 : ∀ q, U q → q < 720) (hs : s < 2) (hsl : slI M c so s sw) : AI M (RS T (rts c so rd)) (fun _ => False) T c none so rd s sw :=
  ⟨fun q => Iff.rfl, rs_oR o1 o2 o3, fun q hq => h7 q (rs_U o1 o2 o3 q (hq.resolve_right id)), ⟨fun _ q h => h, fun x hx => by cases hx⟩, hs, hsl⟩
section AIU
variable {N : Nat} {K W : Nat → Prop} {T : Nat → Nd} {c : RS3} {b : Option RS3} {so rd : Nat → Option RS3} {s : Nat} {sw : Nat → Int64}
theorem ai_oU (h : AI N K W T c b so rd s sw) : oR T (fun q => K q ∨ W q) c ∧ (∀ t x, t < 2 → so t = some x → oR T (fun q => K q ∨ W q) x) ∧ ∀ j x, j < 4 → rd j = some x → oR T (fun q => K q ∨ W q) x := by
  obtain ⟨-, ⟨o1, o2, o3⟩, -⟩ := h
  have mv : ∀ y : RS3, oR T K y → oR T (fun q => K q ∨ W q) y := fun y hy => oR_mono hy (fun q hq => ⟨Or.inl (oR_Rch hy hq), rfl⟩)
  exact ⟨mv c o1, fun t x ht hx => mv x (o2 t x ht hx), fun j x hj hx => mv x (o3 j x hj hx)⟩
theorem oR_7 {U : Nat → Prop} {T : Nat → Nd} {x : RS3} (h : oR T U x) (h7 : ∀ q, U q → q < 720) : x.2.1 < 720 ∧ x.2.2 ≤ 100 := by
  obtain ⟨d, a1, a2, a3, a4, a5, a6, a7, a8⟩ := oR_use h (fun q hq => hq)
  exact ⟨h7 _ (rt_U a1), a8⟩
theorem ai_s7 (h : AI N K W T c b so rd s sw) : ∀ t x, t < 2 → so t = some x → x.2.1 < 720 ∧ x.2.2 ≤ 100 := fun t x ht hx => oR_7 ((ai_oU h).2.1 t x ht hx) h.2.2.1
theorem ai_nob (h : AI N K W T c b so rd s sw) : AI N K (fun _ => False) T c none so rd s sw := by
  obtain ⟨h1, h2, h3, h4, h5, h6⟩ := h
  exact ⟨h1, h2, fun q hq => h3 q (Or.inl (hq.resolve_right id)), ⟨fun _ q h => h, fun x hx => by cases hx⟩, h5, h6⟩
theorem ai_bt {rd' so' : Nat → Option RS3} (h : AI N K W T c b so rd s sw) (q : Nat) : mUse T c b so' rd' q ↔ RS T (rts c so' rd') q ∨ W q := by
  unfold mUse
  cases hb : b with
  | none =>
    constructor
    · rintro (h1 | h1)
      · exact Or.inl h1
      · exact absurd h1 (RS_nil q)
    · rintro (h1 | h1)
      · exact Or.inl h1
      · exact absurd h1 (h.2.2.2.1.1 hb q)
  | some x =>
    obtain ⟨⟨d, g, -⟩, -⟩ := h.2.2.2.1.2 x hb
    have hR := in_Rch (sb_dpt (rt_sb g.1).1) q
    constructor
    · rintro (h1 | ⟨r, hr, h1⟩)
      · exact Or.inl h1
      · rw [List.mem_singleton.mp hr] at h1
        rcases g.2.2.2.1 q (hR.mpr h1) with hw | ⟨-, hO⟩
        · exact Or.inr hw
        · exact Or.inl ⟨c.2.1, List.mem_cons_self, hO⟩
    · rintro (h1 | h1)
      · exact Or.inl h1
      · exact Or.inr ⟨x.2.1, List.mem_singleton.mpr rfl, hR.mp (g.2.2.1 q h1)⟩
theorem ai_less {M : Nat} {rd' so' : Nat → Option RS3} {sw' : Nat → Int64} (h : AI N K W T c b so rd s sw) (h2 : ∀ t x, t < 2 → so' t = some x → so t = some x) (h3 : ∀ j x, j < 4 → rd' j = some x → rd j = some x) (hsl : slI M c so' s sw') : AI M (RS T (rts c so' rd')) W T c b so' rd' s sw' := by
  obtain ⟨h1, ⟨o1, o2, o3⟩, h7, hb, hs, -⟩ := h
  have o2' : ∀ t x, t < 2 → so' t = some x → oR T K x := fun t x ht hx => o2 t x ht (h2 t x ht hx)
  have o3' : ∀ j x, j < 4 → rd' j = some x → oR T K x := fun j x hj hx => o3 j x hj (h3 j x hj hx)
  have hle := rs_U o1 o2' o3'
  refine ⟨fun q => Iff.rfl, rs_oR o1 o2' o3', fun q hq => h7 q (hq.imp (hle q) id), ⟨hb.1, fun x hx => ?_⟩, hs, hsl⟩
  obtain ⟨⟨d, g, a1, a2, a3⟩, hx1⟩ := hb.2 x hx
  exact ⟨⟨d, GT_K g (fun q _ ho => ⟨⟨c.2.1, mem_rts.mpr (Or.inl rfl), ho⟩, ho⟩) hle, a1, a2, a3⟩, hx1⟩
end AIU
section Q4
variable {N : Nat}
theorem ai_open {K W : Nat → Prop} {T : Nat → Nd} {c : RS3} {b : Option RS3} {so rd : Nat → Option RS3} {s : Nat} {sw : Nat → Int64} (h : AI N K W T c b so rd s sw) {j : Nat} (hn : rd j = none) : AI N K W T c b so (setR rd j (some c)) s sw := by
  obtain ⟨h1, ⟨o1, o2, o3⟩, h7, hb, hs, hsl⟩ := h
  refine ⟨fun q => (h1 q).trans ⟨?_, ?_⟩, ⟨o1, o2, fun i x hi hx => ?_⟩, h7, hb, hs, hsl⟩
  · rintro ⟨r, hr, hR⟩
    rcases mem_rts.mp hr with h | h | ⟨i, x, hi, hx, rfl⟩
    · exact ⟨r, mem_rts.mpr (Or.inl h), hR⟩
    · exact ⟨r, mem_rts.mpr (Or.inr (Or.inl h)), hR⟩
    · refine ⟨x.2.1, mem_rts.mpr (Or.inr (Or.inr ⟨i, x, hi, ?_, rfl⟩)), hR⟩
      unfold setR
      rw [if_neg (fun h => by rw [h, hn] at hx; cases hx)]
      exact hx
  · rintro ⟨r, hr, hR⟩
    rcases mem_rts.mp hr with h | h | ⟨i, x, hi, hx, rfl⟩
    · exact ⟨r, mem_rts.mpr (Or.inl h), hR⟩
    · exact ⟨r, mem_rts.mpr (Or.inr (Or.inl h)), hR⟩
    · unfold setR at hx
      by_cases hij : i = j
      · rw [if_pos hij] at hx
        cases hx
        exact ⟨c.2.1, mem_rts.mpr (Or.inl rfl), hR⟩
      · rw [if_neg hij] at hx
        exact ⟨x.2.1, mem_rts.mpr (Or.inr (Or.inr ⟨i, x, hi, hx, rfl⟩)), hR⟩
  · unfold setR at hx
    by_cases hij : i = j
    · rw [if_pos hij] at hx
      cases hx
      exact o1
    · rw [if_neg hij] at hx
      exact o3 i x hi hx
end Q4
theorem setR_no {rd : Nat → Option RS3} {j i : Nat} {x : RS3} (h : setR rd j none i = some x) : rd i = some x := by
  unfold setR at h
  by_cases hij : i = j
  · rw [if_pos hij] at h; cases h
  · rw [if_neg hij] at h; exact h
theorem five_rng (i : Int32) : (i < 0 ∨ (4 : Int32) < i) ∨ ∃ n, n ≤ 4 ∧ i = nI n := by
  by_cases h0 : i < 0
  · exact Or.inl (Or.inl h0)
  · by_cases h1 : (4 : Int32) < i
    · exact Or.inl (Or.inr h1)
    · obtain ⟨n, hn, rfl⟩ := nI_of h0
      exact Or.inr ⟨n, (nI_leI hn (b := 4) (by decide)).mp (Int32.not_lt.mp h1), rfl⟩
