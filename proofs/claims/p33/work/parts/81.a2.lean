/-! what is asked of the invariant; out of whole's parts 81 to 85 -/
theorem ksb_wsm {T : Nat → Nd} {U : Nat → Prop} {d p : Nat} (h : rt T U d p) (hs : Srt (kyl T d p)) (h1 : k100 (kyl T d p)) (a : Int32) : ksb T (bfs T d [p]) a = wsm T (lfW T a) d p := by
  rw [ksb_sum T a (bfs T d [p]) (fun q hq l hl => ?_), bfs_sum1]
  have hR := (okR_mem h q).mp hq
  obtain ⟨A, B, e⟩ := leaf_srt (sb_dpt (rt_sb h).1) ((in_Rch (sb_dpt (rt_sb h).1) q).mpr hR) hl
  rw [e] at hs h1
  exact plc_cnL (srt_leaf hs) (k100_leaf h1)
theorem key_rng (k : Int32) : (k < 0 ∨ (100 : Int32) ≤ k) ∨ ∃ n, n < 100 ∧ k = nI n := by
  by_cases h0 : k < 0
  · exact Or.inl (Or.inl h0)
  · by_cases h1 : (100 : Int32) ≤ k
    · exact Or.inl (Or.inr h1)
    · obtain ⟨n, hn, rfl⟩ := nI_of h0
      refine Or.inr ⟨n, ?_, rfl⟩
      have h2 := Int32.not_le.mp h1
      exact (nI_ltI hn (b := 100) (by decide)).mp h2
theorem key_out {k : Int32} (h : k < 0 ∨ (100 : Int32) ≤ k) : k < 0 ∨ (99 : Int32) < k := h.imp id (i_hi (n := 99) rfl (by decide))
theorem nI_subN (a b : Nat) : nI (a + b) - nI a = nI b := by
  have h : nI (a + b) = nI b + nI a := by rw [nI_add, Nat.add_comm]
  rw [h, Int32.add_sub_cancel]
theorem cntR_split {S A B : Nat → Prop} : ∀ {n a b : Nat}, cntR A n a → cntR B n b → (∀ q, q < n → (S q ↔ A q ∨ B q)) → (∀ q, q < n → ¬ (A q ∧ B q)) → cntR S n (a + b)
  | 0, a, b, h1, h2, _, _ => by
    have e1 : a = 0 := h1
    have e2 : b = 0 := h2
    subst e1
    subst e2
    rfl
  | n + 1, a, b, h1, h2, hs, hd => by
    have hs' : ∀ q, q < n → (S q ↔ A q ∨ B q) := fun q hq => hs q (by omega)
    have hd' : ∀ q, q < n → ¬ (A q ∧ B q) := fun q hq => hd q (by omega)
    rcases h1 with ⟨ha, j, h1, rfl⟩ | ⟨ha, h1⟩
    · rcases h2 with ⟨hb, -⟩ | ⟨hb, h2⟩
      · exact absurd ⟨ha, hb⟩ (hd n (Nat.lt_succ_self n))
      · exact Or.inl ⟨(hs n (Nat.lt_succ_self n)).mpr (Or.inl ha), j + b, cntR_split h1 h2 hs' hd', by omega⟩
    · rcases h2 with ⟨hb, j, h2, rfl⟩ | ⟨hb, h2⟩
      · exact Or.inl ⟨(hs n (Nat.lt_succ_self n)).mpr (Or.inr hb), a + j, cntR_split h1 h2 hs' hd', by omega⟩
      · exact Or.inr ⟨fun h => ((hs n (Nat.lt_succ_self n)).mp h).elim ha hb, cntR_split h1 h2 hs' hd'⟩
theorem slot_rng (i : Int32) : (i < 0 ∨ (2 : Int32) ≤ i) ∨ ∃ n, n < 2 ∧ i = nI n := by
  by_cases h0 : i < 0
  · exact Or.inl (Or.inl h0)
  · by_cases h1 : (2 : Int32) ≤ i
    · exact Or.inl (Or.inr h1)
    · obtain ⟨n, hn, rfl⟩ := nI_of h0
      exact Or.inr ⟨n, (nI_ltI hn (b := 2) (by decide)).mp (Int32.not_le.mp h1), rfl⟩
theorem four_rng (i : Int32) : (i < 0 ∨ (4 : Int32) ≤ i) ∨ ∃ n, n < 4 ∧ i = nI n := by
  by_cases h0 : i < 0
  · exact Or.inl (Or.inl h0)
  · by_cases h1 : (4 : Int32) ≤ i
    · exact Or.inl (Or.inr h1)
    · obtain ⟨n, hn, rfl⟩ := nI_of h0
      exact Or.inr ⟨n, (nI_ltI hn (b := 4) (by decide)).mp (Int32.not_le.mp h1), rfl⟩
section AIP
variable {N : Nat} {K W : Nat → Prop} {T : Nat → Nd} {c : RS3} {b : Option RS3} {so rd : Nat → Option RS3} {s : Nat} {sw : Nat → Int64}
theorem ai_page (h : AI N K W T c b so rd s sw) {q : Nat} (hq : K q ∨ W q) : ∃ d, d ≤ 5 ∧ rt T (fun q => K q ∨ W q) d q := by
  have fin : ∀ (x : RS3), (∃ d, rt T (fun q => K q ∨ W q) d x.2.1 ∧ d ≤ 5) → Rch T x.2.1 q → ∃ d, d ≤ 5 ∧ rt T (fun q => K q ∨ W q) d q := fun x ⟨d, h1, h2⟩ hr => by
    obtain ⟨-, d', h3, h4⟩ := bfs_U d [x.2.1] (fun p hp => by rw [List.mem_singleton.mp hp]; exact h1) q ((okR_mem h1 q).mpr hr)
    exact ⟨d', by omega, h4⟩
  obtain ⟨hK, ⟨o1, o2, o3⟩, h7, hb, hs, hsl⟩ := h
  have st : ∀ y : RS3, oR T K y → ∃ d, rt T (fun q => K q ∨ W q) d y.2.1 ∧ d ≤ 5 := fun y hy => by
    obtain ⟨d, a1, a2, -⟩ := oR_use (U := fun q => K q ∨ W q) hy (fun q hq => Or.inl hq)
    exact ⟨d, a1, a2⟩
  rcases hq with hq | hq
  · obtain ⟨r, hr, hR⟩ := (hK q).mp hq
    rcases mem_rts.mp hr with rfl | ⟨t, x, ht, hx, rfl⟩ | ⟨j, x, hj, hx, rfl⟩
    · exact fin c (st c o1) hR
    · exact fin x (st x (o2 t x ht hx)) hR
    · exact fin x (st x (o3 j x hj hx)) hR
  · cases hb0 : b with
    | none => exact absurd hq (hb.1 hb0 q)
    | some x =>
      obtain ⟨⟨d, g, a3, a4, a5⟩, -⟩ := hb.2 x hb0
      exact fin x ⟨d, g.1, rt_d5 g.1 (Srt_100 a3 a4)⟩ ((in_Rch (sb_dpt (rt_sb g.1).1) q).mp (g.2.2.1 q hq))
theorem en_cases (T : Nat → Nd) (q : Nat) (a : Int32) (h5 : nlen (T q) ≤ 5) : (a < 0 ∨ nI (nlen (T q)) ≤ a) ∨ ∃ e, e < nlen (T q) ∧ a = nI e := by
  by_cases h0 : a < 0
  · exact Or.inl (Or.inl h0)
  · by_cases h1 : nI (nlen (T q)) ≤ a
    · exact Or.inl (Or.inr h1)
    · obtain ⟨n, hn, rfl⟩ := nI_of h0
      exact Or.inr ⟨n, (nI_ltI hn (by omega)).mp (Int32.not_le.mp h1), rfl⟩
theorem ai_key (h : AI N K W T c b so rd s sw) {q e : Nat} (hq : K q ∨ W q) (he : e < nlen (T q)) : ∃ k, kyR T (fun q => K q ∨ W q) q e k := by
  obtain ⟨d, hd, hr⟩ := ai_page h hq
  cases d with
  | zero =>
    obtain ⟨-, l, hl, -⟩ := hr
    rw [hl] at he
    exact ⟨_, Or.inl ⟨l, _, hl, List.getElem?_eq_getElem he, rfl⟩⟩
  | succ d =>
    obtain ⟨-, l, hl, -, -, hk⟩ := hr
    rw [hl] at he
    exact ⟨_, Or.inr ⟨l, _, d, hl, List.getElem?_eq_getElem he, hk _ (List.getElem_mem he), by omega, rfl⟩⟩
theorem ai_cnt (h : AI N K W T c b so rd s sw) {n : Nat} (hn : cntR (fun q => K q ∨ W q) 800 n) : cntR (mUse T c b so rd) 720 n := cntR_cg (fun q _ => (ai_use h q).symm) (cntR_dn (m := 80) (fun q h7 hu => by have := h.2.2.1 q hu; omega) hn)
end AIP
theorem rd_cases (rd : Nat → Option RS3) (i : Int32) : (∃ j x, j < 4 ∧ i = nI j ∧ rd j = some x) ∨ ∀ j, j < 4 → i = nI j → rd j = none := by
  by_cases h : ∃ j x, j < 4 ∧ i = nI j ∧ rd j = some x
  · exact Or.inl h
  · refine Or.inr (fun j hj hi => ?_)
    cases hx : rd j with
    | none => rfl
    | some x => exact absurd ⟨j, x, hj, hi, hx⟩ h
theorem GT_K {K K' O O' W : Nat → Prop} {T : Nat → Nd} {d r : Nat} (h : GT K O W T d r) (h1 : ∀ q, K q → O q → K' q ∧ O' q) (h2 : ∀ q, K' q → K q) : GT K' O' W T d r := by
  obtain ⟨a1, a2, a3, a4, a5⟩ := h
  have h4 : ∀ q, inP T d r q → W q ∨ (K' q ∧ O' q) := fun q hq => (a4 q hq).imp id (fun h => h1 q h.1 h.2)
  exact ⟨rt_fr a1 (fun q hq => ⟨(h4 q hq).elim Or.inr (fun h => Or.inl h.1), rfl⟩), a2, a3, h4, fun q hq => a5 q (h2 q hq)⟩
theorem bG_oR {K W : Nat → Prop} {T : Nat → Nd} {c x : RS3} (h : bG K W T c x) : oR T (fun q => K q ∨ W q) x := by
  obtain ⟨⟨d, g, a1, a2, a3⟩, -⟩ := h
  exact ⟨d, g.1, g.2.1, a1, a2, a3⟩
theorem oR_ok {U : Nat → Prop} {T : Nat → Nd} {x : RS3} (h : oR T U x) : okR T U x.2.1 := by
  obtain ⟨d, a1, a2, a3, a4, a5, a6, a7, -⟩ := oR_use h (fun q hq => hq)
  exact ⟨d, by omega, a1, by omega⟩
theorem oR_Rch {U : Nat → Prop} {T : Nat → Nd} {x : RS3} (h : oR T U x) {q : Nat} (hq : Rch T x.2.1 q) : U q := by
  obtain ⟨d, h1, -⟩ := h
  exact sb_in (rt_sb h1).1 ((in_Rch (sb_dpt (rt_sb h1).1) q).mpr hq)
section Q3
variable {N : Nat}
theorem ai_batch {K W W' : Nat → Prop} {T T' : Nat → Nd} {c x : RS3} {so rd : Nat → Option RS3} {s : Nat} {sw : Nat → Int64} {d' r' k' : Nat} (hA : AI N K W T c (some x) so rd s sw) (hT : ∀ q, K q → T' q = T q) (h7 : ∀ q, K q ∨ W' q → q < 720) (hg : GT K (fun q => Rch T c.2.1 q) W' T' d' r') (h1 : Srt (kyl T' d' r')) (h2 : k100 (kyl T' d' r')) (h3 : k' = (kyl T' d' r').length) : AI N K W' T' c (some (x.1, r', k')) so rd s sw := by
  obtain ⟨hK, ⟨o1, o2, o3⟩, -, hb, hs, hsl⟩ := hA
  have mv : ∀ y : RS3, oR T K y → oR T' K y := fun y hy => oR_mono hy (fun q hq => ⟨oR_Rch hy hq, hT q (oR_Rch hy hq)⟩)
  refine ⟨fun q => K_frame hK hT q, ⟨mv c o1, fun t y ht hy => mv y (o2 t y ht hy), fun j y hj hy => mv y (o3 j y hj hy)⟩, h7, ⟨(fun h => by cases h), fun y hy => ?_⟩, hs, hsl⟩
  cases hy
  exact ⟨⟨d', GT_K hg (fun q hk ho => ⟨hk, (Rch_fr (fun q hq => hT q (oR_Rch o1 hq)) q).mpr ho⟩) (fun q hq => hq), h1, h2, h3⟩, (hb.2 x rfl).2⟩
end Q3
theorem nI_if (k : Nat) (nw : Bool) : (if nw then nI k + 1 else nI k) = nI (k + if nw then 1 else 0) := by
  cases nw with
  | true => exact nI_a1 k
  | false => rfl
