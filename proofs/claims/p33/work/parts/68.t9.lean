/-! MENDING: it can be done -/
theorem wn_ex {K O W : Nat → Prop} {T : Nat → Nd} {r d : Nat} {rp : List (Nat × Nat)} {cur c : Nat} (hz : ZS K O W T r d rp cur) (hc : K c ∨ W c) (hK : cov K 600) (hb : cxW T one1 d rp + wsm T one1 d cur ≤ 115) : ∃ c' T1 W1, wnR K T W r c c' T1 W1 ∧ T1 c' = T c ∧ (∀ q, q ≠ c' → T1 q = T q) ∧ (∀ q, W1 q ↔ (q = c' ∨ W q)) ∧ ((c' = c ∧ W c) ∨ (¬ (K c' ∨ W c') ∧ ¬ W c)) := by
  by_cases hW : W c
  · exact ⟨c, T, W, ⟨hc, Or.inl ⟨hW, rfl, rfl, rfl⟩⟩, rfl, fun q _ => rfl, fun q => ⟨Or.inr, fun h => h.elim (fun h => h ▸ hW) id⟩, Or.inl ⟨rfl, hW⟩⟩
  · obtain ⟨n, hn⟩ := fr_ex hz hK hb
    exact ⟨n, upT T n (T c), addS W n, ⟨hc, Or.inr ⟨hW, hn, rfl, rfl⟩⟩, upT_s _ _ _, fun q h => upT_n h, fun q => Iff.rfl, Or.inr ⟨hn.1.2.1, hW⟩⟩
theorem adj : ∀ {l : List Nat} {i a c : Nat}, l[i]? = some a → l[i + 1]? = some c → l = l.take i ++ [a, c] ++ l.drop (i + 2) ∧ (∀ x, l.set i x = l.take i ++ [x, c] ++ l.drop (i + 2)) ∧ (∀ x, l.set (i + 1) x = l.take i ++ [a, x] ++ l.drop (i + 2)) ∧ ∀ x, (l.set i x).take (i + 1) ++ (l.set i x).drop (i + 2) = l.take i ++ [x] ++ l.drop (i + 2)
  | [], i, a, c, h, _ => by simp at h
  | [y], 0, a, c, _, h => by simp at h
  | y :: z :: l, 0, a, c, h, h2 => by
    simp at h h2
    subst h
    subst h2
    simp
  | y :: l, i + 1, a, c, h, h2 => by
    rw [List.getElem?_cons_succ] at h h2
    obtain ⟨h3, h4, h5, h6⟩ := adj h h2
    refine ⟨?_, fun x => ?_, fun x => ?_, fun x => ?_⟩
    · rw [List.take_succ_cons, show i + 1 + 2 = (i + 2) + 1 by omega, List.drop_succ_cons, List.cons_append, List.cons_append, ← h3]
    · rw [List.take_succ_cons, show i + 1 + 2 = (i + 2) + 1 by omega, List.drop_succ_cons, List.cons_append, List.cons_append, ← h4, List.set_cons_succ]
    · rw [List.take_succ_cons, show i + 1 + 2 = (i + 2) + 1 by omega, List.drop_succ_cons, List.cons_append, List.cons_append, ← h5, List.set_cons_succ]
    · rw [List.set_cons_succ, List.take_succ_cons, List.take_succ_cons, show i + 1 + 2 = (i + 2) + 1 by omega, List.drop_succ_cons, List.drop_succ_cons, List.cons_append, List.cons_append, List.cons_append, h6]
theorem zs_lend {K O W W1 : Nat → Prop} {T T' : Nat → Nd} {r d q0 e cur b b' : Nat} {rp : List (Nat × Nat)} {X M0 M Y : List Nat} (hz : ZS K O W T r d ((q0, e) :: rp) cur) (hl : T q0 = .inr (X ++ M0 ++ Y)) (he : X.length ≤ e ∧ e < X.length + M0.length) (hl' : T' q0 = .inr (X ++ M ++ Y))
    (hM0 : ∀ f, smN (wsm T f d) M0 = wsm T f d b + wsm T f d cur) (hMs : ∀ f, smN (wsm T' f d) M = wsm T' f d b' + wsm T' f d cur) (hMm : ∀ m ∈ M, m = b' ∨ m = cur) (hbb : (b' = b ∧ W b) ∨ (¬ (K b' ∨ W b') ∧ ¬ W b)) (hW1 : ∀ q, W1 q ↔ (q = b' ∨ W q)) (hT' : ∀ q, q ≠ q0 → q ≠ cur → q ≠ b' → T' q = T q)
    (hfb : fl T' (fun q => K q ∨ W1 q) d b') (hfc : fl T' (fun q => K q ∨ W1 q) d cur) (hw : ∀ f, wsm T' f d b' + wsm T' f d cur + f b = wsm T f d b + wsm T f d cur + f b') (hin : ∀ q, 1 ≤ wsm T (dl q) d b + wsm T (dl q) d cur → W q ∨ (K q ∧ O q)) :
    ZS K O W1 T' r (d + 1) rp q0 ∧ (∀ f, cxW T' f (d + 1) rp + wsm T' f (d + 1) q0 + smN (wsm T f d) M0 = cxW T f d ((q0, e) :: rp) + wsm T f d cur + smN (wsm T' f d) M) ∧ (M.flatMap (kyl T' d) = M0.flatMap (kyl T d) → cxA T' (d + 1) rp ++ kyl T' (d + 1) q0 ++ cxB T' (d + 1) rp = cxA T d ((q0, e) :: rp) ++ kyl T d cur ++ cxB T d ((q0, e) :: rp)) := by
  have hbd : ∀ q, q = b → 1 ≤ wsm T (dl q) d b := fun q h => by rw [h]; exact in_self T d b
  have hcd : ∀ q, q = cur → 1 ≤ wsm T (dl q) d cur := fun q h => by rw [h]; exact in_self T d cur
  have hb'd : 1 ≤ wsm T' (dl b') d b' := in_self T' d b'
  refine zs_reb hz hl he hl' (fun q h1 h2 h3 => ?_) (fun m hm => ?_) (fun q => ?_) (fun q hq => ?_) (fun q hq => ?_) (fun q hq h => ?_) (fun q hq _ => (hW1 q).mpr (Or.inr hq))
  · rw [hM0] at h3
    refine ⟨h2.imp id (fun h => (hW1 q).mpr (Or.inr h)), hT' q h1 (fun h => by have := hcd q h; omega) (fun h => ?_)⟩
    rcases hbb with ⟨rfl, -⟩ | ⟨hn, -⟩
    · have := hbd q h
      omega
    · exact hn (h ▸ h2)
  · rcases hMm m hm with rfl | rfl
    · exact hfb
    · exact hfc
  · rw [hM0, hMs]
    have e1 := hw (dl q)
    by_cases h : q = b'
    · rcases hbb with ⟨h9, -⟩ | ⟨hn, -⟩
      · rw [h9] at e1 ⊢
        exact Or.inl (by omega)
      · have e2 : ¬ 1 ≤ wsm T (dl q) d b + wsm T (dl q) d cur := fun h2 => hn (h ▸ (hin q h2).elim Or.inr (fun h => Or.inl h.1))
        have e3 := dl_le q b'
        exact Or.inr ⟨by rw [h]; exact hn, by omega⟩
    · have e3 : dl q b' = 0 := dl_n (Ne.symm h)
      exact Or.inl (by omega)
  · rw [hM0, hMs]
    have e1 := hw (dl q)
    by_cases h : q = b'
    · refine Or.inr ?_
      rw [h]
      omega
    · have hWq := ((hW1 q).mp hq).resolve_left h
      by_cases h2 : 1 ≤ wsm T (dl q) d b + wsm T (dl q) d cur
      · have e3 : dl q b = 0 := dl_n (fun h3 => by
          rcases hbb with ⟨h9, -⟩ | ⟨-, hn⟩
          · exact h (by rw [← h3, h9])
          · exact hn (h3 ▸ hWq))
        exact Or.inr (by omega)
      · exact Or.inl ⟨hWq, h2⟩
  · rw [hMs] at hq
    have e1 := hw (dl q)
    by_cases h : q = b'
    · exact Or.inl ((hW1 q).mpr (Or.inl h))
    · have e3 : dl q b' = 0 := dl_n (Ne.symm h)
      exact (hin q (by omega)).imp (fun h => (hW1 q).mpr (Or.inr h)) id
  · rcases (hW1 q).mp h with h | h
    · rcases hbb with ⟨h9, hb⟩ | ⟨hn, -⟩
      · exact hz.2.2.2.2.2.2.2 q hq (by rw [h, h9]; exact hb)
      · exact hn (Or.inl (h ▸ hq))
    · exact hz.2.2.2.2.2.2.2 q hq h
theorem zs_join {K O W W1 : Nat → Prop} {T T' : Nat → Nd} {r d q0 e cur a a' c : Nat} {rp : List (Nat × Nat)} {X Y : List Nat} (hz : ZS K O W T r d ((q0, e) :: rp) cur) (hl : T q0 = .inr (X ++ [a, c] ++ Y)) (he : X.length ≤ e ∧ e < X.length + 2) (hl' : T' q0 = .inr (X ++ [a'] ++ Y))
    (hbb : (a' = a ∧ W a) ∨ (¬ (K a' ∨ W a') ∧ ¬ W a)) (hW1 : ∀ q, W1 q ↔ (q = a' ∨ W q)) (hT' : ∀ q, q ≠ q0 → q ≠ a' → T' q = T q) (hfa : fl T' (fun q => K q ∨ rmS W1 c q) d a') (hw : ∀ f, wsm T' f d a' + f a + f c = wsm T f d a + wsm T f d c + f a') (hin : ∀ q, 1 ≤ wsm T (dl q) d a + wsm T (dl q) d c → W q ∨ (K q ∧ O q)) (hac : ∀ q, wsm T (dl q) d a + wsm T (dl q) d c ≤ 1) :
    ZS K O (rmS W1 c) T' r (d + 1) rp q0 ∧ (∀ f, cxW T' f (d + 1) rp + wsm T' f (d + 1) q0 + smN (wsm T f d) [a, c] = cxW T f d ((q0, e) :: rp) + wsm T f d cur + smN (wsm T' f d) [a']) ∧ ([a'].flatMap (kyl T' d) = [a, c].flatMap (kyl T d) → cxA T' (d + 1) rp ++ kyl T' (d + 1) q0 ++ cxB T' (d + 1) rp = cxA T d ((q0, e) :: rp) ++ kyl T d cur ++ cxB T d ((q0, e) :: rp)) := by
  have had : ∀ q, q = a → 1 ≤ wsm T (dl q) d a := fun q h => by rw [h]; exact in_self T d a
  have hcd : ∀ q, q = c → 1 ≤ wsm T (dl q) d c := fun q h => by rw [h]; exact in_self T d c
  have ha'd : 1 ≤ wsm T' (dl a') d a' := in_self T' d a'
  have huc : K c ∨ W c := (hin c (by have := hcd c rfl; omega)).elim Or.inr (fun h => Or.inl h.1)
  have hac' : a' ≠ c := fun h => by
    rcases hbb with ⟨h9, -⟩ | ⟨hn, -⟩
    · have e1 := hac c
      have e2 := hcd c rfl
      have e3 := had c (by rw [← h, h9])
      omega
    · exact hn (h ▸ huc)
  refine zs_reb hz hl he hl' (fun q h1 h2 h3 => ?_) (fun m hm => ?_) (fun q => ?_) (fun q hq => ?_) (fun q hq => ?_) (fun q hq h => ?_) (fun q hq h3 => ?_)
  · rw [smN_2] at h3
    have hqc : q ≠ c := fun h => by have := hcd q h; omega
    refine ⟨h2.imp id (fun h => ⟨hqc, (hW1 q).mpr (Or.inr h)⟩), hT' q h1 (fun h => ?_)⟩
    rcases hbb with ⟨h9, -⟩ | ⟨hn, -⟩
    · have := had q (by rw [h, h9])
      omega
    · exact hn (h ▸ h2)
  · rw [List.mem_singleton.mp hm]
    exact hfa
  · rw [smN_2, smN_1]
    have e1 := hw (dl q)
    by_cases h : q = a'
    · rcases hbb with ⟨h9, -⟩ | ⟨hn, -⟩
      · rw [h9] at e1 ⊢
        exact Or.inl (by omega)
      · have e2 : ¬ 1 ≤ wsm T (dl q) d a + wsm T (dl q) d c := fun h2 => hn (h ▸ (hin q h2).elim Or.inr (fun h => Or.inl h.1))
        have e3 := dl_le q a'
        exact Or.inr ⟨by rw [h]; exact hn, by omega⟩
    · have e3 : dl q a' = 0 := dl_n (Ne.symm h)
      exact Or.inl (by omega)
  · rw [smN_2, smN_1]
    have e1 := hw (dl q)
    by_cases h : q = a'
    · refine Or.inr ?_
      rw [h]
      exact ha'd
    · have hWq := ((hW1 q).mp hq.2).resolve_left h
      by_cases h2 : 1 ≤ wsm T (dl q) d a + wsm T (dl q) d c
      · have e3 : dl q a = 0 := dl_n (fun h3 => by
          rcases hbb with ⟨h9, -⟩ | ⟨-, hn⟩
          · exact h (by rw [← h3, h9])
          · exact hn (h3 ▸ hWq))
        have e4 : dl q c = 0 := dl_n (Ne.symm hq.1)
        exact Or.inr (by omega)
      · exact Or.inl ⟨hWq, h2⟩
  · rw [smN_1] at hq
    have e1 := hw (dl q)
    have hqc : q ≠ c := fun h => by
      have e2 := hac q
      have e3 : dl q a' = 0 := dl_n (fun h4 => hac' (h4.trans h))
      have e4 : dl q c = 1 := by rw [h]; exact dl_s c
      omega
    by_cases h : q = a'
    · exact Or.inl ⟨hqc, (hW1 q).mpr (Or.inl h)⟩
    · have e3 : dl q a' = 0 := dl_n (Ne.symm h)
      exact (hin q (by omega)).imp (fun h => ⟨hqc, (hW1 q).mpr (Or.inr h)⟩) id
  · rcases (hW1 q).mp h.2 with h | h
    · rcases hbb with ⟨h9, hb⟩ | ⟨hn, -⟩
      · exact hz.2.2.2.2.2.2.2 q hq (by rw [h, h9]; exact hb)
      · exact hn (Or.inl (h ▸ hq))
    · exact hz.2.2.2.2.2.2.2 q hq h
  · rw [smN_2] at h3
    exact ⟨fun h => by have := hcd q h; omega, (hW1 q).mpr (Or.inr hq)⟩
theorem lend_L {n m : Nd} (hk : nLf n ↔ nLf m) (h : 0 < nlen n) : nApp (nRem n (nlen n - 1)) (nGet m n 0 (nlen n - 1)) = nApp n m := by
  cases n with
  | inl l =>
    obtain ⟨r, rfl⟩ := hk.mp ⟨l, rfl⟩
    have h : 0 < l.length := h
    simp only [nApp, nRem, nGet, nTake, nDrop, nlen, Nat.sub_add_cancel h, List.drop_length, List.append_nil, List.take_zero, List.nil_append, List.drop_zero]
    rw [List.take_of_length_le (l := l.drop (l.length - 1)) (by rw [List.length_drop]; omega), ← List.append_assoc, List.take_append_drop]
  | inr l =>
    cases m with
    | inl r => exact absurd (hk.mpr ⟨r, rfl⟩) (fun ⟨x, hx⟩ => by cases hx)
    | inr r =>
      have h : 0 < l.length := h
      simp only [nApp, nRem, nGet, nTake, nDrop, nlen, Nat.sub_add_cancel h, List.drop_length, List.append_nil, List.take_zero, List.nil_append, List.drop_zero]
      rw [List.take_of_length_le (l := l.drop (l.length - 1)) (by rw [List.length_drop]; omega), ← List.append_assoc, List.take_append_drop]
theorem lend_R {n m : Nd} (hk : nLf n ↔ nLf m) (h : nlen m = 1) : nApp (nGet m n 1 0) (nRem n 0) = nApp m n := by
  cases n with
  | inl l =>
    obtain ⟨r, rfl⟩ := hk.mp ⟨l, rfl⟩
    have h : r.length = 1 := h
    simp only [nApp, nRem, nGet, nTake, nDrop, List.take_zero, List.nil_append, List.drop_zero]
    rw [List.take_of_length_le (by omega), List.drop_of_length_le (l := r) (by omega), List.append_nil, List.append_assoc, List.take_append_drop]
  | inr l =>
    cases m with
    | inl r => exact absurd (hk.mpr ⟨r, rfl⟩) (fun ⟨x, hx⟩ => by cases hx)
    | inr r =>
      have h : r.length = 1 := h
      simp only [nApp, nRem, nGet, nTake, nDrop, List.take_zero, List.nil_append, List.drop_zero]
      rw [List.take_of_length_le (by omega), List.drop_of_length_le (l := r) (by omega), List.append_nil, List.append_assoc, List.take_append_drop]
theorem nlen_app {n m : Nd} (hk : nLf n ↔ nLf m) : nlen (nApp n m) = nlen n + nlen m := by
  cases n with
  | inl l =>
    obtain ⟨r, rfl⟩ := hk.mp ⟨l, rfl⟩
    simp [nApp, nlen]
  | inr l =>
    cases m with
    | inl r => exact absurd (hk.mpr ⟨r, rfl⟩) (fun ⟨x, hx⟩ => by cases hx)
    | inr r => simp [nApp, nlen]
theorem sb_kind {T : Nat → Nd} {U : Nat → Prop} {d p q : Nat} (h1 : sb T U d p) (h2 : sb T U d q) : nLf (T p) ↔ nLf (T q) := by
  cases d with
  | zero =>
    obtain ⟨-, l, hl⟩ := h1
    obtain ⟨-, m, hm⟩ := h2
    exact ⟨fun _ => ⟨m, hm⟩, fun _ => ⟨l, hl⟩⟩
  | succ d =>
    obtain ⟨-, l, hl, -⟩ := h1
    obtain ⟨-, m, hm, -⟩ := h2
    exact ⟨fun ⟨x, hx⟩ => (by rw [hl] at hx; cases hx), fun ⟨x, hx⟩ => (by rw [hm] at hx; cases hx)⟩
/-- what is known of a neighbour -/
theorem sibs {K O W : Nat → Prop} {T : Nat → Nd} {r d q0 e s cur b : Nat} {rp : List (Nat × Nat)} {l : List Nat} (hz : ZS K O W T r d ((q0, e) :: rp) cur) (hl : T q0 = .inr l) (hse : s ≠ e) (hs : l[s]? = some b) : fl T (fun q => K q ∨ W q) d b ∧ (∀ q, dl q q0 + (wsm T (dl q) d b + wsm T (dl q) d cur) ≤ 1) ∧ (∀ q, 1 ≤ wsm T (dl q) d b + wsm T (dl q) d cur → W q ∨ (K q ∧ O q)) ∧ b ≠ cur ∧ q0 ≠ b ∧ q0 ≠ cur := by
  obtain ⟨⟨zu, ⟨l', hl', l2, l4, hx, hsb⟩, z1⟩, z2, z3, z4, z5, z6, z7, z8⟩ := hz
  rw [hl] at hl'
  cases hl'
  have hkl : kids (T q0) = l := by rw [hl]; rfl
  have hcw : ∀ q, dl q q0 + (wsm T (dl q) d b + wsm T (dl q) d cur) ≤ cxW T (dl q) d ((q0, e) :: rp) + wsm T (dl q) d cur := fun q => by
    rw [cxW_c, hkl]
    rcases mem_side hse hs with h | h
    · have := smN_mem (wsm T (dl q) d) h
      omega
    · have := smN_mem (wsm T (dl q) d) h
      omega
  have tri : ∀ q, dl q q0 + (wsm T (dl q) d b + wsm T (dl q) d cur) ≤ 1 := fun q => Nat.le_trans (hcw q) (z3 q)
  have hbd : ∀ q, q = b → 1 ≤ wsm T (dl q) d b := fun q h => by rw [h]; exact in_self T d b
  have hcd : ∀ q, q = cur → 1 ≤ wsm T (dl q) d cur := fun q h => by rw [h]; exact in_self T d cur
  have hqd : ∀ q, q = q0 → dl q q0 = 1 := fun q h => by rw [h]; exact dl_s q0
  refine ⟨hsb s b hse hs, tri, fun q hq => z5 q (by have := hcw q; omega), fun h => ?_, fun h => ?_, fun h => ?_⟩
  · have e1 := tri b
    have e2 := hbd b rfl
    have e3 := hcd b h
    omega
  · have e1 := tri q0
    have e2 := hbd q0 h
    have e3 := hqd q0 rfl
    omega
  · have e1 := tri q0
    have e2 := hcd q0 h
    have e3 := hqd q0 rfl
    omega
