/-! MENDING: one page -/
theorem bw_wsm {T : Nat → Nd} {f : Nat → Nat} {d p : Nat} : bw T f d (T p) ≤ wsm T f d p := by rw [wsm_bw]; omega
theorem bw_ne {T : Nat → Nd} {d p q : Nat} (h1 : wsm T (dl q) d p ≤ 1) (h : 1 ≤ bw T (dl q) d (T p)) : q ≠ p := fun h2 => by
  rw [wsm_bw, h2, dl_s] at h1
  rw [h2] at h
  omega
theorem md_ex {K O W : Nat → Prop} {T : Nat → Nd} {r d q0 e cur : Nat} {rp : List (Nat × Nat)} (hz : ZS K O W T r d ((q0, e) :: rp) cur) (h1 : nlen (T cur) = 1) (hK : cov K 600) (hd : d ≤ 6) (hb : cxW T one1 d ((q0, e) :: rp) + wsm T one1 d cur ≤ 115) : ∃ T' W', mdR K r T W q0 e T' W' ∧ (∃ l, T q0 = .inr l ∧ l[e]? = some cur) ∧ ZS K O W' T' r (d + 1) rp q0 ∧ 1 ≤ nlen (T' q0) ∧ nlen (T' q0) ≤ 4 ∧ cxW T' one1 (d + 1) rp + wsm T' one1 (d + 1) q0 ≤ cxW T one1 d ((q0, e) :: rp) + wsm T one1 d cur ∧ cxA T' (d + 1) rp ++ kyl T' (d + 1) q0 ++ cxB T' (d + 1) rp = cxA T d ((q0, e) :: rp) ++ kyl T d cur ++ cxB T d ((q0, e) :: rp) ∧ ∀ q, K q → T' q = T q := by
  obtain ⟨zu, ⟨l, hl, l2, l4, hx, -⟩, z1⟩ := hz.1
  have z2 := hz.2.1
  have hWc : W cur := hz.2.2.2.2.2.1
  have hWq0 : W q0 := hz.2.2.2.2.2.2.1 (q0, e) List.mem_cons_self
  have hD := hz.2.2.2.2.2.2.2
  have hel : e < l.length := (List.getElem?_eq_some_iff.mp hx).1
  by_cases he : 0 < e
  · -- the neighbour before it
    obtain ⟨b, hbx⟩ : ∃ b, l[e - 1]? = some b := ⟨_, List.getElem?_eq_getElem (by omega)⟩
    obtain ⟨hfb, tri, hin, hbc, hqb, hqc⟩ := sibs hz hl (show e - 1 ≠ e by omega) hbx
    obtain ⟨sbb, b2, b4⟩ := fl_sb hfb
    have hkd := sb_kind sbb z2
    have hub : K b ∨ W b := fl_U hfb
    have huc : K cur ∨ W cur := Or.inr hWc
    obtain ⟨b', T1, W1, w1, w2, w3, w4, w5⟩ := wn_ex hz hub hK hb
    have hUU : ∀ q, K q ∨ W q → K q ∨ W1 q := fun q hq => hq.imp id (fun h => (w4 q).mpr (Or.inr h))
    have hnb : ∀ q, K q ∨ W q → q ≠ b → q ≠ b' := fun q hq hqb h => by
      rcases w5 with ⟨h9, -⟩ | ⟨hn, -⟩
      · exact hqb (h.trans h9)
      · exact hn (h ▸ hq)
    have hb'c : b' ≠ cur := Ne.symm (hnb cur huc (Ne.symm hbc))
    have hb'q : b' ≠ q0 := Ne.symm (hnb q0 (Or.inr hWq0) hqb)
    have hxc : l[e - 1 + 1]? = some cur := by rw [Nat.sub_add_cancel he]; exact hx
    obtain ⟨ad1, ad2, ad3, ad4⟩ := adj hbx hxc
    have hXl : (l.take (e - 1)).length = e - 1 := by rw [List.length_take]; omega
    have hinU : ∀ q, 1 ≤ bw T (dl q) d (T b) + bw T (dl q) d (T cur) → (K q ∨ W q) ∧ q ≠ b ∧ q ≠ cur ∧ q ≠ q0 := fun q hq => by
      have e1 := tri q
      have e2 : bw T (dl q) d (T b) ≤ wsm T (dl q) d b := bw_wsm
      have e3 : bw T (dl q) d (T cur) ≤ wsm T (dl q) d cur := bw_wsm
      have e4 := wsm_bw T (dl q) d b
      have e5 := wsm_bw T (dl q) d cur
      refine ⟨(hin q (by omega)).elim Or.inr (fun h => Or.inl h.1), fun h => ?_, fun h => ?_, fun h => ?_⟩
      · subst h; rw [dl_s] at e4; omega
      · subst h; rw [dl_s] at e5; omega
      · subst h; rw [dl_s] at e1; omega
    by_cases hb2 : 2 < nlen (T b)
    · -- an entry moves over
      let T2 : Nat → Nd := upT T1 q0 (.inr (l.set (e - 1) b'))
      let T' : Nat → Nd := upT (upT T2 cur (nGet (T cur) (T b) 0 (nlen (T b) - 1))) b' (nRem (T b) (nlen (T b) - 1))
      have t1 : T' b' = nRem (T b) (nlen (T b) - 1) := upT_s _ _ _
      have t2 : T' cur = nGet (T cur) (T b) 0 (nlen (T b) - 1) := by show upT _ _ _ _ = _; rw [upT_n (Ne.symm hb'c), upT_s]
      have t3 : T' q0 = .inr (l.set (e - 1) b') := by show upT _ _ _ _ = _; rw [upT_n (Ne.symm hb'q), upT_n hqc]; exact upT_s _ _ _
      have t4 : ∀ q, q ≠ q0 → q ≠ cur → q ≠ b' → T' q = T q := fun q h1 h2 h3 => by show upT _ _ _ _ = _; rw [upT_n h3, upT_n h2]; show upT _ _ _ _ = _; rw [upT_n h1, w3 q h3]
      have hfr : ∀ q, 1 ≤ bw T (dl q) d (T b) + bw T (dl q) d (T cur) → (K q ∨ W1 q) ∧ T' q = T q := fun q hq => by
        obtain ⟨u, g1, g2, g3⟩ := hinU q hq
        exact ⟨hUU q u, t4 q g3 g2 (hnb q u g1)⟩
      have hrl : nLf (nRem (T b) (nlen (T b) - 1)) ↔ nLf (T b) := nLf_Rem
      have hgl : nLf (nGet (T cur) (T b) 0 (nlen (T b) - 1)) ↔ nLf (T cur) := nLf_Get hkd.symm
      obtain ⟨p1, p2, p3, p4⟩ := pair (U' := fun q => K q ∨ W1 q) (T' := T') (a := b) (c := cur) (a' := b') (c' := cur) sbb z2 hkd (by rw [t1, t2, hrl, hgl]; exact hkd) (by rw [t1, t2]; exact lend_L hkd (by omega)) (Or.inr ((w4 b').mpr (Or.inl rfl))) (hUU cur huc) hfr
      have n1 : nlen (T' b') = nlen (T b) - 1 := by rw [t1]; exact nlen_Rem (by omega)
      have n2 : nlen (T' cur) = 2 := by rw [t2, nlen_Get hkd.symm (by omega) (Nat.zero_le _), h1]
      obtain ⟨g1, g2, g3⟩ := zs_lend (b := b) (b' := b') (T' := T') (W1 := W1) (X := l.take (e - 1)) (M0 := [b, cur]) (M := [b', cur]) (Y := l.drop (e - 1 + 2)) hz (by rw [hl, ← ad1]) (by rw [hXl]; simp; omega) (by rw [t3, ad2]) (fun f => smN_2 _ _ _) (fun f => smN_2 _ _ _) (fun m hm => by simpa using hm) w5 w4 t4 (sb_fl p1 (by omega) (by omega)) (sb_fl p2 (by omega) (by omega)) (fun f => by have := p3 f; omega) hin
      have hset : (l.set (e - 1) b').length = l.length := List.length_set
      have hsb' : sb T2 (fun q => K q ∨ W1 q) d b' := cp_sb sbb (by show upT _ _ _ _ = _; rw [upT_n hb'q, w2]) (Or.inr ((w4 b').mpr (Or.inl rfl))) (fun q hq hqb2 => by
        have e1 := hin q (by unfold inP at hq; omega)
        have u : K q ∨ W q := e1.elim Or.inr (fun h => Or.inl h.1)
        have hq0 : q ≠ q0 := fun h => by have e2 := tri q; subst h; rw [dl_s] at e2; unfold inP at hq; omega
        exact ⟨hUU q u, by show upT _ _ _ _ = _; rw [upT_n hq0, w3 q (hnb q u hqb2)]⟩) (by have := tri b; omega)
      have ht2b : T2 b' = T b := by show upT _ _ _ _ = _; rw [upT_n hb'q, w2]
      refine ⟨T', W1, ⟨l, cur, b, hl, hWq0, l4, hx, hWc, h1, by rw [if_pos he]; exact hbx, hub, hkd, hbc, hqb, hqc, b2, b4, Or.inl ⟨hb2, b', T1, w1, ?_, ?_⟩⟩, ⟨l, hl, hx⟩, g1, by rw [t3]; show 1 ≤ (l.set (e - 1) b').length; omega, by rw [t3]; show (l.set (e - 1) b').length ≤ 4; omega, ?_, g3 (by rw [flat2, flat2]; exact p4), fun q hq => ?_⟩
      · simp only [if_pos he]
        exact kyOk_5 hsb' (by omega) (by show nlen (T b) - 1 < nlen (T2 b'); rw [ht2b]; omega)
      · simp only [if_pos he]
        all_goals rfl
      · have e1 := g2 one1
        rw [smN_2, smN_2] at e1
        have e2 := p3 one1
        have e3 : one1 b = 1 := rfl
        have e4 : one1 cur = 1 := rfl
        have e5 : one1 b' = 1 := rfl
        omega
      · have g1 : q ≠ q0 := fun h => hD q hq (h ▸ hWq0)
        have g2 : q ≠ cur := fun h => hD q hq (h ▸ hWc)
        have g3 : q ≠ b' := fun h => by
          rcases w5 with ⟨h9, hb⟩ | ⟨hn, -⟩
          · exact hD q hq (by rw [h, h9]; exact hb)
          · exact hn (Or.inl (h ▸ hq))
        exact t4 q g1 g2 g3
    · -- the two are joined
      have hb2 : nlen (T b) = 2 := by omega
      let T2 : Nat → Nd := upT T1 q0 (.inr (l.set (e - 1) b'))
      let T' : Nat → Nd := upT (upT T2 b' (nApp (T b) (T cur))) q0 (nRem (.inr (l.set (e - 1) b')) (e - 1 + 1))
      have t1 : T' b' = nApp (T b) (T cur) := by show upT _ _ _ _ = _; rw [upT_n hb'q, upT_s]
      have hnr : nRem (.inr (l.set (e - 1) b')) (e - 1 + 1) = .inr (l.take (e - 1) ++ [b'] ++ l.drop (e - 1 + 2)) := by
        show Sum.inr _ = _
        rw [← ad4 b']
      have t3 : T' q0 = .inr (l.take (e - 1) ++ [b'] ++ l.drop (e - 1 + 2)) := by show upT _ _ _ _ = _; rw [upT_s, hnr]
      have t4 : ∀ q, q ≠ q0 → q ≠ b' → T' q = T q := fun q h1 h3 => by show upT _ _ _ _ = _; rw [upT_n h1, upT_n h3]; show upT _ _ _ _ = _; rw [upT_n h1, w3 q h3]
      have hfr : ∀ q, 1 ≤ bw T (dl q) d (T b) + bw T (dl q) d (T cur) → (K q ∨ rmS W1 cur q) ∧ T' q = T q := fun q hq => by
        obtain ⟨u, g1, g2, g3⟩ := hinU q hq
        exact ⟨(hUU q u).imp id (fun h => ⟨g2, h⟩), t4 q g3 (hnb q u g1)⟩
      obtain ⟨p1, p3, p4⟩ := join2 (U' := fun q => K q ∨ rmS W1 cur q) (T' := T') (a := b) (c := cur) (a' := b') sbb z2 hkd t1 (Or.inr ⟨hb'c, (w4 b').mpr (Or.inl rfl)⟩) hfr
      have n1 : nlen (T' b') = 3 := by rw [t1, nlen_app hkd, hb2, h1]
      obtain ⟨g1, g2, g3⟩ := zs_join (a := b) (a' := b') (c := cur) (T' := T') (W1 := W1) (X := l.take (e - 1)) (Y := l.drop (e - 1 + 2)) hz (by rw [hl, ← ad1]) (by rw [hXl]; omega) t3 w5 w4 t4 (sb_fl p1 (by omega) (by omega)) p3 hin (fun q => by have := tri q; omega)
      have hlen : (l.take (e - 1) ++ [b'] ++ l.drop (e - 1 + 2)).length = l.length - 1 := by
        rw [List.length_append, List.length_append, List.length_take, List.length_drop, List.length_singleton]
        omega
      refine ⟨T', rmS W1 cur, ⟨l, cur, b, hl, hWq0, l4, hx, hWc, h1, by rw [if_pos he]; exact hbx, hub, hkd, hbc, hqb, hqc, b2, b4, Or.inr ⟨hb2, b, cur, b', T1, W1, by rw [if_pos he]; exact hbx, by rw [if_pos he]; exact hxc, w1, hb'c, Ne.symm hb'q, hqc, huc, rfl, ?_⟩⟩, ⟨l, hl, hx⟩, g1, by rw [t3]; show 1 ≤ List.length _; omega, by rw [t3]; show List.length _ ≤ 4; omega, ?_, g3 (by rw [flat2, List.flatMap_cons, List.flatMap_nil, List.append_nil]; exact p4), fun q hq => ?_⟩
      · simp only [if_pos he]
        all_goals rfl
      · have e1 := g2 one1
        rw [smN_2, smN_1] at e1
        have e2 := p3 one1
        have e3 : one1 b = 1 := rfl
        have e4 : one1 cur = 1 := rfl
        have e5 : one1 b' = 1 := rfl
        omega
      · have g1 : q ≠ q0 := fun h => hD q hq (h ▸ hWq0)
        have g3 : q ≠ b' := fun h => by
          rcases w5 with ⟨h9, hb⟩ | ⟨hn, -⟩
          · exact hD q hq (by rw [h, h9]; exact hb)
          · exact hn (Or.inl (h ▸ hq))
        exact t4 q g1 g3
  · -- the neighbour after it
    have he0 : e = 0 := by omega
    subst he0
    obtain ⟨b, hbx⟩ : ∃ b, l[0 + 1]? = some b := ⟨_, List.getElem?_eq_getElem (by omega)⟩
    obtain ⟨hfb, tri, hin, hbc, hqb, hqc⟩ := sibs hz hl (show 0 + 1 ≠ 0 by omega) hbx
    obtain ⟨sbb, b2, b4⟩ := fl_sb hfb
    have hkd := sb_kind sbb z2
    have hub : K b ∨ W b := fl_U hfb
    have huc : K cur ∨ W cur := Or.inr hWc
    obtain ⟨ad1, ad2, ad3, ad4⟩ := adj hx hbx
    have hXl : (l.take 0).length = 0 := rfl
    have hinU : ∀ q, 1 ≤ bw T (dl q) d (T cur) + bw T (dl q) d (T b) → (K q ∨ W q) ∧ q ≠ b ∧ q ≠ cur ∧ q ≠ q0 := fun q hq => by
      have e1 := tri q
      have e2 : bw T (dl q) d (T b) ≤ wsm T (dl q) d b := bw_wsm
      have e3 : bw T (dl q) d (T cur) ≤ wsm T (dl q) d cur := bw_wsm
      have e4 := wsm_bw T (dl q) d b
      have e5 := wsm_bw T (dl q) d cur
      refine ⟨(hin q (by omega)).elim Or.inr (fun h => Or.inl h.1), fun h => ?_, fun h => ?_, fun h => ?_⟩
      · subst h; rw [dl_s] at e4; omega
      · subst h; rw [dl_s] at e5; omega
      · subst h; rw [dl_s] at e1; omega
    by_cases hb2 : 2 < nlen (T b)
    · obtain ⟨b', T1, W1, w1, w2, w3, w4, w5⟩ := wn_ex hz hub hK hb
      have hUU : ∀ q, K q ∨ W q → K q ∨ W1 q := fun q hq => hq.imp id (fun h => (w4 q).mpr (Or.inr h))
      have hnb : ∀ q, K q ∨ W q → q ≠ b → q ≠ b' := fun q hq hqb h => by
        rcases w5 with ⟨h9, -⟩ | ⟨hn, -⟩
        · exact hqb (h.trans h9)
        · exact hn (h ▸ hq)
      have hb'c : b' ≠ cur := Ne.symm (hnb cur huc (Ne.symm hbc))
      have hb'q : b' ≠ q0 := Ne.symm (hnb q0 (Or.inr hWq0) hqb)
      let T2 : Nat → Nd := upT T1 q0 (.inr (l.set (0 + 1) b'))
      let T' : Nat → Nd := upT (upT T2 cur (nGet (T cur) (T b) 1 0)) b' (nRem (T b) 0)
      have t1 : T' b' = nRem (T b) 0 := upT_s _ _ _
      have t2 : T' cur = nGet (T cur) (T b) 1 0 := by show upT _ _ _ _ = _; rw [upT_n (Ne.symm hb'c), upT_s]
      have t3 : T' q0 = .inr (l.set (0 + 1) b') := by show upT _ _ _ _ = _; rw [upT_n (Ne.symm hb'q), upT_n hqc]; exact upT_s _ _ _
      have t4 : ∀ q, q ≠ q0 → q ≠ cur → q ≠ b' → T' q = T q := fun q h1 h2 h3 => by show upT _ _ _ _ = _; rw [upT_n h3, upT_n h2]; show upT _ _ _ _ = _; rw [upT_n h1, w3 q h3]
      have hfr : ∀ q, 1 ≤ bw T (dl q) d (T cur) + bw T (dl q) d (T b) → (K q ∨ W1 q) ∧ T' q = T q := fun q hq => by
        obtain ⟨u, g1, g2, g3⟩ := hinU q hq
        exact ⟨hUU q u, t4 q g3 g2 (hnb q u g1)⟩
      have hrl : nLf (nRem (T b) 0) ↔ nLf (T b) := nLf_Rem
      have hgl : nLf (nGet (T cur) (T b) 1 0) ↔ nLf (T cur) := nLf_Get hkd.symm
      obtain ⟨p1, p2, p3, p4⟩ := pair (U' := fun q => K q ∨ W1 q) (T' := T') (a := cur) (c := b) (a' := cur) (c' := b') z2 sbb hkd.symm (by rw [t1, t2, hrl, hgl]; exact hkd.symm) (by rw [t1, t2]; exact lend_R hkd h1) (hUU cur huc) (Or.inr ((w4 b').mpr (Or.inl rfl))) hfr
      have n1 : nlen (T' b') = nlen (T b) - 1 := by rw [t1]; exact nlen_Rem (by omega)
      have n2 : nlen (T' cur) = 2 := by rw [t2, nlen_Get hkd.symm (by omega) (by omega), h1]
      obtain ⟨g1, g2, g3⟩ := zs_lend (b := b) (b' := b') (T' := T') (W1 := W1) (X := l.take 0) (M0 := [cur, b]) (M := [cur, b']) (Y := l.drop (0 + 2)) hz (by rw [hl, ← ad1]) (by rw [hXl]; simp) (by rw [t3, ad3]) (fun f => by rw [smN_2]; omega) (fun f => by rw [smN_2]; omega) (fun m hm => by
        have h9 : m = cur ∨ m = b' := by simpa using hm
        exact h9.symm) w5 w4 t4 (sb_fl p2 (by omega) (by omega)) (sb_fl p1 (by omega) (by omega)) (fun f => by have := p3 f; omega) hin
      have hset : (l.set (0 + 1) b').length = l.length := List.length_set
      have ht2b : T2 b' = T b := by show upT _ _ _ _ = _; rw [upT_n hb'q, w2]
      have hsb' : sb T2 (fun q => K q ∨ W1 q) d b' := cp_sb sbb ht2b (Or.inr ((w4 b').mpr (Or.inl rfl))) (fun q hq hqb2 => by
        have e1 := hin q (by unfold inP at hq; omega)
        have u : K q ∨ W q := e1.elim Or.inr (fun h => Or.inl h.1)
        have hq0 : q ≠ q0 := fun h => by have e2 := tri q; subst h; rw [dl_s] at e2; unfold inP at hq; omega
        exact ⟨hUU q u, by show upT _ _ _ _ = _; rw [upT_n hq0, w3 q (hnb q u hqb2)]⟩) (by have := tri b; omega)
      refine ⟨T', W1, ⟨l, cur, b, hl, hWq0, l4, hx, hWc, h1, by rw [if_neg he]; exact hbx, hub, hkd, hbc, hqb, hqc, b2, b4, Or.inl ⟨hb2, b', T1, w1, ?_, ?_⟩⟩, ⟨l, hl, hx⟩, g1, by rw [t3]; show 1 ≤ (l.set (0 + 1) b').length; omega, by rw [t3]; show (l.set (0 + 1) b').length ≤ 4; omega, ?_, g3 (by rw [flat2, flat2]; exact p4), fun q hq => ?_⟩
      · simp only [if_neg he]
        exact kyOk_5 hsb' (by omega) (by show 0 < nlen (T2 b'); rw [ht2b]; omega)
      · simp only [if_neg he]
        all_goals rfl
      · have e1 := g2 one1
        rw [smN_2, smN_2] at e1
        have e2 := p3 one1
        have e3 : one1 b = 1 := rfl
        have e4 : one1 cur = 1 := rfl
        have e5 : one1 b' = 1 := rfl
        omega
      · have g1 : q ≠ q0 := fun h => hD q hq (h ▸ hWq0)
        have g2 : q ≠ cur := fun h => hD q hq (h ▸ hWc)
        have g3 : q ≠ b' := fun h => by
          rcases w5 with ⟨h9, hb⟩ | ⟨hn, -⟩
          · exact hD q hq (by rw [h, h9]; exact hb)
          · exact hn (Or.inl (h ▸ hq))
        exact t4 q g1 g2 g3
    · have hb2 : nlen (T b) = 2 := by omega
      let T2 : Nat → Nd := upT T q0 (.inr (l.set 0 cur))
      let T' : Nat → Nd := upT (upT T2 cur (nApp (T cur) (T b))) q0 (nRem (.inr (l.set 0 cur)) (0 + 1))
      have t1 : T' cur = nApp (T cur) (T b) := by show upT _ _ _ _ = _; rw [upT_n (Ne.symm hqc), upT_s]
      have hnr : nRem (.inr (l.set 0 cur)) (0 + 1) = .inr (l.take 0 ++ [cur] ++ l.drop (0 + 2)) := by
        show Sum.inr _ = _
        rw [← ad4 cur]
      have t3 : T' q0 = .inr (l.take 0 ++ [cur] ++ l.drop (0 + 2)) := by show upT _ _ _ _ = _; rw [upT_s, hnr]
      have t4 : ∀ q, q ≠ q0 → q ≠ cur → T' q = T q := fun q h1 h3 => by show upT _ _ _ _ = _; rw [upT_n h1, upT_n h3]; show upT _ _ _ _ = _; rw [upT_n h1]
      have hfr : ∀ q, 1 ≤ bw T (dl q) d (T cur) + bw T (dl q) d (T b) → (K q ∨ rmS W b q) ∧ T' q = T q := fun q hq => by
        obtain ⟨u, g1, g2, g3⟩ := hinU q hq
        exact ⟨u.imp id (fun h => ⟨g1, h⟩), t4 q g3 g2⟩
      obtain ⟨p1, p3, p4⟩ := join2 (U' := fun q => K q ∨ rmS W b q) (T' := T') (a := cur) (c := b) (a' := cur) z2 sbb hkd.symm t1 (Or.inr ⟨Ne.symm hbc, hWc⟩) hfr
      have n1 : nlen (T' cur) = 3 := by rw [t1, nlen_app hkd.symm, hb2, h1]
      obtain ⟨g1, g2, g3⟩ := zs_join (a := cur) (a' := cur) (c := b) (T' := T') (W1 := W) (X := l.take 0) (Y := l.drop (0 + 2)) hz (by rw [hl, ← ad1]) (by rw [hXl]; omega) t3 (Or.inl ⟨rfl, hWc⟩) (fun q => ⟨Or.inr, fun h => h.elim (fun h => h ▸ hWc) id⟩) t4 (sb_fl p1 (by omega) (by omega)) p3 (fun q hq => hin q (by omega)) (fun q => by have := tri q; omega)
      have hlen : (l.take 0 ++ [cur] ++ l.drop (0 + 2)).length = l.length - 1 := by
        rw [List.length_append, List.length_append, List.length_take, List.length_drop, List.length_singleton]
        omega
      refine ⟨T', rmS W b, ⟨l, cur, b, hl, hWq0, l4, hx, hWc, h1, by rw [if_neg he]; exact hbx, hub, hkd, hbc, hqb, hqc, b2, b4, Or.inr ⟨hb2, cur, b, cur, T, W, by rw [if_neg he]; exact hx, by rw [if_neg he]; exact hbx, ⟨huc, Or.inl ⟨hWc, rfl, rfl, rfl⟩⟩, Ne.symm hbc, hqc, hqb, hub, rfl, ?_⟩⟩, ⟨l, hl, hx⟩, g1, by rw [t3]; show 1 ≤ List.length _; omega, by rw [t3]; show List.length _ ≤ 4; omega, ?_, g3 (by rw [flat2, List.flatMap_cons, List.flatMap_nil, List.append_nil]; exact p4), fun q hq => ?_⟩
      · simp only [if_neg he]
        all_goals rfl
      · have e1 := g2 one1
        rw [smN_2, smN_1] at e1
        have e2 := p3 one1
        have e3 : one1 b = 1 := rfl
        have e4 : one1 cur = 1 := rfl
        omega
      · have g1 : q ≠ q0 := fun h => hD q hq (h ▸ hWq0)
        have g2 : q ≠ cur := fun h => hD q hq (h ▸ hWc)
        exact t4 q g1 g2
