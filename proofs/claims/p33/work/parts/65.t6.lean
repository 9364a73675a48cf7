/-! SPLITTING: what a put leaves -/
theorem zs_close {K O W : Nat → Prop} {T : Nat → Nd} {r d : Nat} {rp : List (Nat × Nat)} {cur : Nat} (hz : ZS K O W T r d rp cur) (h4 : nlen (T cur) ≤ 4) (h2 : 0 < d ∨ rp ≠ [] → 2 ≤ nlen (T cur)) : GT K O W T (d + rp.length) r ∧ kyl T (d + rp.length) r = cxA T d rp ++ kyl T d cur ++ cxB T d rp := by
  obtain ⟨z1, z2, z3, z4, z5, z6, z7, z8⟩ := hz
  have hin : ∀ f, wsm T f (d + rp.length) r = cxW T f d rp + wsm T f d cur := fun f => cx_wsm f z1
  exact ⟨⟨cx_rt z1 (sb_rt z2 h4 (fun h => h2 (Or.inl h))) (fun h => sb_fl z2 (h2 (Or.inr h)) h4), fun q => by rw [hin]; exact z3 q, fun q hq => by unfold inP; rw [hin]; exact z4 q hq, fun q hq => z5 q (by unfold inP at hq; rw [hin] at hq; exact hq), z8⟩, cx_kyl z1⟩
theorem kyOk_5 {T : Nat → Nd} {U : Nat → Prop} {d p e : Nat} (h : sb T U d p) (hd : d ≤ 7) (he : e < nlen (T p)) : kyOk T U p e := by
  cases d with
  | zero =>
    obtain ⟨-, l, hl⟩ := h
    rw [hl] at he
    exact Or.inl ⟨l, l[e], hl, List.getElem?_eq_getElem he⟩
  | succ d =>
    obtain ⟨-, l, hl, hk⟩ := h
    rw [hl] at he
    exact Or.inr ⟨l, l[e], d, hl, List.getElem?_eq_getElem he, hk _ (List.getElem_mem he), by omega⟩
/-- a full page's two halves -/
theorem half {T T' : Nat → Nd} {U U' : Nat → Prop} {d cur n : Nat} (h : sb T U d cur) (h5 : nlen (T cur) = 5) (h1 : wsm T (dl cur) d cur ≤ 1) (hc : T' cur = nTake (T cur) 3) (hn : T' n = nDrop (T cur) 3) (huc : U' cur) (hun : U' n) (hf : ∀ q, inP T d cur q → q ≠ cur → U' q ∧ T' q = T q) : fl T' U' d cur ∧ fl T' U' d n ∧ (∀ f, wsm T' f d cur + wsm T' f d n = wsm T f d cur + f n) ∧ kyl T' d cur ++ kyl T' d n = kyl T d cur := by
  cases d with
  | zero =>
    obtain ⟨-, l, hl⟩ := h
    have hl5 : l.length = 5 := by rw [hl] at h5; exact h5
    rw [hl] at hc hn
    refine ⟨⟨huc, _, hc, by simp; omega, by simp; omega⟩, ⟨hun, _, hn, by simp; omega, by simp; omega⟩, fun f => rfl, ?_⟩
    rw [kyl_0, kyl_0, kyl_0, hc, hn, hl]
    exact List.take_append_drop 3 l
  | succ d =>
    obtain ⟨-, l, hl, hk⟩ := h
    have hl5 : l.length = 5 := by rw [hl] at h5; exact h5
    have hkl : kids (T cur) = l := by rw [hl]; rfl
    rw [hl] at hc hn
    have hkc : kids (T' cur) = l.take 3 := by rw [hc]; rfl
    have hkn : kids (T' n) = l.drop 3 := by rw [hn]; rfl
    have hx : ∀ x ∈ l, ∀ q, inP T d x q → U' q ∧ T' q = T q := fun x hx q hq => hf q (in_kid (hkl ▸ hx) hq) (below_ne h1 (hkl ▸ hx) hq)
    refine ⟨⟨huc, _, hc, by simp; omega, by simp; omega, fun x hx' => fl_fr (hk x (List.mem_of_mem_take hx')) (hx x (List.mem_of_mem_take hx'))⟩, ⟨hun, _, hn, by simp; omega, by simp; omega, fun x hx' => fl_fr (hk x (List.mem_of_mem_drop hx')) (hx x (List.mem_of_mem_drop hx'))⟩, fun f => ?_, ?_⟩
    · rw [wsm_s, wsm_s, wsm_s, hkc, hkn, hkl, smN_cg (l := l.take 3) (h := wsm T f d) (fun x hx' => wsm_fr f (fun q hq => (hx x (List.mem_of_mem_take hx') q hq).2)), smN_cg (l := l.drop 3) (h := wsm T f d) (fun x hx' => wsm_fr f (fun q hq => (hx x (List.mem_of_mem_drop hx') q hq).2))]
      have e := smN_app (wsm T f d) (l.take 3) (l.drop 3)
      rw [List.take_append_drop] at e
      omega
    · rw [kyl_s, kyl_s, kyl_s, hkc, hkn, hkl, fmap_cg (l := l.take 3) (h := kyl T d) (fun x hx' => kyl_fr (fun q hq => (hx x (List.mem_of_mem_take hx') q hq).2)), fmap_cg (l := l.drop 3) (h := kyl T d) (fun x hx' => kyl_fr (fun q hq => (hx x (List.mem_of_mem_drop hx') q hq).2)), ← List.flatMap_append, List.take_append_drop]
/-- the second page taken for a new root -/
theorem fr_ex2 {K O W : Nat → Prop} {T : Nat → Nd} {r d n : Nat} (hz : ZS K O W T r d [] r) (h5 : nlen (T r) = 5) (hK : cov K 600) (hn : frR K W T [r] n) (hb : wsm T one1 d r ≤ 110) : ∃ m, frR K (addS W n) (upT (upT T n (nDrop (T r) 3)) r (nTake (T r) 3)) [r, n] m := by
  obtain ⟨z1, z2, z3, z4, z5, z6, z7, z8⟩ := hz
  have z3 : ∀ q, wsm T (dl q) d r ≤ 1 := fun q => by have h9 : 0 + wsm T (dl q) d r ≤ 1 := z3 q; omega
  have z4 : ∀ q, W q → 1 ≤ wsm T (dl q) d r := fun q hq => by have h9 : 1 ≤ 0 + wsm T (dl q) d r := z4 q hq; omega
  have z5 : ∀ q, 1 ≤ wsm T (dl q) d r → W q ∨ (K q ∧ O q) := fun q hq => z5 q (by show 1 ≤ 0 + _; omega)
  have hv := hn.1.2.1
  have hrn : r ≠ n := fun h => hv (h ▸ Or.inr z6)
  obtain ⟨f1, f2, f3, -⟩ := half (U' := fun q => K q ∨ addS W n q) (T' := upT (upT T n (nDrop (T r) 3)) r (nTake (T r) 3)) (n := n) z2 h5 (z3 r) (upT_s _ _ _) (by rw [upT_n (Ne.symm hrn), upT_s]) (Or.inr (Or.inr z6)) (Or.inr (Or.inl rfl)) (fun q hq hqr => ⟨(z5 q hq).elim (fun h => Or.inr (Or.inr h)) (fun h => Or.inl h.1), by
    have g : q ≠ n := fun h => hv (h ▸ (z5 q hq).elim Or.inr (fun h => Or.inl h.1))
    rw [upT_n hqr, upT_n g]⟩)
  obtain ⟨LK, hl, hm⟩ := hK
  obtain ⟨m, hm2⟩ := frs_ex (K := K) (W := addS W n) ⟨n :: (LK ++ bfs T d [r]), by
    rw [List.length_cons, List.length_append, bfs_len]
    omega, fun q hq => by
      rcases hq with h | h | h
      · exact List.mem_cons_of_mem _ (List.mem_append_left _ (hm q h))
      · rw [h]; exact List.mem_cons_self
      · exact List.mem_cons_of_mem _ (List.mem_append_right _ (in_bfs (z4 q h)))⟩
  refine ⟨m, hm2, fun q => ?_⟩
  have R1 := in_Rch (fl_dpt f1) q
  have R2 := in_Rch (fl_dpt f2) q
  have e := f3 (dl q)
  constructor
  · rintro (h | h | h)
    · exact Or.inl h
    · exact Or.inr ⟨n, by simp, by rw [h]; exact Rch_self⟩
    · have h1 := z4 q h
      by_cases h2 : inP (upT (upT T n (nDrop (T r) 3)) r (nTake (T r) 3)) d r q
      · exact Or.inr ⟨r, by simp, R1.mp h2⟩
      · refine Or.inr ⟨n, by simp, R2.mp ?_⟩
        unfold inP at h2 ⊢
        omega
  · rintro (h | ⟨r', hr, h⟩)
    · exact Or.inl h
    · have h1 : 1 ≤ wsm T (dl q) d r + dl q n := by
        rcases List.mem_cons.mp hr with rfl | hr
        · have := R1.mpr h
          unfold inP at this
          omega
        · rw [List.mem_singleton.mp hr] at h
          have := R2.mpr h
          unfold inP at this
          omega
      by_cases hqn : q = n
      · exact Or.inr (Or.inl hqn)
      · have h0 : dl q n = 0 := dl_n (Ne.symm hqn)
        exact (z5 q (by omega)).elim (fun h => Or.inr (Or.inr h)) (fun h => Or.inl h.1)
theorem flat2 (g : Nat → List (Nat × Int32)) (a b : Nat) : [a, b].flatMap g = g a ++ g b := by simp
theorem smN_2 (g : Nat → Nat) (a b : Nat) : smN g [a, b] = g a + g b := by rw [smN_cons, smN_1]
theorem up_ex {K O : Nat → Prop} (hK : cov K 600) : ∀ (rp : List (Nat × Nat)) (d : Nat) (T : Nat → Nd) (W : Nat → Prop) (r cur : Nat), ZS K O W T r d rp cur → nlen (T cur) ≤ 5 → (0 < d ∨ rp ≠ [] → 2 ≤ nlen (T cur)) → d + rp.length ≤ 6 → cxW T one1 d rp + wsm T one1 d cur + rp.length ≤ 108 →
    ∃ T' W' r' d', upR K r rp cur T W T' W' r' ∧ GT K O W' T' d' r' ∧ kyl T' d' r' = cxA T d rp ++ kyl T d cur ++ cxB T d rp ∧ ∀ q, K q → T' q = T q
  | [], d, T, W, r, cur, hz, h5, h2, hd, hb => by
    by_cases h4 : nlen (T cur) ≤ 4
    · obtain ⟨g1, g2⟩ := zs_close hz h4 h2
      exact ⟨T, W, r, _, ⟨hz.2.2.2.2.2.1, Or.inl ⟨h4, rfl, rfl, rfl⟩⟩, g1, g2, fun q _ => rfl⟩
    · have h55 : nlen (T cur) = 5 := by omega
      have hcr : cur = r := hz.1
      subst hcr
      obtain ⟨n, hn⟩ := fr_ex hz hK (by simp at hb; omega)
      have hb1 : wsm T one1 d cur ≤ 110 := by omega
      obtain ⟨m, hm⟩ := fr_ex2 hz h55 hK hn hb1
      obtain ⟨z1, z2, z3, z4, z5, z6, z7, z8⟩ := hz
      have z3' : ∀ q, wsm T (dl q) d cur ≤ 1 := fun q => by have h9 : 0 + wsm T (dl q) d cur ≤ 1 := z3 q; omega
      have z4' : ∀ q, W q → 1 ≤ wsm T (dl q) d cur := fun q hq => by have h9 : 1 ≤ 0 + wsm T (dl q) d cur := z4 q hq; omega
      have z5' : ∀ q, 1 ≤ wsm T (dl q) d cur → W q ∨ (K q ∧ O q) := fun q hq => z5 q (by show 1 ≤ 0 + _; omega)
      have hv := hn.1.2.1
      have hv2 := hm.1.2.1
      have hcn : cur ≠ n := fun h => hv (h ▸ Or.inr z6)
      have hcm : cur ≠ m := fun h => hv2 (h ▸ Or.inr (Or.inr z6))
      have hnm : n ≠ m := fun h => hv2 (h ▸ Or.inr (Or.inl rfl))
      have hU : ∀ q, inP T d cur q → K q ∨ W q := fun q hq => (z5' q hq).elim Or.inr (fun h => Or.inl h.1)
      have hqn : ∀ q, K q ∨ W q → q ≠ n := fun q hq h => hv (h ▸ hq)
      have hqm : ∀ q, K q ∨ W q → q ≠ m := fun q hq h => hv2 (h ▸ hq.imp id Or.inr)
      let T3 : Nat → Nd := upT (upT (upT T n (nDrop (T cur) 3)) cur (nTake (T cur) 3)) m (.inr [cur, n])
      have t1 : T3 cur = nTake (T cur) 3 := by show upT _ _ _ _ = _; rw [upT_n hcm, upT_s]
      have t2 : T3 n = nDrop (T cur) 3 := by show upT _ _ _ _ = _; rw [upT_n hnm, upT_n (Ne.symm hcn), upT_s]
      have t3 : T3 m = .inr [cur, n] := upT_s _ _ _
      have t4 : ∀ q, K q ∨ W q → q ≠ cur → T3 q = T q := fun q hq hqc => by show upT _ _ _ _ = _; rw [upT_n (hqm q hq), upT_n hqc, upT_n (hqn q hq)]
      obtain ⟨f1, f2, f3, f4⟩ := half (U' := fun q => K q ∨ addS (addS W n) m q) (T' := T3) (n := n) z2 h55 (z3' cur) t1 t2 (Or.inr (Or.inr (Or.inr z6))) (Or.inr (Or.inr (Or.inl rfl))) (fun q hq hqr => ⟨(hU q hq).imp id (fun h => Or.inr (Or.inr h)), t4 q (hU q hq) hqr⟩)
      have hk3 : kids (T3 m) = [cur, n] := by rw [t3]; rfl
      have hw : ∀ f, wsm T3 f (d + 1) m = f m + (wsm T f d cur + f n) := fun f => by rw [wsm_s, hk3, smN_2, f3]
      refine ⟨T3, addS (addS W n) m, m, d + 1, ⟨z6, Or.inr ⟨h55, rfl, kyOk_5 z2 (by omega) (by omega), kyOk_5 z2 (by omega) (by omega), n, m, hn, hm, rfl, rfl, rfl⟩⟩, ⟨?_, fun q => ?_, fun q hq => ?_, fun q hq => ?_, fun q hq h => ?_⟩, ?_, fun q hq => t4 q (Or.inl hq) (fun h => z8 q hq (h ▸ z6))⟩
      · exact ⟨Or.inr (Or.inl rfl), [cur, n], t3, by simp, by simp, fun x hx => by
          rcases List.mem_cons.mp hx with rfl | hx
          · exact f1
          · rw [List.mem_singleton.mp hx]
            exact f2⟩
      · rw [hw]
        have e0 := z3' q
        have e1 := dl_le q m
        have e2 := dl_le q n
        by_cases h1 : q = m
        · have e3 : ¬ 1 ≤ wsm T (dl q) d cur := fun h => hqm q (hU q h) h1
          have e4 : dl q n = 0 := dl_n (fun h => hnm (h.trans h1))
          omega
        · have e4 : dl q m = 0 := dl_n (Ne.symm h1)
          by_cases h2 : q = n
          · have e3 : ¬ 1 ≤ wsm T (dl q) d cur := fun h => hqn q (hU q h) h2
            omega
          · have e5 : dl q n = 0 := dl_n (Ne.symm h2)
            omega
      · unfold inP
        rw [hw]
        rcases hq with rfl | rfl | h
        · rw [dl_s]; omega
        · rw [dl_s]; omega
        · have := z4' q h
          omega
      · unfold inP at hq
        rw [hw] at hq
        by_cases h1 : q = m
        · exact Or.inl (Or.inl h1)
        · have e4 : dl q m = 0 := dl_n (Ne.symm h1)
          by_cases h2 : q = n
          · exact Or.inl (Or.inr (Or.inl h2))
          · have e5 : dl q n = 0 := dl_n (Ne.symm h2)
            exact (z5' q (by omega)).imp (fun h => Or.inr (Or.inr h)) id
      · rcases h with h | h | h
        · exact hqm q (Or.inl hq) h
        · exact hqn q (Or.inl hq) h
        · exact z8 q hq h
      · rw [kyl_s, hk3, flat2, f4]
        simp [cxA, cxB]
  | (q0, e) :: rp, d, T, W, r, cur, hz, h5, h2, hd, hb => by
    by_cases h4 : nlen (T cur) ≤ 4
    · obtain ⟨g1, g2⟩ := zs_close hz h4 h2
      exact ⟨T, W, r, _, ⟨hz.2.2.2.2.2.1, Or.inl ⟨h4, rfl, rfl, rfl⟩⟩, g1, g2, fun q _ => rfl⟩
    · have h55 : nlen (T cur) = 5 := by omega
      obtain ⟨n, hn⟩ := fr_ex hz hK (by simp at hb; omega)
      obtain ⟨⟨zu, ⟨l, hl, l2, l4, hx, hs⟩, z1⟩, z2, z3, z4, z5, z6, z7, z8⟩ := hz
      have hv := hn.1.2.1
      have he : e < l.length := (List.getElem?_eq_some_iff.mp hx).1
      have hkl : kids (T q0) = l := by rw [hl]; rfl
      have hcw : ∀ f, cxW T f d ((q0, e) :: rp) = f q0 + smN (wsm T f d) (l.take e) + smN (wsm T f d) (l.drop (e + 1)) + cxW T f (d + 1) rp := fun f => by rw [cxW_c, hkl]
      have hU : ∀ q, 1 ≤ cxW T (dl q) d ((q0, e) :: rp) + wsm T (dl q) d cur → K q ∨ W q := fun q hq => (z5 q hq).elim Or.inr (fun h => Or.inl h.1)
      have hqn : ∀ q, K q ∨ W q → q ≠ n := fun q hq h => hv (h ▸ hq)
      have hq0d : ∀ q, q = q0 → dl q q0 = 1 := fun q h => by rw [h]; exact dl_s q0
      have hcd : ∀ q, q = cur → 1 ≤ wsm T (dl q) d cur := fun q h => by rw [h]; exact in_self T d cur
      have hq0c : q0 ≠ cur := fun h => by
        have e1 := z3 q0
        rw [hcw, dl_s] at e1
        have e2 := hcd q0 h
        omega
      have hWq0 : W q0 := z7 (q0, e) List.mem_cons_self
      let T2 : Nat → Nd := upT (upT (upT T n (nDrop (T cur) 3)) cur (nTake (T cur) 3)) q0 (.inr (l.take (e + 1) ++ n :: l.drop (e + 1)))
      have hq0n : q0 ≠ n := hqn q0 (Or.inr hWq0)
      have hcn : cur ≠ n := hqn cur (Or.inr z6)
      have t1 : T2 cur = nTake (T cur) 3 := by show upT _ _ _ _ = _; rw [upT_n (Ne.symm hq0c), upT_s]
      have t2 : T2 n = nDrop (T cur) 3 := by show upT _ _ _ _ = _; rw [upT_n (Ne.symm hq0n), upT_n (Ne.symm hcn), upT_s]
      have t3 : T2 q0 = .inr (l.take (e + 1) ++ n :: l.drop (e + 1)) := upT_s _ _ _
      have t4 : ∀ q, K q ∨ W q → q ≠ cur → q ≠ q0 → T2 q = T q := fun q hq h1 h2 => by show upT _ _ _ _ = _; rw [upT_n h2, upT_n h1, upT_n (hqn q hq)]
      have hUU : ∀ q, K q ∨ W q → K q ∨ addS W n q := fun q hq => hq.imp id Or.inr
      have fC : ∀ q, inC T (d + 1) rp q → (K q ∨ addS W n q) ∧ T2 q = T q := fun q hq => by
        unfold inC at hq
        have e0 := z3 q
        rw [hcw] at e0
        have hu := hU q (by rw [hcw]; omega)
        exact ⟨hUU q hu, t4 q hu (fun h => by have := hcd q h; omega) (fun h => by have := hq0d q h; omega)⟩
      have fS : ∀ x, (x ∈ l.take e ∨ x ∈ l.drop (e + 1)) → ∀ q, inP T d x q → (K q ∨ addS W n q) ∧ T2 q = T q := fun x hx q hq => by
        unfold inP at hq
        have e0 := z3 q
        rw [hcw] at e0
        have e1 : 1 ≤ smN (wsm T (dl q) d) (l.take e) + smN (wsm T (dl q) d) (l.drop (e + 1)) := by
          rcases hx with hx | hx
          · have := smN_mem (wsm T (dl q) d) hx
            omega
          · have := smN_mem (wsm T (dl q) d) hx
            omega
        have hu := hU q (by rw [hcw]; omega)
        exact ⟨hUU q hu, t4 q hu (fun h => by have := hcd q h; omega) (fun h => by have := hq0d q h; omega)⟩
      have fB : ∀ q, inP T d cur q → q ≠ cur → (K q ∨ addS W n q) ∧ T2 q = T q := fun q hq h1 => by
        unfold inP at hq
        have e0 := z3 q
        rw [hcw] at e0
        have hu := hU q (by omega)
        exact ⟨hUU q hu, t4 q hu h1 (fun h => by have := hq0d q h; omega)⟩
      obtain ⟨f1, f2, f3, f4⟩ := half (U' := fun q => K q ∨ addS W n q) (T' := T2) (n := n) z2 h55 (by have := z3 cur; omega) t1 t2 (Or.inr (Or.inr z6)) (Or.inr (Or.inl rfl)) fB
      have hk2 : kids (T2 q0) = l.take (e + 1) ++ n :: l.drop (e + 1) := by rw [t3]; rfl
      have htk : l.take (e + 1) = l.take e ++ [cur] := by
        rw [List.take_succ, hx]
        rfl
      have sT : ∀ f, smN (wsm T2 f d) (l.take e) = smN (wsm T f d) (l.take e) := fun f => smN_cg (fun x hx => wsm_fr f (fun q hq => (fS x (Or.inl hx) q hq).2))
      have sD : ∀ f, smN (wsm T2 f d) (l.drop (e + 1)) = smN (wsm T f d) (l.drop (e + 1)) := fun f => smN_cg (fun x hx => wsm_fr f (fun q hq => (fS x (Or.inr hx) q hq).2))
      have hw : ∀ f, cxW T2 f (d + 1) rp + wsm T2 f (d + 1) q0 = cxW T f d ((q0, e) :: rp) + wsm T f d cur + f n := fun f => by
        have e1 := f3 f
        rw [wsm_s, hk2, htk, smN_app, smN_app, smN_1, smN_cons, sT, sD, cxW_fr f (fun q hq => (fC q hq).2), hcw]
        omega
      have hlen : (l.take (e + 1) ++ n :: l.drop (e + 1)).length = l.length + 1 := by
        rw [List.length_append, List.length_cons, List.length_take, List.length_drop]
        omega
      have hz2 : ZS K O (addS W n) T2 r (d + 1) rp q0 := by
        refine ⟨cxS_fr z1 fC, ⟨Or.inr (Or.inr hWq0), _, t3, fun x hx => ?_⟩, fun q => ?_, fun q hq => ?_, fun q hq => ?_, Or.inr hWq0, fun x hx => Or.inr (z7 x (List.mem_cons_of_mem _ hx)), fun q hq h => ?_⟩
        · rw [htk] at hx
          have hsib : ∀ x, x ∈ l.take e ∨ x ∈ l.drop (e + 1) → fl T2 (fun q => K q ∨ addS W n q) d x := fun x hx => by
            have : ∃ j, j ≠ e ∧ l[j]? = some x := by
              rcases hx with hx | hx
              · obtain ⟨j, hj⟩ := List.getElem?_of_mem hx
                have hje : j < (l.take e).length := (List.getElem?_eq_some_iff.mp hj).1
                rw [List.length_take] at hje
                rw [List.getElem?_take_of_lt (by omega)] at hj
                exact ⟨j, by omega, hj⟩
              · obtain ⟨j, hj⟩ := List.getElem?_of_mem hx
                rw [List.getElem?_drop] at hj
                exact ⟨e + 1 + j, by omega, hj⟩
            obtain ⟨j, hje, hj⟩ := this
            exact fl_fr (hs j x hje hj) (fS x hx)
          rcases List.mem_append.mp hx with hx | hx
          · rcases List.mem_append.mp hx with hx | hx
            · exact hsib x (Or.inl hx)
            · rw [List.mem_singleton.mp hx]
              exact f1
          · rcases List.mem_cons.mp hx with rfl | hx
            · exact f2
            · exact hsib x (Or.inr hx)
        · rw [hw]
          have e0 := z3 q
          have e1 := dl_le q n
          by_cases h1 : q = n
          · have e3 : ¬ 1 ≤ cxW T (dl q) d ((q0, e) :: rp) + wsm T (dl q) d cur := fun h => hqn q (hU q h) h1
            omega
          · have e4 : dl q n = 0 := dl_n (Ne.symm h1)
            omega
        · rw [hw]
          rcases hq with rfl | h
          · rw [dl_s]; omega
          · have := z4 q h
            omega
        · rw [hw] at hq
          by_cases h1 : q = n
          · exact Or.inl (Or.inl h1)
          · have e4 : dl q n = 0 := dl_n (Ne.symm h1)
            exact (z5 q (by omega)).imp Or.inr id
        · rcases h with h | h
          · exact hqn q (Or.inl hq) h
          · exact z8 q hq h
      have hnl2 : nlen (T2 q0) = l.length + 1 := by rw [t3]; exact hlen
      rw [List.length_cons] at hd hb
      obtain ⟨T', W', r', d', u1, u2, u3, u4⟩ := up_ex hK rp (d + 1) T2 (addS W n) r q0 hz2 (by omega) (fun _ => by omega) (by omega) (by
        have e1 := hw one1
        have e2 : one1 n = 1 := rfl
        omega)
      refine ⟨T', W', r', d', ⟨z6, Or.inr ⟨h55, kyOk_5 z2 (by omega) (by omega), kyOk_5 z2 (by omega) (by omega), n, l, hn, hl, hq0c, hWq0, l4, he, u1⟩⟩, u2, ?_, fun q hq => (u4 q hq).trans (t4 q (Or.inl hq) (fun h => z8 q hq (h ▸ z6)) (fun h => z8 q hq (h ▸ hWq0)))⟩
      have e1 : (l.take e).flatMap (kyl T2 d) = (l.take e).flatMap (kyl T d) := fmap_cg (fun x hx => kyl_fr (fun q hq => (fS x (Or.inl hx) q hq).2))
      have e2 : (l.drop (e + 1)).flatMap (kyl T2 d) = (l.drop (e + 1)).flatMap (kyl T d) := fmap_cg (fun x hx => kyl_fr (fun q hq => (fS x (Or.inr hx) q hq).2))
      rw [u3, kyl_s, hk2, htk, cxA_fr (fun q hq => (fC q hq).2), cxB_fr (fun q hq => (fC q hq).2), cxA_c, cxB_c, hkl, ← f4]
      simp only [List.flatMap_append, List.flatMap_cons, List.flatMap_nil, List.append_nil, List.append_assoc, e1, e2]
