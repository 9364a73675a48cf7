/-! DELETE: it can be done, and the tree is good again -/
theorem dlr_ex {K O : Nat → Prop} {r : Nat} (hK : cov K 600) : ∀ (rp : List (Nat × Nat)) (d : Nat) (T : Nat → Nd) (W : Nat → Prop) (cur : Nat), ZS K O W T r d rp cur → nlen (T cur) ≤ 4 → (0 < d ∨ rp ≠ [] → 1 ≤ nlen (T cur)) → d + rp.length ≤ 6 → cxW T one1 d rp + wsm T one1 d cur ≤ 115 →
    ∃ T' W', dlR K r rp cur T W T' W' ∧ ZS K O W' T' r (d + rp.length) [] r ∧ nlen (T' r) ≤ 4 ∧ (0 < d + rp.length → 1 ≤ nlen (T' r)) ∧ kyl T' (d + rp.length) r = cxA T d rp ++ kyl T d cur ++ cxB T d rp ∧ ∀ q, K q → T' q = T q
  | [], d, T, W, cur, hz, h4, h1, hd, hb => by
    have hcr : cur = r := hz.1
    subst hcr
    exact ⟨T, W, ⟨rfl, rfl⟩, hz, h4, fun h => h1 (Or.inl h), by show _ = [] ++ _ ++ []; rw [List.nil_append, List.append_nil]; rfl, fun q _ => rfl⟩
  | (q0, e) :: rp, d, T, W, cur, hz, h4, h1, hd, hb => by
    have h11 := h1 (Or.inr (by simp))
    rw [List.length_cons] at hd
    have ed : d + ((q0, e) :: rp).length = d + 1 + rp.length := by rw [List.length_cons]; omega
    rw [ed]
    by_cases h2 : nlen (T cur) < 2
    · obtain ⟨T1, W1, m1, m2, m3, m4, m5, m6, m7, m8⟩ := md_ex hz (by omega) hK (by omega) hb
      obtain ⟨T', W', i1, i2, i3, i4, i5, i6⟩ := dlr_ex hK rp (d + 1) T1 W1 q0 m3 m5 (fun _ => m4) (by omega) (by omega)
      exact ⟨T', W', ⟨hz.2.2.2.2.2.1, Or.inl ⟨h2, m2, T1, W1, m1, i1⟩⟩, i2, i3, i4, i5.trans m7, fun q hq => (i6 q hq).trans (m8 q hq)⟩
    · obtain ⟨z1, z2, z3, z4, z5, z6, z7, z8⟩ := hz
      obtain ⟨zu, ⟨l, hl, l2, l4, hx, hs⟩, z1⟩ := z1
      have hkl : kids (T q0) = l := by rw [hl]; rfl
      have hfc := sb_fl z2 (by omega) h4
      have hw : ∀ f, cxW T f (d + 1) rp + wsm T f (d + 1) q0 = cxW T f d ((q0, e) :: rp) + wsm T f d cur := fun f => by
        rw [cxW_c, hkl, wsm_s, hkl, smN_split _ hx]
        omega
      have hz2 : ZS K O W T r (d + 1) rp q0 := ⟨z1, ⟨zu, l, hl, fun x hx2 => by
        obtain ⟨j, hj⟩ := List.getElem?_of_mem hx2
        by_cases hje : j = e
        · rw [hje, hx] at hj
          cases hj
          exact hfc
        · exact hs j x hje hj⟩, fun q => by rw [hw]; exact z3 q, fun q hq => by rw [hw]; exact z4 q hq, fun q hq => z5 q (by rw [hw] at hq; exact hq), z7 (q0, e) List.mem_cons_self, fun x hx => z7 x (List.mem_cons_of_mem _ hx), z8⟩
      have hlq : nlen (T q0) = l.length := by rw [hl]; rfl
      obtain ⟨T', W', i1, i2, i3, i4, i5, i6⟩ := dlr_ex hK rp (d + 1) T W q0 hz2 (by omega) (fun _ => by omega) (by omega) (by rw [hw]; exact hb)
      refine ⟨T', W', ⟨z6, Or.inr ⟨by omega, i1⟩⟩, i2, i3, i4, ?_, i6⟩
      rw [i5, cxA_c, cxB_c, hkl, kyl_s, hkl, fmap_split hx]
      simp only [List.append_assoc]
theorem sh_ex {K O W : Nat → Prop} {T : Nat → Nd} {r d : Nat} (hz : ZS K O W T r d [] r) (h4 : nlen (T r) ≤ 4) (h1 : 0 < d → 1 ≤ nlen (T r)) : ∃ W' r' d', shR K T W r W' r' ∧ GT K O W' T d' r' ∧ kyl T d' r' = kyl T d r := by
  have hsm : (0 < d → 2 ≤ nlen (T r)) → (∀ c, T r ≠ .inr [c]) → ∃ W' r' d', shR K T W r W' r' ∧ GT K O W' T d' r' ∧ kyl T d' r' = kyl T d r := fun h2 hn => by
    obtain ⟨g1, g2⟩ := zs_close hz h4 (fun h => h.elim h2 (fun h => absurd rfl h))
    exact ⟨W, r, _, ⟨hz.2.2.2.2.2.1, Or.inr ⟨hn, rfl, rfl⟩⟩, g1, rfl⟩
  obtain ⟨z1, z2, z3, z4, z5, z6, z7, z8⟩ := hz
  cases d with
  | zero =>
    obtain ⟨-, l, hl⟩ := z2
    exact hsm (fun h => absurd h (Nat.lt_irrefl 0)) (fun c h => by rw [hl] at h; cases h)
  | succ d =>
    obtain ⟨hu, l, hl, hk⟩ := z2
    have hlr : nlen (T r) = l.length := by rw [hl]; rfl
    by_cases h2 : 2 ≤ nlen (T r)
    · exact hsm (fun _ => h2) (fun c h => by rw [hl] at h; cases h; simp at hlr; omega)
    · have h11 : l.length = 1 := by have := h1 (Nat.succ_pos d); omega
      obtain ⟨c, rfl⟩ := List.length_eq_one_iff.mp h11
      have hkl : kids (T r) = [c] := by rw [hl]; rfl
      have hfc := hk c List.mem_cons_self
      have hw : ∀ f, wsm T f (d + 1) r = f r + wsm T f d c := fun f => by rw [wsm_s, hkl, smN_1]
      have z3' : ∀ q, dl q r + wsm T (dl q) d c ≤ 1 := fun q => by have h9 : 0 + wsm T (dl q) (d + 1) r ≤ 1 := z3 q; rw [hw] at h9; omega
      have z4' : ∀ q, W q → 1 ≤ dl q r + wsm T (dl q) d c := fun q hq => by have h9 : 1 ≤ 0 + wsm T (dl q) (d + 1) r := z4 q hq; rw [hw] at h9; omega
      have z5' : ∀ q, 1 ≤ wsm T (dl q) d c → W q ∨ (K q ∧ O q) := fun q hq => z5 q (by show 1 ≤ 0 + _; rw [hw]; omega)
      have hnr : ∀ q, inP T d c q → q ≠ r := fun q hq h => by
        have e1 := z3' q
        subst h
        rw [dl_s] at e1
        unfold inP at hq
        omega
      refine ⟨rmS W r, c, d, ⟨z6, Or.inl ⟨c, hl, rfl, rfl⟩⟩, ⟨fl_rt (fl_fr hfc (fun q hq => ⟨(fl_in hfc hq).imp id (fun h => ⟨hnr q hq, h⟩), rfl⟩)), fun q => by have := z3' q; omega, fun q hq => ?_, fun q hq => (z5' q hq).imp (fun h => ⟨hnr q hq, h⟩) id, fun q hq h => z8 q hq h.2⟩, ?_⟩
      · have e1 := z4' q hq.2
        have e2 : dl q r = 0 := dl_n (Ne.symm hq.1)
        unfold inP
        omega
      · rw [kyl_s, hkl]
        simp
theorem del_ex {K O W : Nat → Prop} {T : Nat → Nd} {d r k : Nat} (hk : k < 100) (hg : GT K O W T d r) (hs : Srt (kyl T d r)) (h1 : k100 (kyl T d r)) (hK : cov K 600) {l0 : List (Nat × Int32)} (hl0 : T (lfF T d r (nI k)) = .inl l0) (hh : hld l0 (plc l0 (nI k)) (nI k)) : ∃ v, l0[plc l0 (nI k)]? = some (k, v) ∧ ∃ T' W' r' d', delR K T W r k v T' W' r' ∧ GT K O W' T' d' r' ∧ Srt (kyl T' d' r') ∧ k100 (kyl T' d' r') ∧ (kyl T' d' r').length + 1 = (kyl T d r).length ∧ (∀ q, K q → T' q = T q) ∧ (k, v) ∈ kyl T d r ∧ ∀ y, y ∈ kyl T' d' r' ↔ (y ∈ kyl T d r ∧ y.1 ≠ k) := by
  have hlen := Srt_100 hs h1
  have hd5 := rt_d5 hg.1 hlen
  have hpg := rt_pages hg.1 hlen
  have hUr : ∀ q, inP T d r q → K q ∨ W q := fun q hq => (hg.2.2.2.1 q hq).elim Or.inr (fun h => Or.inl h.1)
  obtain ⟨r1, T1, W1, w1, z1, t1, t2, t3, t4⟩ := zs_root hg hK (by omega)
  obtain ⟨T2, W2, P, lf, l, i1, i2, i3, i4, i4', ⟨P0, i5, i6, i7⟩, ⟨A, B, i8, i9, i10, i11, i12⟩, i13, i14, i15⟩ := dn_ex (U0 := fun q => K q ∨ W q) (T0 := T) hk hK d T1 W1 r1 [] r z1 t1 (fun q hq _ => t2 q (hUr q hq)) hg.1 hg.2.1 hs h1 (by show 0 + _ ≤ 115; omega)
  rw [hl0] at i7
  cases i7
  rw [List.append_nil] at i2 i8 i9 i14
  have i8 : cxA T2 0 P.reverse = A := i8
  have i9 : cxB T2 0 P.reverse = B := by rw [i9]; exact List.append_nil _
  have i14 : cxW T2 one1 0 P.reverse + wsm T2 one1 0 lf = 0 + wsm T1 one1 d r1 := i14
  have hPr : P.reverse.length = d := by rw [List.length_reverse, i15]
  rw [i10] at hs h1
  have hsl := srt_leaf hs
  have h1l := k100_leaf h1
  have hKT : ∀ q, K q → T2 q = T q := fun q hq => (i13 q hq).trans (t2 q (Or.inl hq))
  have hne : P.reverse ≠ [] → 2 ≤ l0.length := fun h => i4' (by
    cases d with
    | zero => exact absurd (List.length_eq_zero_iff.mp hPr) h
    | succ d => exact Nat.succ_pos d)
  obtain ⟨v0, hx⟩ := hld_key hk h1l hh
  have hpl : plc l0 (nI k) < l0.length := (List.getElem?_eq_some_iff.mp hx).1
  obtain ⟨a1, a2, a3, a4, a5, a6⟩ := zs_leaf i2 (l0.take (plc l0 (nI k)) ++ l0.drop (plc l0 (nI k) + 1))
  have hnl : nlen (upT T2 lf (.inl (l0.take (plc l0 (nI k)) ++ l0.drop (plc l0 (nI k) + 1))) lf) = l0.length - 1 := by
    rw [upT_s]
    simp only [nlen, List.length_append, List.length_take, List.length_drop]
    omega
  obtain ⟨T', W3, u1, u2, u3, u4, u5, u6⟩ := dlr_ex hK P.reverse 0 _ W2 lf a1 (by omega) (fun h => by
    rcases h with h | h
    · exact absurd h (Nat.lt_irrefl 0)
    · have := hne h
      omega) (by omega) (by
    have e1 := a4 one1
    have e2 : wsm (upT T2 lf (.inl (l0.take (plc l0 (nI k)) ++ l0.drop (plc l0 (nI k) + 1)))) one1 0 lf = 1 := rfl
    have e3 : wsm T2 one1 0 lf = 1 := rfl
    omega)
  obtain ⟨W', r', d', s1, s2, s3⟩ := sh_ex u2 u3 u4
  have hky : kyl T' d' r' = (A ++ l0.take (plc l0 (nI k))) ++ (l0.drop (plc l0 (nI k) + 1) ++ B) := by
    rw [s3, u5, a2, a3, a5, i8, i9]
    simp
  have hold : A ++ l0 ++ B = (A ++ l0.take (plc l0 (nI k))) ++ (k, v0) :: (l0.drop (plc l0 (nI k) + 1) ++ B) := by
    have e := list_split hx
    calc A ++ l0 ++ B = A ++ (l0.take (plc l0 (nI k)) ++ (k, v0) :: l0.drop (plc l0 (nI k) + 1)) ++ B := by rw [← e]
      _ = _ := by simp
  rw [hold] at hs h1
  refine ⟨v0, hx, T', W', r', d', ⟨d, r1, T1, W1, T2, W2, W3, P, lf, l0, by omega, hk, w1, i1, i3, ⟨P0, _, i5, i6, hl0⟩, hx, u1, s1⟩, s2, ?_, ?_, ?_, fun q hq => ((u6 q hq).trans (a6 q hq)).trans (hKT q hq), ?_, ?_⟩
  · rw [hky]
    exact (Srt_mid.mp hs).1
  · rw [hky]
    exact (k100_mid.mp h1).1
  · rw [hky, i10, hold]
    simp only [List.length_append, List.length_cons]
    omega
  · rw [i10, hold]
    exact List.mem_append_right _ List.mem_cons_self
  · rw [hky, i10, hold]
    obtain ⟨q1, q2, q3⟩ := Srt_mid.mp hs
    exact mem_del q2 q3
