/-! THE WAY WRITTEN: it can be, and what it leaves -/
/-- the batch's tree is good -/
def GT (K O W : Nat → Prop) (T : Nat → Nd) (d r : Nat) : Prop := rt T (fun q => K q ∨ W q) d r ∧ (∀ q, wsm T (dl q) d r ≤ 1) ∧ (∀ q, W q → inP T d r q) ∧ (∀ q, inP T d r q → W q ∨ (K q ∧ O q)) ∧ ∀ q, K q → ¬ W q
theorem zs_root {K O W : Nat → Prop} {T : Nat → Nd} {d r : Nat} (h : GT K O W T d r) (hK : cov K 600) (hb : wsm T one1 d r ≤ 115) : ∃ r1 T1 W1, wnR K T W r r r1 T1 W1 ∧ ZS K O W1 T1 r1 d [] r1 ∧ T1 r1 = T r ∧ (∀ q, K q ∨ W q → T1 q = T q) ∧ kyl T1 d r1 = kyl T d r ∧ wsm T1 one1 d r1 = wsm T one1 d r := by
  obtain ⟨hr, h1, h2, h3, h4⟩ := h
  have hur : K r ∨ W r := rt_U hr
  by_cases hW : W r
  · exact ⟨r, T, W, ⟨hur, Or.inl ⟨hW, rfl, rfl, rfl⟩⟩, ⟨rfl, (rt_sb hr).1, fun q => by show 0 + _ ≤ 1; rw [Nat.zero_add]; exact h1 q, fun q hq => by show 1 ≤ 0 + _; rw [Nat.zero_add]; exact h2 q hq, fun q hq => h3 q (by unfold inP; have h9 : 1 ≤ 0 + wsm T (dl q) d r := hq; omega), hW, fun x hx => absurd hx List.not_mem_nil, h4⟩, rfl, fun q _ => rfl, rfl, rfl⟩
  · obtain ⟨n, hn⟩ := fr_ex0 (K := K) (O := O) (W := W) (T := T) (r := r) (d := d) (rp := []) (cur := r) rfl (rt_sb hr).1 (fun q hq => by show 1 ≤ 0 + _; rw [Nat.zero_add]; exact h2 q hq) (fun q hq => h3 q (by unfold inP; have h9 : 1 ≤ 0 + wsm T (dl q) d r := hq; omega)) hK (by show 0 + _ ≤ 115; omega)
    have hv := hn.1.2.1
    have hne : ∀ q, K q ∨ W q → q ≠ n := fun q hq h => hv (h ▸ hq)
    have hfr : ∀ q, K q ∨ W q → upT T n (T r) q = T q := fun q hq => upT_n (hne q hq)
    have hU : ∀ q, inP T d r q → K q ∨ W q := fun q hq => (h3 q hq).elim Or.inr (fun h => Or.inl h.1)
    have c1 : ∀ f, wsm (upT T n (T r)) f d n + f r = wsm T f d r + f n := fun f => cp_wsm f (upT_s _ _ _) (fun q hq _ => hfr q (hU q hq)) (h1 r)
    refine ⟨n, upT T n (T r), addS W n, ⟨hur, Or.inr ⟨hW, hn, rfl, rfl⟩⟩, ⟨rfl, ?_, fun q => ?_, fun q hq => ?_, fun q hq => ?_, Or.inl rfl, fun x hx => absurd hx List.not_mem_nil, fun q hq h => ?_⟩, upT_s _ _ _, hfr, cp_kyl (upT_s _ _ _) (fun q hq _ => hfr q (hU q hq)) (h1 r), ?_⟩
    · exact cp_sb (rt_sb hr).1 (upT_s _ _ _) (Or.inr (Or.inl rfl)) (fun q hq _ => ⟨(hU q hq).imp id Or.inr, hfr q (hU q hq)⟩) (h1 r)
    · show 0 + _ ≤ 1
      have e1 := c1 (dl q)
      have e2 := h1 q
      by_cases hq : q = n
      · have e3 : ¬ 1 ≤ wsm T (dl q) d r := fun h => hv (hq ▸ hU q h)
        have e4 := dl_le q n
        omega
      · have e3 : dl q n = 0 := dl_n (Ne.symm hq)
        omega
    · show 1 ≤ 0 + _
      have e1 := c1 (dl q)
      by_cases hq1 : q = n
      · have e4 := in_self (upT T n (T r)) d n
        unfold inP at e4
        rw [hq1]
        omega
      · have hWq := hq.resolve_left hq1
        have e2 := h2 q hWq
        unfold inP at e2
        have e3 : dl q r = 0 := dl_n (fun h => hW (h ▸ hWq))
        omega
    · have hq : 1 ≤ 0 + wsm (upT T n (T r)) (dl q) d n := hq
      have e1 := c1 (dl q)
      by_cases hq1 : q = n
      · exact Or.inl (Or.inl hq1)
      · have e3 : dl q n = 0 := dl_n (Ne.symm hq1)
        exact (h3 q (by unfold inP; omega)).imp Or.inr id
    · rcases h with h | h
      · exact hv (Or.inl (h ▸ hq))
      · exact h4 q hq h
    · have e1 := c1 one1
      have e2 : one1 r = 1 := rfl
      have e3 : one1 n = 1 := rfl
      omega
theorem efr_cg {T T' : Nat → Nd} {d : Nat} {key : Int32} : ∀ {l : List Nat}, (∀ c ∈ l, mkT T' d c = mkT T d c) → efr T' d l key = efr T d l key
  | [], _ => rfl
  | c :: l, h => by
    simp only [efr]
    rw [h c List.mem_cons_self, efr_cg (fun x hx => h x (List.mem_cons_of_mem _ hx))]
theorem zs_step {K O W : Nat → Prop} {T : Nat → Nd} {r d : Nat} {rp : List (Nat × Nat)} {p e c : Nat} {l : List Nat} (hz : ZS K O W T r (d + 1) rp p) (hl : T p = .inr l) (h2 : 2 ≤ l.length) (h4 : l.length ≤ 4) (hx : l[e]? = some c) (hK : cov K 600) (hb : cxW T one1 (d + 1) rp + wsm T one1 (d + 1) p ≤ 115) : ∃ c' T1 W1, wnR K T W r c c' T1 W1 ∧ ZS K O W1 (upT T1 p (.inr (l.set e c'))) r d ((p, e) :: rp) c' ∧ cxW (upT T1 p (.inr (l.set e c'))) one1 d ((p, e) :: rp) + wsm (upT T1 p (.inr (l.set e c'))) one1 d c' = cxW T one1 (d + 1) rp + wsm T one1 (d + 1) p ∧ cxA (upT T1 p (.inr (l.set e c'))) d ((p, e) :: rp) = cxA T (d + 1) rp ++ (l.take e).flatMap (kyl T d) ∧ cxB (upT T1 p (.inr (l.set e c'))) d ((p, e) :: rp) = (l.drop (e + 1)).flatMap (kyl T d) ++ cxB T (d + 1) rp ∧ kyl (upT T1 p (.inr (l.set e c'))) d c' = kyl T d c ∧ (∀ q, inP T d c q → q ≠ c → upT T1 p (.inr (l.set e c')) q = T q) ∧ upT T1 p (.inr (l.set e c')) c' = T c ∧ ∀ q, K q → upT T1 p (.inr (l.set e c')) q = T q := by
  have hk : kids (T p) = l := by rw [hl]; rfl
  have hcm := List.mem_of_getElem? hx
  have hWp : W p := hz.2.2.2.2.2.1
  have hp1 : wsm T (dl p) (d + 1) p ≤ 1 := by have := hz.2.2.1 p; omega
  have hcp : c ≠ p := below_ne hp1 (hk ▸ hcm) (in_self T d c)
  have huc : K c ∨ W c := by
    obtain ⟨-, l', hl', hf⟩ := hz.2.1
    rw [hl] at hl'
    cases hl'
    exact fl_U (hf c hcm)
  by_cases hWc : W c
  · obtain ⟨a1, a2, a3, a4, a5, a6⟩ := zs_down (c' := c) (W1 := W) (T2 := upT T p (.inr (l.set e c))) hz hl h2 h4 hx (Or.inl ⟨rfl, hWc, rfl⟩) (upT_s _ _ _) (upT_n hcp) (fun q h _ => upT_n h)
    have h1 := a2 one1
    have e1 : one1 c = 1 := rfl
    exact ⟨c, T, W, ⟨huc, Or.inl ⟨hWc, rfl, rfl, rfl⟩⟩, a1, by omega, a3, a4, a5, a6, upT_n hcp, fun q hq => upT_n (fun h => hz.2.2.2.2.2.2.2 q hq (h ▸ hWp))⟩
  · obtain ⟨n, hn⟩ := fr_ex hz hK hb
    have hv := hn.1.2.1
    have hnp : n ≠ p := fun h => hv (h ▸ Or.inr hWp)
    have hcc : upT (upT T n (T c)) p (.inr (l.set e n)) n = T c := by rw [upT_n hnp, upT_s]
    obtain ⟨a1, a2, a3, a4, a5, a6⟩ := zs_down (c' := n) (W1 := addS W n) (T2 := upT (upT T n (T c)) p (.inr (l.set e n))) hz hl h2 h4 hx (Or.inr ⟨hv, hWc, rfl⟩) (upT_s _ _ _) hcc (fun q h h' => by rw [upT_n h, upT_n h'])
    have h1 := a2 one1
    have e1 : one1 c = 1 := rfl
    have e2 : one1 n = 1 := rfl
    exact ⟨n, upT T n (T c), addS W n, ⟨huc, Or.inr ⟨hWc, hn, rfl, rfl⟩⟩, a1, by omega, a3, a4, a5, a6, hcc, fun q hq => by
      have g1 : q ≠ p := fun h => hz.2.2.2.2.2.2.2 q hq (h ▸ hWp)
      have g2 : q ≠ n := fun h => hv (h ▸ Or.inl hq)
      rw [upT_n g1, upT_n g2]⟩
theorem dn_ex {K O : Nat → Prop} {r k : Nat} {T0 : Nat → Nd} {U0 : Nat → Prop} (hk : k < 100) (hK : cov K 600) : ∀ (d : Nat) (T : Nat → Nd) (W : Nat → Prop) (p : Nat) (rp : List (Nat × Nat)) (p0 : Nat), ZS K O W T r d rp p → T p = T0 p0 → (∀ q, inP T0 d p0 q → q ≠ p0 → T q = T0 q) → rt T0 U0 d p0 → (∀ q, wsm T0 (dl q) d p0 ≤ 1) → Srt (kyl T0 d p0) → k100 (kyl T0 d p0) → cxW T one1 d rp + wsm T one1 d p ≤ 115 →
    ∃ T' W' P lf l, dnR K r (nI k) d T W p T' W' P lf ∧ ZS K O W' T' r 0 (P.reverse ++ rp) lf ∧ T' lf = .inl l ∧ l.length ≤ 4 ∧ (0 < d → 2 ≤ l.length) ∧ (∃ P0, fdR T0 U0 (nI k) d p0 P0 (lfF T0 d p0 (nI k)) ∧ P0.map (fun x => x.2) = P.map (fun x => x.2) ∧ T0 (lfF T0 d p0 (nI k)) = .inl l) ∧ (∃ A B, cxA T' 0 (P.reverse ++ rp) = cxA T d rp ++ A ∧ cxB T' 0 (P.reverse ++ rp) = B ++ cxB T d rp ∧ kyl T0 d p0 = A ++ l ++ B ∧ (∀ x ∈ A, x.1 < k) ∧ (∀ x ∈ B, k < x.1)) ∧ (∀ q, K q → T' q = T q) ∧ cxW T' one1 0 (P.reverse ++ rp) + wsm T' one1 0 lf = cxW T one1 d rp + wsm T one1 d p ∧ P.length = d
  | 0, T, W, p, rp, p0, hz, hT, hf, ⟨hu0, l, hl0, h4⟩, hm, hs, h1, hb => by
    have hl : T p = .inl l := hT.trans hl0
    refine ⟨T, W, [], p, l, ⟨rfl, rfl, rfl, rfl, hz.2.2.2.2.2.1, l, hl, h4⟩, hz, hl, h4, fun h => absurd h (Nat.lt_irrefl 0), ⟨[], ⟨rfl, rfl, hu0, l, hl0⟩, rfl, hl0⟩, ⟨[], [], by simp, by simp, by rw [kyl_0, hl0]; simp [lvE], fun x hx => absurd hx List.not_mem_nil, fun x hx => absurd hx List.not_mem_nil⟩, fun q _ => rfl, rfl, rfl⟩
  | d + 1, T, W, p, rp, p0, hz, hT, hf, ⟨hu0, l, hl0, h2, h4, hfl⟩, hm, hs, h1, hb => by
    have hl : T p = .inr l := hT.trans hl0
    have hk0 : kids (T0 p0) = l := by rw [hl0]; rfl
    have hm1 : wsm T0 (dl p0) (d + 1) p0 ≤ 1 := hm p0
    have hTc : ∀ c ∈ l, ∀ q, inP T0 d c q → T q = T0 q := fun c hc q hq => hf q (in_kid (hk0 ▸ hc) hq) (below_ne hm1 (hk0 ▸ hc) hq)
    rw [kyl_s, hk0] at hs h1
    cases hl9 : l with
    | nil => rw [hl9] at h2; simp at h2
    | cons c0 rr =>
      rw [hl9] at hs h1 hfl
      obtain ⟨a1, a2, a3, a4, a5⟩ := srch hk rr c0 hfl hs h1
      have he0 : eix T0 d (c0 :: rr) (nI k) = efr T0 d rr (nI k) := rfl
      have he : eix T d (c0 :: rr) (nI k) = efr T0 d rr (nI k) := efr_cg (fun c hc => mkT_fr (hTc c (by rw [hl9]; exact List.mem_cons_of_mem _ hc)))
      have hlt : efr T0 d rr (nI k) < (c0 :: rr).length := by rw [List.length_cons]; omega
      obtain ⟨c, hc⟩ : ∃ c, (c0 :: rr)[efr T0 d rr (nI k)]? = some c := ⟨_, List.getElem?_eq_getElem hlt⟩
      have hcm := List.mem_of_getElem? hc
      have hmk : ∀ x ∈ c0 :: rr, mkT T0 d x < 100 := fun x hx => by
        obtain ⟨y, ry, ey, my⟩ := mk_first (hfl x hx)
        rw [my]
        exact h1 y (List.mem_flatMap.mpr ⟨x, hx, by rw [ey]; exact List.mem_cons_self⟩)
      rw [fmap_split hc] at hs h1
      rw [hl9] at hl h2 h4
      obtain ⟨c', T1, W1, w1, w2, w3, w4, w5, w6, w7, w8, w9⟩ := zs_step hz hl h2 h4 hc hK hb
      have hcp0 : c ≠ p0 := below_ne hm1 (by rw [hk0, hl9]; exact hcm) (in_self T0 d c)
      have hTcc : ∀ q, inP T0 d c q → T q = T0 q := hTc c (by rw [hl9]; exact hcm)
      have hmc : ∀ q, wsm T0 (dl q) d c ≤ 1 := fun q => by
        have e1 := hm q
        rw [wsm_s, hk0, hl9] at e1
        have e2 := smN_mem (wsm T0 (dl q) d) hcm
        omega
      obtain ⟨T', W', P, lf, lv, i1, i2, i3, i4, i4', ⟨P0, i5, i6, i7⟩, ⟨A, B, i8, i9, i10, i11, i12⟩, i13, i14, i15⟩ := dn_ex hk hK d _ W1 c' ((p, efr T0 d rr (nI k)) :: rp) c w2 (w8.trans (hTcc c (in_self T0 d c))) (fun q hq hqc => (w7 q (by unfold inP; rw [wsm_fr (T := T0) (T' := T) _ hTcc]; exact hq) hqc).trans (hTcc q hq)) (fl_rt (hfl c hcm)) hmc (Srt_app.mp (Srt_app.mp hs).1).2.1 (k100_app.mp (k100_app.mp h1).1).2 (by omega)
      have hlf : lfF T0 (d + 1) p0 (nI k) = lfF T0 d c (nI k) := by
        simp only [lfF, hl0, hl9, he0]
        congr 1
        rw [List.getD_eq_getElem?_getD, hc]
        rfl
      have hrev : ((p, efr T0 d rr (nI k)) :: P).reverse ++ rp = P.reverse ++ (p, efr T0 d rr (nI k)) :: rp := by simp
      have hflT : ∀ x ∈ c0 :: rr, fl T (fun q => K q ∨ W q) d x := by
        obtain ⟨-, l', hl', hfT⟩ := hz.2.1
        rw [hl] at hl'
        cases hl'
        exact hfT
      have hll : 2 ≤ lv.length := by
        by_cases hd : 0 < d
        · exact i4' hd
        · have hd0 : d = 0 := by omega
          subst hd0
          obtain ⟨-, lx, hlx, hx2, -⟩ := hfl c hcm
          have e9 : lfF T0 0 c (nI k) = c := rfl
          rw [e9, hlx] at i7
          cases i7
          exact hx2
      refine ⟨T', W', (p, efr T0 d rr (nI k)) :: P, lf, lv, ⟨hz.2.2.2.2.2.1, c0 :: rr, c, c', T1, W1, P, hl, by omega, h4, hflT, by rw [he]; exact hc, w1, by rw [he], by rw [he]; exact i1⟩, ?_, i3, i4, fun _ => hll, ⟨(p0, efr T0 d rr (nI k)) :: P0, ⟨hu0, c0 :: rr, efr T0 d rr (nI k), c, P0, by rw [hl0, hl9], hfl, hc, fun j x hj hx => ?_, ?_, rfl, by rw [hlf]; exact i5⟩, ?_, by rw [hlf]; exact i7⟩, ⟨((c0 :: rr).take (efr T0 d rr (nI k))).flatMap (kyl T0 d) ++ A, B ++ ((c0 :: rr).drop (efr T0 d rr (nI k) + 1)).flatMap (kyl T0 d), ?_, ?_, ?_, ?_, ?_⟩, fun q hq => (i13 q hq).trans (w9 q hq), ?_, by rw [List.length_cons, i15]⟩
      · rw [hrev]; exact i2
      · exact (nI_ltN hk (hmk x (List.mem_of_getElem? hx))).mpr (a3 j x hj hx)
      · rcases a2 with h0 | h0
        · exact Or.inl h0
        · exact Or.inr ((nI_leN (hmk c hcm) hk).mpr (h0 c hc))
      · rw [List.map_cons, List.map_cons, i6]
      · rw [hrev, i8, w4, List.append_assoc, fmap_cg (g := kyl T d) (h := kyl T0 d) (fun x hx => kyl_fr (hTc x (by rw [hl9]; exact List.mem_of_mem_take hx)))]
      · rw [hrev, i9, w5, ← List.append_assoc, fmap_cg (g := kyl T d) (h := kyl T0 d) (fun x hx => kyl_fr (hTc x (by rw [hl9]; exact List.mem_of_mem_drop hx)))]
      · rw [kyl_s, hk0, hl9, fmap_split hc, i10]
        simp only [List.append_assoc]
      · exact fun x hx => (List.mem_append.mp hx).elim (a4 x) (i11 x)
      · exact fun x hx => (List.mem_append.mp hx).elim (i12 x) (a5 x)
      · rw [hrev, i14, w3]
