/-! CONTEXTS: all of a tree but what stands below a page; a page free for the batch; one step down -/
def cxW (T : Nat → Nd) (f : Nat → Nat) : Nat → List (Nat × Nat) → Nat
  | _, [] => 0
  | d, (q, e) :: rp => f q + smN (wsm T f d) ((kids (T q)).take e) + smN (wsm T f d) ((kids (T q)).drop (e + 1)) + cxW T f (d + 1) rp
def cxA (T : Nat → Nd) : Nat → List (Nat × Nat) → List (Nat × Int32)
  | _, [] => []
  | d, (q, e) :: rp => cxA T (d + 1) rp ++ ((kids (T q)).take e).flatMap (kyl T d)
def cxB (T : Nat → Nd) : Nat → List (Nat × Nat) → List (Nat × Int32)
  | _, [] => []
  | d, (q, e) :: rp => ((kids (T q)).drop (e + 1)).flatMap (kyl T d) ++ cxB T (d + 1) rp
def cxS (T : Nat → Nd) (U : Nat → Prop) (r : Nat) : Nat → List (Nat × Nat) → Nat → Prop
  | _, [], cur => cur = r
  | d, (q, e) :: rp, cur => U q ∧ (∃ l, T q = .inr l ∧ 2 ≤ l.length ∧ l.length ≤ 4 ∧ l[e]? = some cur ∧ ∀ j x, j ≠ e → l[j]? = some x → fl T U d x) ∧ cxS T U r (d + 1) rp q
def inC (T : Nat → Nd) (d : Nat) (rp : List (Nat × Nat)) (q : Nat) : Prop := 1 ≤ cxW T (dl q) d rp
theorem cxW_c (T : Nat → Nd) (f : Nat → Nat) (d q e : Nat) (rp : List (Nat × Nat)) : cxW T f d ((q, e) :: rp) = f q + smN (wsm T f d) ((kids (T q)).take e) + smN (wsm T f d) ((kids (T q)).drop (e + 1)) + cxW T f (d + 1) rp := rfl
theorem cxA_c (T : Nat → Nd) (d q e : Nat) (rp : List (Nat × Nat)) : cxA T d ((q, e) :: rp) = cxA T (d + 1) rp ++ ((kids (T q)).take e).flatMap (kyl T d) := rfl
theorem cxB_c (T : Nat → Nd) (d q e : Nat) (rp : List (Nat × Nat)) : cxB T d ((q, e) :: rp) = ((kids (T q)).drop (e + 1)).flatMap (kyl T d) ++ cxB T (d + 1) rp := rfl
theorem cx_wsm {T : Nat → Nd} {U : Nat → Prop} {r : Nat} (f : Nat → Nat) : ∀ {rp : List (Nat × Nat)} {d cur : Nat}, cxS T U r d rp cur → wsm T f (d + rp.length) r = cxW T f d rp + wsm T f d cur
  | [], d, cur, h => by
    rw [show cur = r from h]
    show _ = 0 + _
    rw [Nat.zero_add]
    rfl
  | (q, e) :: rp, d, cur, h => by
    obtain ⟨hu, ⟨l, hl, h2, h4, hx, -⟩, h⟩ := h
    have hk : kids (T q) = l := by rw [hl]; rfl
    have ih := cx_wsm f h
    rw [show d + ((q, e) :: rp).length = d + 1 + rp.length by rw [List.length_cons]; omega, ih, wsm_s, hk, smN_split _ hx]
    rw [cxW_c, hk]
    omega
theorem cx_kyl {T : Nat → Nd} {U : Nat → Prop} {r : Nat} : ∀ {rp : List (Nat × Nat)} {d cur : Nat}, cxS T U r d rp cur → kyl T (d + rp.length) r = cxA T d rp ++ kyl T d cur ++ cxB T d rp
  | [], d, cur, h => by
    rw [show cur = r from h]
    simp [cxA, cxB]
  | (q, e) :: rp, d, cur, h => by
    obtain ⟨hu, ⟨l, hl, h2, h4, hx, -⟩, h⟩ := h
    have hk : kids (T q) = l := by rw [hl]; rfl
    have ih := cx_kyl h
    rw [show d + ((q, e) :: rp).length = d + 1 + rp.length by rw [List.length_cons]; omega, ih, kyl_s, hk, fmap_split hx]
    rw [cxA_c, cxB_c, hk]
    simp only [List.append_assoc]
theorem cx_dpt {T : Nat → Nd} {U : Nat → Prop} {r : Nat} : ∀ {rp : List (Nat × Nat)} {d cur : Nat}, cxS T U r d rp cur → dpt T d cur → dpt T (d + rp.length) r
  | [], d, cur, h, hd => by
    rw [← show cur = r from h]
    exact hd
  | (q, e) :: rp, d, cur, h, hd => by
    obtain ⟨hu, ⟨l, hl, h2, h4, hx, hs⟩, h⟩ := h
    rw [show d + ((q, e) :: rp).length = d + 1 + rp.length by rw [List.length_cons]; omega]
    refine cx_dpt h ⟨l, hl, fun c hc => ?_⟩
    obtain ⟨j, hj⟩ := List.getElem?_of_mem hc
    by_cases hje : j = e
    · rw [hje, hx] at hj
      cases hj
      exact hd
    · exact fl_dpt (hs j c hje hj)
theorem mem_side {l : List Nat} {e j x : Nat} (hj : j ≠ e) (hx : l[j]? = some x) : x ∈ l.take e ∨ x ∈ l.drop (e + 1) := by
  rcases Nat.lt_or_ge j e with h | h
  · exact Or.inl (List.mem_of_getElem? (i := j) (by rw [List.getElem?_take_of_lt h]; exact hx))
  · exact Or.inr (List.mem_of_getElem? (i := j - (e + 1)) (by rw [List.getElem?_drop, show e + 1 + (j - (e + 1)) = j by omega]; exact hx))
theorem inC_hd {T : Nat → Nd} {d q e : Nat} {rp : List (Nat × Nat)} : inC T d ((q, e) :: rp) q := by
  unfold inC
  rw [cxW_c, dl_s]
  omega
theorem inC_side {T : Nat → Nd} {d q e x y : Nat} {rp : List (Nat × Nat)} (hx : x ∈ (kids (T q)).take e ∨ x ∈ (kids (T q)).drop (e + 1)) (h : inP T d x y) : inC T d ((q, e) :: rp) y := by
  unfold inC
  rw [cxW_c]
  unfold inP at h
  rcases hx with hx | hx
  · have := smN_mem (wsm T (dl y) d) hx
    omega
  · have := smN_mem (wsm T (dl y) d) hx
    omega
theorem inC_tl {T : Nat → Nd} {d q e y : Nat} {rp : List (Nat × Nat)} (h : inC T (d + 1) rp y) : inC T d ((q, e) :: rp) y := by
  unfold inC at h ⊢
  rw [cxW_c]
  omega
theorem cxW_fr {T T' : Nat → Nd} (f : Nat → Nat) : ∀ {rp : List (Nat × Nat)} {d : Nat}, (∀ q, inC T d rp q → T' q = T q) → cxW T' f d rp = cxW T f d rp
  | [], d, _ => rfl
  | (q, e) :: rp, d, h => by
    rw [cxW_c, cxW_c, h q inC_hd, cxW_fr f (fun y hy => h y (inC_tl hy)), smN_cg (fun x hx => wsm_fr f (fun y hy => h y (inC_side (Or.inl hx) hy))), smN_cg (fun x hx => wsm_fr f (fun y hy => h y (inC_side (Or.inr hx) hy)))]
theorem cxA_fr {T T' : Nat → Nd} : ∀ {rp : List (Nat × Nat)} {d : Nat}, (∀ q, inC T d rp q → T' q = T q) → cxA T' d rp = cxA T d rp
  | [], d, _ => rfl
  | (q, e) :: rp, d, h => by
    rw [cxA_c, cxA_c, h q inC_hd, cxA_fr (fun y hy => h y (inC_tl hy)), fmap_cg (fun x hx => kyl_fr (fun y hy => h y (inC_side (Or.inl hx) hy)))]
theorem cxB_fr {T T' : Nat → Nd} : ∀ {rp : List (Nat × Nat)} {d : Nat}, (∀ q, inC T d rp q → T' q = T q) → cxB T' d rp = cxB T d rp
  | [], d, _ => rfl
  | (q, e) :: rp, d, h => by
    rw [cxB_c, cxB_c, h q inC_hd, cxB_fr (fun y hy => h y (inC_tl hy)), fmap_cg (fun x hx => kyl_fr (fun y hy => h y (inC_side (Or.inr hx) hy)))]
theorem cxS_fr {T T' : Nat → Nd} {U U' : Nat → Prop} {r : Nat} : ∀ {rp : List (Nat × Nat)} {d cur : Nat}, cxS T U r d rp cur → (∀ q, inC T d rp q → U' q ∧ T' q = T q) → cxS T' U' r d rp cur
  | [], d, cur, h, _ => h
  | (q, e) :: rp, d, cur, h, hf => by
    obtain ⟨hu, ⟨l, hl, h2, h4, hx, hs⟩, h⟩ := h
    obtain ⟨a, b⟩ := hf q inC_hd
    refine ⟨a, ⟨l, b.trans hl, h2, h4, hx, fun j x hj hjx => fl_fr (hs j x hj hjx) (fun y hy => hf y (inC_side ?_ hy))⟩, cxS_fr h (fun y hy => hf y (inC_tl hy))⟩
    rw [hl]
    exact mem_side hj hjx
/-- the whole is a good tree once what stands at the page is -/
theorem cx_rt {T : Nat → Nd} {U : Nat → Prop} {r : Nat} : ∀ {rp : List (Nat × Nat)} {d cur : Nat}, cxS T U r d rp cur → rt T U d cur → (rp ≠ [] → fl T U d cur) → rt T U (d + rp.length) r
  | [], d, cur, h, hr, _ => by
    rw [← show cur = r from h]
    exact hr
  | (q, e) :: rp, d, cur, h, _, hf => by
    obtain ⟨hu, ⟨l, hl, h2, h4, hx, hs⟩, h⟩ := h
    have hf := hf (by simp)
    have hq : fl T U (d + 1) q := ⟨hu, l, hl, h2, h4, fun c hc => by
      obtain ⟨j, hj⟩ := List.getElem?_of_mem hc
      by_cases hje : j = e
      · rw [hje, hx] at hj
        cases hj
        exact hf
      · exact hs j c hje hj⟩
    rw [show d + ((q, e) :: rp).length = d + 1 + rp.length by rw [List.length_cons]; omega]
    exact cx_rt h hq (fun _ => hq)
/-- the state of a batch's tree at a page of the way: what stands around it is good, no page twice, the batch's pages are all there -/
def ZS (K O W : Nat → Prop) (T : Nat → Nd) (r d : Nat) (rp : List (Nat × Nat)) (cur : Nat) : Prop :=
  cxS T (fun q => K q ∨ W q) r d rp cur ∧ sb T (fun q => K q ∨ W q) d cur ∧ (∀ q, cxW T (dl q) d rp + wsm T (dl q) d cur ≤ 1) ∧ (∀ q, W q → 1 ≤ cxW T (dl q) d rp + wsm T (dl q) d cur) ∧ (∀ q, 1 ≤ cxW T (dl q) d rp + wsm T (dl q) d cur → W q ∨ (K q ∧ O q)) ∧ W cur ∧ (∀ x ∈ rp, W x.1) ∧ (∀ q, K q → ¬ W q)
theorem pigeon : ∀ (N : Nat) (L : List Nat), L.length < N → ∃ n, n < N ∧ n ∉ L
  | 0, _, h => absurd h (Nat.not_lt_zero _)
  | N + 1, L, h => by
    by_cases hN : N ∈ L
    · have h1 : (L.erase N).length < N := by
        rw [List.length_erase_of_mem hN]
        have : 0 < L.length := List.length_pos_of_mem hN
        omega
      obtain ⟨n, hn, hL⟩ := pigeon N (L.erase N) h1
      exact ⟨n, by omega, fun hm => hL ((List.mem_erase_of_ne (by omega)).mpr hm)⟩
    · exact ⟨N, Nat.lt_succ_self N, hN⟩
theorem least {P : Nat → Prop} : ∀ (n : Nat), P n → ∃ m, m ≤ n ∧ P m ∧ ∀ j, j < m → ¬ P j := fun n => by
  induction n using Nat.strongRecOn with
  | ind n ih =>
    intro hn
    by_cases h : ∃ j, j < n ∧ P j
    · obtain ⟨j, hj, hp⟩ := h
      obtain ⟨m, h1, h2, h3⟩ := ih j hj hp
      exact ⟨m, by omega, h2, h3⟩
    · exact ⟨n, Nat.le_refl _, hn, fun j hj hp => h ⟨j, hj, hp⟩⟩
def cov (K : Nat → Prop) (n : Nat) : Prop := ∃ L : List Nat, L.length ≤ n ∧ ∀ q, K q → q ∈ L
theorem frs_ex {K W : Nat → Prop} (h : cov (fun q => K q ∨ W q) 719) : ∃ n, frs K W n := by
  obtain ⟨L, hL, hm⟩ := h
  obtain ⟨n, hn, hx⟩ := pigeon 720 L (by omega)
  obtain ⟨m, h1, h2, h3⟩ := least (P := fun n => ¬ (K n ∨ W n)) n (fun h => hx (hm n h))
  exact ⟨m, by omega, h2, fun j hj => Classical.not_not.mp (h3 j hj)⟩
theorem in_bfs {T : Nat → Nd} {d p q : Nat} (h : inP T d p q) : q ∈ bfs T d [p] := by
  unfold inP at h
  rw [← bfs_sum1] at h
  obtain ⟨x, hx, h1⟩ := smN_pos h
  rw [← dl_1 h1]
  exact hx
theorem fr_ex0 {K O W : Nat → Prop} {T : Nat → Nd} {r d : Nat} {rp : List (Nat × Nat)} {cur : Nat} (z1 : cxS T (fun q => K q ∨ W q) r d rp cur) (z2 : sb T (fun q => K q ∨ W q) d cur) (z4 : ∀ q, W q → 1 ≤ cxW T (dl q) d rp + wsm T (dl q) d cur) (z5 : ∀ q, 1 ≤ cxW T (dl q) d rp + wsm T (dl q) d cur → W q ∨ (K q ∧ O q)) (hK : cov K 600) (hb : cxW T one1 d rp + wsm T one1 d cur ≤ 115) : ∃ n, frR K W T [r] n := by
  have hin : ∀ q, inP T (d + rp.length) r q ↔ 1 ≤ cxW T (dl q) d rp + wsm T (dl q) d cur := fun q => by
    unfold inP
    rw [cx_wsm _ z1]
  obtain ⟨LK, hl, hm⟩ := hK
  obtain ⟨n, hn⟩ := frs_ex (K := K) (W := W) ⟨LK ++ bfs T (d + rp.length) [r], by
    rw [List.length_append, bfs_len, cx_wsm _ z1]
    omega, fun q hq => List.mem_append.mpr (hq.imp (hm q) (fun h => in_bfs ((hin q).mpr (z4 q h))))⟩
  refine ⟨n, hn, fun q => ?_⟩
  have hR := in_Rch (cx_dpt z1 (sb_dpt z2)) q
  constructor
  · rintro (h | h)
    · exact Or.inl h
    · exact Or.inr ⟨r, List.mem_singleton.mpr rfl, hR.mp ((hin q).mpr (z4 q h))⟩
  · rintro (h | ⟨r', hr, h⟩)
    · exact Or.inl h
    · rw [List.mem_singleton.mp hr] at h
      exact (z5 q ((hin q).mp (hR.mpr h))).elim Or.inr (fun h => Or.inl h.1)
theorem fr_ex {K O W : Nat → Prop} {T : Nat → Nd} {r d : Nat} {rp : List (Nat × Nat)} {cur : Nat} (hz : ZS K O W T r d rp cur) (hK : cov K 600) (hb : cxW T one1 d rp + wsm T one1 d cur ≤ 115) : ∃ n, frR K W T [r] n := fr_ex0 hz.1 hz.2.1 hz.2.2.2.1 hz.2.2.2.2.1 hK hb
/-! a page copied -/
theorem below_ne {T : Nat → Nd} {d c x q : Nat} (h1 : wsm T (dl c) (d + 1) c ≤ 1) (hx : x ∈ kids (T c)) (hq : inP T d x q) : q ≠ c := fun h => by
  subst h
  rw [wsm_s, dl_s] at h1
  unfold inP at hq
  have := smN_mem (wsm T (dl q) d) hx
  omega
theorem cp_wsm {T T' : Nat → Nd} (f : Nat → Nat) {d c n : Nat} (hn : T' n = T c) (hf : ∀ q, inP T d c q → q ≠ c → T' q = T q) (h1 : wsm T (dl c) d c ≤ 1) : wsm T' f d n + f c = wsm T f d c + f n := by
  cases d with
  | zero => rw [wsm_0, wsm_0]; omega
  | succ d =>
    rw [wsm_s, wsm_s, hn, smN_cg (h := wsm T f d) (fun x hx => wsm_fr f (fun q hq => hf q (in_kid hx hq) (below_ne h1 hx hq)))]
    omega
theorem cp_kyl {T T' : Nat → Nd} {d c n : Nat} (hn : T' n = T c) (hf : ∀ q, inP T d c q → q ≠ c → T' q = T q) (h1 : wsm T (dl c) d c ≤ 1) : kyl T' d n = kyl T d c := by
  cases d with
  | zero => rw [kyl_0, kyl_0, hn]
  | succ d => rw [kyl_s, kyl_s, hn, fmap_cg (fun x hx => kyl_fr (fun q hq => hf q (in_kid hx hq) (below_ne h1 hx hq)))]
theorem cp_sb {T T' : Nat → Nd} {U U' : Nat → Prop} {d c n : Nat} (h : sb T U d c) (hn : T' n = T c) (hU : U' n) (hf : ∀ q, inP T d c q → q ≠ c → U' q ∧ T' q = T q) (h1 : wsm T (dl c) d c ≤ 1) : sb T' U' d n := by
  cases d with
  | zero =>
    obtain ⟨-, l, hl⟩ := h
    exact ⟨hU, l, hn.trans hl⟩
  | succ d =>
    obtain ⟨-, l, hl, hk⟩ := h
    have hkl : kids (T c) = l := by rw [hl]; rfl
    exact ⟨hU, l, hn.trans hl, fun x hx => fl_fr (hk x hx) (fun q hq => hf q (in_kid (hkl ▸ hx) hq) (below_ne h1 (hkl ▸ hx) hq))⟩
/-- one step down: the page below is the batch's already, or is copied -/
theorem zs_down {K O W W1 : Nat → Prop} {T T2 : Nat → Nd} {r d : Nat} {rp : List (Nat × Nat)} {p e c c' : Nat} {l : List Nat} (hz : ZS K O W T r (d + 1) rp p) (hl : T p = .inr l) (h2 : 2 ≤ l.length) (h4 : l.length ≤ 4) (hx : l[e]? = some c) (hcc : (c' = c ∧ W c ∧ W1 = W) ∨ (¬ (K c' ∨ W c') ∧ ¬ W c ∧ W1 = addS W c')) (hp2 : T2 p = .inr (l.set e c')) (hc2 : T2 c' = T c) (ho : ∀ q, q ≠ p → q ≠ c' → T2 q = T q) : ZS K O W1 T2 r d ((p, e) :: rp) c' ∧ (∀ f, cxW T2 f d ((p, e) :: rp) + wsm T2 f d c' + f c = cxW T f (d + 1) rp + wsm T f (d + 1) p + f c') ∧ cxA T2 d ((p, e) :: rp) = cxA T (d + 1) rp ++ (l.take e).flatMap (kyl T d) ∧ cxB T2 d ((p, e) :: rp) = (l.drop (e + 1)).flatMap (kyl T d) ++ cxB T (d + 1) rp ∧ kyl T2 d c' = kyl T d c ∧ (∀ q, inP T d c q → q ≠ c → T2 q = T q) := by
  obtain ⟨z1, z2, z3, z4, z5, z6, z7, z8⟩ := hz
  have hk : kids (T p) = l := by rw [hl]; rfl
  have hk2 : kids (T2 p) = l.set e c' := by rw [hp2]; rfl
  have he : e < l.length := (List.getElem?_eq_some_iff.mp hx).1
  have htk : (l.set e c').take e = l.take e := List.take_set_of_le (Nat.le_refl _)
  have hdr : (l.set e c').drop (e + 1) = l.drop (e + 1) := List.drop_set_of_lt (by omega)
  have hw : ∀ f, wsm T f (d + 1) p = f p + (smN (wsm T f d) (l.take e) + wsm T f d c + smN (wsm T f d) (l.drop (e + 1))) := fun f => by rw [wsm_s, hk, smN_split _ hx]
  have hcs : 1 ≤ wsm T (dl c) d c := in_self T d c
  have tot : ∀ q, cxW T (dl q) (d + 1) rp + (dl q p + (smN (wsm T (dl q) d) (l.take e) + wsm T (dl q) d c + smN (wsm T (dl q) d) (l.drop (e + 1)))) ≤ 1 := fun q => by
    have := z3 q
    rw [hw] at this
    exact this
  have hin : ∀ q, 1 ≤ cxW T (dl q) (d + 1) rp + (dl q p + (smN (wsm T (dl q) d) (l.take e) + wsm T (dl q) d c + smN (wsm T (dl q) d) (l.drop (e + 1)))) → W q ∨ (K q ∧ O q) := fun q h => z5 q (by rw [hw]; exact h)
  have hWW : ∀ q, W q → W1 q := fun q h => by
    rcases hcc with ⟨-, -, rfl⟩ | ⟨-, -, rfl⟩
    · exact h
    · exact Or.inr h
  have hWc : W1 c' := by
    rcases hcc with ⟨rfl, h, rfl⟩ | ⟨-, -, rfl⟩
    · exact h
    · exact Or.inl rfl
  have hUU : ∀ q, K q ∨ W q → K q ∨ W1 q := fun q h => h.imp id (hWW q)
  have hnc : ∀ q, (W q ∨ (K q ∧ O q)) → q ≠ c → q ≠ c' := fun q hq hqc h => by
    rcases hcc with ⟨rfl, -, -⟩ | ⟨hn, -, -⟩
    · exact hqc h
    · exact hn (h ▸ hq.elim Or.inr (fun h => Or.inl h.1))
  have hpc : p ≠ c := fun h => by
    have h1 := tot p
    rw [dl_s] at h1
    rw [← h] at hcs
    rw [← h] at h1
    omega
  have hT : ∀ q, 1 ≤ cxW T (dl q) (d + 1) rp + (dl q p + (smN (wsm T (dl q) d) (l.take e) + wsm T (dl q) d c + smN (wsm T (dl q) d) (l.drop (e + 1)))) → q ≠ p → q ≠ c → (K q ∨ W1 q) ∧ T2 q = T q := fun q h h1 h2 => ⟨(hin q h).elim (fun h => Or.inr (hWW q h)) (fun h => Or.inl h.1), ho q h1 (hnc q (hin q h) h2)⟩
  have hpd : ∀ q, q = p → dl q p = 1 := fun q h => by rw [h]; exact dl_s p
  have hcd : ∀ q, q = c → 1 ≤ wsm T (dl q) d c := fun q h => by rw [h]; exact hcs
  have fC : ∀ q, inC T (d + 1) rp q → (K q ∨ W1 q) ∧ T2 q = T q := fun q hq => by
    unfold inC at hq
    have h0 := tot q
    exact hT q (by omega) (fun h => by have := hpd q h; omega) (fun h => by have := hcd q h; omega)
  have fS : ∀ x, (x ∈ l.take e ∨ x ∈ l.drop (e + 1)) → ∀ q, inP T d x q → (K q ∨ W1 q) ∧ T2 q = T q := fun x hx q hq => by
    unfold inP at hq
    have h0 := tot q
    have h1 : 1 ≤ smN (wsm T (dl q) d) (l.take e) + smN (wsm T (dl q) d) (l.drop (e + 1)) := by
      rcases hx with hx | hx
      · have := smN_mem (wsm T (dl q) d) hx
        omega
      · have := smN_mem (wsm T (dl q) d) hx
        omega
    exact hT q (by omega) (fun h => by have := hpd q h; omega) (fun h => by have := hcd q h; omega)
  have fB : ∀ q, inP T d c q → q ≠ c → (K q ∨ W1 q) ∧ T2 q = T q := fun q hq hqc => by
    unfold inP at hq
    have h0 := tot q
    exact hT q (by omega) (fun h => by have := hpd q h; omega) hqc
  have hc1 : wsm T (dl c) d c ≤ 1 := by have := tot c; omega
  have eW : ∀ f, cxW T2 f d ((p, e) :: rp) = f p + smN (wsm T f d) (l.take e) + smN (wsm T f d) (l.drop (e + 1)) + cxW T f (d + 1) rp := fun f => by
    rw [cxW_c, hk2, htk, hdr, cxW_fr f (fun q hq => (fC q hq).2), smN_cg (fun x hx => wsm_fr f (fun q hq => (fS x (Or.inl hx) q hq).2)), smN_cg (fun x hx => wsm_fr f (fun q hq => (fS x (Or.inr hx) q hq).2))]
  have eC : ∀ f, wsm T2 f d c' + f c = wsm T f d c + f c' := fun f => cp_wsm f hc2 (fun q h1 h2 => (fB q h1 h2).2) hc1
  refine ⟨⟨⟨Or.inr (hWW p z6), ⟨l.set e c', hp2, by simpa using h2, by simpa using h4, List.getElem?_set_self he, fun j x hj hjx => ?_⟩, cxS_fr z1 fC⟩, ?_, fun q => ?_, fun q hq => ?_, fun q hq => ?_, hWc, fun x hx => ?_, fun q hq h => ?_⟩, fun f => ?_, ?_, ?_, cp_kyl hc2 (fun q h1 h2 => (fB q h1 h2).2) hc1, fun q h1 h2 => (fB q h1 h2).2⟩
  · rw [List.getElem?_set_ne (Ne.symm hj)] at hjx
    obtain ⟨-, l', hl', hf⟩ := z2
    rw [hl] at hl'
    cases hl'
    exact fl_fr (hf x (List.mem_of_getElem? hjx)) (fun q hq => fS x (mem_side hj hjx) q hq)
  · obtain ⟨-, l', hl', hf⟩ := z2
    rw [hl] at hl'
    cases hl'
    exact cp_sb (fl_sb (hf c (List.mem_of_getElem? hx))).1 hc2 (Or.inr hWc) fB hc1
  · have h0 := tot q
    have h1 := eC (dl q)
    have h2 := eW (dl q)
    rcases hcc with ⟨rfl, -, -⟩ | ⟨hn, -, -⟩
    · omega
    · by_cases hqc : q = c'
      · have h3 : ¬ 1 ≤ cxW T (dl q) (d + 1) rp + (dl q p + (smN (wsm T (dl q) d) (l.take e) + wsm T (dl q) d c + smN (wsm T (dl q) d) (l.drop (e + 1)))) := fun h => hn (hqc ▸ (hin q h).elim Or.inr (fun h => Or.inl h.1))
        have h4 := dl_le q c'
        omega
      · have h4 : dl q c' = 0 := dl_n (Ne.symm hqc)
        omega
  · have h1 := eC (dl q)
    have h2 := eW (dl q)
    by_cases hqc : q = c'
    · have h4 := in_self T2 d c'
      unfold inP at h4
      rw [hqc]
      omega
    · have hWq : W q := by
        rcases hcc with ⟨-, -, rfl⟩ | ⟨-, -, rfl⟩
        · exact hq
        · exact hq.resolve_left hqc
      have h0 := z4 q hWq
      rw [hw] at h0
      have h5 : dl q c = 0 := dl_n (fun h => by
        rcases hcc with ⟨h9, -, -⟩ | ⟨-, hn, -⟩
        · exact hqc (by rw [← h, ← h9])
        · exact hn (h ▸ hWq))
      omega
  · have h1 := eC (dl q)
    have h2 := eW (dl q)
    by_cases hqc : q = c'
    · exact Or.inl (hqc ▸ hWc)
    · have h4 : dl q c' = 0 := dl_n (Ne.symm hqc)
      exact (hin q (by omega)).imp (hWW q) id
  · rcases List.mem_cons.mp hx with rfl | hx
    · exact hWW p z6
    · exact hWW _ (z7 x hx)
  · rcases hcc with ⟨-, -, rfl⟩ | ⟨hn, -, rfl⟩
    · exact z8 q hq h
    · rcases h with h | h
      · exact hn (Or.inl (h ▸ hq))
      · exact z8 q hq h
  · have h1 := eC f
    have h2 := eW f
    have h3 := hw f
    omega
  · rw [cxA_c, hk2, htk, cxA_fr (fun q hq => (fC q hq).2), fmap_cg (fun x hx => kyl_fr (fun q hq => (fS x (Or.inl hx) q hq).2))]
  · rw [cxB_c, hk2, hdr, cxB_fr (fun q hq => (fC q hq).2), fmap_cg (fun x hx => kyl_fr (fun q hq => (fS x (Or.inr hx) q hq).2))]
