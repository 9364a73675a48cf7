/-! PUT: it can be done, and the tree is good again -/
theorem zs_leaf {K O W : Nat → Prop} {T : Nat → Nd} {r : Nat} {rp : List (Nat × Nat)} {lf : Nat} (hz : ZS K O W T r 0 rp lf) (l : List (Nat × Int32)) : ZS K O W (upT T lf (.inl l)) r 0 rp lf ∧ cxA (upT T lf (.inl l)) 0 rp = cxA T 0 rp ∧ cxB (upT T lf (.inl l)) 0 rp = cxB T 0 rp ∧ (∀ f, cxW (upT T lf (.inl l)) f 0 rp = cxW T f 0 rp) ∧ kyl (upT T lf (.inl l)) 0 lf = l ∧ ∀ q, K q → upT T lf (.inl l) q = T q := by
  obtain ⟨z1, z2, z3, z4, z5, z6, z7, z8⟩ := hz
  have hC : ∀ q, inC T 0 rp q → q ≠ lf := fun q hq h => by
    subst h
    have e := z3 q
    rw [wsm_0, dl_s] at e
    unfold inC at hq
    omega
  have hf : ∀ q, inC T 0 rp q → upT T lf (.inl l) q = T q := fun q hq => upT_n (hC q hq)
  have hU : ∀ q, inC T 0 rp q → K q ∨ W q := fun q hq => (z5 q (by unfold inC at hq; omega)).elim Or.inr (fun h => Or.inl h.1)
  refine ⟨⟨cxS_fr z1 (fun q hq => ⟨hU q hq, hf q hq⟩), ⟨Or.inr z6, l, upT_s _ _ _⟩, fun q => ?_, fun q hq => ?_, fun q hq => ?_, z6, z7, z8⟩, cxA_fr hf, cxB_fr hf, fun f => cxW_fr f hf, ?_, fun q hq => upT_n (fun h => z8 q hq (h ▸ z6))⟩
  · rw [cxW_fr _ hf]
    exact z3 q
  · rw [cxW_fr _ hf]
    exact z4 q hq
  · rw [cxW_fr _ hf] at hq
    exact z5 q hq
  · rw [kyl_0, upT_s]
    rfl
theorem Srt_mid {X Y : List (Nat × Int32)} {y : Nat × Int32} : Srt (X ++ y :: Y) ↔ Srt (X ++ Y) ∧ (∀ x ∈ X, x.1 < y.1) ∧ ∀ x ∈ Y, y.1 < x.1 := by
  rw [Srt_app, Srt_app, Srt_cons]
  constructor
  · rintro ⟨h1, ⟨h2, h3⟩, h4⟩
    exact ⟨⟨h1, h3, fun x hx z hz => h4 x hx z (List.mem_cons_of_mem _ hz)⟩, fun x hx => h4 x hx y List.mem_cons_self, h2⟩
  · rintro ⟨⟨h1, h3, h4⟩, h5, h2⟩
    refine ⟨h1, ⟨h2, h3⟩, fun x hx z hz => ?_⟩
    rcases List.mem_cons.mp hz with rfl | hz
    · exact h5 x hx
    · exact h4 x hx z hz
theorem k100_mid {X Y : List (Nat × Int32)} {y : Nat × Int32} : k100 (X ++ y :: Y) ↔ k100 (X ++ Y) ∧ y.1 < 100 := by
  rw [k100_app, k100_app]
  constructor
  · rintro ⟨h1, h2⟩
    exact ⟨⟨h1, fun x hx => h2 x (List.mem_cons_of_mem _ hx)⟩, h2 y List.mem_cons_self⟩
  · rintro ⟨⟨h1, h2⟩, h3⟩
    refine ⟨h1, fun x hx => ?_⟩
    rcases List.mem_cons.mp hx with rfl | hx
    · exact h3
    · exact h2 x hx
theorem set_split {α : Type} {l : List α} {e : Nat} {c y : α} (h : l[e]? = some c) : l.set e y = l.take e ++ y :: l.drop (e + 1) := by
  have he : e < l.length := (List.getElem?_eq_some_iff.mp h).1
  have h1 : (l.set e y)[e]? = some y := List.getElem?_set_self he
  have h2 := list_split h1
  rw [List.take_set_of_le (Nat.le_refl _), List.drop_set_of_lt (by omega)] at h2
  exact h2
theorem mem_mid {X Y : List (Nat × Int32)} {k : Nat} {v0 : Int32} (hX : ∀ x ∈ X, x.1 < k) (hY : ∀ x ∈ Y, k < x.1) (v : Int32) (y : Nat × Int32) : y ∈ X ++ (k, v) :: Y ↔ y = (k, v) ∨ (y ∈ X ++ (k, v0) :: Y ∧ y.1 ≠ k) := by
  simp only [List.mem_append, List.mem_cons]
  constructor
  · rintro (h | h | h)
    · exact Or.inr ⟨Or.inl h, fun e => by have := hX y h; omega⟩
    · exact Or.inl h
    · exact Or.inr ⟨Or.inr (Or.inr h), fun e => by have := hY y h; omega⟩
  · rintro (h | ⟨h | h | h, hn⟩)
    · exact Or.inr (Or.inl h)
    · exact Or.inl h
    · exact absurd (by rw [h]) hn
    · exact Or.inr (Or.inr h)
theorem mem_del {X Y : List (Nat × Int32)} {k : Nat} {v0 : Int32} (hX : ∀ x ∈ X, x.1 < k) (hY : ∀ x ∈ Y, k < x.1) (y : Nat × Int32) : y ∈ X ++ Y ↔ y ∈ X ++ (k, v0) :: Y ∧ y.1 ≠ k := by
  simp only [List.mem_append, List.mem_cons]
  constructor
  · rintro (h | h)
    · exact ⟨Or.inl h, fun e => by have := hX y h; omega⟩
    · exact ⟨Or.inr (Or.inr h), fun e => by have := hY y h; omega⟩
  · rintro ⟨h | h | h, hn⟩
    · exact Or.inl h
    · exact absurd (by rw [h]) hn
    · exact Or.inr h
theorem mem_ins {X Y : List (Nat × Int32)} {k : Nat} (hX : ∀ x ∈ X, x.1 < k) (hY : ∀ x ∈ Y, k < x.1) (v : Int32) (y : Nat × Int32) : y ∈ X ++ (k, v) :: Y ↔ y = (k, v) ∨ (y ∈ X ++ Y ∧ y.1 ≠ k) := by
  rw [mem_mid (v0 := v) hX hY, ← mem_del hX hY]
  constructor
  · rintro (h | h)
    · exact Or.inl h
    · exact Or.inr ⟨h, ((mem_del (v0 := v) hX hY y).mp h).2⟩
  · rintro (h | h)
    · exact Or.inl h
    · exact Or.inr h.1
theorem put_ex {K O W : Nat → Prop} {T : Nat → Nd} {d r k : Nat} (v : Int32) (hk : k < 100) (hg : GT K O W T d r) (hs : Srt (kyl T d r)) (h1 : k100 (kyl T d r)) (hK : cov K 600) : ∃ T' W' r' nw d', putR K T W r k v T' W' r' nw ∧ GT K O W' T' d' r' ∧ Srt (kyl T' d' r') ∧ k100 (kyl T' d' r') ∧ (kyl T' d' r').length = (kyl T d r).length + (if nw then 1 else 0) ∧ (∀ q, K q → T' q = T q) ∧ (nw = true ↔ ¬ ∃ x ∈ kyl T d r, x.1 = k) ∧ ∀ y, y ∈ kyl T' d' r' ↔ (y = (k, v) ∨ (y ∈ kyl T d r ∧ y.1 ≠ k)) := by
  have hlen := Srt_100 hs h1
  have hd5 := rt_d5 hg.1 hlen
  have hpg := rt_pages hg.1 hlen
  have hUr : ∀ q, inP T d r q → K q ∨ W q := fun q hq => (hg.2.2.2.1 q hq).elim Or.inr (fun h => Or.inl h.1)
  obtain ⟨r1, T1, W1, w1, z1, t1, t2, t3, t4⟩ := zs_root hg hK (by omega)
  obtain ⟨T2, W2, P, lf, l, i1, i2, i3, i4, i4', ⟨P0, i5, i6, i7⟩, ⟨A, B, i8, i9, i10, i11, i12⟩, i13, i14, i15⟩ := dn_ex (U0 := fun q => K q ∨ W q) (T0 := T) hk hK d T1 W1 r1 [] r z1 t1 (fun q hq _ => t2 q (hUr q hq)) hg.1 hg.2.1 hs h1 (by show 0 + _ ≤ 115; omega)
  rw [List.append_nil] at i2 i8 i9 i14
  have i8 : cxA T2 0 P.reverse = A := i8
  have i9 : cxB T2 0 P.reverse = B := by rw [i9]; exact List.append_nil _
  have i14 : cxW T2 one1 0 P.reverse + wsm T2 one1 0 lf = 0 + wsm T1 one1 d r1 := i14
  have hw0 : wsm T2 one1 0 lf = 1 := rfl
  have hPr : P.reverse.length = d := by rw [List.length_reverse, i15]
  rw [i10] at hs h1
  have hsl := srt_leaf hs
  have h1l := k100_leaf h1
  have hKT : ∀ q, K q → T2 q = T q := fun q hq => (i13 q hq).trans (t2 q (Or.inl hq))
  have hne : P.reverse ≠ [] → 2 ≤ l.length := fun h => i4' (by
    cases d with
    | zero => exact absurd (List.length_eq_zero_iff.mp hPr) h
    | succ d => exact Nat.succ_pos d)
  by_cases hh : hld l (plc l (nI k)) (nI k)
  · obtain ⟨v0, hx⟩ := hld_key hk h1l hh
    obtain ⟨a1, a2, a3, a4, a5, a6⟩ := zs_leaf i2 (l.set (plc l (nI k)) (k, v))
    obtain ⟨g1, g2⟩ := zs_close a1 (by rw [upT_s]; simpa [nlen] using i4) (fun h => by
      rw [upT_s]
      rcases h with h | h
      · exact absurd h (Nat.lt_irrefl 0)
      · simpa [nlen] using hne h)
    have hky : kyl (upT T2 lf (.inl (l.set (plc l (nI k)) (k, v)))) (0 + P.reverse.length) r1 = (A ++ l.take (plc l (nI k))) ++ (k, v) :: (l.drop (plc l (nI k) + 1) ++ B) := by
      rw [g2, a2, a3, a5, i8, i9, set_split hx]
      simp
    have hold : A ++ l ++ B = (A ++ l.take (plc l (nI k))) ++ (k, v0) :: (l.drop (plc l (nI k) + 1) ++ B) := by
      have e := list_split hx
      calc A ++ l ++ B = A ++ (l.take (plc l (nI k)) ++ (k, v0) :: l.drop (plc l (nI k) + 1)) ++ B := by rw [← e]
        _ = _ := by simp
    rw [hold] at hs h1
    refine ⟨_, W2, r1, false, _, ⟨d, r1, T1, W1, T2, W2, P, lf, l, by omega, hk, w1, i1, i3, ⟨P0, _, i5, i6, i7⟩, Or.inl ⟨rfl, (k, v0), hx, rfl, rfl, rfl, rfl⟩⟩, g1, ?_, ?_, ?_, fun q hq => (a6 q hq).trans (hKT q hq), ?_, ?_⟩
    · rw [hky]
      obtain ⟨q1, q2, q3⟩ := Srt_mid.mp hs
      exact Srt_mid.mpr ⟨q1, q2, q3⟩
    · rw [hky]
      obtain ⟨q1, q2⟩ := k100_mid.mp h1
      exact k100_mid.mpr ⟨q1, q2⟩
    · rw [hky, i10, hold]
      simp
    · rw [i10, hold]
      exact ⟨(fun h => by cases h), fun h => absurd ⟨(k, v0), List.mem_append_right _ List.mem_cons_self, rfl⟩ h⟩
    · rw [hky, i10, hold]
      obtain ⟨q1, q2, q3⟩ := Srt_mid.mp hs
      exact mem_mid q2 q3 v
  · obtain ⟨p1, p2⟩ := plc_spec hk hsl h1l
    have hno : ¬ ∃ x ∈ l, x.1 = k := fun h => hh ((hld_iff hk hsl h1l).mpr h)
    obtain ⟨a1, a2, a3, a4, a5, a6⟩ := zs_leaf i2 (l.take (plc l (nI k)) ++ (k, v) :: l.drop (plc l (nI k)))
    have hnl : nlen (upT T2 lf (.inl (l.take (plc l (nI k)) ++ (k, v) :: l.drop (plc l (nI k)))) lf) = l.length + 1 := by
      rw [upT_s]
      have hp := plc_le l (nI k)
      simp only [nlen, List.length_append, List.length_cons, List.length_take, List.length_drop]
      omega
    obtain ⟨T', W', r', d', u1, u2, u3, u4⟩ := up_ex hK P.reverse 0 _ W2 r1 lf a1 (by omega) (fun h => by
      rcases h with h | h
      · exact absurd h (Nat.lt_irrefl 0)
      · have := hne h
        omega) (by omega) (by
        have e1 := a4 one1
        have e2 : wsm (upT T2 lf (.inl (l.take (plc l (nI k)) ++ (k, v) :: l.drop (plc l (nI k))))) one1 0 lf = 1 := rfl
        omega)
    have hky : kyl T' d' r' = (A ++ l.take (plc l (nI k))) ++ (k, v) :: (l.drop (plc l (nI k)) ++ B) := by
      rw [u3, a2, a3, a5, i8, i9]
      simp
    have hold : A ++ l ++ B = (A ++ l.take (plc l (nI k))) ++ (l.drop (plc l (nI k)) ++ B) := by
      have e := List.take_append_drop (plc l (nI k)) l
      calc A ++ l ++ B = A ++ (l.take (plc l (nI k)) ++ l.drop (plc l (nI k))) ++ B := by rw [e]
        _ = _ := by simp only [List.append_assoc]
    rw [hold] at hs h1
    refine ⟨T', W', r', true, d', ⟨d, r1, T1, W1, T2, W2, P, lf, l, by omega, hk, w1, i1, i3, ⟨P0, _, i5, i6, i7⟩, Or.inr ⟨rfl, hh, u1⟩⟩, u2, ?_, ?_, ?_, fun q hq => ((u4 q hq).trans (a6 q hq)).trans (hKT q hq), ?_, ?_⟩
    · rw [hky]
      refine Srt_mid.mpr ⟨hs, fun x hx => ?_, fun x hx => ?_⟩
      · exact (List.mem_append.mp hx).elim (i11 x) (p1 x)
      · rcases List.mem_append.mp hx with hx | hx
        · have e1 := p2 x hx
          have e2 : x.1 ≠ k := fun h => hno ⟨x, List.mem_of_mem_drop hx, h⟩
          show k < x.1
          omega
        · exact i12 x hx
    · rw [hky]
      exact k100_mid.mpr ⟨h1, hk⟩
    · rw [hky, i10, hold]
      simp only [List.length_append, List.length_cons, if_true]
      omega
    · rw [i10]
      refine ⟨fun _ h => hno ((key_in i11 i12).mp h), fun _ => rfl⟩
    · rw [hky, i10, hold]
      refine mem_ins (fun x hx => (List.mem_append.mp hx).elim (i11 x) (p1 x)) (fun x hx => ?_) v
      rcases List.mem_append.mp hx with hx | hx
      · have e1 := p2 x hx
        have e2 : x.1 ≠ k := fun h => hno ⟨x, List.mem_of_mem_drop hx, h⟩
        omega
      · exact i12 x hx
