/-! MENDING: two neighbours' entries moved or joined; the page above built anew -/
def bw (T : Nat → Nd) (f : Nat → Nat) : Nat → Nd → Nat
  | 0, _ => 0
  | d + 1, n => smN (wsm T f d) (kids n)
def bk (T : Nat → Nd) : Nat → Nd → List (Nat × Int32)
  | 0, n => lvE n
  | d + 1, n => (kids n).flatMap (kyl T d)
def kd (T : Nat → Nd) (U : Nat → Prop) : Nat → Nd → Prop
  | 0, n => ∃ l, n = .inl l
  | d + 1, n => ∃ l, n = .inr l ∧ ∀ c ∈ l, fl T U d c
theorem wsm_bw (T : Nat → Nd) (f : Nat → Nat) (d p : Nat) : wsm T f d p = f p + bw T f d (T p) := by
  cases d with
  | zero => rfl
  | succ d => rfl
theorem kyl_bk (T : Nat → Nd) (d p : Nat) : kyl T d p = bk T d (T p) := by
  cases d with
  | zero => rfl
  | succ d => rfl
theorem sb_kd {T : Nat → Nd} {U : Nat → Prop} {d p : Nat} : sb T U d p ↔ U p ∧ kd T U d (T p) := by
  cases d with
  | zero => exact Iff.rfl
  | succ d => exact Iff.rfl
theorem bw_app {T : Nat → Nd} {f : Nat → Nat} {d : Nat} {n m : Nd} (hk : nLf n ↔ nLf m) : bw T f d (nApp n m) = bw T f d n + bw T f d m := by
  cases d with
  | zero => rfl
  | succ d =>
    cases n with
    | inl l =>
      obtain ⟨r, rfl⟩ := hk.mp ⟨l, rfl⟩
      rfl
    | inr l =>
      cases m with
      | inl r => exact absurd (hk.mpr ⟨r, rfl⟩) (fun ⟨x, hx⟩ => by cases hx)
      | inr r => exact smN_app _ l r
theorem bk_app {T : Nat → Nd} {d : Nat} {n m : Nd} (hk : nLf n ↔ nLf m) : bk T d (nApp n m) = bk T d n ++ bk T d m := by
  cases n with
  | inl l =>
    obtain ⟨r, rfl⟩ := hk.mp ⟨l, rfl⟩
    cases d with
    | zero => rfl
    | succ d => rfl
  | inr l =>
    cases m with
    | inl r => exact absurd (hk.mpr ⟨r, rfl⟩) (fun ⟨x, hx⟩ => by cases hx)
    | inr r =>
      cases d with
      | zero => rfl
      | succ d => exact List.flatMap_append
theorem kd_app {T : Nat → Nd} {U : Nat → Prop} {d : Nat} {n m : Nd} (hk : nLf n ↔ nLf m) : kd T U d (nApp n m) ↔ kd T U d n ∧ kd T U d m := by
  cases n with
  | inl l =>
    obtain ⟨r, rfl⟩ := hk.mp ⟨l, rfl⟩
    cases d with
    | zero => exact ⟨fun _ => ⟨⟨l, rfl⟩, ⟨r, rfl⟩⟩, fun _ => ⟨_, rfl⟩⟩
    | succ d => exact ⟨fun ⟨x, hx, _⟩ => (by cases hx), fun ⟨⟨x, hx, _⟩, _⟩ => (by cases hx)⟩
  | inr l =>
    cases m with
    | inl r => exact absurd (hk.mpr ⟨r, rfl⟩) (fun ⟨x, hx⟩ => by cases hx)
    | inr r =>
      cases d with
      | zero => exact ⟨fun ⟨x, hx⟩ => (by cases hx), fun ⟨⟨x, hx⟩, _⟩ => (by cases hx)⟩
      | succ d =>
        constructor
        · rintro ⟨x, hx, h⟩
          cases hx
          exact ⟨⟨l, rfl, fun c hc => h c (List.mem_append_left _ hc)⟩, ⟨r, rfl, fun c hc => h c (List.mem_append_right _ hc)⟩⟩
        · rintro ⟨⟨x, hx, h⟩, ⟨y, hy, h'⟩⟩
          cases hx
          cases hy
          exact ⟨l ++ r, rfl, fun c hc => (List.mem_append.mp hc).elim (h c) (h' c)⟩
theorem bw_fr {T T' : Nat → Nd} (f : Nat → Nat) {d : Nat} {n : Nd} (h : ∀ q, 1 ≤ bw T (dl q) d n → T' q = T q) : bw T' f d n = bw T f d n := by
  cases d with
  | zero => rfl
  | succ d => exact smN_cg (fun x hx => wsm_fr f (fun q hq => h q (Nat.le_trans hq (smN_mem (wsm T (dl q) d) hx))))
theorem bk_fr {T T' : Nat → Nd} {d : Nat} {n : Nd} (h : ∀ q, 1 ≤ bw T (dl q) d n → T' q = T q) : bk T' d n = bk T d n := by
  cases d with
  | zero => rfl
  | succ d => exact fmap_cg (fun x hx => kyl_fr (fun q hq => h q (Nat.le_trans hq (smN_mem (wsm T (dl q) d) hx))))
theorem kd_fr {T T' : Nat → Nd} {U U' : Nat → Prop} {d : Nat} {n : Nd} (hk : kd T U d n) (h : ∀ q, 1 ≤ bw T (dl q) d n → U' q ∧ T' q = T q) : kd T' U' d n := by
  cases d with
  | zero => exact hk
  | succ d =>
    obtain ⟨l, rfl, hl⟩ := hk
    exact ⟨l, rfl, fun c hc => fl_fr (hl c hc) (fun q hq => h q (Nat.le_trans hq (smN_mem (wsm T (dl q) d) (show c ∈ kids (.inr l) from hc))))⟩
/-- entries moved between neighbours -/
theorem pair {T T' : Nat → Nd} {U U' : Nat → Prop} {d a c a' c' : Nat} (ha : sb T U d a) (hc : sb T U d c) (hk0 : nLf (T a) ↔ nLf (T c)) (hk : nLf (T' a') ↔ nLf (T' c')) (hA : nApp (T' a') (T' c') = nApp (T a) (T c)) (hua : U' a') (huc : U' c') (hf : ∀ q, 1 ≤ bw T (dl q) d (T a) + bw T (dl q) d (T c) → U' q ∧ T' q = T q) : sb T' U' d a' ∧ sb T' U' d c' ∧ (∀ f, wsm T' f d a' + wsm T' f d c' + f a + f c = wsm T f d a + wsm T f d c + f a' + f c') ∧ kyl T' d a' ++ kyl T' d c' = kyl T d a ++ kyl T d c := by
  have hf' : ∀ q, 1 ≤ bw T (dl q) d (nApp (T a) (T c)) → U' q ∧ T' q = T q := fun q hq => hf q (by rw [bw_app hk0] at hq; exact hq)
  have h1 : kd T' U' d (nApp (T a) (T c)) := kd_fr ((kd_app hk0).mpr ⟨(sb_kd.mp ha).2, (sb_kd.mp hc).2⟩) hf'
  rw [← hA] at h1
  obtain ⟨k1, k2⟩ := (kd_app hk).mp h1
  refine ⟨sb_kd.mpr ⟨hua, k1⟩, sb_kd.mpr ⟨huc, k2⟩, fun f => ?_, ?_⟩
  · rw [wsm_bw, wsm_bw, wsm_bw, wsm_bw]
    have e1 := bw_app (T := T') (f := f) (d := d) hk
    have e2 := bw_app (T := T) (f := f) (d := d) hk0
    have e3 : bw T' f d (nApp (T a) (T c)) = bw T f d (nApp (T a) (T c)) := bw_fr f (fun q hq => (hf' q hq).2)
    rw [hA, e3] at e1
    omega
  · rw [kyl_bk, kyl_bk, kyl_bk, kyl_bk, ← bk_app hk, ← bk_app hk0, hA]
    exact bk_fr (fun q hq => (hf' q hq).2)
/-- two neighbours joined -/
theorem join2 {T T' : Nat → Nd} {U U' : Nat → Prop} {d a c a' : Nat} (ha : sb T U d a) (hc : sb T U d c) (hk0 : nLf (T a) ↔ nLf (T c)) (hA : T' a' = nApp (T a) (T c)) (hua : U' a') (hf : ∀ q, 1 ≤ bw T (dl q) d (T a) + bw T (dl q) d (T c) → U' q ∧ T' q = T q) : sb T' U' d a' ∧ (∀ f, wsm T' f d a' + f a + f c = wsm T f d a + wsm T f d c + f a') ∧ kyl T' d a' = kyl T d a ++ kyl T d c := by
  have hf' : ∀ q, 1 ≤ bw T (dl q) d (nApp (T a) (T c)) → U' q ∧ T' q = T q := fun q hq => hf q (by rw [bw_app hk0] at hq; exact hq)
  have h1 : kd T' U' d (nApp (T a) (T c)) := kd_fr ((kd_app hk0).mpr ⟨(sb_kd.mp ha).2, (sb_kd.mp hc).2⟩) hf'
  refine ⟨sb_kd.mpr ⟨hua, by rw [hA]; exact h1⟩, fun f => ?_, ?_⟩
  · rw [wsm_bw, wsm_bw, wsm_bw, hA]
    have e2 := bw_app (T := T) (f := f) (d := d) hk0
    have e3 : bw T' f d (nApp (T a) (T c)) = bw T f d (nApp (T a) (T c)) := bw_fr f (fun q hq => (hf' q hq).2)
    omega
  · rw [kyl_bk, kyl_bk, kyl_bk, hA, ← bk_app hk0]
    exact bk_fr (fun q hq => (hf' q hq).2)
/-- the page above with the middle of its entries changed -/
theorem zs_reb {K O W W' : Nat → Prop} {T T' : Nat → Nd} {r d q0 e cur : Nat} {rp : List (Nat × Nat)} {X M0 M Y : List Nat} (hz : ZS K O W T r d ((q0, e) :: rp) cur) (hl : T q0 = .inr (X ++ M0 ++ Y)) (he : X.length ≤ e ∧ e < X.length + M0.length) (hl' : T' q0 = .inr (X ++ M ++ Y))
    (hfr : ∀ q, q ≠ q0 → (K q ∨ W q) → ¬ 1 ≤ smN (wsm T (dl q) d) M0 → (K q ∨ W' q) ∧ T' q = T q) (hM : ∀ m ∈ M, fl T' (fun q => K q ∨ W' q) d m)
    (hm : ∀ q, smN (wsm T' (dl q) d) M ≤ smN (wsm T (dl q) d) M0 ∨ (¬ (K q ∨ W q) ∧ smN (wsm T' (dl q) d) M ≤ 1)) (hWin : ∀ q, W' q → (W q ∧ ¬ 1 ≤ smN (wsm T (dl q) d) M0) ∨ 1 ≤ smN (wsm T' (dl q) d) M) (hMW : ∀ q, 1 ≤ smN (wsm T' (dl q) d) M → W' q ∨ (K q ∧ O q)) (hD : ∀ q, K q → ¬ W' q) (hWK : ∀ q, W q → ¬ 1 ≤ smN (wsm T (dl q) d) M0 → W' q) :
    ZS K O W' T' r (d + 1) rp q0 ∧ (∀ f, cxW T' f (d + 1) rp + wsm T' f (d + 1) q0 + smN (wsm T f d) M0 = cxW T f d ((q0, e) :: rp) + wsm T f d cur + smN (wsm T' f d) M) ∧ (M.flatMap (kyl T' d) = M0.flatMap (kyl T d) → cxA T' (d + 1) rp ++ kyl T' (d + 1) q0 ++ cxB T' (d + 1) rp = cxA T d ((q0, e) :: rp) ++ kyl T d cur ++ cxB T d ((q0, e) :: rp)) := by
  obtain ⟨⟨zu, ⟨l, hl0, l2, l4, hx, hs⟩, z1⟩, z2, z3, z4, z5, z6, z7, z8⟩ := hz
  rw [hl] at hl0
  cases hl0
  have hkl : kids (T q0) = X ++ M0 ++ Y := by rw [hl]; rfl
  have hkl' : kids (T' q0) = X ++ M ++ Y := by rw [hl']; rfl
  have hcw : ∀ f, cxW T f d ((q0, e) :: rp) + wsm T f d cur = f q0 + (smN (wsm T f d) X + smN (wsm T f d) M0 + smN (wsm T f d) Y) + cxW T f (d + 1) rp := fun f => by
    have e1 := smN_split (wsm T f d) hx
    rw [smN_app, smN_app] at e1
    rw [cxW_c, hkl]
    omega
  have hU : ∀ q, 1 ≤ cxW T (dl q) d ((q0, e) :: rp) + wsm T (dl q) d cur → K q ∨ W q := fun q hq => (z5 q hq).elim Or.inr (fun h => Or.inl h.1)
  have hq0d : ∀ q, q = q0 → dl q q0 = 1 := fun q h => by rw [h]; exact dl_s q0
  have fC : ∀ q, inC T (d + 1) rp q → (K q ∨ W' q) ∧ T' q = T q := fun q hq => by
    unfold inC at hq
    have e0 := z3 q
    rw [hcw] at e0
    exact hfr q (fun h => by have := hq0d q h; omega) (hU q (by rw [hcw]; omega)) (by omega)
  have fS : ∀ x, (x ∈ X ∨ x ∈ Y) → ∀ q, inP T d x q → (K q ∨ W' q) ∧ T' q = T q := fun x hx q hq => by
    unfold inP at hq
    have e0 := z3 q
    rw [hcw] at e0
    have e1 : 1 ≤ smN (wsm T (dl q) d) X + smN (wsm T (dl q) d) Y := by
      rcases hx with hx | hx
      · have := smN_mem (wsm T (dl q) d) hx
        omega
      · have := smN_mem (wsm T (dl q) d) hx
        omega
    exact hfr q (fun h => by have := hq0d q h; omega) (hU q (by rw [hcw]; omega)) (by omega)
  have sX : ∀ f, smN (wsm T' f d) X = smN (wsm T f d) X := fun f => smN_cg (fun x hx => wsm_fr f (fun q hq => (fS x (Or.inl hx) q hq).2))
  have sY : ∀ f, smN (wsm T' f d) Y = smN (wsm T f d) Y := fun f => smN_cg (fun x hx => wsm_fr f (fun q hq => (fS x (Or.inr hx) q hq).2))
  have hw : ∀ f, cxW T' f (d + 1) rp + wsm T' f (d + 1) q0 + smN (wsm T f d) M0 = cxW T f d ((q0, e) :: rp) + wsm T f d cur + smN (wsm T' f d) M := fun f => by
    rw [wsm_s, hkl', smN_app, smN_app, sX, sY, cxW_fr f (fun q hq => (fC q hq).2), hcw]
    omega
  have hWq0 : W q0 := z7 (q0, e) List.mem_cons_self
  have hq0M : ¬ 1 ≤ smN (wsm T (dl q0) d) M0 := fun h => by
    have e0 := z3 q0
    rw [hcw, dl_s] at e0
    omega
  have hsib : ∀ x, x ∈ X ∨ x ∈ Y → fl T' (fun q => K q ∨ W' q) d x := fun x hx => by
    have : ∃ j, j ≠ e ∧ (X ++ M0 ++ Y)[j]? = some x := by
      rcases hx with hx | hx
      · obtain ⟨j, hj⟩ := List.getElem?_of_mem hx
        have hjx : j < X.length := (List.getElem?_eq_some_iff.mp hj).1
        exact ⟨j, by omega, by rw [List.append_assoc, List.getElem?_append_left hjx]; exact hj⟩
      · obtain ⟨j, hj⟩ := List.getElem?_of_mem hx
        refine ⟨(X ++ M0).length + j, by rw [List.length_append]; omega, ?_⟩
        rw [List.getElem?_append_right (by omega), Nat.add_sub_cancel_left]
        exact hj
    obtain ⟨j, hje, hj⟩ := this
    exact fl_fr (hs j x hje hj) (fS x hx)
  refine ⟨⟨cxS_fr z1 fC, ⟨Or.inr (hWK q0 hWq0 hq0M), _, hl', fun x hx => ?_⟩, fun q => ?_, fun q hq => ?_, fun q hq => ?_, hWK q0 hWq0 hq0M, fun x hx => ?_, hD⟩, hw, fun hky => ?_⟩
  · rcases List.mem_append.mp hx with hx | hx
    · rcases List.mem_append.mp hx with hx | hx
      · exact hsib x (Or.inl hx)
      · exact hM x hx
    · exact hsib x (Or.inr hx)
  · have e0 := z3 q
    have e1 := hw (dl q)
    rcases hm q with h | ⟨h, h'⟩
    · omega
    · have e2 : ¬ 1 ≤ cxW T (dl q) d ((q0, e) :: rp) + wsm T (dl q) d cur := fun h2 => h (hU q h2)
      omega
  · have e1 := hw (dl q)
    have e3 := hcw (dl q)
    rcases hWin q hq with ⟨h, h'⟩ | h
    · have e2 := z4 q h
      omega
    · omega
  · have e1 := hw (dl q)
    have e3 := hcw (dl q)
    by_cases h : 1 ≤ smN (wsm T' (dl q) d) M
    · exact hMW q h
    · have e4 : 1 ≤ cxW T (dl q) d ((q0, e) :: rp) + wsm T (dl q) d cur := by omega
      have e5 : ¬ 1 ≤ smN (wsm T (dl q) d) M0 := fun h2 => by
        have e0 := z3 q
        omega
      exact (z5 q e4).imp (fun h => hWK q h e5) id
  · have hx7 := z7 x (List.mem_cons_of_mem _ hx)
    refine hWK x.1 hx7 (fun h => ?_)
    obtain ⟨i, hi⟩ := List.getElem?_of_mem hx
    have hinx : ∀ (rp : List (Nat × Nat)) (d : Nat), x ∈ rp → inC T d rp x.1 := fun rp => by
      induction rp with
      | nil => intro d h; exact absurd h List.not_mem_nil
      | cons y rp ih =>
        intro d h
        rcases List.mem_cons.mp h with rfl | h
        · exact inC_hd
        · exact inC_tl (ih (d + 1) h)
    have e2 := hinx rp (d + 1) hx
    unfold inC at e2
    have e0 := z3 x.1
    rw [hcw] at e0
    omega
  · rw [cxA_fr (fun q hq => (fC q hq).2), cxB_fr (fun q hq => (fC q hq).2), kyl_s, hkl', cxA_c, cxB_c, hkl]
    have e1 : X.flatMap (kyl T' d) = X.flatMap (kyl T d) := fmap_cg (fun x hx => kyl_fr (fun q hq => (fS x (Or.inl hx) q hq).2))
    have e2 : Y.flatMap (kyl T' d) = Y.flatMap (kyl T d) := fmap_cg (fun x hx => kyl_fr (fun q hq => (fS x (Or.inr hx) q hq).2))
    have e3 := fmap_split hx (kyl T d)
    rw [List.flatMap_append, List.flatMap_append, e1, e2, hky, ← List.flatMap_append, ← List.flatMap_append, e3]
    simp only [List.append_assoc]
