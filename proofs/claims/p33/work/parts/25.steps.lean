/-! the abstract steps; how the class does them -/
def kS (f : Nat → Int32) (S : Nat → Prop) : Prop := ∀ q, q < 800 → (f q ≠ 0 ↔ S q)
def addS (W : Nat → Prop) (n : Nat) : Nat → Prop := fun q => q = n ∨ W q
def rmS (W : Nat → Prop) (n : Nat) : Nat → Prop := fun q => q ≠ n ∧ W q
/-- the least free page -/
def frs (K W : Nat → Prop) (n : Nat) : Prop := n < 720 ∧ ¬ (K n ∨ W n) ∧ ∀ j, j < n → K j ∨ W j
/-- the pages of a level below r -/
def lvl (T : Nat → Nd) (r : Nat) : Nat → List Nat
  | 0 => [r]
  | n + 1 => (lvl T r n).flatMap (fun p => kids (T p))
/-- reached from r -/
def Rch (T : Nat → Nd) (r q : Nat) : Prop := ∃ n, q ∈ lvl T r n
/-- the least free page; what is used is what is kept or reached from these roots -/
def frR (K W : Nat → Prop) (T : Nat → Nd) (rs : List Nat) (n : Nat) : Prop := frs K W n ∧ ∀ q, (K q ∨ W q) ↔ (K q ∨ ∃ r ∈ rs, Rch T r q)
/-- a page written anew, the batch's root being r -/
def wnR (K : Nat → Prop) (T : Nat → Nd) (W : Nat → Prop) (r p p' : Nat) (T' : Nat → Nd) (W' : Nat → Prop) : Prop := (K p ∨ W p) ∧ ((W p ∧ p' = p ∧ T' = T ∧ W' = W) ∨ (¬ W p ∧ frR K W T [r] p' ∧ T' = upT T p' (T p) ∧ W' = addS W p'))
/-- the class's rows hold T on the pages of K and W -/
def CR (K W : Nat → Prop) (T : Nat → Nd) (cnt inn lk wd kp wr : Nat → Int32) : Prop := Rp cnt inn lk wd T (fun q => K q ∨ W q) ∧ kS kp K ∧ kS wr W
theorem kS_add {f : Nat → Int32} {W : Nat → Prop} {n : Nat} (h : kS f W) : kS (upd f n 1) (addS W n) := fun q hq => by
  unfold upd addS
  by_cases hn : q = n
  · simp [hn]
  · rw [if_neg hn]
    exact (h q hq).trans ⟨Or.inr, fun h => h.resolve_left hn⟩
theorem kS_rm {f : Nat → Int32} {W : Nat → Prop} {n : Nat} (h : kS f W) : kS (upd f n 0) (rmS W n) := fun q hq => by
  unfold upd rmS
  by_cases hn : q = n
  · simp [hn]
  · rw [if_neg hn]
    exact (h q hq).trans ⟨fun h => ⟨hn, h⟩, fun h => h.2⟩
theorem frs_vac {K W : Nat → Prop} {kp wr : Nat → Int32} {n : Nat} (h1 : kS kp K) (h2 : kS wr W) (h : frs K W n) : (∀ j, j < n → ¬ (kp j = 0 ∧ wr j = 0)) ∧ (kp n = 0 ∧ wr n = 0) := by
  obtain ⟨hn, hv, hl⟩ := h
  refine ⟨fun j hj hz => ?_, ?_, ?_⟩
  · rcases hl j hj with h | h
    · exact (h1 j (by omega)).mpr h hz.1
    · exact (h2 j (by omega)).mpr h hz.2
  · by_cases hk : kp n = 0
    · exact hk
    · exact absurd (Or.inl ((h1 n (by omega)).mp hk)) hv
  · by_cases hk : wr n = 0
    · exact hk
    · exact absurd (Or.inr ((h2 n (by omega)).mp hk)) hv
section ST
variable {K W : Nat → Prop} {T : Nat → Nd}
theorem s_takeT {sl : Int32} {cu ba r0 r1 r2 r3 : Q4} {sw : Nat → Int64} {bt : Int32} {cnt inn lk wd kp wr mk ls pth tk : Nat → Int32} {tl : List mC} (hC : CR K W T cnt inn lk wd kp wr) {n : Nat} (hn : frs K W n) {a : Int32} {nd : Nd} (ha : (a = 1 ∧ nd = .inl []) ∨ (a = 0 ∧ nd = .inr [])) : ∃ cnt' inn' wr', CR K (addS W n) (upT T n nd) cnt' inn' lk wd kp wr' ∧ EvS m_X0_take [.ref 1, .int a] (cW sl cu ba r0 r1 r2 r3 sw bt cnt inn lk wd kp wr mk ls pth tk tl) (.inl (some (.int (nI n)))) (cW sl cu ba r0 r1 r2 r3 sw bt cnt' inn' lk wd kp wr' mk ls pth tk tl) := by
  obtain ⟨hR, hk, hw⟩ := hC
  have hn8 : n < 800 := by have := hn.1; omega
  obtain ⟨v1, v2⟩ := frs_vac hk hw hn
  have hU : ∀ q, (K q ∨ addS W n q) → q = n ∨ K q ∨ W q := fun q hq => by
    rcases hq with h | h | h
    · exact Or.inr (Or.inl h)
    · exact Or.inl h
    · exact Or.inr (Or.inr h)
  rcases ha with ⟨rfl, rfl⟩ | ⟨rfl, rfl⟩
  · exact ⟨_, _, _, ⟨Rp_mono (Rp_take hR hn8 (v := 0) (Or.inl ⟨rfl, rfl⟩)) hU, hk, kS_add hw⟩, s_take hn8 v1 v2 (Or.inl ⟨rfl, rfl⟩)⟩
  · exact ⟨_, _, _, ⟨Rp_mono (Rp_take hR hn8 (v := 1) (Or.inr ⟨rfl, rfl⟩)) hU, hk, kS_add hw⟩, s_take hn8 v1 v2 (Or.inr ⟨rfl, rfl⟩)⟩
/-- isLeaf by T: 1 for a leaf -/
theorem s_isLeafN {sl : Int32} {cu ba r0 r1 r2 r3 : Q4} {sw : Nat → Int64} {bt : Int32} {cnt inn lk wd kp wr mk ls pth tk : Nat → Int32} {tl : List mC} (hR : Rp cnt inn lk wd T (fun q => K q ∨ W q)) {p : Nat} (hu : K p ∨ W p) : ∃ a : Int32, ((a = 1 ∧ nLf (T p)) ∨ (a = 0 ∧ ¬ nLf (T p))) ∧ EvS m_X0_isLeaf [.ref 1, .int (nI p)] (cW sl cu ba r0 r1 r2 r3 sw bt cnt inn lk wd kp wr mk ls pth tk tl) (.inl (some (.int a))) (cW sl cu ba r0 r1 r2 r3 sw bt cnt inn lk wd kp wr mk ls pth tk tl) := by
  cases ht : T p with
  | inl l =>
    obtain ⟨hp, hi, -⟩ := hR.leaf hu ht
    exact ⟨1, Or.inl ⟨rfl, l, rfl⟩, s_isLeafT hp hi⟩
  | inr l =>
    obtain ⟨hp, hi, -⟩ := hR.inner hu ht
    exact ⟨0, Or.inr ⟨rfl, fun ⟨x, hx⟩ => by cases hx⟩, s_isLeafF hp hi⟩
theorem upT_upT {T : Nat → Nd} {p : Nat} {n m : Nd} : upT (upT T p n) p m = upT T p m := by
  funext q
  unfold upT
  by_cases h : q = p
  · rw [if_pos h, if_pos h]
  · rw [if_neg h, if_neg h, if_neg h]
theorem s_writeAnew {sl : Int32} {cu ba r0 r1 r2 r3 : Q4} {sw : Nat → Int64} {bt : Int32} {cnt inn lk wd kp wr mk ls pth tk : Nat → Int32} {tl : List mC} (hC : CR K W T cnt inn lk wd kp wr) {r p p' : Nat} {T' : Nat → Nd} {W' : Nat → Prop} (hw : wnR K T W r p p' T' W') : ∃ cnt' inn' lk' wd' wr', CR K W' T' cnt' inn' lk' wd' kp wr' ∧ EvS m_X0_writeAnew [.ref 1, .int (nI p)] (cW sl cu ba r0 r1 r2 r3 sw bt cnt inn lk wd kp wr mk ls pth tk tl) (.inl (some (.int (nI p')))) (cW sl cu ba r0 r1 r2 r3 sw bt cnt' inn' lk' wd' kp wr' mk ls pth tk tl) := by
  obtain ⟨hu, hw⟩ := hw
  have hp : p < 800 := (hC.1 p hu).1
  rcases hw with ⟨hWp, rfl, rfl, rfl⟩ | ⟨hWp, ⟨hfr, -⟩, rfl, rfl⟩
  · refine ⟨cnt, inn, lk, wd, wr, hC, ?_⟩
    have h1 : ¬ wr p' = 0 := (hC.2.2 p' hp).mpr hWp
    refine evs_of (by decide +kernel) (Nat.le_of_ble_eq_true rfl) (by decide) rfl ?_
    refine ev_iload_n (pc := 0) dX0_writeAnew_0 rfl rfl ?_
    refine ev_if_lt (pc := 1) (tgt := 20) dX0_writeAnew_1 (by decide) (fun c_1 => absurd c_1 (hp0 hp)) (fun _ => ?_)
    refine ev_iload_n (pc := 4) dX0_writeAnew_4 rfl rfl ?_
    refine ev_sipush (pc := 5) (v := 800) dX0_writeAnew_5 (by decide) ?_
    refine ev_ic_ge (pc := 8) (tgt := 20) dX0_writeAnew_8 (by decide) (fun c_8 => absurd c_8 (hp8 hp)) (fun _ => ?_)
    refine ev_aload_n (pc := 11) dX0_writeAnew_11 rfl rfl ?_
    refine ev_get (pc := 12) dX0_writeAnew_12 fd_X0_28 rfl rfl ?_
    refine ev_iload_n (pc := 15) dX0_writeAnew_15 rfl rfl ?_
    refine ev_zaldN (pc := 16) dX0_writeAnew_16 rfl ⟨rfl, hp, by decide⟩ rfl ?_
    refine ev_if_eq (pc := 17) (tgt := 22) dX0_writeAnew_17 (by decide) (fun c_17 => absurd c_17 h1) (fun _ => ?_)
    refine ev_iload_n (pc := 20) dX0_writeAnew_20 rfl rfl ?_
    exact ev_iretE (pc := 21) dX0_writeAnew_21 rfl ⟨Nat.le_of_ble_eq_true rfl, Nat.le_of_ble_eq_true rfl⟩ rfl rfl
  · have h1 : wr p = 0 := by
      by_cases h : wr p = 0
      · exact h
      · exact absurd ((hC.2.2 p hp).mp h) hWp
    have hne : p ≠ p' := fun h => hfr.2.1 (h ▸ hu)
    have hp9 : p' < 800 := by have := hfr.1; omega
    obtain ⟨a, ha, e1⟩ := s_isLeafN (sl := sl) (cu := cu) (ba := ba) (r0 := r0) (r1 := r1) (r2 := r2) (r3 := r3) (sw := sw) (bt := bt) (cnt := cnt) (inn := inn) (lk := lk) (wd := wd) (kp := kp) (wr := wr) (mk := mk) (ls := ls) (pth := pth) (tk := tk) (tl := tl) hC.1 hu
    obtain ⟨nd, hnd, hkd⟩ : ∃ nd : Nd, ((a = 1 ∧ nd = .inl []) ∨ (a = 0 ∧ nd = .inr [])) ∧ (nLf (T p) ↔ nLf nd) := by
      rcases ha with ⟨h, h2⟩ | ⟨h, h2⟩
      · exact ⟨.inl [], Or.inl ⟨h, rfl⟩, fun _ => ⟨[], rfl⟩, fun _ => h2⟩
      · exact ⟨.inr [], Or.inr ⟨h, rfl⟩, fun h3 => absurd h3 h2, fun ⟨x, hx⟩ => by cases hx⟩
    have hnl : nlen nd = 0 := by rcases hnd with ⟨-, rfl⟩ | ⟨-, rfl⟩ <;> rfl
    obtain ⟨c1, i1, w1, hC1, e2⟩ := s_takeT (sl := sl) (cu := cu) (ba := ba) (r0 := r0) (r1 := r1) (r2 := r2) (r3 := r3) (sw := sw) (bt := bt) (cnt := cnt) (inn := inn) (lk := lk) (wd := wd) (kp := kp) (wr := wr) (mk := mk) (ls := ls) (pth := pth) (tk := tk) (tl := tl) hC hfr hnd
    have hu1 : K p ∨ addS W p' p := hu.elim Or.inl (fun h => Or.inr (Or.inr h))
    have hu2 : K p' ∨ addS W p' p' := Or.inr (Or.inl rfl)
    have t1 : upT T p' nd p = T p := upT_n hne
    have t2 : upT T p' nd p' = nd := upT_s _ _ _
    obtain ⟨hp8', hcp, hl5⟩ := hC1.1.cnt hu1
    obtain ⟨-, hcq, -⟩ := hC1.1.cnt hu2
    rw [t1] at hcp hl5
    rw [t2, hnl] at hcq
    have hTT : upT (upT T p' nd) p' (nApp nd (T p)) = upT T p' (T p) := by
      rw [upT_upT]
      congr 1
      rcases hnd with ⟨-, rfl⟩ | ⟨-, rfl⟩
      · obtain ⟨l, hl⟩ := hkd.mpr ⟨[], rfl⟩
        rw [hl]; rfl
      · cases hl : T p with
        | inl l => exact absurd (hkd.mp ⟨l, hl⟩) (fun ⟨x, hx⟩ => by cases hx)
        | inr l => rfl
    rcases Nat.eq_zero_or_pos (nlen (T p)) with h0 | h0
    · refine ⟨c1, i1, lk, wd, w1, ?_, ?_⟩
      · have e9 : upT T p' (T p) = upT T p' nd := by
          congr 1
          rcases hnd with ⟨-, rfl⟩ | ⟨-, rfl⟩
          · obtain ⟨l, hl⟩ := hkd.mpr ⟨[], rfl⟩
            rw [hl] at h0 ⊢
            rw [List.length_eq_zero_iff.mp h0]
          · cases hl : T p with
            | inl l => exact absurd (hkd.mp ⟨l, hl⟩) (fun ⟨x, hx⟩ => by cases hx)
            | inr l =>
              rw [hl] at h0
              rw [List.length_eq_zero_iff.mp h0]
        rw [e9]
        exact hC1
      · refine evs_of (by decide +kernel) (Nat.le_of_ble_eq_true rfl) (by decide) rfl ?_
        refine ev_iload_n (pc := 0) dX0_writeAnew_0 rfl rfl ?_
        refine ev_if_lt (pc := 1) (tgt := 20) dX0_writeAnew_1 (by decide) (fun c_1 => absurd c_1 (hp0 hp)) (fun _ => ?_)
        refine ev_iload_n (pc := 4) dX0_writeAnew_4 rfl rfl ?_
        refine ev_sipush (pc := 5) (v := 800) dX0_writeAnew_5 (by decide) ?_
        refine ev_ic_ge (pc := 8) (tgt := 20) dX0_writeAnew_8 (by decide) (fun c_8 => absurd c_8 (hp8 hp)) (fun _ => ?_)
        refine ev_aload_n (pc := 11) dX0_writeAnew_11 rfl rfl ?_
        refine ev_get (pc := 12) dX0_writeAnew_12 fd_X0_28 rfl rfl ?_
        refine ev_iload_n (pc := 15) dX0_writeAnew_15 rfl rfl ?_
        refine ev_zaldN (pc := 16) dX0_writeAnew_16 rfl ⟨rfl, hp, by decide⟩ h1 ?_
        refine ev_if_eq (pc := 17) (tgt := 22) dX0_writeAnew_17 (by decide) (fun _ => ?_) (fun c_17 => absurd rfl c_17)
        refine ev_aload_n (pc := 22) dX0_writeAnew_22 rfl rfl ?_
        refine ev_aload_n (pc := 23) dX0_writeAnew_23 rfl rfl ?_
        refine ev_iload_n (pc := 24) dX0_writeAnew_24 rfl rfl ?_
        refine cV1 (pc := 25) lk_X0_writeAnew_25 rfl rfl rfl (Nat.le_of_ble_eq_true rfl) ⟨Nat.le_of_ble_eq_true rfl, Nat.le_of_ble_eq_true rfl⟩ e1 ?_
        refine cV1 (pc := 28) lk_X0_writeAnew_28 rfl rfl rfl (Nat.le_of_ble_eq_true rfl) ⟨Nat.le_of_ble_eq_true rfl, Nat.le_of_ble_eq_true rfl⟩ e2 ?_
        refine ev_istore_n (pc := 31) dX0_writeAnew_31 rfl rfl rfl ?_
        refine ev_aload_n (pc := 32) dX0_writeAnew_32 rfl rfl ?_
        refine ev_iload_n (pc := 33) dX0_writeAnew_33 rfl rfl ?_
        refine ev_iload_n (pc := 34) dX0_writeAnew_34 rfl rfl ?_
        refine cV2 (pc := 35) lk_X0_writeAnew_35 rfl rfl rfl (Nat.le_of_ble_eq_true rfl) ⟨Nat.le_of_ble_eq_true rfl, Nat.le_of_ble_eq_true rfl⟩ (s_append0 hp hp9 hcq (by rw [hcp, h0])) ?_
        refine ev_iload_n (pc := 38) dX0_writeAnew_38 rfl rfl ?_
        exact ev_iretE (pc := 39) dX0_writeAnew_39 rfl ⟨Nat.le_of_ble_eq_true rfl, Nat.le_of_ble_eq_true rfl⟩ rfl rfl
    · have hA := Rp_app hC1.1 hu1 hu2 hne (by rw [t1, t2]; exact hkd) (by rw [t1, t2, hnl]; omega)
      rw [t1, t2, hTT, hnl, Nat.zero_add] at hA
      refine ⟨_, _, _, _, _, ⟨hA, hC1.2.1, hC1.2.2⟩, ?_⟩
      refine evs_of (by decide +kernel) (Nat.le_of_ble_eq_true rfl) (by decide) rfl ?_
      refine ev_iload_n (pc := 0) dX0_writeAnew_0 rfl rfl ?_
      refine ev_if_lt (pc := 1) (tgt := 20) dX0_writeAnew_1 (by decide) (fun c_1 => absurd c_1 (hp0 hp)) (fun _ => ?_)
      refine ev_iload_n (pc := 4) dX0_writeAnew_4 rfl rfl ?_
      refine ev_sipush (pc := 5) (v := 800) dX0_writeAnew_5 (by decide) ?_
      refine ev_ic_ge (pc := 8) (tgt := 20) dX0_writeAnew_8 (by decide) (fun c_8 => absurd c_8 (hp8 hp)) (fun _ => ?_)
      refine ev_aload_n (pc := 11) dX0_writeAnew_11 rfl rfl ?_
      refine ev_get (pc := 12) dX0_writeAnew_12 fd_X0_28 rfl rfl ?_
      refine ev_iload_n (pc := 15) dX0_writeAnew_15 rfl rfl ?_
      refine ev_zaldN (pc := 16) dX0_writeAnew_16 rfl ⟨rfl, hp, by decide⟩ h1 ?_
      refine ev_if_eq (pc := 17) (tgt := 22) dX0_writeAnew_17 (by decide) (fun _ => ?_) (fun c_17 => absurd rfl c_17)
      refine ev_aload_n (pc := 22) dX0_writeAnew_22 rfl rfl ?_
      refine ev_aload_n (pc := 23) dX0_writeAnew_23 rfl rfl ?_
      refine ev_iload_n (pc := 24) dX0_writeAnew_24 rfl rfl ?_
      refine cV1 (pc := 25) lk_X0_writeAnew_25 rfl rfl rfl (Nat.le_of_ble_eq_true rfl) ⟨Nat.le_of_ble_eq_true rfl, Nat.le_of_ble_eq_true rfl⟩ e1 ?_
      refine cV1 (pc := 28) lk_X0_writeAnew_28 rfl rfl rfl (Nat.le_of_ble_eq_true rfl) ⟨Nat.le_of_ble_eq_true rfl, Nat.le_of_ble_eq_true rfl⟩ e2 ?_
      refine ev_istore_n (pc := 31) dX0_writeAnew_31 rfl rfl rfl ?_
      refine ev_aload_n (pc := 32) dX0_writeAnew_32 rfl rfl ?_
      refine ev_iload_n (pc := 33) dX0_writeAnew_33 rfl rfl ?_
      refine ev_iload_n (pc := 34) dX0_writeAnew_34 rfl rfl ?_
      refine cV2 (pc := 35) lk_X0_writeAnew_35 rfl rfl rfl (Nat.le_of_ble_eq_true rfl) ⟨Nat.le_of_ble_eq_true rfl, Nat.le_of_ble_eq_true rfl⟩ (by have h9 := s_append (sl := sl) (cu := cu) (ba := ba) (r0 := r0) (r1 := r1) (r2 := r2) (r3 := r3) (sw := sw) (bt := bt) (cnt := c1) (inn := i1) (lk := lk) (wd := wd) (kp := kp) (wr := w1) (mk := mk) (ls := ls) (pth := pth) (tk := tk) (tl := tl) (c1 := 0) hp hp9 hne hcq hcp h0 (by omega); rw [Nat.zero_add] at h9; exact h9) ?_
      refine ev_iload_n (pc := 38) dX0_writeAnew_38 rfl rfl ?_
      exact ev_iretE (pc := 39) dX0_writeAnew_39 rfl ⟨Nat.le_of_ble_eq_true rfl, Nat.le_of_ble_eq_true rfl⟩ rfl rfl
/-- an entry's key can be read -/
def kyOk (T : Nat → Nd) (U : Nat → Prop) (p e : Nat) : Prop := (∃ l x, T p = .inl l ∧ l[e]? = some x) ∨ (∃ l c d, T p = .inr l ∧ l[e]? = some c ∧ fl T U d c ∧ d ≤ 7)
theorem s_keyOfN {sl : Int32} {cu ba r0 r1 r2 r3 : Q4} {sw : Nat → Int64} {bt : Int32} {cnt inn lk wd kp wr mk ls pth tk : Nat → Int32} {tl : List mC} {U : Nat → Prop} (hR : Rp cnt inn lk wd T U) {p e : Nat} (hu : U p) (hk : kyOk T U p e) : ∃ k : Int32, EvS m_X0_keyOf [.ref 1, .int (nI p), .int (nI e)] (cW sl cu ba r0 r1 r2 r3 sw bt cnt inn lk wd kp wr mk ls pth tk tl) (.inl (some (.int k))) (cW sl cu ba r0 r1 r2 r3 sw bt cnt inn lk wd kp wr mk ls pth tk tl) := by
  rcases hk with ⟨l, x, h1, h2⟩ | ⟨l, c, d, h1, h2, h3, h4⟩
  · exact ⟨_, s_keyOfL hR hu h1 h2⟩
  · exact ⟨_, s_keyOfI hR hu h1 h2 h3 h4⟩
theorem s_move {sl : Int32} {cu ba r0 r1 r2 r3 : Q4} {sw : Nat → Int64} {bt : Int32} {cnt inn lk wd kp wr mk ls pth tk : Nat → Int32} {tl : List mC} {U : Nat → Prop} (hR : Rp cnt inn lk wd T U) {p q e pl : Nat} (hu : U p) (huq : U q) (hpq : p ≠ q) (hkd : nLf (T p) ↔ nLf (T q)) (he : e < nlen (T p)) (hpl : pl ≤ nlen (T q)) (h4 : nlen (T q) ≤ 4) (hky : kyOk T U p e) : ∃ cnt' lk' wd', Rp cnt' inn lk' wd' (upT (upT T q (nGet (T q) (T p) pl e)) p (nRem (T p) e)) U ∧ EvS m_X0_move [.ref 1, .int (nI p), .int (nI e), .int (nI q), .int (nI pl)] (cW sl cu ba r0 r1 r2 r3 sw bt cnt inn lk wd kp wr mk ls pth tk tl) (.inl none) (cW sl cu ba r0 r1 r2 r3 sw bt cnt' inn lk' wd' kp wr mk ls pth tk tl) := by
  obtain ⟨hp, hcp, hp5⟩ := hR.cnt hu
  obtain ⟨hq, hcq, -⟩ := hR.cnt huq
  cases ht : T p with
  | inl l =>
    obtain ⟨r, hr⟩ : nLf (T q) := hkd.mp ⟨l, ht⟩
    have hl : e < l.length := by rw [ht] at he; exact he
    have hx : l[e]? = some l[e] := List.getElem?_eq_getElem hl
    have hrr := (hR.leaf hu ht).2.2.2.2 e _ hx
    have hpl2 : pl ≤ r.length := by rw [hr] at hpl; exact hpl
    have h42 : r.length ≤ 4 := by rw [hr] at h4; exact h4
    have hI := Rp_insL hR huq hr hpl2 h42 (x := l[e]) hrr.2.2
    have hG : nGet (T q) (.inl l) pl e = .inl (r.take pl ++ l[e] :: r.drop pl) := by
      simp only [nGet, nTake, nDrop, nApp, hr]
      rw [List.take_one, List.head?_drop, hx]
      simp
    have hne : upT T q (.inl (r.take pl ++ l[e] :: r.drop pl)) p = .inl l := by rw [upT_n hpq, ht]
    have hM := Rp_rm hI (p := p) (e := e) hu (by rw [hne]; exact hl)
    rw [hne] at hM
    rw [hG]
    refine ⟨_, _, _, hM, ?_⟩
    have hcp2 : upd cnt q (nI (r.length + 1)) p = nI l.length := by rw [upd_o hpq, hcp, ht]; rfl
    refine evs_of (by decide +kernel) (Nat.le_of_ble_eq_true rfl) (by decide) rfl ?_
    refine ev_aload_n (pc := 0) dX0_move_0 rfl rfl ?_
    refine ev_iload_n (pc := 1) dX0_move_1 rfl rfl ?_
    refine ev_iload (pc := 2) dX0_move_2 rfl ?_
    refine ev_aload_n (pc := 4) dX0_move_4 rfl rfl ?_
    refine ev_iload_n (pc := 5) dX0_move_5 rfl rfl ?_
    refine ev_iload_n (pc := 6) dX0_move_6 rfl rfl ?_
    refine cV2 (pc := 7) lk_X0_move_7 rfl rfl rfl (Nat.le_of_ble_eq_true rfl) ⟨Nat.le_of_ble_eq_true rfl, Nat.le_of_ble_eq_true rfl⟩ (s_keyOfL hR hu ht hx) ?_
    refine ev_aload_n (pc := 10) dX0_move_10 rfl rfl ?_
    refine ev_iload_n (pc := 11) dX0_move_11 rfl rfl ?_
    refine ev_iload_n (pc := 12) dX0_move_12 rfl rfl ?_
    refine cV2 (pc := 13) lk_X0_move_13 rfl rfl rfl (Nat.le_of_ble_eq_true rfl) ⟨Nat.le_of_ble_eq_true rfl, Nat.le_of_ble_eq_true rfl⟩ (s_wordOf hp (by omega) hrr.2.1) ?_
    refine cV4 (pc := 16) lk_X0_move_16 rfl rfl rfl (Nat.le_of_ble_eq_true rfl) ⟨Nat.le_of_ble_eq_true rfl, Nat.le_of_ble_eq_true rfl⟩ (s_insert hq (by rw [hcq, hr]; rfl) hpl2 h42) ?_
    refine ev_aload_n (pc := 19) dX0_move_19 rfl rfl ?_
    refine ev_iload_n (pc := 20) dX0_move_20 rfl rfl ?_
    refine ev_iload_n (pc := 21) dX0_move_21 rfl rfl ?_
    refine cV2 (pc := 22) lk_X0_move_22 rfl rfl rfl (Nat.le_of_ble_eq_true rfl) ⟨Nat.le_of_ble_eq_true rfl, Nat.le_of_ble_eq_true rfl⟩ (s_remove hp hcp2 hl (by rw [ht] at hp5; exact hp5)) ?_
    exact ev_vretE (pc := 25) dX0_move_25 rfl ⟨Nat.le_of_ble_eq_true rfl, Nat.le_of_ble_eq_true rfl⟩ rfl
  | inr l =>
    obtain ⟨r, hr⟩ : ∃ r, T q = .inr r := by
      cases hq2 : T q with
      | inl r => exact absurd (hkd.mpr ⟨r, hq2⟩) (fun ⟨x, hx⟩ => by rw [ht] at hx; cases hx)
      | inr r => exact ⟨r, rfl⟩
    have hl : e < l.length := by rw [ht] at he; exact he
    have hx : l[e]? = some l[e] := List.getElem?_eq_getElem hl
    have hrr := (hR.inner hu ht).2.2.2.2 e _ hx
    have hpl2 : pl ≤ r.length := by rw [hr] at hpl; exact hpl
    have h42 : r.length ≤ 4 := by rw [hr] at h4; exact h4
    obtain ⟨key, ek⟩ := s_keyOfN (sl := sl) (cu := cu) (ba := ba) (r0 := r0) (r1 := r1) (r2 := r2) (r3 := r3) (sw := sw) (bt := bt) (cnt := cnt) (inn := inn) (lk := lk) (wd := wd) (kp := kp) (wr := wr) (mk := mk) (ls := ls) (pth := pth) (tk := tk) (tl := tl) hR hu hky
    have hI := Rp_insI hR huq hr hpl2 h42 (c := l[e]) (key := key) hrr.2
    have hG : nGet (T q) (.inr l) pl e = .inr (r.take pl ++ l[e] :: r.drop pl) := by
      simp only [nGet, nTake, nDrop, nApp, hr]
      rw [List.take_one, List.head?_drop, hx]
      simp
    have hne : upT T q (.inr (r.take pl ++ l[e] :: r.drop pl)) p = .inr l := by rw [upT_n hpq, ht]
    have hM := Rp_rm hI (p := p) (e := e) hu (by rw [hne]; exact hl)
    rw [hne] at hM
    rw [hG]
    refine ⟨_, _, _, hM, ?_⟩
    have hcp2 : upd cnt q (nI (r.length + 1)) p = nI l.length := by rw [upd_o hpq, hcp, ht]; rfl
    refine evs_of (by decide +kernel) (Nat.le_of_ble_eq_true rfl) (by decide) rfl ?_
    refine ev_aload_n (pc := 0) dX0_move_0 rfl rfl ?_
    refine ev_iload_n (pc := 1) dX0_move_1 rfl rfl ?_
    refine ev_iload (pc := 2) dX0_move_2 rfl ?_
    refine ev_aload_n (pc := 4) dX0_move_4 rfl rfl ?_
    refine ev_iload_n (pc := 5) dX0_move_5 rfl rfl ?_
    refine ev_iload_n (pc := 6) dX0_move_6 rfl rfl ?_
    refine cV2 (pc := 7) lk_X0_move_7 rfl rfl rfl (Nat.le_of_ble_eq_true rfl) ⟨Nat.le_of_ble_eq_true rfl, Nat.le_of_ble_eq_true rfl⟩ ek ?_
    refine ev_aload_n (pc := 10) dX0_move_10 rfl rfl ?_
    refine ev_iload_n (pc := 11) dX0_move_11 rfl rfl ?_
    refine ev_iload_n (pc := 12) dX0_move_12 rfl rfl ?_
    refine cV2 (pc := 13) lk_X0_move_13 rfl rfl rfl (Nat.le_of_ble_eq_true rfl) ⟨Nat.le_of_ble_eq_true rfl, Nat.le_of_ble_eq_true rfl⟩ (s_wordOf hp (by rw [ht] at hp5; exact Nat.lt_of_lt_of_le hl hp5) hrr.1) ?_
    refine cV4 (pc := 16) lk_X0_move_16 rfl rfl rfl (Nat.le_of_ble_eq_true rfl) ⟨Nat.le_of_ble_eq_true rfl, Nat.le_of_ble_eq_true rfl⟩ (s_insert hq (by rw [hcq, hr]; rfl) hpl2 h42) ?_
    refine ev_aload_n (pc := 19) dX0_move_19 rfl rfl ?_
    refine ev_iload_n (pc := 20) dX0_move_20 rfl rfl ?_
    refine ev_iload_n (pc := 21) dX0_move_21 rfl rfl ?_
    refine cV2 (pc := 22) lk_X0_move_22 rfl rfl rfl (Nat.le_of_ble_eq_true rfl) ⟨Nat.le_of_ble_eq_true rfl, Nat.le_of_ble_eq_true rfl⟩ (s_remove hp hcp2 hl (by rw [ht] at hp5; exact hp5)) ?_
    exact ev_vretE (pc := 25) dX0_move_25 rfl ⟨Nat.le_of_ble_eq_true rfl, Nat.le_of_ble_eq_true rfl⟩ rfl
end ST
