/-! splitting -/
section ST3
variable {K W : Nat → Prop} {T : Nat → Nd}
theorem nlen_Rem {n : Nd} {e : Nat} (h : e < nlen n) : nlen (nRem n e) = nlen n - 1 := by
  cases n with
  | inl l => simp only [nlen, nRem, nTake, nDrop, nApp, List.length_append, List.length_take, List.length_drop] at h ⊢; omega
  | inr l => simp only [nlen, nRem, nTake, nDrop, nApp, List.length_append, List.length_take, List.length_drop] at h ⊢; omega
/-- what a full page leaves behind, and what goes -/
theorem nd_split {n : Nd} (h : nlen n = 5) : ∀ {nd : Nd}, nlen nd = 0 → (nLf nd ↔ nLf n) → nGet (nGet nd n 0 3) (nRem n 3) 1 3 = nDrop n 3 ∧ nRem (nRem n 3) 3 = nTake n 3 := by
  intro nd h0 hk
  cases n with
  | inl l =>
    obtain ⟨x, rfl⟩ := hk.mpr ⟨l, rfl⟩
    match l, h with
    | [a, b, c, d, e], _ =>
      have : x = [] := List.length_eq_zero_iff.mp h0
      subst this
      exact ⟨rfl, rfl⟩
  | inr l =>
    cases nd with
    | inl x => exact absurd (hk.mp ⟨x, rfl⟩) (fun ⟨y, hy⟩ => by cases hy)
    | inr x =>
      match l, h with
      | [a, b, c, d, e], _ =>
        have : x = [] := List.length_eq_zero_iff.mp h0
        subst this
        exact ⟨rfl, rfl⟩
theorem nLf_Rem {n : Nd} {e : Nat} : nLf (nRem n e) ↔ nLf n := by
  cases n with
  | inl l => exact ⟨fun _ => ⟨l, rfl⟩, fun _ => ⟨_, rfl⟩⟩
  | inr l => exact ⟨fun ⟨x, hx⟩ => (by cases hx), fun ⟨x, hx⟩ => (by cases hx)⟩
theorem nLf_Get {n m : Nd} {a b : Nat} (h : nLf n ↔ nLf m) : nLf (nGet n m a b) ↔ nLf n := by
  cases n with
  | inl l =>
    obtain ⟨r, rfl⟩ := h.mp ⟨l, rfl⟩
    exact ⟨fun _ => ⟨l, rfl⟩, fun _ => ⟨_, rfl⟩⟩
  | inr l =>
    cases m with
    | inl r => exact absurd (h.mpr ⟨r, rfl⟩) (fun ⟨x, hx⟩ => by cases hx)
    | inr r => exact ⟨fun ⟨x, hx⟩ => (by cases hx), fun ⟨x, hx⟩ => (by cases hx)⟩
theorem nlen_Get {n m : Nd} {a b : Nat} (h : nLf n ↔ nLf m) (hb : b < nlen m) (ha : a ≤ nlen n) : nlen (nGet n m a b) = nlen n + 1 := by
  cases n with
  | inl l =>
    obtain ⟨r, rfl⟩ := h.mp ⟨l, rfl⟩
    simp only [nlen, nGet, nTake, nDrop, nApp, List.length_append, List.length_take, List.length_drop] at hb ha ⊢
    omega
  | inr l =>
    cases m with
    | inl r => exact absurd (h.mpr ⟨r, rfl⟩) (fun ⟨x, hx⟩ => by cases hx)
    | inr r =>
      simp only [nlen, nGet, nTake, nDrop, nApp, List.length_append, List.length_take, List.length_drop] at hb ha ⊢
      omega
theorem kyOk_full {T T' : Nat → Nd} {U U' : Nat → Prop} {p e e' : Nat} (h5 : nlen (T p) = 5) (hk : kyOk T U p e) (hT : ∀ q, U q → q ≠ p → U' q ∧ T' q = T q) (he : ∀ l, T p = .inl l → ∃ l', T' p = .inl l' ∧ l'[e']? = l[e]?) (hi : ∀ l, T p = .inr l → ∃ l', T' p = .inr l' ∧ l'[e']? = l[e]?) : kyOk T' U' p e' := by
  rcases hk with ⟨l, x, h1, h2⟩ | ⟨l, c, d, h1, h2, h3, h4⟩
  · obtain ⟨l', a, b⟩ := he l h1
    exact Or.inl ⟨l', x, a, b.trans h2⟩
  · obtain ⟨l', a, b⟩ := hi l h1
    refine Or.inr ⟨l', c, d, a, b.trans h2, fl_mono (fun q hq hl => hT q hq ?_) h3, h4⟩
    intro hqp
    subst hqp
    omega
theorem s_splitOff {sl : Int32} {cu ba r0 r1 r2 r3 : Q4} {sw : Nat → Int64} {bt : Int32} {cnt inn lk wd kp wr mk ls pth tk : Nat → Int32} {tl : List mC} (hC : CR K W T cnt inn lk wd kp wr) {p n : Nat} (hu : K p ∨ W p) (h5 : nlen (T p) = 5) (k3 : kyOk T (fun q => K q ∨ W q) p 3) (k4 : kyOk T (fun q => K q ∨ W q) p 4) (hn : frs K W n) : ∃ cnt' inn' lk' wd' wr', CR K (addS W n) (upT (upT T n (nDrop (T p) 3)) p (nTake (T p) 3)) cnt' inn' lk' wd' kp wr' ∧ EvS m_X2_splitOff [.ref 12, .int (nI p)] (cW sl cu ba r0 r1 r2 r3 sw bt cnt inn lk wd kp wr mk ls pth tk tl) (.inl (some (.int (nI n)))) (cW sl cu ba r0 r1 r2 r3 sw bt cnt' inn' lk' wd' kp wr' mk ls pth tk tl) := by
  obtain ⟨a, ha, e1⟩ := s_isLeafN (sl := sl) (cu := cu) (ba := ba) (r0 := r0) (r1 := r1) (r2 := r2) (r3 := r3) (sw := sw) (bt := bt) (cnt := cnt) (inn := inn) (lk := lk) (wd := wd) (kp := kp) (wr := wr) (mk := mk) (ls := ls) (pth := pth) (tk := tk) (tl := tl) hC.1 hu
  have hne : p ≠ n := fun h => hn.2.1 (h ▸ hu)
  obtain ⟨nd, hnd, hkd⟩ : ∃ nd : Nd, ((a = 1 ∧ nd = .inl []) ∨ (a = 0 ∧ nd = .inr [])) ∧ (nLf (T p) ↔ nLf nd) := by
    rcases ha with ⟨h, h2⟩ | ⟨h, h2⟩
    · exact ⟨.inl [], Or.inl ⟨h, rfl⟩, fun _ => ⟨[], rfl⟩, fun _ => h2⟩
    · exact ⟨.inr [], Or.inr ⟨h, rfl⟩, fun h3 => absurd h3 h2, fun ⟨x, hx⟩ => by cases hx⟩
  have hnl : nlen nd = 0 := by rcases hnd with ⟨-, rfl⟩ | ⟨-, rfl⟩ <;> rfl
  obtain ⟨c1, i1, w1, hC1, e2⟩ := s_takeT (sl := sl) (cu := cu) (ba := ba) (r0 := r0) (r1 := r1) (r2 := r2) (r3 := r3) (sw := sw) (bt := bt) (cnt := cnt) (inn := inn) (lk := lk) (wd := wd) (kp := kp) (wr := wr) (mk := mk) (ls := ls) (pth := pth) (tk := tk) (tl := tl) hC hn hnd
  have hu1 : K p ∨ addS W n p := hu.elim Or.inl (fun h => Or.inr (Or.inr h))
  have hu2 : K n ∨ addS W n n := Or.inr (Or.inl rfl)
  have t1 : upT T n nd p = T p := upT_n hne
  have t2 : upT T n nd n = nd := upT_s _ _ _
  have hUU : ∀ q, (K q ∨ W q) → (K q ∨ addS W n q) := fun q hq => hq.elim Or.inl (fun h => Or.inr (Or.inr h))
  have kA : kyOk (upT T n nd) (fun q => K q ∨ addS W n q) p 3 := by
    refine kyOk_full h5 k3 (fun q hq hqp => ⟨hUU q hq, upT_n (fun h => ?_)⟩) (fun l hl => ⟨l, by rw [t1, hl], rfl⟩) (fun l hl => ⟨l, by rw [t1, hl], rfl⟩)
    subst h
    exact hn.2.1 hq
  obtain ⟨c2, l2, d2, hR2, e3⟩ := s_move (sl := sl) (cu := cu) (ba := ba) (r0 := r0) (r1 := r1) (r2 := r2) (r3 := r3) (sw := sw) (bt := bt) (cnt := c1) (inn := i1) (lk := lk) (wd := wd) (kp := kp) (wr := w1) (mk := mk) (ls := ls) (pth := pth) (tk := tk) (tl := tl) hC1.1 (p := p) (q := n) (e := 3) (pl := 0) hu1 hu2 hne (by rw [t1, t2]; exact hkd) (by rw [t1, h5]; decide) (Nat.zero_le _) (by rw [t2, hnl]; decide) kA
  rw [t1, t2] at hR2
  have s1 : upT (upT (upT T n nd) n (nGet nd (T p) 0 3)) p (nRem (T p) 3) p = nRem (T p) 3 := upT_s _ _ _
  have s2 : upT (upT (upT T n nd) n (nGet nd (T p) 0 3)) p (nRem (T p) 3) n = nGet nd (T p) 0 3 := by rw [upT_n (Ne.symm hne), upT_s]
  have kB : kyOk (upT (upT (upT T n nd) n (nGet nd (T p) 0 3)) p (nRem (T p) 3)) (fun q => K q ∨ addS W n q) p 3 := by
    refine kyOk_full h5 k4 (fun q hq hqp => ⟨hUU q hq, ?_⟩) (fun l hl => ⟨l.take 3 ++ l.drop 4, by rw [s1, hl]; rfl, ?_⟩) (fun l hl => ⟨l.take 3 ++ l.drop 4, by rw [s1, hl]; rfl, ?_⟩)
    · have hqn : q ≠ n := fun h => by subst h; exact hn.2.1 hq
      rw [upT_n hqp, upT_n hqn, upT_n hqn]
    · rw [hl] at h5
      match l, h5 with
      | [a, b, c, d, e], _ => rfl
    · rw [hl] at h5
      match l, h5 with
      | [a, b, c, d, e], _ => rfl
  obtain ⟨c3, l3, d3, hR3, e4⟩ := s_move (sl := sl) (cu := cu) (ba := ba) (r0 := r0) (r1 := r1) (r2 := r2) (r3 := r3) (sw := sw) (bt := bt) (cnt := c2) (inn := i1) (lk := l2) (wd := d2) (kp := kp) (wr := w1) (mk := mk) (ls := ls) (pth := pth) (tk := tk) (tl := tl) hR2 (p := p) (q := n) (e := 3) (pl := 1) hu1 hu2 hne (by rw [s1, s2, nLf_Rem, nLf_Get hkd.symm]; exact hkd) (by rw [s1, nlen_Rem (by rw [h5]; decide), h5]; decide) (by rw [s2, nlen_Get hkd.symm (by rw [h5]; decide) (Nat.zero_le _), hnl]; decide) (by rw [s2, nlen_Get hkd.symm (by rw [h5]; decide) (Nat.zero_le _), hnl]; decide) kB
  rw [s1, s2, (nd_split h5 hnl hkd.symm).1, (nd_split h5 hnl hkd.symm).2] at hR3
  have hTT : upT (upT (upT (upT (upT T n nd) n (nGet nd (T p) 0 3)) p (nRem (T p) 3)) n (nDrop (T p) 3)) p (nTake (T p) 3) = upT (upT T n (nDrop (T p) 3)) p (nTake (T p) 3) := by
    funext q
    by_cases hp : q = p
    · subst hp; rw [upT_s, upT_s]
    · by_cases hq : q = n
      · subst hq; rw [upT_n hp, upT_s, upT_n hp, upT_s]
      · rw [upT_n hp, upT_n hq, upT_n hp, upT_n hq, upT_n hq, upT_n hp, upT_n hq]
  rw [hTT] at hR3
  refine ⟨c3, i1, l3, d3, w1, ⟨hR3, hC1.2.1, hC1.2.2⟩, ?_⟩
  refine evs_of (by decide +kernel) (Nat.le_of_ble_eq_true rfl) (by decide) rfl ?_
  refine ev_aload_n (pc := 0) dX2_splitOff_0 rfl rfl ?_
  refine ev_get (pc := 1) dX2_splitOff_1 fd_X2_18 rfl rfl ?_
  refine ev_aload_n (pc := 4) dX2_splitOff_4 rfl rfl ?_
  refine ev_get (pc := 5) dX2_splitOff_5 fd_X2_18 rfl rfl ?_
  refine ev_iload_n (pc := 8) dX2_splitOff_8 rfl rfl ?_
  refine cV1 (pc := 9) lk_X2_splitOff_9 rfl rfl rfl (Nat.le_of_ble_eq_true rfl) ⟨Nat.le_of_ble_eq_true rfl, Nat.le_of_ble_eq_true rfl⟩ e1 ?_
  refine cV1 (pc := 12) lk_X2_splitOff_12 rfl rfl rfl (Nat.le_of_ble_eq_true rfl) ⟨Nat.le_of_ble_eq_true rfl, Nat.le_of_ble_eq_true rfl⟩ e2 ?_
  refine ev_istore_n (pc := 15) dX2_splitOff_15 rfl rfl rfl ?_
  refine ev_iconst (pc := 16) (v := 0) dX2_splitOff_16 (by decide) ?_
  refine ev_istore_n (pc := 17) dX2_splitOff_17 rfl rfl rfl ?_
  refine ev_iload_n (pc := 18) dX2_splitOff_18 rfl rfl ?_
  refine ev_iconst (pc := 19) (v := 2) dX2_splitOff_19 (by decide) ?_
  refine ev_ic_ge (pc := 20) (tgt := 40) dX2_splitOff_20 (by decide) (fun c_20 => absurd c_20 (by decide)) (fun _ => ?_)
  refine ev_aload_n (pc := 23) dX2_splitOff_23 rfl rfl ?_
  refine ev_get (pc := 24) dX2_splitOff_24 fd_X2_18 rfl rfl ?_
  refine ev_iload_n (pc := 27) dX2_splitOff_27 rfl rfl ?_
  refine ev_iconst (pc := 28) (v := 3) dX2_splitOff_28 (by decide) ?_
  refine ev_iload_n (pc := 29) dX2_splitOff_29 rfl rfl ?_
  refine ev_iload_n (pc := 30) dX2_splitOff_30 rfl rfl ?_
  refine cV4 (pc := 31) lk_X2_splitOff_31 rfl rfl rfl (Nat.le_of_ble_eq_true rfl) ⟨Nat.le_of_ble_eq_true rfl, Nat.le_of_ble_eq_true rfl⟩ e3 ?_
  refine ev_iinc (pc := 34) dX2_splitOff_34 rfl rfl rfl ?_
  refine ev_goto (pc := 37) (tgt := 18) dX2_splitOff_37 (by decide) ?_
  refine ev_iload_n (pc := 18) dX2_splitOff_18 rfl rfl ?_
  refine ev_iconst (pc := 19) (v := 2) dX2_splitOff_19 (by decide) ?_
  refine ev_ic_ge (pc := 20) (tgt := 40) dX2_splitOff_20 (by decide) (fun c_20 => absurd c_20 (by decide)) (fun _ => ?_)
  refine ev_aload_n (pc := 23) dX2_splitOff_23 rfl rfl ?_
  refine ev_get (pc := 24) dX2_splitOff_24 fd_X2_18 rfl rfl ?_
  refine ev_iload_n (pc := 27) dX2_splitOff_27 rfl rfl ?_
  refine ev_iconst (pc := 28) (v := 3) dX2_splitOff_28 (by decide) ?_
  refine ev_iload_n (pc := 29) dX2_splitOff_29 rfl rfl ?_
  refine ev_iload_n (pc := 30) dX2_splitOff_30 rfl rfl ?_
  refine cV4 (pc := 31) lk_X2_splitOff_31 rfl rfl rfl (Nat.le_of_ble_eq_true rfl) ⟨Nat.le_of_ble_eq_true rfl, Nat.le_of_ble_eq_true rfl⟩ e4 ?_
  refine ev_iinc (pc := 34) dX2_splitOff_34 rfl rfl rfl ?_
  refine ev_goto (pc := 37) (tgt := 18) dX2_splitOff_37 (by decide) ?_
  refine ev_iload_n (pc := 18) dX2_splitOff_18 rfl rfl ?_
  refine ev_iconst (pc := 19) (v := 2) dX2_splitOff_19 (by decide) ?_
  refine ev_ic_ge (pc := 20) (tgt := 40) dX2_splitOff_20 (by decide) (fun _ => ?_) (fun c_20 => absurd (by decide) c_20)
  refine ev_iload_n (pc := 40) dX2_splitOff_40 rfl rfl ?_
  exact ev_iretE (pc := 41) dX2_splitOff_41 rfl ⟨Nat.le_of_ble_eq_true rfl, Nat.le_of_ble_eq_true rfl⟩ rfl rfl
theorem s_growRoot {sl : Int32} {cu ba r0 r1 r2 r3 : Q4} {sw : Nat → Int64} {bt : Int32} {cnt inn lk wd kp wr mk ls pth tk : Nat → Int32} {tl : List mC} (hC : CR K W T cnt inn lk wd kp wr) {be bk bo : Int32} {rr p q n : Nat} (hn : frs K W n) (hp : K p ∨ W p) (hq : K q ∨ W q) : ∃ cnt' inn' lk' wd' wr', CR K (addS W n) (upT T n (.inr [p, q])) cnt' inn' lk' wd' kp wr' ∧ EvS m_X2_growRoot [.ref 12, .int (nI p), .int (nI q)] (cW sl cu (be, nI rr, bk, bo) r0 r1 r2 r3 sw bt cnt inn lk wd kp wr mk ls pth tk tl) (.inl none) (cW sl cu (be, nI n, bk, bo) r0 r1 r2 r3 sw bt cnt' inn' lk' wd' kp wr' mk ls pth tk tl) := by
  obtain ⟨c1, i1, w1, hC1, e2⟩ := s_takeT (sl := sl) (cu := cu) (ba := (be, nI rr, bk, bo)) (r0 := r0) (r1 := r1) (r2 := r2) (r3 := r3) (sw := sw) (bt := bt) (cnt := cnt) (inn := inn) (lk := lk) (wd := wd) (kp := kp) (wr := wr) (mk := mk) (ls := ls) (pth := pth) (tk := tk) (tl := tl) hC hn (a := 0) (nd := .inr []) (Or.inr ⟨rfl, rfl⟩)
  have hn8 : n < 800 := by have := hn.1; omega
  have hu2 : K n ∨ addS W n n := Or.inr (Or.inl rfl)
  have hp8 := (hC.1 p hp).1
  have hq8 := (hC.1 q hq).1
  have R1 := Rp_insI hC1.1 (key := -1) hu2 (upT_s _ _ _) (Nat.zero_le _) (by decide) hp8
  have R2 := Rp_insI R1 (e := 1) (key := -1) hu2 (upT_s _ _ _) (by simp) (by simp) hq8
  have hTT : upT (upT (upT T n (.inr [])) n (.inr [p])) n (.inr [p, q]) = upT T n (.inr [p, q]) := by rw [upT_upT, upT_upT]
  refine ⟨_, _, _, _, _, ⟨hTT ▸ R2, hC1.2.1, hC1.2.2⟩, ?_⟩
  have hcn : c1 n = nI 0 := by have h9 := (hC1.1.cnt hu2).2.1; rw [upT_s] at h9; exact h9
  refine evs_of (by decide +kernel) (Nat.le_of_ble_eq_true rfl) (by decide) rfl ?_
  refine ev_aload_n (pc := 0) dX2_growRoot_0 rfl rfl ?_
  refine ev_get (pc := 1) dX2_growRoot_1 fd_X2_18 rfl rfl ?_
  refine ev_iconst (pc := 4) (v := 0) dX2_growRoot_4 (by decide) ?_
  refine cV1 (pc := 5) lk_X2_growRoot_5 rfl rfl rfl (Nat.le_of_ble_eq_true rfl) ⟨Nat.le_of_ble_eq_true rfl, Nat.le_of_ble_eq_true rfl⟩ e2 ?_
  refine ev_istore_n (pc := 8) dX2_growRoot_8 rfl rfl rfl ?_
  refine ev_aload_n (pc := 9) dX2_growRoot_9 rfl rfl ?_
  refine ev_get (pc := 10) dX2_growRoot_10 fd_X2_18 rfl rfl ?_
  refine ev_iload_n (pc := 13) dX2_growRoot_13 rfl rfl ?_
  refine ev_iconst (pc := 14) (v := 0) dX2_growRoot_14 (by decide) ?_
  refine ev_iconst (pc := 15) (v := (-1)) dX2_growRoot_15 (by decide) ?_
  refine ev_iload_n (pc := 16) dX2_growRoot_16 rfl rfl ?_
  refine cV4 (pc := 17) lk_X2_growRoot_17 rfl rfl rfl (Nat.le_of_ble_eq_true rfl) ⟨Nat.le_of_ble_eq_true rfl, Nat.le_of_ble_eq_true rfl⟩ (s_insert (e := 0) (c := 0) (key := -1) hn8 hcn (Nat.le_refl _) (by decide)) ?_
  refine ev_aload_n (pc := 20) dX2_growRoot_20 rfl rfl ?_
  refine ev_get (pc := 21) dX2_growRoot_21 fd_X2_18 rfl rfl ?_
  refine ev_iload_n (pc := 24) dX2_growRoot_24 rfl rfl ?_
  refine ev_iconst (pc := 25) (v := 1) dX2_growRoot_25 (by decide) ?_
  refine ev_iconst (pc := 26) (v := (-1)) dX2_growRoot_26 (by decide) ?_
  refine ev_iload_n (pc := 27) dX2_growRoot_27 rfl rfl ?_
  refine cV4 (pc := 28) lk_X2_growRoot_28 rfl rfl rfl (Nat.le_of_ble_eq_true rfl) ⟨Nat.le_of_ble_eq_true rfl, Nat.le_of_ble_eq_true rfl⟩ (s_insert (e := 1) (c := 1) (key := -1) hn8 pk_us (Nat.le_refl _) (by decide)) ?_
  refine ev_aload_n (pc := 31) dX2_growRoot_31 rfl rfl ?_
  refine ev_get (pc := 32) dX2_growRoot_32 fd_X2_22 rfl rfl ?_
  refine ev_iload_n (pc := 35) dX2_growRoot_35 rfl rfl ?_
  refine ev_put (pc := 36) dX2_growRoot_36 fp_X2_73 rfl (Nat.le_of_ble_eq_true rfl) (fun _ _ => ⟨rfl, rfl⟩) rfl ?_
  exact ev_vretE (pc := 39) dX2_growRoot_39 rfl ⟨Nat.le_of_ble_eq_true rfl, Nat.le_of_ble_eq_true rfl⟩ rfl
end ST3
