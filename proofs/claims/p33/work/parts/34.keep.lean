/-! the states' pages marked -/
section XC
variable {U : Nat → Prop} {T : Nat → Nd} {so rd : Nat → Option RS3}
theorem kS_mk {f : Nat → Int32} {S U : Nat → Prop} {d p : Nat} (h : kS f S) (ht : rt T U d p) : kS (mkF f (bfs T d [p])) (fun q => Rch T p q ∨ S q) := fun q hq => by
  unfold mkF
  by_cases hm : q ∈ bfs T d [p]
  · rw [if_pos hm]
    exact ⟨fun _ => Or.inl ((okR_mem ht q).mp hm), fun _ => by decide⟩
  · rw [if_neg hm]
    exact (h q hq).trans ⟨Or.inr, fun h => h.elim (fun h => absurd ((okR_mem ht q).mpr h) hm) id⟩
theorem kS_zr {f : Nat → Int32} : kS (zr f 800) (fun _ => False) := fun q hq => by
  unfold zr
  rw [if_pos hq]
  exact ⟨fun h => h rfl, fun h => h.elim⟩
theorem cW_rd {r0 r1 r2 r3 : Q4} (h : RD r0 r1 r2 r3 rd) {j : Nat} {x : RS3} (hj : j < 4) (hx : rd j = some x) : rsF j = some (16 + j) ∧ ∀ (sl : Int32) (cu ba : Q4) (sw : Nat → Int64) (bt : Int32) (cnt inn lk wd kp wr mk ls pth tk : Nat → Int32) (tl : List mC), (cW sl cu ba r0 r1 r2 r3 sw bt cnt inn lk wd kp wr mk ls pth tk tl)[16 + j]? = some (.inr (1, [.int (nI x.1), .int (nI x.2.1), .int (nI x.2.2), .int 1])) := by
  obtain ⟨h0, h1, h2, h3⟩ := h
  rcases lt4 hj with rfl | rfl | rfl | rfl
  · rw [hx] at h0; subst h0; exact ⟨rfl, fun _ _ _ _ _ _ _ _ _ _ _ _ _ _ _ _ => rfl⟩
  · rw [hx] at h1; subst h1; exact ⟨rfl, fun _ _ _ _ _ _ _ _ _ _ _ _ _ _ _ _ => rfl⟩
  · rw [hx] at h2; subst h2; exact ⟨rfl, fun _ _ _ _ _ _ _ _ _ _ _ _ _ _ _ _ => rfl⟩
  · rw [hx] at h3; subst h3; exact ⟨rfl, fun _ _ _ _ _ _ _ _ _ _ _ _ _ _ _ _ => rfl⟩
theorem l_keepRK {sl : Int32} {cu ba r0 r1 r2 r3 : Q4} {sw : Nat → Int64} {bt : Int32} {cnt inn lk wd kp wr mk ls pth tk : Nat → Int32} {tl : List mC} (hR : Rp cnt inn lk wd T U) (hRD : RD r0 r1 r2 r3 rd) {wo : Int32} : ∀ (m j : Nat) (kp ls : Nat → Int32) (S : Nat → Prop), 4 = j + m → kS kp S → (∀ r ∈ rtsF (rdW rd wo) j m, okR T U r) → ∃ kp' ls', kS kp' (fun q => RS T (rtsF (rdW rd wo) j m) q ∨ S q) ∧ EvF m_X3_keepStates (mQm m_X3_keepStates (.inl none) (cW sl cu ba r0 r1 r2 r3 sw bt cnt inn lk wd kp' wr mk ls' pth tk tl)) 57 [.ref 0, .ref 6, .int wo, .int (nI j)] [] 0 0 (cW sl cu ba r0 r1 r2 r3 sw bt cnt inn lk wd kp wr mk ls pth tk tl) := by
  intro m
  induction m with
  | zero =>
    intro j kp ls S hj hS _
    have : j = 4 := by omega
    subst this
    refine ⟨kp, ls, fun q hq => (hS q hq).trans ⟨Or.inr, fun h => h.elim (fun ⟨r, hr, _⟩ => absurd hr List.not_mem_nil) id⟩, ?_⟩
    refine ev_iload_n (pc := 57) dX3_keepStates_57 rfl rfl ?_
    refine ev_iconst (pc := 58) (v := 4) dX3_keepStates_58 (by decide) ?_
    refine ev_ic_ge (pc := 59) (tgt := 98) dX3_keepStates_59 (by decide) (fun _ => ?_) (fun c_59 => absurd (by decide) c_59)
    exact ev_vretE (pc := 98) dX3_keepStates_98 rfl ⟨Nat.le_of_ble_eq_true rfl, Nat.le_of_ble_eq_true rfl⟩ rfl
  | succ m ih =>
    intro j kp ls S hj hS hok
    have hj4 : j < 4 := by omega
    cases hx : rd j with
    | none =>
      have e9 : rtsF (rdW rd wo) j (m + 1) = rtsF (rdW rd wo) (j + 1) m := by
        have : rdW rd wo j = none := by unfold rdW; split <;> simp [hx]
        simp [rtsF, this, oRt]
      rw [e9] at hok ⊢
      obtain ⟨k1, l1, hS1, e1⟩ := ih (j + 1) kp ls S (by omega) hS hok
      refine ⟨k1, l1, hS1, ?_⟩
      refine ev_iload_n (pc := 57) dX3_keepStates_57 rfl rfl ?_
      refine ev_iconst (pc := 58) (v := 4) dX3_keepStates_58 (by decide) ?_
      refine ev_ic_ge (pc := 59) (tgt := 98) dX3_keepStates_59 (by decide) (fun c_59 => absurd c_59 (nI_ge hj4 (by decide))) (fun _ => ?_)
      refine ev_aload_n (pc := 62) dX3_keepStates_62 rfl rfl ?_
      refine ev_iload_n (pc := 63) dX3_keepStates_63 rfl rfl ?_
      refine cV1 (pc := 64) lk_X3_keepStates_64 rfl rfl rfl (Nat.le_of_ble_eq_true rfl) ⟨Nat.le_of_ble_eq_true rfl, Nat.le_of_ble_eq_true rfl⟩ (s_isOpen0 hRD (fun i hi h => by rw [← nI_inj (by omega) (by omega) h]; exact hx)) ?_
      refine ev_if_eq (pc := 67) (tgt := 92) dX3_keepStates_67 (by decide) (fun _ => ?_) (fun c_67 => absurd rfl c_67)
      refine ev_iinc (pc := 92) dX3_keepStates_92 rfl rfl rfl ?_
      refine ev_goto (pc := 95) (tgt := 57) dX3_keepStates_95 (by decide) ?_
      rw [nI_i1]
      exact e1
    | some x =>
      by_cases hw : nI j = wo
      · have e9 : rtsF (rdW rd wo) j (m + 1) = rtsF (rdW rd wo) (j + 1) m := by
          have : rdW rd wo j = none := if_pos hw
          simp [rtsF, this, oRt]
        rw [e9] at hok ⊢
        obtain ⟨k1, l1, hS1, e1⟩ := ih (j + 1) kp ls S (by omega) hS hok
        refine ⟨k1, l1, hS1, ?_⟩
        refine ev_iload_n (pc := 57) dX3_keepStates_57 rfl rfl ?_
        refine ev_iconst (pc := 58) (v := 4) dX3_keepStates_58 (by decide) ?_
        refine ev_ic_ge (pc := 59) (tgt := 98) dX3_keepStates_59 (by decide) (fun c_59 => absurd c_59 (nI_ge hj4 (by decide))) (fun _ => ?_)
        refine ev_aload_n (pc := 62) dX3_keepStates_62 rfl rfl ?_
        refine ev_iload_n (pc := 63) dX3_keepStates_63 rfl rfl ?_
        refine cV1 (pc := 64) lk_X3_keepStates_64 rfl rfl rfl (Nat.le_of_ble_eq_true rfl) ⟨Nat.le_of_ble_eq_true rfl, Nat.le_of_ble_eq_true rfl⟩ (s_isOpen1 hRD hj4 hx) ?_
        refine ev_if_eq (pc := 67) (tgt := 92) dX3_keepStates_67 (by decide) (fun c_67 => absurd c_67 (by decide)) (fun _ => ?_)
        refine ev_iload_n (pc := 70) dX3_keepStates_70 rfl rfl ?_
        refine ev_iload_n (pc := 71) dX3_keepStates_71 rfl rfl ?_
        refine ev_ic_eq (pc := 72) (tgt := 92) dX3_keepStates_72 (by decide) (fun _ => ?_) (fun c_72 => absurd hw c_72)
        refine ev_iinc (pc := 92) dX3_keepStates_92 rfl rfl rfl ?_
        refine ev_goto (pc := 95) (tgt := 57) dX3_keepStates_95 (by decide) ?_
        rw [nI_i1]
        exact e1
      · have e9 : rtsF (rdW rd wo) j (m + 1) = x.2.1 :: rtsF (rdW rd wo) (j + 1) m := by
          have : rdW rd wo j = some x := by unfold rdW; rw [if_neg hw]; exact hx
          simp [rtsF, this, oRt]
        rw [e9] at hok ⊢
        obtain ⟨d, hd, ht, hlen⟩ := hok x.2.1 List.mem_cons_self
        obtain ⟨k1, l1, hS1, e1⟩ := ih (j + 1) (mkF kp (bfs T d [x.2.1])) (fillL ls (bfs T d [x.2.1])) (fun q => Rch T x.2.1 q ∨ S q) (by omega) (kS_mk hS ht) (fun r hr => hok r (List.mem_cons_of_mem _ hr))
        obtain ⟨hf, hc⟩ := cW_rd hRD hj4 hx
        refine ⟨k1, l1, fun q hq => (hS1 q hq).trans ⟨?_, ?_⟩, ?_⟩
        · rintro (⟨r, hr, h⟩ | h | h)
          · exact Or.inl ⟨r, List.mem_cons_of_mem _ hr, h⟩
          · exact Or.inl ⟨x.2.1, List.mem_cons_self, h⟩
          · exact Or.inr h
        · rintro (⟨r, hr, h⟩ | h)
          · rcases List.mem_cons.mp hr with rfl | hr
            · exact Or.inr (Or.inl h)
            · exact Or.inl ⟨r, hr, h⟩
          · exact Or.inr (Or.inr h)
        · refine ev_iload_n (pc := 57) dX3_keepStates_57 rfl rfl ?_
          refine ev_iconst (pc := 58) (v := 4) dX3_keepStates_58 (by decide) ?_
          refine ev_ic_ge (pc := 59) (tgt := 98) dX3_keepStates_59 (by decide) (fun c_59 => absurd c_59 (nI_ge hj4 (by decide))) (fun _ => ?_)
          refine ev_aload_n (pc := 62) dX3_keepStates_62 rfl rfl ?_
          refine ev_iload_n (pc := 63) dX3_keepStates_63 rfl rfl ?_
          refine cV1 (pc := 64) lk_X3_keepStates_64 rfl rfl rfl (Nat.le_of_ble_eq_true rfl) ⟨Nat.le_of_ble_eq_true rfl, Nat.le_of_ble_eq_true rfl⟩ (s_isOpen1 hRD hj4 hx) ?_
          refine ev_if_eq (pc := 67) (tgt := 92) dX3_keepStates_67 (by decide) (fun c_67 => absurd c_67 (by decide)) (fun _ => ?_)
          refine ev_iload_n (pc := 70) dX3_keepStates_70 rfl rfl ?_
          refine ev_iload_n (pc := 71) dX3_keepStates_71 rfl rfl ?_
          refine ev_ic_eq (pc := 72) (tgt := 92) dX3_keepStates_72 (by decide) (fun c_72 => absurd c_72 hw) (fun _ => ?_)
          refine ev_aload_n (pc := 75) dX3_keepStates_75 rfl rfl ?_
          refine ev_get (pc := 76) dX3_keepStates_76 fd_X3_12 rfl rfl ?_
          refine ev_aload_n (pc := 79) dX3_keepStates_79 rfl rfl ?_
          refine ev_aload_n (pc := 80) dX3_keepStates_80 rfl rfl ?_
          refine ev_get (pc := 81) dX3_keepStates_81 fd_X3_35 rfl rfl ?_
          refine ev_iload_n (pc := 84) dX3_keepStates_84 rfl rfl ?_
          refine ev_aaldN (pc := 85) dX3_keepStates_85 rfl ⟨rfl, by exact hj4, by decide⟩ hf ?_
          refine ev_get (pc := 86) dX3_keepStates_86 fd_X3_51 (hc _ _ _ _ _ _ _ _ _ _ _ _ _ _ _ _) rfl ?_
          refine cV2 (pc := 89) lk_X3_keepStates_89 rfl rfl rfl (Nat.le_of_ble_eq_true rfl) ⟨Nat.le_of_ble_eq_true rfl, Nat.le_of_ble_eq_true rfl⟩ (s_markK hR ht (by omega)) ?_
          refine ev_iinc (pc := 92) dX3_keepStates_92 rfl rfl rfl ?_
          refine ev_goto (pc := 95) (tgt := 57) dX3_keepStates_95 (by decide) ?_
          rw [nI_i1]
          exact e1
theorem l_keepSK {sl : Int32} {cu ba r0 r1 r2 r3 : Q4} {sw : Nat → Int64} {bt : Int32} {cnt inn lk wd kp wr mk ls pth tk : Nat → Int32} {tl : List mC} (hR : Rp cnt inn lk wd T U) (hRD : RD r0 r1 r2 r3 rd) (hSL : SLR sw so) {wo : Int32} (hokR : ∀ r ∈ rtsF (rdW rd wo) 0 4, okR T U r) : ∀ (m j : Nat) (kp ls : Nat → Int32) (S : Nat → Prop), 2 = j + m → kS kp S → (∀ r ∈ rtsF so j m, okR T U r) → ∃ kp' ls', kS kp' (fun q => RS T (rtsF so j m ++ rtsF (rdW rd wo) 0 4) q ∨ S q) ∧ EvF m_X3_keepStates (mQm m_X3_keepStates (.inl none) (cW sl cu ba r0 r1 r2 r3 sw bt cnt inn lk wd kp' wr mk ls' pth tk tl)) 21 [.ref 0, .ref 6, .int wo, .int (nI j)] [] 0 0 (cW sl cu ba r0 r1 r2 r3 sw bt cnt inn lk wd kp wr mk ls pth tk tl) := by
  intro m
  induction m with
  | zero =>
    intro j kp ls S hj hS _
    have : j = 2 := by omega
    subst this
    obtain ⟨k1, l1, hS1, e1⟩ := l_keepRK (sl := sl) (cu := cu) (ba := ba) (r0 := r0) (r1 := r1) (r2 := r2) (r3 := r3) (sw := sw) (bt := bt) (cnt := cnt) (inn := inn) (lk := lk) (wd := wd) (kp := kp) (wr := wr) (mk := mk) (ls := ls) (pth := pth) (tk := tk) (tl := tl) hR hRD (wo := wo) 4 0 kp ls S rfl hS hokR
    refine ⟨k1, l1, hS1, ?_⟩
    refine ev_iload_n (pc := 21) dX3_keepStates_21 rfl rfl ?_
    refine ev_iconst (pc := 22) (v := 2) dX3_keepStates_22 (by decide) ?_
    refine ev_ic_ge (pc := 23) (tgt := 55) dX3_keepStates_23 (by decide) (fun _ => ?_) (fun c_23 => absurd (by decide) c_23)
    refine ev_iconst (pc := 55) (v := 0) dX3_keepStates_55 (by decide) ?_
    refine ev_istore_n (pc := 56) dX3_keepStates_56 rfl rfl rfl ?_
    exact e1
  | succ m ih =>
    intro j kp ls S hj hS hok
    have hj2 : j < 2 := by omega
    have hs := hSL j hj2
    cases hx : so j with
    | none =>
      rw [hx] at hs
      have e9 : rtsF so j (m + 1) = rtsF so (j + 1) m := by simp [rtsF, hx, oRt]
      rw [e9] at hok ⊢
      obtain ⟨k1, l1, hS1, e1⟩ := ih (j + 1) kp ls S (by omega) hS hok
      refine ⟨k1, l1, hS1, ?_⟩
      refine ev_iload_n (pc := 21) dX3_keepStates_21 rfl rfl ?_
      refine ev_iconst (pc := 22) (v := 2) dX3_keepStates_22 (by decide) ?_
      refine ev_ic_ge (pc := 23) (tgt := 55) dX3_keepStates_23 (by decide) (fun c_23 => absurd c_23 (nI_ge hj2 (by decide))) (fun _ => ?_)
      refine ev_aload_n (pc := 26) dX3_keepStates_26 rfl rfl ?_
      refine ev_iload_n (pc := 27) dX3_keepStates_27 rfl rfl ?_
      refine cV1 (pc := 28) lk_X3_keepStates_28 rfl rfl rfl (Nat.le_of_ble_eq_true rfl) ⟨Nat.le_of_ble_eq_true rfl, Nat.le_of_ble_eq_true rfl⟩ (s_sumsUp0 hj2 hs) ?_
      refine ev_if_eq (pc := 31) (tgt := 49) dX3_keepStates_31 (by decide) (fun _ => ?_) (fun c_31 => absurd rfl c_31)
      refine ev_iinc (pc := 49) dX3_keepStates_49 rfl rfl rfl ?_
      refine ev_goto (pc := 52) (tgt := 21) dX3_keepStates_52 (by decide) ?_
      rw [nI_i1]
      exact e1
    | some x =>
      rw [hx] at hs
      have e9 : rtsF so j (m + 1) = x.2.1 :: rtsF so (j + 1) m := by simp [rtsF, hx, oRt]
      rw [e9] at hok ⊢
      obtain ⟨d, hd, ht, hlen⟩ := hok x.2.1 List.mem_cons_self
      obtain ⟨k1, l1, hS1, e1⟩ := ih (j + 1) (mkF kp (bfs T d [x.2.1])) (fillL ls (bfs T d [x.2.1])) (fun q => Rch T x.2.1 q ∨ S q) (by omega) (kS_mk hS ht) (fun r hr => hok r (List.mem_cons_of_mem _ hr))
      refine ⟨k1, l1, fun q hq => (hS1 q hq).trans ⟨?_, ?_⟩, ?_⟩
      · rintro (⟨r, hr, h⟩ | h | h)
        · exact Or.inl ⟨r, List.mem_cons_of_mem _ hr, h⟩
        · exact Or.inl ⟨x.2.1, List.mem_cons_self, h⟩
        · exact Or.inr h
      · rintro (⟨r, hr, h⟩ | h)
        · rcases List.mem_cons.mp hr with rfl | hr
          · exact Or.inr (Or.inl h)
          · exact Or.inl ⟨r, hr, h⟩
        · exact Or.inr (Or.inr h)
      · refine ev_iload_n (pc := 21) dX3_keepStates_21 rfl rfl ?_
        refine ev_iconst (pc := 22) (v := 2) dX3_keepStates_22 (by decide) ?_
        refine ev_ic_ge (pc := 23) (tgt := 55) dX3_keepStates_23 (by decide) (fun c_23 => absurd c_23 (nI_ge hj2 (by decide))) (fun _ => ?_)
        refine ev_aload_n (pc := 26) dX3_keepStates_26 rfl rfl ?_
        refine ev_iload_n (pc := 27) dX3_keepStates_27 rfl rfl ?_
        refine cV1 (pc := 28) lk_X3_keepStates_28 rfl rfl rfl (Nat.le_of_ble_eq_true rfl) ⟨Nat.le_of_ble_eq_true rfl, Nat.le_of_ble_eq_true rfl⟩ (s_sumsUp1 hj2 hs.1) ?_
        refine ev_if_eq (pc := 31) (tgt := 49) dX3_keepStates_31 (by decide) (fun c_31 => absurd c_31 (by decide)) (fun _ => ?_)
        refine ev_aload_n (pc := 34) dX3_keepStates_34 rfl rfl ?_
        refine ev_get (pc := 35) dX3_keepStates_35 fd_X3_12 rfl rfl ?_
        refine ev_aload_n (pc := 38) dX3_keepStates_38 rfl rfl ?_
        refine ev_aload_n (pc := 39) dX3_keepStates_39 rfl rfl ?_
        refine ev_iload_n (pc := 40) dX3_keepStates_40 rfl rfl ?_
        refine ev_iconst (pc := 41) (v := 1) dX3_keepStates_41 (by decide) ?_
        refine cV2 (pc := 42) lk_X3_keepStates_42 rfl rfl rfl (Nat.le_of_ble_eq_true rfl) ⟨Nat.le_of_ble_eq_true rfl, Nat.le_of_ble_eq_true rfl⟩ (s_wordIn (j := 1) hj2 (by decide) hs.2.2.1) ?_
        refine ev_l2i (pc := 45) dX3_keepStates_45 ?_
        rw [Int32.toInt32_toInt64]
        refine cV2 (pc := 46) lk_X3_keepStates_46 rfl rfl rfl (Nat.le_of_ble_eq_true rfl) ⟨Nat.le_of_ble_eq_true rfl, Nat.le_of_ble_eq_true rfl⟩ (s_markK hR ht (by omega)) ?_
        refine ev_iinc (pc := 49) dX3_keepStates_49 rfl rfl rfl ?_
        refine ev_goto (pc := 52) (tgt := 21) dX3_keepStates_52 (by decide) ?_
        rw [nI_i1]
        exact e1
theorem s_keepK {sl : Int32} {cu ba r0 r1 r2 r3 : Q4} {sw : Nat → Int64} {bt : Int32} {cnt inn lk wd kp wr mk ls pth tk : Nat → Int32} {tl : List mC} (hR : Rp cnt inn lk wd T U) {c : RS3} {o : Int32} (hcu : cu = (nI c.1, nI c.2.1, nI c.2.2, o)) (hRD : RD r0 r1 r2 r3 rd) (hSL : SLR sw so) {wo : Int32} (hok : ∀ r ∈ rts c so (rdW rd wo), okR T U r) : ∃ kp' ls', kS kp' (RS T (rts c so (rdW rd wo))) ∧ EvS m_X3_keepStates [.ref 0, .ref 6, .int wo] (cW sl cu ba r0 r1 r2 r3 sw bt cnt inn lk wd kp wr mk ls pth tk tl) (.inl none) (cW sl cu ba r0 r1 r2 r3 sw bt cnt inn lk wd kp' wr mk ls' pth tk tl) := by
  subst hcu
  obtain ⟨d, hd, ht, hlen⟩ := hok c.2.1 List.mem_cons_self
  obtain ⟨k1, l1, hS1, e1⟩ := l_keepSK (sl := sl) (cu := (nI c.1, nI c.2.1, nI c.2.2, o)) (ba := ba) (r0 := r0) (r1 := r1) (r2 := r2) (r3 := r3) (sw := sw) (bt := bt) (cnt := cnt) (inn := inn) (lk := lk) (wd := wd) (kp := kp) (wr := wr) (mk := mk) (ls := ls) (pth := pth) (tk := tk) (tl := tl) hR hRD hSL (wo := wo) (fun r hr => hok r (List.mem_cons_of_mem _ (List.mem_append_right _ hr))) 2 0 (mkF (zr kp 800) (bfs T d [c.2.1])) (fillL ls (bfs T d [c.2.1])) (fun q => Rch T c.2.1 q ∨ False) rfl (kS_mk kS_zr ht) (fun r hr => hok r (List.mem_cons_of_mem _ (List.mem_append_left _ hr)))
  refine ⟨k1, l1, fun q hq => (hS1 q hq).trans ⟨?_, ?_⟩, ?_⟩
  · rintro (⟨r, hr, h⟩ | h | h)
    · exact ⟨r, List.mem_cons_of_mem _ hr, h⟩
    · exact ⟨c.2.1, List.mem_cons_self, h⟩
    · exact h.elim
  · rintro ⟨r, hr, h⟩
    rcases List.mem_cons.mp hr with rfl | hr
    · exact Or.inr (Or.inl h)
    · exact Or.inl ⟨r, hr, h⟩
  · refine evs_of (by decide +kernel) (Nat.le_of_ble_eq_true rfl) (by decide) rfl ?_
    refine ev_aload_n (pc := 0) dX3_keepStates_0 rfl rfl ?_
    refine cS1 (pc := 1) lk_X3_keepStates_1 (Nat.le_of_ble_eq_true rfl) ⟨Nat.le_of_ble_eq_true rfl, Nat.le_of_ble_eq_true rfl⟩ (s_unmark rfl rfl) ?_
    refine ev_aload_n (pc := 4) dX3_keepStates_4 rfl rfl ?_
    refine ev_get (pc := 5) dX3_keepStates_5 fd_X3_12 rfl rfl ?_
    refine ev_aload_n (pc := 8) dX3_keepStates_8 rfl rfl ?_
    refine ev_aload_n (pc := 9) dX3_keepStates_9 rfl rfl ?_
    refine ev_get (pc := 10) dX3_keepStates_10 fd_X3_19 rfl rfl ?_
    refine ev_get (pc := 13) dX3_keepStates_13 fd_X3_51 rfl rfl ?_
    refine cV2 (pc := 16) lk_X3_keepStates_16 rfl rfl rfl (Nat.le_of_ble_eq_true rfl) ⟨Nat.le_of_ble_eq_true rfl, Nat.le_of_ble_eq_true rfl⟩ (s_markK (sl := sl) (cu := (nI c.1, nI c.2.1, nI c.2.2, o)) (ba := ba) (r0 := r0) (r1 := r1) (r2 := r2) (r3 := r3) (sw := sw) (bt := bt) (cnt := cnt) (inn := inn) (lk := lk) (wd := wd) (kp := (zr kp 800)) (wr := wr) (mk := mk) (ls := ls) (pth := pth) (tk := tk) (tl := tl) hR ht (by omega)) ?_
    refine ev_iconst (pc := 19) (v := 0) dX3_keepStates_19 (by decide) ?_
    refine ev_istore_n (pc := 20) dX3_keepStates_20 rfl rfl rfl ?_
    exact e1
theorem l_keepRM {sl : Int32} {cu ba r0 r1 r2 r3 : Q4} {sw : Nat → Int64} {bt : Int32} {cnt inn lk wd kp wr mk ls pth tk : Nat → Int32} {tl : List mC} (hR : Rp cnt inn lk wd T U) (hRD : RD r0 r1 r2 r3 rd) {wo : Int32} : ∀ (m j : Nat) (mk ls : Nat → Int32) (S : Nat → Prop), 4 = j + m → kS mk S → (∀ r ∈ rtsF (rdW rd wo) j m, okR T U r) → ∃ mk' ls', kS mk' (fun q => RS T (rtsF (rdW rd wo) j m) q ∨ S q) ∧ EvF m_X3_keepStates (mQm m_X3_keepStates (.inl none) (cW sl cu ba r0 r1 r2 r3 sw bt cnt inn lk wd kp wr mk' ls' pth tk tl)) 57 [.ref 0, .ref 8, .int wo, .int (nI j)] [] 0 0 (cW sl cu ba r0 r1 r2 r3 sw bt cnt inn lk wd kp wr mk ls pth tk tl) := by
  intro m
  induction m with
  | zero =>
    intro j mk ls S hj hS _
    have : j = 4 := by omega
    subst this
    refine ⟨mk, ls, fun q hq => (hS q hq).trans ⟨Or.inr, fun h => h.elim (fun ⟨r, hr, _⟩ => absurd hr List.not_mem_nil) id⟩, ?_⟩
    refine ev_iload_n (pc := 57) dX3_keepStates_57 rfl rfl ?_
    refine ev_iconst (pc := 58) (v := 4) dX3_keepStates_58 (by decide) ?_
    refine ev_ic_ge (pc := 59) (tgt := 98) dX3_keepStates_59 (by decide) (fun _ => ?_) (fun c_59 => absurd (by decide) c_59)
    exact ev_vretE (pc := 98) dX3_keepStates_98 rfl ⟨Nat.le_of_ble_eq_true rfl, Nat.le_of_ble_eq_true rfl⟩ rfl
  | succ m ih =>
    intro j mk ls S hj hS hok
    have hj4 : j < 4 := by omega
    cases hx : rd j with
    | none =>
      have e9 : rtsF (rdW rd wo) j (m + 1) = rtsF (rdW rd wo) (j + 1) m := by
        have : rdW rd wo j = none := by unfold rdW; split <;> simp [hx]
        simp [rtsF, this, oRt]
      rw [e9] at hok ⊢
      obtain ⟨k1, l1, hS1, e1⟩ := ih (j + 1) mk ls S (by omega) hS hok
      refine ⟨k1, l1, hS1, ?_⟩
      refine ev_iload_n (pc := 57) dX3_keepStates_57 rfl rfl ?_
      refine ev_iconst (pc := 58) (v := 4) dX3_keepStates_58 (by decide) ?_
      refine ev_ic_ge (pc := 59) (tgt := 98) dX3_keepStates_59 (by decide) (fun c_59 => absurd c_59 (nI_ge hj4 (by decide))) (fun _ => ?_)
      refine ev_aload_n (pc := 62) dX3_keepStates_62 rfl rfl ?_
      refine ev_iload_n (pc := 63) dX3_keepStates_63 rfl rfl ?_
      refine cV1 (pc := 64) lk_X3_keepStates_64 rfl rfl rfl (Nat.le_of_ble_eq_true rfl) ⟨Nat.le_of_ble_eq_true rfl, Nat.le_of_ble_eq_true rfl⟩ (s_isOpen0 hRD (fun i hi h => by rw [← nI_inj (by omega) (by omega) h]; exact hx)) ?_
      refine ev_if_eq (pc := 67) (tgt := 92) dX3_keepStates_67 (by decide) (fun _ => ?_) (fun c_67 => absurd rfl c_67)
      refine ev_iinc (pc := 92) dX3_keepStates_92 rfl rfl rfl ?_
      refine ev_goto (pc := 95) (tgt := 57) dX3_keepStates_95 (by decide) ?_
      rw [nI_i1]
      exact e1
    | some x =>
      by_cases hw : nI j = wo
      · have e9 : rtsF (rdW rd wo) j (m + 1) = rtsF (rdW rd wo) (j + 1) m := by
          have : rdW rd wo j = none := if_pos hw
          simp [rtsF, this, oRt]
        rw [e9] at hok ⊢
        obtain ⟨k1, l1, hS1, e1⟩ := ih (j + 1) mk ls S (by omega) hS hok
        refine ⟨k1, l1, hS1, ?_⟩
        refine ev_iload_n (pc := 57) dX3_keepStates_57 rfl rfl ?_
        refine ev_iconst (pc := 58) (v := 4) dX3_keepStates_58 (by decide) ?_
        refine ev_ic_ge (pc := 59) (tgt := 98) dX3_keepStates_59 (by decide) (fun c_59 => absurd c_59 (nI_ge hj4 (by decide))) (fun _ => ?_)
        refine ev_aload_n (pc := 62) dX3_keepStates_62 rfl rfl ?_
        refine ev_iload_n (pc := 63) dX3_keepStates_63 rfl rfl ?_
        refine cV1 (pc := 64) lk_X3_keepStates_64 rfl rfl rfl (Nat.le_of_ble_eq_true rfl) ⟨Nat.le_of_ble_eq_true rfl, Nat.le_of_ble_eq_true rfl⟩ (s_isOpen1 hRD hj4 hx) ?_
        refine ev_if_eq (pc := 67) (tgt := 92) dX3_keepStates_67 (by decide) (fun c_67 => absurd c_67 (by decide)) (fun _ => ?_)
        refine ev_iload_n (pc := 70) dX3_keepStates_70 rfl rfl ?_
        refine ev_iload_n (pc := 71) dX3_keepStates_71 rfl rfl ?_
        refine ev_ic_eq (pc := 72) (tgt := 92) dX3_keepStates_72 (by decide) (fun _ => ?_) (fun c_72 => absurd hw c_72)
        refine ev_iinc (pc := 92) dX3_keepStates_92 rfl rfl rfl ?_
        refine ev_goto (pc := 95) (tgt := 57) dX3_keepStates_95 (by decide) ?_
        rw [nI_i1]
        exact e1
      · have e9 : rtsF (rdW rd wo) j (m + 1) = x.2.1 :: rtsF (rdW rd wo) (j + 1) m := by
          have : rdW rd wo j = some x := by unfold rdW; rw [if_neg hw]; exact hx
          simp [rtsF, this, oRt]
        rw [e9] at hok ⊢
        obtain ⟨d, hd, ht, hlen⟩ := hok x.2.1 List.mem_cons_self
        obtain ⟨k1, l1, hS1, e1⟩ := ih (j + 1) (mkF mk (bfs T d [x.2.1])) (fillL ls (bfs T d [x.2.1])) (fun q => Rch T x.2.1 q ∨ S q) (by omega) (kS_mk hS ht) (fun r hr => hok r (List.mem_cons_of_mem _ hr))
        obtain ⟨hf, hc⟩ := cW_rd hRD hj4 hx
        refine ⟨k1, l1, fun q hq => (hS1 q hq).trans ⟨?_, ?_⟩, ?_⟩
        · rintro (⟨r, hr, h⟩ | h | h)
          · exact Or.inl ⟨r, List.mem_cons_of_mem _ hr, h⟩
          · exact Or.inl ⟨x.2.1, List.mem_cons_self, h⟩
          · exact Or.inr h
        · rintro (⟨r, hr, h⟩ | h)
          · rcases List.mem_cons.mp hr with rfl | hr
            · exact Or.inr (Or.inl h)
            · exact Or.inl ⟨r, hr, h⟩
          · exact Or.inr (Or.inr h)
        · refine ev_iload_n (pc := 57) dX3_keepStates_57 rfl rfl ?_
          refine ev_iconst (pc := 58) (v := 4) dX3_keepStates_58 (by decide) ?_
          refine ev_ic_ge (pc := 59) (tgt := 98) dX3_keepStates_59 (by decide) (fun c_59 => absurd c_59 (nI_ge hj4 (by decide))) (fun _ => ?_)
          refine ev_aload_n (pc := 62) dX3_keepStates_62 rfl rfl ?_
          refine ev_iload_n (pc := 63) dX3_keepStates_63 rfl rfl ?_
          refine cV1 (pc := 64) lk_X3_keepStates_64 rfl rfl rfl (Nat.le_of_ble_eq_true rfl) ⟨Nat.le_of_ble_eq_true rfl, Nat.le_of_ble_eq_true rfl⟩ (s_isOpen1 hRD hj4 hx) ?_
          refine ev_if_eq (pc := 67) (tgt := 92) dX3_keepStates_67 (by decide) (fun c_67 => absurd c_67 (by decide)) (fun _ => ?_)
          refine ev_iload_n (pc := 70) dX3_keepStates_70 rfl rfl ?_
          refine ev_iload_n (pc := 71) dX3_keepStates_71 rfl rfl ?_
          refine ev_ic_eq (pc := 72) (tgt := 92) dX3_keepStates_72 (by decide) (fun c_72 => absurd c_72 hw) (fun _ => ?_)
          refine ev_aload_n (pc := 75) dX3_keepStates_75 rfl rfl ?_
          refine ev_get (pc := 76) dX3_keepStates_76 fd_X3_12 rfl rfl ?_
          refine ev_aload_n (pc := 79) dX3_keepStates_79 rfl rfl ?_
          refine ev_aload_n (pc := 80) dX3_keepStates_80 rfl rfl ?_
          refine ev_get (pc := 81) dX3_keepStates_81 fd_X3_35 rfl rfl ?_
          refine ev_iload_n (pc := 84) dX3_keepStates_84 rfl rfl ?_
          refine ev_aaldN (pc := 85) dX3_keepStates_85 rfl ⟨rfl, by exact hj4, by decide⟩ hf ?_
          refine ev_get (pc := 86) dX3_keepStates_86 fd_X3_51 (hc _ _ _ _ _ _ _ _ _ _ _ _ _ _ _ _) rfl ?_
          refine cV2 (pc := 89) lk_X3_keepStates_89 rfl rfl rfl (Nat.le_of_ble_eq_true rfl) ⟨Nat.le_of_ble_eq_true rfl, Nat.le_of_ble_eq_true rfl⟩ (s_markM hR ht (by omega)) ?_
          refine ev_iinc (pc := 92) dX3_keepStates_92 rfl rfl rfl ?_
          refine ev_goto (pc := 95) (tgt := 57) dX3_keepStates_95 (by decide) ?_
          rw [nI_i1]
          exact e1
theorem l_keepSM {sl : Int32} {cu ba r0 r1 r2 r3 : Q4} {sw : Nat → Int64} {bt : Int32} {cnt inn lk wd kp wr mk ls pth tk : Nat → Int32} {tl : List mC} (hR : Rp cnt inn lk wd T U) (hRD : RD r0 r1 r2 r3 rd) (hSL : SLR sw so) {wo : Int32} (hokR : ∀ r ∈ rtsF (rdW rd wo) 0 4, okR T U r) : ∀ (m j : Nat) (mk ls : Nat → Int32) (S : Nat → Prop), 2 = j + m → kS mk S → (∀ r ∈ rtsF so j m, okR T U r) → ∃ mk' ls', kS mk' (fun q => RS T (rtsF so j m ++ rtsF (rdW rd wo) 0 4) q ∨ S q) ∧ EvF m_X3_keepStates (mQm m_X3_keepStates (.inl none) (cW sl cu ba r0 r1 r2 r3 sw bt cnt inn lk wd kp wr mk' ls' pth tk tl)) 21 [.ref 0, .ref 8, .int wo, .int (nI j)] [] 0 0 (cW sl cu ba r0 r1 r2 r3 sw bt cnt inn lk wd kp wr mk ls pth tk tl) := by
  intro m
  induction m with
  | zero =>
    intro j mk ls S hj hS _
    have : j = 2 := by omega
    subst this
    obtain ⟨k1, l1, hS1, e1⟩ := l_keepRM (sl := sl) (cu := cu) (ba := ba) (r0 := r0) (r1 := r1) (r2 := r2) (r3 := r3) (sw := sw) (bt := bt) (cnt := cnt) (inn := inn) (lk := lk) (wd := wd) (kp := kp) (wr := wr) (mk := mk) (ls := ls) (pth := pth) (tk := tk) (tl := tl) hR hRD (wo := wo) 4 0 mk ls S rfl hS hokR
    refine ⟨k1, l1, hS1, ?_⟩
    refine ev_iload_n (pc := 21) dX3_keepStates_21 rfl rfl ?_
    refine ev_iconst (pc := 22) (v := 2) dX3_keepStates_22 (by decide) ?_
    refine ev_ic_ge (pc := 23) (tgt := 55) dX3_keepStates_23 (by decide) (fun _ => ?_) (fun c_23 => absurd (by decide) c_23)
    refine ev_iconst (pc := 55) (v := 0) dX3_keepStates_55 (by decide) ?_
    refine ev_istore_n (pc := 56) dX3_keepStates_56 rfl rfl rfl ?_
    exact e1
  | succ m ih =>
    intro j mk ls S hj hS hok
    have hj2 : j < 2 := by omega
    have hs := hSL j hj2
    cases hx : so j with
    | none =>
      rw [hx] at hs
      have e9 : rtsF so j (m + 1) = rtsF so (j + 1) m := by simp [rtsF, hx, oRt]
      rw [e9] at hok ⊢
      obtain ⟨k1, l1, hS1, e1⟩ := ih (j + 1) mk ls S (by omega) hS hok
      refine ⟨k1, l1, hS1, ?_⟩
      refine ev_iload_n (pc := 21) dX3_keepStates_21 rfl rfl ?_
      refine ev_iconst (pc := 22) (v := 2) dX3_keepStates_22 (by decide) ?_
      refine ev_ic_ge (pc := 23) (tgt := 55) dX3_keepStates_23 (by decide) (fun c_23 => absurd c_23 (nI_ge hj2 (by decide))) (fun _ => ?_)
      refine ev_aload_n (pc := 26) dX3_keepStates_26 rfl rfl ?_
      refine ev_iload_n (pc := 27) dX3_keepStates_27 rfl rfl ?_
      refine cV1 (pc := 28) lk_X3_keepStates_28 rfl rfl rfl (Nat.le_of_ble_eq_true rfl) ⟨Nat.le_of_ble_eq_true rfl, Nat.le_of_ble_eq_true rfl⟩ (s_sumsUp0 hj2 hs) ?_
      refine ev_if_eq (pc := 31) (tgt := 49) dX3_keepStates_31 (by decide) (fun _ => ?_) (fun c_31 => absurd rfl c_31)
      refine ev_iinc (pc := 49) dX3_keepStates_49 rfl rfl rfl ?_
      refine ev_goto (pc := 52) (tgt := 21) dX3_keepStates_52 (by decide) ?_
      rw [nI_i1]
      exact e1
    | some x =>
      rw [hx] at hs
      have e9 : rtsF so j (m + 1) = x.2.1 :: rtsF so (j + 1) m := by simp [rtsF, hx, oRt]
      rw [e9] at hok ⊢
      obtain ⟨d, hd, ht, hlen⟩ := hok x.2.1 List.mem_cons_self
      obtain ⟨k1, l1, hS1, e1⟩ := ih (j + 1) (mkF mk (bfs T d [x.2.1])) (fillL ls (bfs T d [x.2.1])) (fun q => Rch T x.2.1 q ∨ S q) (by omega) (kS_mk hS ht) (fun r hr => hok r (List.mem_cons_of_mem _ hr))
      refine ⟨k1, l1, fun q hq => (hS1 q hq).trans ⟨?_, ?_⟩, ?_⟩
      · rintro (⟨r, hr, h⟩ | h | h)
        · exact Or.inl ⟨r, List.mem_cons_of_mem _ hr, h⟩
        · exact Or.inl ⟨x.2.1, List.mem_cons_self, h⟩
        · exact Or.inr h
      · rintro (⟨r, hr, h⟩ | h)
        · rcases List.mem_cons.mp hr with rfl | hr
          · exact Or.inr (Or.inl h)
          · exact Or.inl ⟨r, hr, h⟩
        · exact Or.inr (Or.inr h)
      · refine ev_iload_n (pc := 21) dX3_keepStates_21 rfl rfl ?_
        refine ev_iconst (pc := 22) (v := 2) dX3_keepStates_22 (by decide) ?_
        refine ev_ic_ge (pc := 23) (tgt := 55) dX3_keepStates_23 (by decide) (fun c_23 => absurd c_23 (nI_ge hj2 (by decide))) (fun _ => ?_)
        refine ev_aload_n (pc := 26) dX3_keepStates_26 rfl rfl ?_
        refine ev_iload_n (pc := 27) dX3_keepStates_27 rfl rfl ?_
        refine cV1 (pc := 28) lk_X3_keepStates_28 rfl rfl rfl (Nat.le_of_ble_eq_true rfl) ⟨Nat.le_of_ble_eq_true rfl, Nat.le_of_ble_eq_true rfl⟩ (s_sumsUp1 hj2 hs.1) ?_
        refine ev_if_eq (pc := 31) (tgt := 49) dX3_keepStates_31 (by decide) (fun c_31 => absurd c_31 (by decide)) (fun _ => ?_)
        refine ev_aload_n (pc := 34) dX3_keepStates_34 rfl rfl ?_
        refine ev_get (pc := 35) dX3_keepStates_35 fd_X3_12 rfl rfl ?_
        refine ev_aload_n (pc := 38) dX3_keepStates_38 rfl rfl ?_
        refine ev_aload_n (pc := 39) dX3_keepStates_39 rfl rfl ?_
        refine ev_iload_n (pc := 40) dX3_keepStates_40 rfl rfl ?_
        refine ev_iconst (pc := 41) (v := 1) dX3_keepStates_41 (by decide) ?_
        refine cV2 (pc := 42) lk_X3_keepStates_42 rfl rfl rfl (Nat.le_of_ble_eq_true rfl) ⟨Nat.le_of_ble_eq_true rfl, Nat.le_of_ble_eq_true rfl⟩ (s_wordIn (j := 1) hj2 (by decide) hs.2.2.1) ?_
        refine ev_l2i (pc := 45) dX3_keepStates_45 ?_
        rw [Int32.toInt32_toInt64]
        refine cV2 (pc := 46) lk_X3_keepStates_46 rfl rfl rfl (Nat.le_of_ble_eq_true rfl) ⟨Nat.le_of_ble_eq_true rfl, Nat.le_of_ble_eq_true rfl⟩ (s_markM hR ht (by omega)) ?_
        refine ev_iinc (pc := 49) dX3_keepStates_49 rfl rfl rfl ?_
        refine ev_goto (pc := 52) (tgt := 21) dX3_keepStates_52 (by decide) ?_
        rw [nI_i1]
        exact e1
theorem s_keepM {sl : Int32} {cu ba r0 r1 r2 r3 : Q4} {sw : Nat → Int64} {bt : Int32} {cnt inn lk wd kp wr mk ls pth tk : Nat → Int32} {tl : List mC} (hR : Rp cnt inn lk wd T U) {c : RS3} {o : Int32} (hcu : cu = (nI c.1, nI c.2.1, nI c.2.2, o)) (hRD : RD r0 r1 r2 r3 rd) (hSL : SLR sw so) {wo : Int32} (hok : ∀ r ∈ rts c so (rdW rd wo), okR T U r) : ∃ mk' ls', kS mk' (RS T (rts c so (rdW rd wo))) ∧ EvS m_X3_keepStates [.ref 0, .ref 8, .int wo] (cW sl cu ba r0 r1 r2 r3 sw bt cnt inn lk wd kp wr mk ls pth tk tl) (.inl none) (cW sl cu ba r0 r1 r2 r3 sw bt cnt inn lk wd kp wr mk' ls' pth tk tl) := by
  subst hcu
  obtain ⟨d, hd, ht, hlen⟩ := hok c.2.1 List.mem_cons_self
  obtain ⟨k1, l1, hS1, e1⟩ := l_keepSM (sl := sl) (cu := (nI c.1, nI c.2.1, nI c.2.2, o)) (ba := ba) (r0 := r0) (r1 := r1) (r2 := r2) (r3 := r3) (sw := sw) (bt := bt) (cnt := cnt) (inn := inn) (lk := lk) (wd := wd) (kp := kp) (wr := wr) (mk := mk) (ls := ls) (pth := pth) (tk := tk) (tl := tl) hR hRD hSL (wo := wo) (fun r hr => hok r (List.mem_cons_of_mem _ (List.mem_append_right _ hr))) 2 0 (mkF (zr mk 800) (bfs T d [c.2.1])) (fillL ls (bfs T d [c.2.1])) (fun q => Rch T c.2.1 q ∨ False) rfl (kS_mk kS_zr ht) (fun r hr => hok r (List.mem_cons_of_mem _ (List.mem_append_left _ hr)))
  refine ⟨k1, l1, fun q hq => (hS1 q hq).trans ⟨?_, ?_⟩, ?_⟩
  · rintro (⟨r, hr, h⟩ | h | h)
    · exact ⟨r, List.mem_cons_of_mem _ hr, h⟩
    · exact ⟨c.2.1, List.mem_cons_self, h⟩
    · exact h.elim
  · rintro ⟨r, hr, h⟩
    rcases List.mem_cons.mp hr with rfl | hr
    · exact Or.inr (Or.inl h)
    · exact Or.inl ⟨r, hr, h⟩
  · refine evs_of (by decide +kernel) (Nat.le_of_ble_eq_true rfl) (by decide) rfl ?_
    refine ev_aload_n (pc := 0) dX3_keepStates_0 rfl rfl ?_
    refine cS1 (pc := 1) lk_X3_keepStates_1 (Nat.le_of_ble_eq_true rfl) ⟨Nat.le_of_ble_eq_true rfl, Nat.le_of_ble_eq_true rfl⟩ (s_unmark rfl rfl) ?_
    refine ev_aload_n (pc := 4) dX3_keepStates_4 rfl rfl ?_
    refine ev_get (pc := 5) dX3_keepStates_5 fd_X3_12 rfl rfl ?_
    refine ev_aload_n (pc := 8) dX3_keepStates_8 rfl rfl ?_
    refine ev_aload_n (pc := 9) dX3_keepStates_9 rfl rfl ?_
    refine ev_get (pc := 10) dX3_keepStates_10 fd_X3_19 rfl rfl ?_
    refine ev_get (pc := 13) dX3_keepStates_13 fd_X3_51 rfl rfl ?_
    refine cV2 (pc := 16) lk_X3_keepStates_16 rfl rfl rfl (Nat.le_of_ble_eq_true rfl) ⟨Nat.le_of_ble_eq_true rfl, Nat.le_of_ble_eq_true rfl⟩ (s_markM (sl := sl) (cu := (nI c.1, nI c.2.1, nI c.2.2, o)) (ba := ba) (r0 := r0) (r1 := r1) (r2 := r2) (r3 := r3) (sw := sw) (bt := bt) (cnt := cnt) (inn := inn) (lk := lk) (wd := wd) (kp := kp) (wr := wr) (mk := (zr mk 800)) (ls := ls) (pth := pth) (tk := tk) (tl := tl) hR ht (by omega)) ?_
    refine ev_iconst (pc := 19) (v := 0) dX3_keepStates_19 (by decide) ?_
    refine ev_istore_n (pc := 20) dX3_keepStates_20 rfl rfl rfl ?_
    exact e1
end XC
