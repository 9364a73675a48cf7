/-! the class Writer: what its methods do to the tree -/
/-- what a page written anew leaves as it was -/
theorem wn_k {K W W' : Nat → Prop} {T T' : Nat → Nd} {r p p' : Nat} (h : wnR K T W r p p' T' W') : W' p' ∧ T' p' = T p ∧ (∀ q, K q ∨ W q → T' q = T q) ∧ (∀ q, W q → W' q) ∧ (K p ∨ W p) := by
  obtain ⟨hu, h⟩ := h
  rcases h with ⟨h1, rfl, rfl, rfl⟩ | ⟨h1, ⟨hf, -⟩, rfl, rfl⟩
  · exact ⟨h1, rfl, fun q _ => rfl, fun q hq => hq, hu⟩
  · refine ⟨Or.inl rfl, upT_s _ _ _, fun q hq => upT_n (fun h => ?_), fun q hq => Or.inr hq, hu⟩
    subst h
    exact hf.2.1 hq
theorem fl_mono {T T' : Nat → Nd} {U U' : Nat → Prop} (h : ∀ q, U q → nlen (T q) ≤ 4 → U' q ∧ T' q = T q) : ∀ {d c : Nat}, fl T U d c → fl T' U' d c
  | 0, c, hf => by
    obtain ⟨hu, l, hl, h2, h4⟩ := hf
    obtain ⟨a, b⟩ := h c hu (by rw [hl]; exact h4)
    exact ⟨a, l, by rw [b, hl], h2, h4⟩
  | d + 1, c, hf => by
    obtain ⟨hu, l, hl, h2, h4, h5⟩ := hf
    obtain ⟨a, b⟩ := h c hu (by rw [hl]; exact h4)
    exact ⟨a, l, by rw [b, hl], h2, h4, fun x hx => fl_mono h (h5 x hx)⟩
section ST2
variable {K W : Nat → Prop} {T : Nat → Nd}
theorem s_writeBelow {sl : Int32} {cu ba r0 r1 r2 r3 : Q4} {sw : Nat → Int64} {bt : Int32} {cnt inn lk wd kp wr mk ls pth tk : Nat → Int32} {tl : List mC} (hC : CR K W T cnt inn lk wd kp wr) {r p e c c' : Nat} {l : List Nat} {T' : Nat → Nd} {W' : Nat → Prop} (hu : K p ∨ W p) (ht : T p = .inr l) (hx : l[e]? = some c) (hw : wnR K T W r c c' T' W') : ∃ cnt' inn' lk' wd' wr', CR K W' (upT T' p (.inr (l.set e c'))) cnt' inn' lk' wd' kp wr' ∧ EvS m_X2_writeBelow [.ref 12, .int (nI p), .int (nI e)] (cW sl cu ba r0 r1 r2 r3 sw bt cnt inn lk wd kp wr mk ls pth tk tl) (.inl none) (cW sl cu ba r0 r1 r2 r3 sw bt cnt' inn' lk' wd' kp wr' mk ls pth tk tl) := by
  obtain ⟨hp, hi, h5, hcp, hrow⟩ := hC.1.inner hu ht
  have he : e < 5 := Nat.lt_of_lt_of_le (List.getElem?_eq_some_iff.mp hx).1 h5
  obtain ⟨k1, k2, k3, k4, k5⟩ := wn_k hw
  obtain ⟨c1, i1, l1, d1, w1, hC1, e2⟩ := s_writeAnew (sl := sl) (cu := cu) (ba := ba) (r0 := r0) (r1 := r1) (r2 := r2) (r3 := r3) (sw := sw) (bt := bt) (cnt := cnt) (inn := inn) (lk := lk) (wd := wd) (kp := kp) (wr := wr) (mk := mk) (ls := ls) (pth := pth) (tk := tk) (tl := tl) hC hw
  have hu1 : K p ∨ W' p := hu.imp id (k4 p)
  have hc8 : c' < 800 := (hC1.1 c' (Or.inr k1)).1
  refine ⟨_, _, _, _, _, ⟨Rp_setI hC1.1 hu1 (by rw [k3 p hu, ht]) he hc8, hC1.2.1, hC1.2.2⟩, ?_⟩
  refine evs_of (by decide +kernel) (Nat.le_of_ble_eq_true rfl) (by decide) rfl ?_
  refine ev_aload_n (pc := 0) dX2_writeBelow_0 rfl rfl ?_
  refine ev_get (pc := 1) dX2_writeBelow_1 fd_X2_18 rfl rfl ?_
  refine ev_iload_n (pc := 4) dX2_writeBelow_4 rfl rfl ?_
  refine ev_iload_n (pc := 5) dX2_writeBelow_5 rfl rfl ?_
  refine ev_aload_n (pc := 6) dX2_writeBelow_6 rfl rfl ?_
  refine ev_get (pc := 7) dX2_writeBelow_7 fd_X2_18 rfl rfl ?_
  refine ev_aload_n (pc := 10) dX2_writeBelow_10 rfl rfl ?_
  refine ev_get (pc := 11) dX2_writeBelow_11 fd_X2_18 rfl rfl ?_
  refine ev_iload_n (pc := 14) dX2_writeBelow_14 rfl rfl ?_
  refine ev_iload_n (pc := 15) dX2_writeBelow_15 rfl rfl ?_
  refine cV2 (pc := 16) lk_X2_writeBelow_16 rfl rfl rfl (Nat.le_of_ble_eq_true rfl) ⟨Nat.le_of_ble_eq_true rfl, Nat.le_of_ble_eq_true rfl⟩ (s_wordOf hp he (hrow e c hx).1) ?_
  refine cV1 (pc := 19) lk_X2_writeBelow_19 rfl rfl rfl (Nat.le_of_ble_eq_true rfl) ⟨Nat.le_of_ble_eq_true rfl, Nat.le_of_ble_eq_true rfl⟩ e2 ?_
  refine cV3 (pc := 22) lk_X2_writeBelow_22 rfl rfl rfl (Nat.le_of_ble_eq_true rfl) ⟨Nat.le_of_ble_eq_true rfl, Nat.le_of_ble_eq_true rfl⟩ (s_setWord hp he) ?_
  exact ev_vretE (pc := 25) dX2_writeBelow_25 rfl ⟨Nat.le_of_ble_eq_true rfl, Nat.le_of_ble_eq_true rfl⟩ rfl
/-- the way in the arrays, from level lv on -/
def wyA (pth tk : Nat → Int32) (lv : Nat) (P : List (Nat × Nat)) (lf : Nat) : Prop := (∀ (j : Nat) (x : Nat × Nat), P[j]? = some x → pth (lv + j) = nI x.1 ∧ tk (lv + j) = nI x.2) ∧ pth (lv + P.length) = nI lf
theorem dnR_len {K : Nat → Prop} {r : Nat} {key : Int32} : ∀ {d : Nat} {T : Nat → Nd} {W : Nat → Prop} {p : Nat} {T' : Nat → Nd} {W' : Nat → Prop} {P : List (Nat × Nat)} {lf : Nat}, dnR K r key d T W p T' W' P lf → P.length = d ∧ W' lf
  | 0, _, _, _, _, _, _, _, h => by
    obtain ⟨rfl, rfl, rfl, rfl, h, -⟩ := h
    exact ⟨rfl, h⟩
  | d + 1, _, _, _, _, _, _, _, h => by
    obtain ⟨-, l, c, c', T1, W1, P', -, -, -, -, -, -, rfl, h⟩ := h
    obtain ⟨a, b⟩ := dnR_len h
    exact ⟨by simp [a], b⟩
theorem dnR_4 {K : Nat → Prop} {r : Nat} {key : Int32} : ∀ {d : Nat} {T : Nat → Nd} {W : Nat → Prop} {p : Nat} {T' : Nat → Nd} {W' : Nat → Prop} {P : List (Nat × Nat)} {lf : Nat} {l : List (Nat × Int32)}, dnR K r key d T W p T' W' P lf → T' lf = .inl l → l.length ≤ 4
  | 0, _, _, _, _, _, _, _, _, h, hl => by
    obtain ⟨rfl, rfl, rfl, rfl, h, l2, h2, h4⟩ := h
    rw [h2] at hl
    cases hl
    exact h4
  | d + 1, _, _, _, _, _, _, _, _, h, hl => by
    obtain ⟨-, l, c, c', T1, W1, P', -, -, -, -, -, -, rfl, h⟩ := h
    exact dnR_4 h hl
theorem l_writePath {r : Nat} {key : Int32} {T9 : Nat → Nd} {W9 : Nat → Prop} {lf : Nat} : ∀ (d : Nat) {sl : Int32} {cu ba r0 r1 r2 r3 : Q4} {sw : Nat → Int64} {bt : Int32} {cnt inn lk wd kp wr mk ls pth tk : Nat → Int32} {tl : List mC} {W : Nat → Prop} {T : Nat → Nd} (_ : CR K W T cnt inn lk wd kp wr) {p lv : Nat} {P : List (Nat × Nat)} (v4 : Value) (_ : dnR K r key d T W p T9 W9 P lf) (_ : lv + d ≤ 6) (_ : pth lv = nI p), ∃ cnt' inn' lk' wd' wr' pth' tk', CR K W9 T9 cnt' inn' lk' wd' kp wr' ∧ wyA pth' tk' lv P lf ∧ (∀ j, j < lv → pth' j = pth j ∧ tk' j = tk j) ∧ pth' lv = nI p ∧ EvF m_X2_writePath (mQm m_X2_writePath (.inl (some (.int (nI lf)))) (cW sl cu ba r0 r1 r2 r3 sw (nI (lv + d)) cnt' inn' lk' wd' kp wr' mk ls pth' tk' tl)) 38 [.ref 12, .int key, .int (nI p), .int (nI lv), v4] [] 0 0 (cW sl cu ba r0 r1 r2 r3 sw bt cnt inn lk wd kp wr mk ls pth tk tl) := by
  intro d
  induction d with
  | zero =>
    intro sl cu ba r0 r1 r2 r3 sw bt cnt inn lk wd kp wr mk ls pth tk tl W T hC p lv P v4 h hlv hp0
    obtain ⟨rfl, rfl, rfl, rfl, hWp, l, hl, h4⟩ := h
    obtain ⟨hp, hi, -⟩ := hC.1.leaf (Or.inr hWp) hl
    refine ⟨cnt, inn, lk, wd, wr, pth, tk, hC, ⟨fun j x hx => by simp at hx, hp0⟩, fun j hj => ⟨rfl, rfl⟩, hp0, ?_⟩
    refine ev_iload_n (pc := 38) dX2_writePath_38 rfl rfl ?_
    refine ev_iconst (pc := 39) (v := 1) dX2_writePath_39 (by decide) ?_
    refine ev_iadd (pc := 40) dX2_writePath_40 ?_
    refine ev_bipush (pc := 41) (v := 8) dX2_writePath_41 (by decide) ?_
    refine ev_ic_ge (pc := 43) (tgt := 107) dX2_writePath_43 (by decide) (fun c_43 => absurd c_43 (by rw [nI_a1]; exact nI_ge (show lv + 1 < 8 by omega) (by decide))) (fun _ => ?_)
    refine ev_aload_n (pc := 46) dX2_writePath_46 rfl rfl ?_
    refine ev_get (pc := 47) dX2_writePath_47 fd_X2_18 rfl rfl ?_
    refine ev_iload_n (pc := 50) dX2_writePath_50 rfl rfl ?_
    refine cV1 (pc := 51) lk_X2_writePath_51 rfl rfl rfl (Nat.le_of_ble_eq_true rfl) ⟨Nat.le_of_ble_eq_true rfl, Nat.le_of_ble_eq_true rfl⟩ (s_isLeafT hp hi) ?_
    refine ev_if_ne (pc := 54) (tgt := 107) dX2_writePath_54 (by decide) (fun _ => ?_) (fun c_54 => absurd c_54 (by decide))
    refine ev_aload_n (pc := 107) dX2_writePath_107 rfl rfl ?_
    refine ev_iload_n (pc := 108) dX2_writePath_108 rfl rfl ?_
    refine ev_put (pc := 109) dX2_writePath_109 fp_X2_61 rfl (Nat.le_of_ble_eq_true rfl) (fun _ _ => ⟨rfl, rfl⟩) rfl ?_
    refine ev_iload_n (pc := 112) dX2_writePath_112 rfl rfl ?_
    exact ev_iretE (pc := 113) dX2_writePath_113 rfl ⟨Nat.le_of_ble_eq_true rfl, Nat.le_of_ble_eq_true rfl⟩ rfl rfl
  | succ d ih =>
    intro sl cu ba r0 r1 r2 r3 sw bt cnt inn lk wd kp wr mk ls pth tk tl W T hC p lv P v4 h hlv hp0
    obtain ⟨hWp, l, c, c', T1, W1, P', hl, hl0, hl4, hfl, hx, hwn, rfl, hdn⟩ := h
    have hu : K p ∨ W p := Or.inr hWp
    obtain ⟨hp, hi, h5, hcp, hrow⟩ := hC.1.inner hu hl
    obtain ⟨k1, k2, k3, k4, k5⟩ := wn_k hwn
    have he : eix T d l key < 5 := Nat.lt_of_lt_of_le (List.getElem?_eq_some_iff.mp hx).1 h5
    obtain ⟨c1, i1, l1, d1, w1, hC1, e2⟩ := s_writeBelow (sl := sl) (cu := cu) (ba := ba) (r0 := r0) (r1 := r1) (r2 := r2) (r3 := r3) (sw := sw) (bt := bt) (cnt := cnt) (inn := inn) (lk := lk) (wd := wd) (kp := kp) (wr := wr) (mk := mk) (ls := ls) (pth := pth) (tk := tk) (tl := tl) hC hu hl hx hwn
    have hu1 : K p ∨ W1 p := Or.inr (k4 p hWp)
    obtain ⟨-, -, -, -, hrow1⟩ := hC1.1.inner hu1 (upT_s _ _ _)
    have hx1 : (l.set (eix T d l key) c')[eix T d l key]? = some c' := List.getElem?_set_self (List.getElem?_eq_some_iff.mp hx).1
    obtain ⟨c2, i2, l2, d2, w2, p2, t2, hC2, hwy, hold, hnow, e3⟩ := ih (sl := sl) (cu := cu) (ba := ba) (r0 := r0) (r1 := r1) (r2 := r2) (r3 := r3) (sw := sw) (bt := bt) (cnt := c1) (inn := i1) (lk := l1) (wd := d1) (kp := kp) (wr := w1) (mk := mk) (ls := ls) (pth := (upd pth (lv + 1) (nI c'))) (tk := (upd tk lv (nI (eix T d l key)))) (tl := tl) hC1 (p := c') (lv := lv + 1) (.int (nI (eix T d l key))) hdn (by omega) pk_us
    have hlv1 : p2 lv = nI p := by rw [(hold lv (by omega)).1, upd_o (by omega), hp0]
    have hlv2 : t2 lv = nI (eix T d l key) := by rw [(hold lv (by omega)).2]; exact pk_us
    refine ⟨c2, i2, l2, d2, w2, p2, t2, hC2, ⟨?_, ?_⟩, fun j hj => ?_, hlv1, ?_⟩
    · intro j x hj
      cases j with
      | zero =>
        rw [List.getElem?_cons_zero, Option.some.injEq] at hj
        subst hj
        exact ⟨hlv1, hlv2⟩
      | succ j =>
        rw [List.getElem?_cons_succ] at hj
        have h9 := hwy.1 j x hj
        rw [show lv + 1 + j = lv + (j + 1) by omega] at h9
        exact h9
    · have h9 := hwy.2
      rw [show lv + 1 + P'.length = lv + ((p, eix T d l key) :: P').length by simp; omega] at h9
      exact h9
    · obtain ⟨a, b⟩ := hold j (by omega)
      exact ⟨by rw [a, upd_o (by omega)], by rw [b, upd_o (by omega)]⟩
    · rw [show lv + 1 + d = lv + (d + 1) by omega] at e3
      refine ev_iload_n (pc := 38) dX2_writePath_38 rfl rfl ?_
      refine ev_iconst (pc := 39) (v := 1) dX2_writePath_39 (by decide) ?_
      refine ev_iadd (pc := 40) dX2_writePath_40 ?_
      refine ev_bipush (pc := 41) (v := 8) dX2_writePath_41 (by decide) ?_
      refine ev_ic_ge (pc := 43) (tgt := 107) dX2_writePath_43 (by decide) (fun c_43 => absurd c_43 (by rw [nI_a1]; exact nI_ge (show lv + 1 < 8 by omega) (by decide))) (fun _ => ?_)
      refine ev_aload_n (pc := 46) dX2_writePath_46 rfl rfl ?_
      refine ev_get (pc := 47) dX2_writePath_47 fd_X2_18 rfl rfl ?_
      refine ev_iload_n (pc := 50) dX2_writePath_50 rfl rfl ?_
      refine cV1 (pc := 51) lk_X2_writePath_51 rfl rfl rfl (Nat.le_of_ble_eq_true rfl) ⟨Nat.le_of_ble_eq_true rfl, Nat.le_of_ble_eq_true rfl⟩ (s_isLeafF hp hi) ?_
      refine ev_if_ne (pc := 54) (tgt := 107) dX2_writePath_54 (by decide) (fun c_54 => absurd (by decide) c_54) (fun _ => ?_)
      refine ev_aload_n (pc := 57) dX2_writePath_57 rfl rfl ?_
      refine ev_get (pc := 58) dX2_writePath_58 fd_X2_18 rfl rfl ?_
      refine ev_iload_n (pc := 61) dX2_writePath_61 rfl rfl ?_
      refine ev_iload_n (pc := 62) dX2_writePath_62 rfl rfl ?_
      refine cV2 (pc := 63) lk_X2_writePath_63 rfl rfl rfl (Nat.le_of_ble_eq_true rfl) ⟨Nat.le_of_ble_eq_true rfl, Nat.le_of_ble_eq_true rfl⟩ (s_entryFor hC.1 hu hl hl0 hfl (by omega) key) ?_
      refine ev_istore (pc := 66) dX2_writePath_66 rfl rfl ?_
      refine ev_aload_n (pc := 68) dX2_writePath_68 rfl rfl ?_
      refine ev_iload_n (pc := 69) dX2_writePath_69 rfl rfl ?_
      refine ev_iload (pc := 70) dX2_writePath_70 rfl ?_
      refine cV2 (pc := 72) lk_X2_writePath_72 rfl rfl rfl (Nat.le_of_ble_eq_true rfl) ⟨Nat.le_of_ble_eq_true rfl, Nat.le_of_ble_eq_true rfl⟩ e2 ?_
      refine ev_aload_n (pc := 75) dX2_writePath_75 rfl rfl ?_
      refine ev_get (pc := 76) dX2_writePath_76 fd_X2_18 rfl rfl ?_
      refine ev_iload_n (pc := 79) dX2_writePath_79 rfl rfl ?_
      refine ev_iload (pc := 80) dX2_writePath_80 rfl ?_
      refine cV2 (pc := 82) lk_X2_writePath_82 rfl rfl rfl (Nat.le_of_ble_eq_true rfl) ⟨Nat.le_of_ble_eq_true rfl, Nat.le_of_ble_eq_true rfl⟩ (s_wordOf hp he (hrow1 _ _ hx1).1) ?_
      refine ev_istore_n (pc := 85) dX2_writePath_85 rfl rfl rfl ?_
      refine ev_aload_n (pc := 86) dX2_writePath_86 rfl rfl ?_
      refine ev_get (pc := 87) dX2_writePath_87 fd_X2_15 rfl rfl ?_
      refine ev_iload_n (pc := 90) dX2_writePath_90 rfl rfl ?_
      refine ev_iload (pc := 91) dX2_writePath_91 rfl ?_
      refine ev_iastN (pc := 93) dX2_writePath_93 rfl ⟨rfl, by omega, by decide⟩ rfl rfl ?_
      refine ev_iinc (pc := 94) dX2_writePath_94 rfl rfl rfl ?_
      rw [nI_i1]
      refine ev_aload_n (pc := 97) dX2_writePath_97 rfl rfl ?_
      refine ev_get (pc := 98) dX2_writePath_98 fd_X2_9 rfl rfl ?_
      refine ev_iload_n (pc := 101) dX2_writePath_101 rfl rfl ?_
      refine ev_iload_n (pc := 102) dX2_writePath_102 rfl rfl ?_
      refine ev_iastN (pc := 103) dX2_writePath_103 rfl ⟨rfl, by omega, by decide⟩ rfl rfl ?_
      refine ev_goto (pc := 104) (tgt := 38) dX2_writePath_104 (by decide) ?_
      exact e3
theorem s_writePath {sl : Int32} {cu ba r0 r1 r2 r3 : Q4} {sw : Nat → Int64} {bt : Int32} {cnt inn lk wd kp wr mk ls pth tk : Nat → Int32} {tl : List mC} (hC : CR K W T cnt inn lk wd kp wr) {be bk bo : Int32} {rr ra lf d : Nat} {key : Int32} {T1 T9 : Nat → Nd} {W1 W9 : Nat → Prop} {P : List (Nat × Nat)} (hw : wnR K T W rr rr ra T1 W1) (hdn : dnR K ra key d T1 W1 ra T9 W9 P lf) (hd : d ≤ 6) : ∃ cnt' inn' lk' wd' wr' pth' tk', CR K W9 T9 cnt' inn' lk' wd' kp wr' ∧ wyA pth' tk' 0 P lf ∧ EvS m_X2_writePath [.ref 12, .int key] (cW sl cu (be, nI rr, bk, bo) r0 r1 r2 r3 sw bt cnt inn lk wd kp wr mk ls pth tk tl) (.inl (some (.int (nI lf)))) (cW sl cu (be, nI ra, bk, bo) r0 r1 r2 r3 sw (nI d) cnt' inn' lk' wd' kp wr' mk ls pth' tk' tl) := by
  obtain ⟨c1, i1, l1, d1, w1, hC1, e1⟩ := s_writeAnew (sl := sl) (cu := cu) (ba := (be, nI rr, bk, bo)) (r0 := r0) (r1 := r1) (r2 := r2) (r3 := r3) (sw := sw) (bt := bt) (cnt := cnt) (inn := inn) (lk := lk) (wd := wd) (kp := kp) (wr := wr) (mk := mk) (ls := ls) (pth := pth) (tk := tk) (tl := tl) hC hw
  obtain ⟨c2, i2, l2, d2, w2, p2, t2, hC2, hwy, -, -, e3⟩ := l_writePath (K := K) d (sl := sl) (cu := cu) (ba := (be, nI ra, bk, bo)) (r0 := r0) (r1 := r1) (r2 := r2) (r3 := r3) (sw := sw) (bt := bt) (cnt := c1) (inn := i1) (lk := l1) (wd := d1) (kp := kp) (wr := w1) (mk := mk) (ls := ls) (pth := (upd pth 0 (nI ra))) (tk := tk) (tl := tl) hC1 (p := ra) (lv := 0) (P := P) hole hdn (by omega) pk_us
  refine ⟨c2, i2, l2, d2, w2, p2, t2, hC2, hwy, ?_⟩
  rw [Nat.zero_add] at e3
  refine evs_of (by decide +kernel) (Nat.le_of_ble_eq_true rfl) (by decide) rfl ?_
  refine ev_aload_n (pc := 0) dX2_writePath_0 rfl rfl ?_
  refine ev_get (pc := 1) dX2_writePath_1 fd_X2_22 rfl rfl ?_
  refine ev_aload_n (pc := 4) dX2_writePath_4 rfl rfl ?_
  refine ev_get (pc := 5) dX2_writePath_5 fd_X2_18 rfl rfl ?_
  refine ev_aload_n (pc := 8) dX2_writePath_8 rfl rfl ?_
  refine ev_get (pc := 9) dX2_writePath_9 fd_X2_22 rfl rfl ?_
  refine ev_get (pc := 12) dX2_writePath_12 fd_X2_73 rfl rfl ?_
  refine cV1 (pc := 15) lk_X2_writePath_15 rfl rfl rfl (Nat.le_of_ble_eq_true rfl) ⟨Nat.le_of_ble_eq_true rfl, Nat.le_of_ble_eq_true rfl⟩ e1 ?_
  refine ev_put (pc := 18) dX2_writePath_18 fp_X2_73 rfl (Nat.le_of_ble_eq_true rfl) (fun _ _ => ⟨rfl, rfl⟩) rfl ?_
  refine ev_aload_n (pc := 21) dX2_writePath_21 rfl rfl ?_
  refine ev_get (pc := 22) dX2_writePath_22 fd_X2_22 rfl rfl ?_
  refine ev_get (pc := 25) dX2_writePath_25 fd_X2_73 rfl rfl ?_
  refine ev_istore_n (pc := 28) dX2_writePath_28 rfl rfl rfl ?_
  refine ev_iconst (pc := 29) (v := 0) dX2_writePath_29 (by decide) ?_
  refine ev_istore_n (pc := 30) dX2_writePath_30 rfl rfl rfl ?_
  refine ev_aload_n (pc := 31) dX2_writePath_31 rfl rfl ?_
  refine ev_get (pc := 32) dX2_writePath_32 fd_X2_9 rfl rfl ?_
  refine ev_iconst (pc := 35) (v := 0) dX2_writePath_35 (by decide) ?_
  refine ev_iload_n (pc := 36) dX2_writePath_36 rfl rfl ?_
  refine ev_iastN (pc := 37) dX2_writePath_37 rfl ⟨rfl, by decide, by decide⟩ rfl rfl ?_
  exact e3
end ST2
