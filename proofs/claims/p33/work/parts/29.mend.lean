/-! up the way; mending; the root -/
section ST4
variable {K : Nat → Prop}
/-- the reversed way in the arrays: the page cur stands at level rp.length -/
def wyB (pth tk : Nat → Int32) : List (Nat × Nat) → Nat → Prop
  | [], cur => pth 0 = nI cur
  | (q, e) :: rp, cur => pth (rp.length + 1) = nI cur ∧ tk rp.length = nI e ∧ wyB pth tk rp q
theorem wyA_B {pth tk : Nat → Int32} : ∀ (Q P : List (Nat × Nat)) (lf : Nat), (∀ (j : Nat) (x : Nat × Nat), P[j]? = some x → pth j = nI x.1 ∧ tk j = nI x.2) → pth P.length = nI lf → P = Q.reverse → wyB pth tk Q lf
  | [], P, lf, h, hl, hP => by
    subst hP
    exact hl
  | (q, e) :: Q, P, lf, h, hl, hP => by
    subst hP
    have hlen : ((q, e) :: Q).reverse.length = Q.length + 1 := by simp
    rw [hlen] at hl
    have hx : ((q, e) :: Q).reverse[Q.length]? = some (q, e) := by
      rw [List.reverse_cons, List.getElem?_append_right (by simp), List.length_reverse, Nat.sub_self]
      rfl
    obtain ⟨a, b⟩ := h _ _ hx
    refine ⟨hl, b, wyA_B Q Q.reverse q (fun j x hj => h j x ?_) (by rw [List.length_reverse]; exact a) rfl⟩
    have hj2 := (List.getElem?_eq_some_iff.mp hj).1
    rw [List.reverse_cons, List.getElem?_append_left hj2]
    exact hj
theorem wyB_cur {pth tk : Nat → Int32} {Q : List (Nat × Nat)} {cur : Nat} (h : wyB pth tk Q cur) : pth Q.length = nI cur := by
  cases Q with
  | nil => exact h
  | cons x Q => exact h.1
theorem wn_ne {W W' : Nat → Prop} {T T' : Nat → Nd} {r p p' x : Nat} (h : wnR K T W r p p' T' W') (hx : K x ∨ W x) (hp : p ≠ x) : p' ≠ x := by
  obtain ⟨-, h⟩ := h
  rcases h with ⟨h1, rfl, rfl, rfl⟩ | ⟨h1, ⟨hf, -⟩, rfl, rfl⟩
  · exact hp
  · exact fun h => by subst h; exact hf.2.1 hx
theorem s_wordI {sl : Int32} {cu ba r0 r1 r2 r3 : Q4} {sw : Nat → Int64} {bt : Int32} {cnt inn lk wd kp wr mk ls pth tk : Nat → Int32} {tl : List mC} {T : Nat → Nd} {U : Nat → Prop} (hR : Rp cnt inn lk wd T U) {q e c : Nat} {l : List Nat} (hu : U q) (hl : T q = .inr l) (hx : l[e]? = some c) : EvS m_X0_wordOf [.ref 1, .int (nI q), .int (nI e)] (cW sl cu ba r0 r1 r2 r3 sw bt cnt inn lk wd kp wr mk ls pth tk tl) (.inl (some (.int (nI c)))) (cW sl cu ba r0 r1 r2 r3 sw bt cnt inn lk wd kp wr mk ls pth tk tl) := by
  obtain ⟨hq8, -, h5, -, hrow⟩ := hR.inner hu hl
  exact s_wordOf hq8 (Nat.lt_of_lt_of_le (List.getElem?_eq_some_iff.mp hx).1 h5) (hrow e c hx).1
theorem s_countN {sl : Int32} {cu ba r0 r1 r2 r3 : Q4} {sw : Nat → Int64} {bt : Int32} {cnt inn lk wd kp wr mk ls pth tk : Nat → Int32} {tl : List mC} {T : Nat → Nd} {U : Nat → Prop} (hR : Rp cnt inn lk wd T U) {q n : Nat} (hu : U q) (hn : nlen (T q) = n) : EvS m_X0_countOf [.ref 1, .int (nI q)] (cW sl cu ba r0 r1 r2 r3 sw bt cnt inn lk wd kp wr mk ls pth tk tl) (.inl (some (.int (nI n)))) (cW sl cu ba r0 r1 r2 r3 sw bt cnt inn lk wd kp wr mk ls pth tk tl) := by
  obtain ⟨hq8, hc, -⟩ := hR.cnt hu
  exact s_countOf hq8 (hc.trans (by rw [hn]))
theorem l_splitUp {be bk bo : Int32} {rr r' : Nat} {T' : Nat → Nd} {W' : Nat → Prop} : ∀ (rp : List (Nat × Nat)) {sl : Int32} {cu ba r0 r1 r2 r3 : Q4} {sw : Nat → Int64} {bt : Int32} {cnt inn lk wd kp wr mk ls pth tk : Nat → Int32} {tl : List mC} {W : Nat → Prop} {T : Nat → Nd} (_ : CR K W T cnt inn lk wd kp wr) {cur : Nat} (v2 v3 : Value) (_ : upR K rr rp cur T W T' W' r') (_ : rp.length ≤ 6) (_ : wyB pth tk rp cur), ∃ cnt' inn' lk' wd' wr', CR K W' T' cnt' inn' lk' wd' kp wr' ∧ EvF m_X2_splitUpwards (mQm m_X2_splitUpwards (.inl none) (cW sl cu (be, nI r', bk, bo) r0 r1 r2 r3 sw bt cnt' inn' lk' wd' kp wr' mk ls pth tk tl)) 5 [.ref 12, .int (nI rp.length), v2, v3] [] 0 0 (cW sl cu (be, nI rr, bk, bo) r0 r1 r2 r3 sw bt cnt inn lk wd kp wr mk ls pth tk tl) := by
  intro rp
  induction rp with
  | nil =>
    intro sl cu ba r0 r1 r2 r3 sw bt cnt inn lk wd kp wr mk ls pth tk tl W T hC cur v2 v3 h _ hwy
    obtain ⟨hWc, h⟩ := h
    have hu : K cur ∨ W cur := Or.inr hWc
    obtain ⟨hp, hcp, hp5⟩ := hC.1.cnt hu
    rcases h with ⟨h4, rfl, rfl, rfl⟩ | ⟨h5, -, k3, k4, n, m, ⟨hn, -⟩, ⟨hm, -⟩, rfl, rfl, rfl⟩
    · refine ⟨cnt, inn, lk, wd, wr, hC, ?_⟩
      refine ev_iload_n (pc := 5) dX2_splitUpwards_5 rfl rfl ?_
      refine ev_if_lt (pc := 6) (tgt := 87) dX2_splitUpwards_6 (by decide) (fun c_6 => absurd c_6 (by decide)) (fun _ => ?_)
      refine ev_iload_n (pc := 9) dX2_splitUpwards_9 rfl rfl ?_
      refine ev_bipush (pc := 10) (v := 8) dX2_splitUpwards_10 (by decide) ?_
      refine ev_ic_ge (pc := 12) (tgt := 87) dX2_splitUpwards_12 (by decide) (fun c_12 => absurd c_12 (by decide)) (fun _ => ?_)
      refine ev_aload_n (pc := 15) dX2_splitUpwards_15 rfl rfl ?_
      refine ev_get (pc := 16) dX2_splitUpwards_16 fd_X2_9 rfl rfl ?_
      refine ev_iload_n (pc := 19) dX2_splitUpwards_19 rfl rfl ?_
      refine ev_ialdN (pc := 20) dX2_splitUpwards_20 rfl ⟨rfl, by decide, by decide⟩ hwy ?_
      refine ev_istore_n (pc := 21) dX2_splitUpwards_21 rfl rfl rfl ?_
      refine ev_aload_n (pc := 22) dX2_splitUpwards_22 rfl rfl ?_
      refine ev_get (pc := 23) dX2_splitUpwards_23 fd_X2_18 rfl rfl ?_
      refine ev_iload_n (pc := 26) dX2_splitUpwards_26 rfl rfl ?_
      refine cV1 (pc := 27) lk_X2_splitUpwards_27 rfl rfl rfl (Nat.le_of_ble_eq_true rfl) ⟨Nat.le_of_ble_eq_true rfl, Nat.le_of_ble_eq_true rfl⟩ (s_countOf hp hcp) ?_
      refine ev_iconst (pc := 30) (v := 4) dX2_splitUpwards_30 (by decide) ?_
      refine ev_ic_gt (pc := 31) (tgt := 35) dX2_splitUpwards_31 (by decide) (fun c_31 => absurd c_31 (by exact nI_nlt h4 (by decide))) (fun _ => ?_)
      exact ev_vretE (pc := 34) dX2_splitUpwards_34 rfl ⟨Nat.le_of_ble_eq_true rfl, Nat.le_of_ble_eq_true rfl⟩ rfl
    · obtain ⟨c1, i1, l1, d1, w1, hC1, e1⟩ := s_splitOff (sl := sl) (cu := cu) (ba := (be, nI rr, bk, bo)) (r0 := r0) (r1 := r1) (r2 := r2) (r3 := r3) (sw := sw) (bt := bt) (cnt := cnt) (inn := inn) (lk := lk) (wd := wd) (kp := kp) (wr := wr) (mk := mk) (ls := ls) (pth := pth) (tk := tk) (tl := tl) hC hu h5 k3 k4 hn
      obtain ⟨c2, i2, l2, d2, w2, hC2, e2⟩ := s_growRoot (sl := sl) (cu := cu) (ba := ba) (r0 := r0) (r1 := r1) (r2 := r2) (r3 := r3) (sw := sw) (bt := bt) (cnt := c1) (inn := i1) (lk := l1) (wd := d1) (kp := kp) (wr := w1) (mk := mk) (ls := ls) (pth := pth) (tk := tk) (tl := tl) hC1 (be := be) (bk := bk) (bo := bo) (rr := rr) (p := cur) (q := n) hm (Or.inr (Or.inr hWc)) (Or.inr (Or.inl rfl))
      refine ⟨c2, i2, l2, d2, w2, hC2, ?_⟩
      refine ev_iload_n (pc := 5) dX2_splitUpwards_5 rfl rfl ?_
      refine ev_if_lt (pc := 6) (tgt := 87) dX2_splitUpwards_6 (by decide) (fun c_6 => absurd c_6 (by decide)) (fun _ => ?_)
      refine ev_iload_n (pc := 9) dX2_splitUpwards_9 rfl rfl ?_
      refine ev_bipush (pc := 10) (v := 8) dX2_splitUpwards_10 (by decide) ?_
      refine ev_ic_ge (pc := 12) (tgt := 87) dX2_splitUpwards_12 (by decide) (fun c_12 => absurd c_12 (by decide)) (fun _ => ?_)
      refine ev_aload_n (pc := 15) dX2_splitUpwards_15 rfl rfl ?_
      refine ev_get (pc := 16) dX2_splitUpwards_16 fd_X2_9 rfl rfl ?_
      refine ev_iload_n (pc := 19) dX2_splitUpwards_19 rfl rfl ?_
      refine ev_ialdN (pc := 20) dX2_splitUpwards_20 rfl ⟨rfl, by decide, by decide⟩ hwy ?_
      refine ev_istore_n (pc := 21) dX2_splitUpwards_21 rfl rfl rfl ?_
      refine ev_aload_n (pc := 22) dX2_splitUpwards_22 rfl rfl ?_
      refine ev_get (pc := 23) dX2_splitUpwards_23 fd_X2_18 rfl rfl ?_
      refine ev_iload_n (pc := 26) dX2_splitUpwards_26 rfl rfl ?_
      refine cV1 (pc := 27) lk_X2_splitUpwards_27 rfl rfl rfl (Nat.le_of_ble_eq_true rfl) ⟨Nat.le_of_ble_eq_true rfl, Nat.le_of_ble_eq_true rfl⟩ (s_countOf hp (hcp.trans (by rw [h5]))) ?_
      refine ev_iconst (pc := 30) (v := 4) dX2_splitUpwards_30 (by decide) ?_
      refine ev_ic_gt (pc := 31) (tgt := 35) dX2_splitUpwards_31 (by decide) (fun _ => ?_) (fun c_31 => absurd (by decide) c_31)
      refine ev_aload_n (pc := 35) dX2_splitUpwards_35 rfl rfl ?_
      refine ev_iload_n (pc := 36) dX2_splitUpwards_36 rfl rfl ?_
      refine cV1 (pc := 37) lk_X2_splitUpwards_37 rfl rfl rfl (Nat.le_of_ble_eq_true rfl) ⟨Nat.le_of_ble_eq_true rfl, Nat.le_of_ble_eq_true rfl⟩ e1 ?_
      refine ev_istore_n (pc := 40) dX2_splitUpwards_40 rfl rfl rfl ?_
      refine ev_iload_n (pc := 41) dX2_splitUpwards_41 rfl rfl ?_
      refine ev_if_le (pc := 42) (tgt := 75) dX2_splitUpwards_42 (by decide) (fun _ => ?_) (fun c_42 => absurd (by decide) c_42)
      refine ev_aload_n (pc := 75) dX2_splitUpwards_75 rfl rfl ?_
      refine ev_iload_n (pc := 76) dX2_splitUpwards_76 rfl rfl ?_
      refine ev_iload_n (pc := 77) dX2_splitUpwards_77 rfl rfl ?_
      refine cV2 (pc := 78) lk_X2_splitUpwards_78 rfl rfl rfl (Nat.le_of_ble_eq_true rfl) ⟨Nat.le_of_ble_eq_true rfl, Nat.le_of_ble_eq_true rfl⟩ e2 ?_
      refine ev_iinc (pc := 81) dX2_splitUpwards_81 rfl rfl rfl ?_
      refine ev_goto (pc := 84) (tgt := 5) dX2_splitUpwards_84 (by decide) ?_
      refine ev_iload_n (pc := 5) dX2_splitUpwards_5 rfl rfl ?_
      refine ev_if_lt (pc := 6) (tgt := 87) dX2_splitUpwards_6 (by decide) (fun _ => ?_) (fun c_6 => absurd (by decide) c_6)
      exact ev_vretE (pc := 87) dX2_splitUpwards_87 rfl ⟨Nat.le_of_ble_eq_true rfl, Nat.le_of_ble_eq_true rfl⟩ rfl
  | cons x rp ih =>
    intro sl cu ba r0 r1 r2 r3 sw bt cnt inn lk wd kp wr mk ls pth tk tl W T hC cur v2 v3 h hlen hwy
    obtain ⟨q, e⟩ := x
    have hlen' : rp.length + 1 ≤ 6 := hlen
    obtain ⟨hw1, hw2, hw3⟩ := hwy
    obtain ⟨hWc, h⟩ := h
    have hu : K cur ∨ W cur := Or.inr hWc
    obtain ⟨hp, hcp, hp5⟩ := hC.1.cnt hu
    rcases h with ⟨h4, rfl, rfl, rfl⟩ | ⟨h5, k3, k4, n, l, ⟨hn, -⟩, hl, hqc, hWq, hl4, hel, h⟩
    · refine ⟨cnt, inn, lk, wd, wr, hC, ?_⟩
      refine ev_iload_n (pc := 5) dX2_splitUpwards_5 rfl rfl ?_
      refine ev_if_lt (pc := 6) (tgt := 87) dX2_splitUpwards_6 (by decide) (fun c_6 => absurd c_6 (nI_pos (show rp.length + 1 < 2147483648 by omega))) (fun _ => ?_)
      refine ev_iload_n (pc := 9) dX2_splitUpwards_9 rfl rfl ?_
      refine ev_bipush (pc := 10) (v := 8) dX2_splitUpwards_10 (by decide) ?_
      refine ev_ic_ge (pc := 12) (tgt := 87) dX2_splitUpwards_12 (by decide) (fun c_12 => absurd c_12 (nI_ge (show rp.length + 1 < 8 by omega) (by decide))) (fun _ => ?_)
      refine ev_aload_n (pc := 15) dX2_splitUpwards_15 rfl rfl ?_
      refine ev_get (pc := 16) dX2_splitUpwards_16 fd_X2_9 rfl rfl ?_
      refine ev_iload_n (pc := 19) dX2_splitUpwards_19 rfl rfl ?_
      refine ev_ialdN (pc := 20) dX2_splitUpwards_20 rfl ⟨rfl, show rp.length + 1 < 8 by omega, by decide⟩ hw1 ?_
      refine ev_istore_n (pc := 21) dX2_splitUpwards_21 rfl rfl rfl ?_
      refine ev_aload_n (pc := 22) dX2_splitUpwards_22 rfl rfl ?_
      refine ev_get (pc := 23) dX2_splitUpwards_23 fd_X2_18 rfl rfl ?_
      refine ev_iload_n (pc := 26) dX2_splitUpwards_26 rfl rfl ?_
      refine cV1 (pc := 27) lk_X2_splitUpwards_27 rfl rfl rfl (Nat.le_of_ble_eq_true rfl) ⟨Nat.le_of_ble_eq_true rfl, Nat.le_of_ble_eq_true rfl⟩ (s_countOf hp hcp) ?_
      refine ev_iconst (pc := 30) (v := 4) dX2_splitUpwards_30 (by decide) ?_
      refine ev_ic_gt (pc := 31) (tgt := 35) dX2_splitUpwards_31 (by decide) (fun c_31 => absurd c_31 (by exact nI_nlt h4 (by decide))) (fun _ => ?_)
      exact ev_vretE (pc := 34) dX2_splitUpwards_34 rfl ⟨Nat.le_of_ble_eq_true rfl, Nat.le_of_ble_eq_true rfl⟩ rfl
    · obtain ⟨c1, i1, l1, d1, w1, hC1, e1⟩ := s_splitOff (sl := sl) (cu := cu) (ba := (be, nI rr, bk, bo)) (r0 := r0) (r1 := r1) (r2 := r2) (r3 := r3) (sw := sw) (bt := bt) (cnt := cnt) (inn := inn) (lk := lk) (wd := wd) (kp := kp) (wr := wr) (mk := mk) (ls := ls) (pth := pth) (tk := tk) (tl := tl) hC hu h5 k3 k4 hn
      have hqn : q ≠ n := fun h => hn.2.1 (h ▸ Or.inr hWq)
      have huq : K q ∨ addS W n q := Or.inr (Or.inr hWq)
      have tq : upT (upT T n (nDrop (T cur) 3)) cur (nTake (T cur) 3) q = .inr l := by rw [upT_n hqc, upT_n hqn, hl]
      obtain ⟨hq8, hiq, -, hcq, -⟩ := hC1.1.inner huq tq
      have hn8 : n < 800 := by have := hn.1; omega
      have R1 := Rp_insI hC1.1 (e := e + 1) (key := -1) huq tq hel hl4 hn8
      obtain ⟨c2, i2, l2, d2, w2, hC2, e2⟩ := ih (sl := sl) (cu := cu) (ba := ba) (r0 := r0) (r1 := r1) (r2 := r2) (r3 := r3) (sw := sw) (bt := bt) (cnt := (upd c1 q (nI (l.length + 1)))) (inn := i1) (lk := (insF l1 (5 * q) (e + 1) l.length (-1))) (wd := (insF d1 (5 * q) (e + 1) l.length (nI n))) (kp := kp) (wr := w1) (mk := mk) (ls := ls) (pth := pth) (tk := tk) (tl := tl) ⟨R1, hC1.2⟩ (.int (nI cur)) (.int (nI n)) h (by omega) hw3
      refine ⟨c2, i2, l2, d2, w2, hC2, ?_⟩
      refine ev_iload_n (pc := 5) dX2_splitUpwards_5 rfl rfl ?_
      refine ev_if_lt (pc := 6) (tgt := 87) dX2_splitUpwards_6 (by decide) (fun c_6 => absurd c_6 (nI_pos (show rp.length + 1 < 2147483648 by omega))) (fun _ => ?_)
      refine ev_iload_n (pc := 9) dX2_splitUpwards_9 rfl rfl ?_
      refine ev_bipush (pc := 10) (v := 8) dX2_splitUpwards_10 (by decide) ?_
      refine ev_ic_ge (pc := 12) (tgt := 87) dX2_splitUpwards_12 (by decide) (fun c_12 => absurd c_12 (nI_ge (show rp.length + 1 < 8 by omega) (by decide))) (fun _ => ?_)
      refine ev_aload_n (pc := 15) dX2_splitUpwards_15 rfl rfl ?_
      refine ev_get (pc := 16) dX2_splitUpwards_16 fd_X2_9 rfl rfl ?_
      refine ev_iload_n (pc := 19) dX2_splitUpwards_19 rfl rfl ?_
      refine ev_ialdN (pc := 20) dX2_splitUpwards_20 rfl ⟨rfl, show rp.length + 1 < 8 by omega, by decide⟩ hw1 ?_
      refine ev_istore_n (pc := 21) dX2_splitUpwards_21 rfl rfl rfl ?_
      refine ev_aload_n (pc := 22) dX2_splitUpwards_22 rfl rfl ?_
      refine ev_get (pc := 23) dX2_splitUpwards_23 fd_X2_18 rfl rfl ?_
      refine ev_iload_n (pc := 26) dX2_splitUpwards_26 rfl rfl ?_
      refine cV1 (pc := 27) lk_X2_splitUpwards_27 rfl rfl rfl (Nat.le_of_ble_eq_true rfl) ⟨Nat.le_of_ble_eq_true rfl, Nat.le_of_ble_eq_true rfl⟩ (s_countOf hp (hcp.trans (by rw [h5]))) ?_
      refine ev_iconst (pc := 30) (v := 4) dX2_splitUpwards_30 (by decide) ?_
      refine ev_ic_gt (pc := 31) (tgt := 35) dX2_splitUpwards_31 (by decide) (fun _ => ?_) (fun c_31 => absurd (by decide) c_31)
      refine ev_aload_n (pc := 35) dX2_splitUpwards_35 rfl rfl ?_
      refine ev_iload_n (pc := 36) dX2_splitUpwards_36 rfl rfl ?_
      refine cV1 (pc := 37) lk_X2_splitUpwards_37 rfl rfl rfl (Nat.le_of_ble_eq_true rfl) ⟨Nat.le_of_ble_eq_true rfl, Nat.le_of_ble_eq_true rfl⟩ e1 ?_
      refine ev_istore_n (pc := 40) dX2_splitUpwards_40 rfl rfl rfl ?_
      refine ev_iload_n (pc := 41) dX2_splitUpwards_41 rfl rfl ?_
      refine ev_if_le (pc := 42) (tgt := 75) dX2_splitUpwards_42 (by decide) (fun c_42 => absurd c_42 (by exact nI_nle (show 0 < rp.length + 1 by omega) (by omega))) (fun _ => ?_)
      refine ev_aload_n (pc := 45) dX2_splitUpwards_45 rfl rfl ?_
      refine ev_get (pc := 46) dX2_splitUpwards_46 fd_X2_18 rfl rfl ?_
      refine ev_aload_n (pc := 49) dX2_splitUpwards_49 rfl rfl ?_
      refine ev_get (pc := 50) dX2_splitUpwards_50 fd_X2_9 rfl rfl ?_
      refine ev_iload_n (pc := 53) dX2_splitUpwards_53 rfl rfl ?_
      refine ev_iconst (pc := 54) (v := 1) dX2_splitUpwards_54 (by decide) ?_
      refine ev_isub (pc := 55) dX2_splitUpwards_55 ?_
      refine ev_ialdN (pc := 56) dX2_splitUpwards_56 rfl ⟨(nI_s1 (show 0 < rp.length + 1 by omega)), by exact (show rp.length < 8 by omega), by decide⟩ (wyB_cur hw3) ?_
      refine ev_aload_n (pc := 57) dX2_splitUpwards_57 rfl rfl ?_
      refine ev_get (pc := 58) dX2_splitUpwards_58 fd_X2_15 rfl rfl ?_
      refine ev_iload_n (pc := 61) dX2_splitUpwards_61 rfl rfl ?_
      refine ev_iconst (pc := 62) (v := 1) dX2_splitUpwards_62 (by decide) ?_
      refine ev_isub (pc := 63) dX2_splitUpwards_63 ?_
      refine ev_ialdN (pc := 64) dX2_splitUpwards_64 rfl ⟨(nI_s1 (show 0 < rp.length + 1 by omega)), by exact (show rp.length < 8 by omega), by decide⟩ hw2 ?_
      refine ev_iconst (pc := 65) (v := 1) dX2_splitUpwards_65 (by decide) ?_
      refine ev_iadd (pc := 66) dX2_splitUpwards_66 ?_
      rw [nI_a1]
      refine ev_iconst (pc := 67) (v := (-1)) dX2_splitUpwards_67 (by decide) ?_
      refine ev_iload_n (pc := 68) dX2_splitUpwards_68 rfl rfl ?_
      refine cV4 (pc := 69) lk_X2_splitUpwards_69 rfl rfl rfl (Nat.le_of_ble_eq_true rfl) ⟨Nat.le_of_ble_eq_true rfl, Nat.le_of_ble_eq_true rfl⟩ (s_insert (key := -1) hq8 hcq hel hl4) ?_
      refine ev_goto (pc := 72) (tgt := 81) dX2_splitUpwards_72 (by decide) ?_
      refine ev_iinc (pc := 81) dX2_splitUpwards_81 rfl rfl rfl ?_
      refine ev_goto (pc := 84) (tgt := 5) dX2_splitUpwards_84 (by decide) ?_
      rw [show nI ((q, e) :: rp).length + Int32.ofInt (-1) = nI rp.length from nI_im (show 0 < rp.length + 1 by omega)]
      exact e2
theorem s_mend {sl : Int32} {cu ba r0 r1 r2 r3 : Q4} {sw : Nat → Int64} {bt : Int32} {cnt inn lk wd kp wr mk ls pth tk : Nat → Int32} {tl : List mC} {W W' : Nat → Prop} {T T' : Nat → Nd} (hC : CR K W T cnt inn lk wd kp wr) {r q e : Nat} (h : mdR K r T W q e T' W') : ∃ cnt' inn' lk' wd' wr', CR K W' T' cnt' inn' lk' wd' kp wr' ∧ EvS m_X2_mend [.ref 12, .int (nI q), .int (nI e)] (cW sl cu ba r0 r1 r2 r3 sw bt cnt inn lk wd kp wr mk ls pth tk tl) (.inl none) (cW sl cu ba r0 r1 r2 r3 sw bt cnt' inn' lk' wd' kp wr' mk ls pth tk tl) := by
  obtain ⟨l, cur, b, hl, hWq, hl4, hxe, hWc, h1, hxb, hub, hkd, hbc, hqb, hqc, hb2, hb4, h⟩ := h
  have huq : K q ∨ W q := Or.inr hWq
  obtain ⟨hq8, hiq, -, hcq, hrow⟩ := hC.1.inner huq hl
  have he4 : e < 5 := by have := (List.getElem?_eq_some_iff.mp hxe).1; omega
  have hbi : (if 0 < e then e - 1 else e + 1) < 5 := by have := (List.getElem?_eq_some_iff.mp hxb).1; omega
  obtain ⟨hb8, hcb, -⟩ := hC.1.cnt hub
  rcases h with ⟨h2, b', T1, hw, hky, rfl⟩ | ⟨h2, f, g, f', T1, W1, hxf, hxg, hw, hfg, hqf, hqg, hug, rfl, rfl⟩
  · obtain ⟨k1, k2, k3, k4, k5⟩ := wn_k hw
    obtain ⟨c1, i1, l1, d1, w1, hC1, e1⟩ := s_writeBelow (sl := sl) (cu := cu) (ba := ba) (r0 := r0) (r1 := r1) (r2 := r2) (r3 := r3) (sw := sw) (bt := bt) (cnt := cnt) (inn := inn) (lk := lk) (wd := wd) (kp := kp) (wr := wr) (mk := mk) (ls := ls) (pth := pth) (tk := tk) (tl := tl) hC huq hl hxb hw
    have huq1 : K q ∨ W' q := Or.inr (k4 q hWq)
    have huc1 : K cur ∨ W' cur := Or.inr (k4 cur hWc)
    have hub1 : K b' ∨ W' b' := Or.inr k1
    have hbc' : b' ≠ cur := wn_ne hw (Or.inr hWc) hbc
    have hbq' : b' ≠ q := wn_ne hw (Or.inr hWq) (Ne.symm hqb)
    have tc : upT T1 q (.inr (l.set (if 0 < e then e - 1 else e + 1) b')) cur = T cur := by rw [upT_n (Ne.symm hqc), k3 cur (Or.inr hWc)]
    have tb : upT T1 q (.inr (l.set (if 0 < e then e - 1 else e + 1) b')) b' = T b := by rw [upT_n hbq', k2]
    have tq : upT T1 q (.inr (l.set (if 0 < e then e - 1 else e + 1) b')) q = .inr (l.set (if 0 < e then e - 1 else e + 1) b') := upT_s _ _ _
    have x1 : (l.set (if 0 < e then e - 1 else e + 1) b')[if 0 < e then e - 1 else e + 1]? = some b' := List.getElem?_set_self (List.getElem?_eq_some_iff.mp hxb).1
    have x2 : (l.set (if 0 < e then e - 1 else e + 1) b')[e]? = some cur := by rw [List.getElem?_set_ne (by split <;> omega)]; exact hxe
    obtain ⟨c2, l2, d2, hR2, e2⟩ := s_move (sl := sl) (cu := cu) (ba := ba) (r0 := r0) (r1 := r1) (r2 := r2) (r3 := r3) (sw := sw) (bt := bt) (cnt := c1) (inn := i1) (lk := l1) (wd := d1) (kp := kp) (wr := w1) (mk := mk) (ls := ls) (pth := pth) (tk := tk) (tl := tl) hC1.1 (p := b') (q := cur) (e := if 0 < e then nlen (T b) - 1 else 0) (pl := if 0 < e then 0 else 1) hub1 huc1 hbc' (by rw [tb, tc]; exact hkd) (by rw [tb]; split <;> omega) (by rw [tc]; split <;> omega) (by rw [tc]; omega) hky
    rw [tc, tb] at hR2
    have hL : EvS m_X2_lend [.ref 12, .int (nI q), .int (nI (if 0 < e then e - 1 else e + 1)), .int (nI e)] (cW sl cu ba r0 r1 r2 r3 sw bt c1 i1 l1 d1 kp w1 mk ls pth tk tl) (.inl none) (cW sl cu ba r0 r1 r2 r3 sw bt c2 i1 l2 d2 kp w1 mk ls pth tk tl) := by
      have w1' := s_wordI (sl := sl) (cu := cu) (ba := ba) (r0 := r0) (r1 := r1) (r2 := r2) (r3 := r3) (sw := sw) (bt := bt) (cnt := c1) (inn := i1) (lk := l1) (wd := d1) (kp := kp) (wr := w1) (mk := mk) (ls := ls) (pth := pth) (tk := tk) (tl := tl) hC1.1 huq1 tq x1
      have w2' := s_wordI (sl := sl) (cu := cu) (ba := ba) (r0 := r0) (r1 := r1) (r2 := r2) (r3 := r3) (sw := sw) (bt := bt) (cnt := c1) (inn := i1) (lk := l1) (wd := d1) (kp := kp) (wr := w1) (mk := mk) (ls := ls) (pth := pth) (tk := tk) (tl := tl) hC1.1 huq1 tq x2
      by_cases he : 0 < e
      · rw [if_pos he] at w1' ⊢
        rw [if_pos he, if_pos he] at e2
        refine evs_of (by decide +kernel) (Nat.le_of_ble_eq_true rfl) (by decide) rfl ?_
        refine ev_aload_n (pc := 0) dX2_lend_0 rfl rfl ?_
        refine ev_get (pc := 1) dX2_lend_1 fd_X2_18 rfl rfl ?_
        refine ev_iload_n (pc := 4) dX2_lend_4 rfl rfl ?_
        refine ev_iload_n (pc := 5) dX2_lend_5 rfl rfl ?_
        refine cV2 (pc := 6) lk_X2_lend_6 rfl rfl rfl (Nat.le_of_ble_eq_true rfl) ⟨Nat.le_of_ble_eq_true rfl, Nat.le_of_ble_eq_true rfl⟩ w1' ?_
        refine ev_istore (pc := 9) dX2_lend_9 rfl rfl ?_
        refine ev_aload_n (pc := 11) dX2_lend_11 rfl rfl ?_
        refine ev_get (pc := 12) dX2_lend_12 fd_X2_18 rfl rfl ?_
        refine ev_iload_n (pc := 15) dX2_lend_15 rfl rfl ?_
        refine ev_iload_n (pc := 16) dX2_lend_16 rfl rfl ?_
        refine cV2 (pc := 17) lk_X2_lend_17 rfl rfl rfl (Nat.le_of_ble_eq_true rfl) ⟨Nat.le_of_ble_eq_true rfl, Nat.le_of_ble_eq_true rfl⟩ w2' ?_
        refine ev_istore (pc := 20) dX2_lend_20 rfl rfl ?_
        refine ev_iload_n (pc := 22) dX2_lend_22 rfl rfl ?_
        refine ev_iload_n (pc := 23) dX2_lend_23 rfl rfl ?_
        refine ev_ic_ge (pc := 24) (tgt := 53) dX2_lend_24 (by decide) (fun c_24 => absurd c_24 (nI_ge (show e - 1 < e by omega) (by omega))) (fun _ => ?_)
        refine ev_aload_n (pc := 27) dX2_lend_27 rfl rfl ?_
        refine ev_get (pc := 28) dX2_lend_28 fd_X2_18 rfl rfl ?_
        refine ev_iload (pc := 31) dX2_lend_31 rfl ?_
        refine ev_aload_n (pc := 33) dX2_lend_33 rfl rfl ?_
        refine ev_get (pc := 34) dX2_lend_34 fd_X2_18 rfl rfl ?_
        refine ev_iload (pc := 37) dX2_lend_37 rfl ?_
        refine cV1 (pc := 39) lk_X2_lend_39 rfl rfl rfl (Nat.le_of_ble_eq_true rfl) ⟨Nat.le_of_ble_eq_true rfl, Nat.le_of_ble_eq_true rfl⟩ (s_countN hC1.1 hub1 (congrArg nlen tb)) ?_
        refine ev_iconst (pc := 42) (v := 1) dX2_lend_42 (by decide) ?_
        refine ev_isub (pc := 43) dX2_lend_43 ?_
        rw [nI_s1 (show 0 < nlen (T b) by omega)]
        refine ev_iload (pc := 44) dX2_lend_44 rfl ?_
        refine ev_iconst (pc := 46) (v := 0) dX2_lend_46 (by decide) ?_
        refine cV4 (pc := 47) lk_X2_lend_47 rfl rfl rfl (Nat.le_of_ble_eq_true rfl) ⟨Nat.le_of_ble_eq_true rfl, Nat.le_of_ble_eq_true rfl⟩ e2 ?_
        refine ev_goto (pc := 50) (tgt := 74) dX2_lend_50 (by decide) ?_
        exact ev_vretE (pc := 74) dX2_lend_74 rfl ⟨Nat.le_of_ble_eq_true rfl, Nat.le_of_ble_eq_true rfl⟩ rfl
      · rw [if_neg he] at w1' ⊢
        rw [if_neg he, if_neg he] at e2
        refine evs_of (by decide +kernel) (Nat.le_of_ble_eq_true rfl) (by decide) rfl ?_
        refine ev_aload_n (pc := 0) dX2_lend_0 rfl rfl ?_
        refine ev_get (pc := 1) dX2_lend_1 fd_X2_18 rfl rfl ?_
        refine ev_iload_n (pc := 4) dX2_lend_4 rfl rfl ?_
        refine ev_iload_n (pc := 5) dX2_lend_5 rfl rfl ?_
        refine cV2 (pc := 6) lk_X2_lend_6 rfl rfl rfl (Nat.le_of_ble_eq_true rfl) ⟨Nat.le_of_ble_eq_true rfl, Nat.le_of_ble_eq_true rfl⟩ w1' ?_
        refine ev_istore (pc := 9) dX2_lend_9 rfl rfl ?_
        refine ev_aload_n (pc := 11) dX2_lend_11 rfl rfl ?_
        refine ev_get (pc := 12) dX2_lend_12 fd_X2_18 rfl rfl ?_
        refine ev_iload_n (pc := 15) dX2_lend_15 rfl rfl ?_
        refine ev_iload_n (pc := 16) dX2_lend_16 rfl rfl ?_
        refine cV2 (pc := 17) lk_X2_lend_17 rfl rfl rfl (Nat.le_of_ble_eq_true rfl) ⟨Nat.le_of_ble_eq_true rfl, Nat.le_of_ble_eq_true rfl⟩ w2' ?_
        refine ev_istore (pc := 20) dX2_lend_20 rfl rfl ?_
        refine ev_iload_n (pc := 22) dX2_lend_22 rfl rfl ?_
        refine ev_iload_n (pc := 23) dX2_lend_23 rfl rfl ?_
        refine ev_ic_ge (pc := 24) (tgt := 53) dX2_lend_24 (by decide) (fun _ => ?_) (fun c_24 => absurd (by exact nI_le (show e ≤ e + 1 by omega) (by omega)) c_24)
        refine ev_aload_n (pc := 53) dX2_lend_53 rfl rfl ?_
        refine ev_get (pc := 54) dX2_lend_54 fd_X2_18 rfl rfl ?_
        refine ev_iload (pc := 57) dX2_lend_57 rfl ?_
        refine ev_iconst (pc := 59) (v := 0) dX2_lend_59 (by decide) ?_
        refine ev_iload (pc := 60) dX2_lend_60 rfl ?_
        refine ev_aload_n (pc := 62) dX2_lend_62 rfl rfl ?_
        refine ev_get (pc := 63) dX2_lend_63 fd_X2_18 rfl rfl ?_
        refine ev_iload (pc := 66) dX2_lend_66 rfl ?_
        refine cV1 (pc := 68) lk_X2_lend_68 rfl rfl rfl (Nat.le_of_ble_eq_true rfl) ⟨Nat.le_of_ble_eq_true rfl, Nat.le_of_ble_eq_true rfl⟩ (s_countN hC1.1 huc1 ((congrArg nlen tc).trans h1)) ?_
        refine cV4 (pc := 71) lk_X2_lend_71 rfl rfl rfl (Nat.le_of_ble_eq_true rfl) ⟨Nat.le_of_ble_eq_true rfl, Nat.le_of_ble_eq_true rfl⟩ e2 ?_
        exact ev_vretE (pc := 74) dX2_lend_74 rfl ⟨Nat.le_of_ble_eq_true rfl, Nat.le_of_ble_eq_true rfl⟩ rfl
    refine ⟨c2, i1, l2, d2, w1, ⟨hR2, hC1.2⟩, ?_⟩
    have wb := s_wordI (sl := sl) (cu := cu) (ba := ba) (r0 := r0) (r1 := r1) (r2 := r2) (r3 := r3) (sw := sw) (bt := bt) (cnt := cnt) (inn := inn) (lk := lk) (wd := wd) (kp := kp) (wr := wr) (mk := mk) (ls := ls) (pth := pth) (tk := tk) (tl := tl) hC.1 huq hl hxb
    by_cases he : 0 < e
    · rw [if_pos he] at wb e1 hL
      refine evs_of (by decide +kernel) (Nat.le_of_ble_eq_true rfl) (by decide) rfl ?_
      refine ev_iload_n (pc := 0) dX2_mend_0 rfl rfl ?_
      refine ev_if_le (pc := 1) (tgt := 10) dX2_mend_1 (by decide) (fun c_1 => absurd c_1 (by exact nI_nle he (by omega))) (fun _ => ?_)
      refine ev_iload_n (pc := 4) dX2_mend_4 rfl rfl ?_
      refine ev_iconst (pc := 5) (v := 1) dX2_mend_5 (by decide) ?_
      refine ev_isub (pc := 6) dX2_mend_6 ?_
      rw [nI_s1 he]
      refine ev_goto (pc := 7) (tgt := 13) dX2_mend_7 (by decide) ?_
      refine ev_istore_n (pc := 13) dX2_mend_13 rfl rfl rfl ?_
      refine ev_iload_n (pc := 14) dX2_mend_14 rfl rfl ?_
      refine ev_if_le (pc := 15) (tgt := 22) dX2_mend_15 (by decide) (fun c_15 => absurd c_15 (by exact nI_nle he (by omega))) (fun _ => ?_)
      refine ev_iload_n (pc := 18) dX2_mend_18 rfl rfl ?_
      refine ev_goto (pc := 19) (tgt := 23) dX2_mend_19 (by decide) ?_
      refine ev_istore (pc := 23) dX2_mend_23 rfl rfl ?_
      refine ev_aload_n (pc := 25) dX2_mend_25 rfl rfl ?_
      refine ev_get (pc := 26) dX2_mend_26 fd_X2_18 rfl rfl ?_
      refine ev_aload_n (pc := 29) dX2_mend_29 rfl rfl ?_
      refine ev_get (pc := 30) dX2_mend_30 fd_X2_18 rfl rfl ?_
      refine ev_iload_n (pc := 33) dX2_mend_33 rfl rfl ?_
      refine ev_iload_n (pc := 34) dX2_mend_34 rfl rfl ?_
      refine cV2 (pc := 35) lk_X2_mend_35 rfl rfl rfl (Nat.le_of_ble_eq_true rfl) ⟨Nat.le_of_ble_eq_true rfl, Nat.le_of_ble_eq_true rfl⟩ wb ?_
      refine cV1 (pc := 38) lk_X2_mend_38 rfl rfl rfl (Nat.le_of_ble_eq_true rfl) ⟨Nat.le_of_ble_eq_true rfl, Nat.le_of_ble_eq_true rfl⟩ (s_countN hC.1 hub rfl) ?_
      refine ev_iconst (pc := 41) (v := 2) dX2_mend_41 (by decide) ?_
      refine ev_ic_le (pc := 42) (tgt := 61) dX2_mend_42 (by decide) (fun c_42 => absurd c_42 (by exact nI_ge h2 (by omega))) (fun _ => ?_)
      refine ev_aload_n (pc := 45) dX2_mend_45 rfl rfl ?_
      refine ev_iload_n (pc := 46) dX2_mend_46 rfl rfl ?_
      refine ev_iload_n (pc := 47) dX2_mend_47 rfl rfl ?_
      refine cV2 (pc := 48) lk_X2_mend_48 rfl rfl rfl (Nat.le_of_ble_eq_true rfl) ⟨Nat.le_of_ble_eq_true rfl, Nat.le_of_ble_eq_true rfl⟩ e1 ?_
      refine ev_aload_n (pc := 51) dX2_mend_51 rfl rfl ?_
      refine ev_iload_n (pc := 52) dX2_mend_52 rfl rfl ?_
      refine ev_iload_n (pc := 53) dX2_mend_53 rfl rfl ?_
      refine ev_iload_n (pc := 54) dX2_mend_54 rfl rfl ?_
      refine cV3 (pc := 55) lk_X2_mend_55 rfl rfl rfl (Nat.le_of_ble_eq_true rfl) ⟨Nat.le_of_ble_eq_true rfl, Nat.le_of_ble_eq_true rfl⟩ hL ?_
      refine ev_goto (pc := 58) (tgt := 75) dX2_mend_58 (by decide) ?_
      exact ev_vretE (pc := 75) dX2_mend_75 rfl ⟨Nat.le_of_ble_eq_true rfl, Nat.le_of_ble_eq_true rfl⟩ rfl
    · rw [if_neg he] at wb e1 hL
      have he0 : e = 0 := by omega
      subst he0
      refine evs_of (by decide +kernel) (Nat.le_of_ble_eq_true rfl) (by decide) rfl ?_
      refine ev_iload_n (pc := 0) dX2_mend_0 rfl rfl ?_
      refine ev_if_le (pc := 1) (tgt := 10) dX2_mend_1 (by decide) (fun _ => ?_) (fun c_1 => absurd (by decide) c_1)
      refine ev_iload_n (pc := 10) dX2_mend_10 rfl rfl ?_
      refine ev_iconst (pc := 11) (v := 1) dX2_mend_11 (by decide) ?_
      refine ev_iadd (pc := 12) dX2_mend_12 ?_
      refine ev_istore_n (pc := 13) dX2_mend_13 rfl rfl rfl ?_
      refine ev_iload_n (pc := 14) dX2_mend_14 rfl rfl ?_
      refine ev_if_le (pc := 15) (tgt := 22) dX2_mend_15 (by decide) (fun _ => ?_) (fun c_15 => absurd (by decide) c_15)
      refine ev_iload_n (pc := 22) dX2_mend_22 rfl rfl ?_
      refine ev_istore (pc := 23) dX2_mend_23 rfl rfl ?_
      refine ev_aload_n (pc := 25) dX2_mend_25 rfl rfl ?_
      refine ev_get (pc := 26) dX2_mend_26 fd_X2_18 rfl rfl ?_
      refine ev_aload_n (pc := 29) dX2_mend_29 rfl rfl ?_
      refine ev_get (pc := 30) dX2_mend_30 fd_X2_18 rfl rfl ?_
      refine ev_iload_n (pc := 33) dX2_mend_33 rfl rfl ?_
      refine ev_iload_n (pc := 34) dX2_mend_34 rfl rfl ?_
      refine cV2 (pc := 35) lk_X2_mend_35 rfl rfl rfl (Nat.le_of_ble_eq_true rfl) ⟨Nat.le_of_ble_eq_true rfl, Nat.le_of_ble_eq_true rfl⟩ wb ?_
      refine cV1 (pc := 38) lk_X2_mend_38 rfl rfl rfl (Nat.le_of_ble_eq_true rfl) ⟨Nat.le_of_ble_eq_true rfl, Nat.le_of_ble_eq_true rfl⟩ (s_countN hC.1 hub rfl) ?_
      refine ev_iconst (pc := 41) (v := 2) dX2_mend_41 (by decide) ?_
      refine ev_ic_le (pc := 42) (tgt := 61) dX2_mend_42 (by decide) (fun c_42 => absurd c_42 (by exact nI_ge h2 (by omega))) (fun _ => ?_)
      refine ev_aload_n (pc := 45) dX2_mend_45 rfl rfl ?_
      refine ev_iload_n (pc := 46) dX2_mend_46 rfl rfl ?_
      refine ev_iload_n (pc := 47) dX2_mend_47 rfl rfl ?_
      refine cV2 (pc := 48) lk_X2_mend_48 rfl rfl rfl (Nat.le_of_ble_eq_true rfl) ⟨Nat.le_of_ble_eq_true rfl, Nat.le_of_ble_eq_true rfl⟩ e1 ?_
      refine ev_aload_n (pc := 51) dX2_mend_51 rfl rfl ?_
      refine ev_iload_n (pc := 52) dX2_mend_52 rfl rfl ?_
      refine ev_iload_n (pc := 53) dX2_mend_53 rfl rfl ?_
      refine ev_iload_n (pc := 54) dX2_mend_54 rfl rfl ?_
      refine cV3 (pc := 55) lk_X2_mend_55 rfl rfl rfl (Nat.le_of_ble_eq_true rfl) ⟨Nat.le_of_ble_eq_true rfl, Nat.le_of_ble_eq_true rfl⟩ hL ?_
      refine ev_goto (pc := 58) (tgt := 75) dX2_mend_58 (by decide) ?_
      exact ev_vretE (pc := 75) dX2_mend_75 rfl ⟨Nat.le_of_ble_eq_true rfl, Nat.le_of_ble_eq_true rfl⟩ rfl
  · obtain ⟨k1, k2, k3, k4, k5⟩ := wn_k hw
    have hfi : (if 0 < e then e - 1 else e) < 5 := by split <;> omega
    obtain ⟨c1, i1, l1, d1, w1, hC1, e1⟩ := s_writeBelow (sl := sl) (cu := cu) (ba := ba) (r0 := r0) (r1 := r1) (r2 := r2) (r3 := r3) (sw := sw) (bt := bt) (cnt := cnt) (inn := inn) (lk := lk) (wd := wd) (kp := kp) (wr := wr) (mk := mk) (ls := ls) (pth := pth) (tk := tk) (tl := tl) hC huq hl hxf hw
    have hug1 : K g ∨ W1 g := hug.imp id (k4 g)
    have huq1 : K q ∨ W1 q := Or.inr (k4 q hWq)
    have huf1 : K f' ∨ W1 f' := Or.inr k1
    have tf : upT T1 q (.inr (l.set (if 0 < e then e - 1 else e) f')) f' = T f := by rw [upT_n (Ne.symm hqf), k2]
    have tg : upT T1 q (.inr (l.set (if 0 < e then e - 1 else e) f')) g = T g := by rw [upT_n (Ne.symm hqg), k3 g hug]
    have tq : upT T1 q (.inr (l.set (if 0 < e then e - 1 else e) f')) q = .inr (l.set (if 0 < e then e - 1 else e) f') := upT_s _ _ _
    have x1 : (l.set (if 0 < e then e - 1 else e) f')[if 0 < e then e - 1 else e]? = some f' := List.getElem?_set_self (List.getElem?_eq_some_iff.mp hxf).1
    have x2 : (l.set (if 0 < e then e - 1 else e) f')[(if 0 < e then e - 1 else e) + 1]? = some g := by rw [List.getElem?_set_ne (by omega)]; exact hxg
    have hfg2 : (f = cur ∧ g = b) ∨ (f = b ∧ g = cur) := by
      by_cases he : 0 < e
      · rw [if_pos he] at hxf hxg hxb
        rw [show e - 1 + 1 = e by omega, hxe] at hxg
        rw [hxb] at hxf
        exact Or.inr ⟨(Option.some.inj hxf).symm, (Option.some.inj hxg).symm⟩
      · rw [if_neg he] at hxf hxg hxb
        rw [hxe] at hxf
        rw [hxb] at hxg
        exact Or.inl ⟨(Option.some.inj hxf).symm, (Option.some.inj hxg).symm⟩
    have hkd2 : nLf (T g) ↔ nLf (T f) := by
      rcases hfg2 with ⟨rfl, rfl⟩ | ⟨rfl, rfl⟩
      · exact hkd
      · exact hkd.symm
    have h3 : nlen (T f) + nlen (T g) = 3 := by
      rcases hfg2 with ⟨rfl, rfl⟩ | ⟨rfl, rfl⟩ <;> omega
    have h0 : 0 < nlen (T g) := by
      rcases hfg2 with ⟨rfl, rfl⟩ | ⟨rfl, rfl⟩ <;> omega
    have RA := Rp_app hC1.1 (p := g) (q := f') hug1 huf1 (Ne.symm hfg) (by rw [tg, tf]; exact hkd2) (by rw [tg, tf, h3]; decide)
    rw [tg, tf] at RA
    have tq2 : upT (upT T1 q (.inr (l.set (if 0 < e then e - 1 else e) f'))) f' (nApp (T f) (T g)) q = .inr (l.set (if 0 < e then e - 1 else e) f') := by rw [upT_n hqf, tq]
    have hen : (if 0 < e then e - 1 else e) + 1 < nlen (.inr (l.set (if 0 < e then e - 1 else e) f') : Nd) := (List.getElem?_eq_some_iff.mp x2).1
    have RB := Rp_rm RA (p := q) (e := (if 0 < e then e - 1 else e) + 1) huq1 (by rw [tq2]; exact hen)
    rw [tq2] at RB
    obtain ⟨hg8, hcg, -⟩ := hC1.1.cnt hug1
    obtain ⟨hf8, hcf, -⟩ := hC1.1.cnt huf1
    obtain ⟨-, hcq2, hl5⟩ := RA.cnt huq1
    rw [tq2] at hcq2 hl5
    rw [tg] at hcg
    rw [tf] at hcf
    obtain ⟨cJ, lJ, dJ, RJ, hJ⟩ : ∃ cJ lJ dJ, Rp cJ i1 lJ dJ (upT (upT (upT T1 q (.inr (l.set (if 0 < e then e - 1 else e) f'))) f' (nApp (T f) (T g))) q (nRem (.inr (l.set (if 0 < e then e - 1 else e) f')) ((if 0 < e then e - 1 else e) + 1))) (fun q => K q ∨ W1 q) ∧ EvS m_X2_join [.ref 12, .int (nI q), .int (nI (if 0 < e then e - 1 else e))] (cW sl cu ba r0 r1 r2 r3 sw bt c1 i1 l1 d1 kp w1 mk ls pth tk tl) (.inl none) (cW sl cu ba r0 r1 r2 r3 sw bt cJ i1 lJ dJ kp (upd w1 g 0) mk ls pth tk tl) := by
      refine ⟨_, _, _, RB, ?_⟩
      refine evs_of (by decide +kernel) (Nat.le_of_ble_eq_true rfl) (by decide) rfl ?_
      refine ev_aload_n (pc := 0) dX2_join_0 rfl rfl ?_
      refine ev_get (pc := 1) dX2_join_1 fd_X2_18 rfl rfl ?_
      refine ev_iload_n (pc := 4) dX2_join_4 rfl rfl ?_
      refine ev_iload_n (pc := 5) dX2_join_5 rfl rfl ?_
      refine ev_iconst (pc := 6) (v := 1) dX2_join_6 (by decide) ?_
      refine ev_iadd (pc := 7) dX2_join_7 ?_
      rw [nI_a1]
      refine cV2 (pc := 8) lk_X2_join_8 rfl rfl rfl (Nat.le_of_ble_eq_true rfl) ⟨Nat.le_of_ble_eq_true rfl, Nat.le_of_ble_eq_true rfl⟩ (s_wordI hC1.1 huq1 tq x2) ?_
      refine ev_istore_n (pc := 11) dX2_join_11 rfl rfl rfl ?_
      refine ev_aload_n (pc := 12) dX2_join_12 rfl rfl ?_
      refine ev_get (pc := 13) dX2_join_13 fd_X2_18 rfl rfl ?_
      refine ev_iload_n (pc := 16) dX2_join_16 rfl rfl ?_
      refine ev_aload_n (pc := 17) dX2_join_17 rfl rfl ?_
      refine ev_get (pc := 18) dX2_join_18 fd_X2_18 rfl rfl ?_
      refine ev_iload_n (pc := 21) dX2_join_21 rfl rfl ?_
      refine ev_iload_n (pc := 22) dX2_join_22 rfl rfl ?_
      refine cV2 (pc := 23) lk_X2_join_23 rfl rfl rfl (Nat.le_of_ble_eq_true rfl) ⟨Nat.le_of_ble_eq_true rfl, Nat.le_of_ble_eq_true rfl⟩ (s_wordI hC1.1 huq1 tq x1) ?_
      refine cV2 (pc := 26) lk_X2_join_26 rfl rfl rfl (Nat.le_of_ble_eq_true rfl) ⟨Nat.le_of_ble_eq_true rfl, Nat.le_of_ble_eq_true rfl⟩ (s_append hg8 hf8 (Ne.symm hfg) hcf hcg h0 (by rw [h3]; decide)) ?_
      refine ev_aload_n (pc := 29) dX2_join_29 rfl rfl ?_
      refine ev_get (pc := 30) dX2_join_30 fd_X2_18 rfl rfl ?_
      refine ev_iload_n (pc := 33) dX2_join_33 rfl rfl ?_
      refine ev_iload_n (pc := 34) dX2_join_34 rfl rfl ?_
      refine ev_iconst (pc := 35) (v := 1) dX2_join_35 (by decide) ?_
      refine ev_iadd (pc := 36) dX2_join_36 ?_
      rw [nI_a1]
      refine cV2 (pc := 37) lk_X2_join_37 rfl rfl rfl (Nat.le_of_ble_eq_true rfl) ⟨Nat.le_of_ble_eq_true rfl, Nat.le_of_ble_eq_true rfl⟩ (s_remove hq8 hcq2 hen hl5) ?_
      refine ev_aload_n (pc := 40) dX2_join_40 rfl rfl ?_
      refine ev_get (pc := 41) dX2_join_41 fd_X2_18 rfl rfl ?_
      refine ev_iload_n (pc := 44) dX2_join_44 rfl rfl ?_
      refine cV1 (pc := 45) lk_X2_join_45 rfl rfl rfl (Nat.le_of_ble_eq_true rfl) ⟨Nat.le_of_ble_eq_true rfl, Nat.le_of_ble_eq_true rfl⟩ (s_leave hg8) ?_
      exact ev_vretE (pc := 48) dX2_join_48 rfl ⟨Nat.le_of_ble_eq_true rfl, Nat.le_of_ble_eq_true rfl⟩ rfl
    refine ⟨_, _, _, _, _, ⟨Rp_mono RJ (fun q hq => hq.imp id (fun h => h.2)), hC1.2.1, kS_rm hC1.2.2⟩, ?_⟩
    have wb := s_wordI (sl := sl) (cu := cu) (ba := ba) (r0 := r0) (r1 := r1) (r2 := r2) (r3 := r3) (sw := sw) (bt := bt) (cnt := cnt) (inn := inn) (lk := lk) (wd := wd) (kp := kp) (wr := wr) (mk := mk) (ls := ls) (pth := pth) (tk := tk) (tl := tl) hC.1 huq hl hxb
    by_cases he : 0 < e
    · rw [if_pos he] at wb e1 hJ
      refine evs_of (by decide +kernel) (Nat.le_of_ble_eq_true rfl) (by decide) rfl ?_
      refine ev_iload_n (pc := 0) dX2_mend_0 rfl rfl ?_
      refine ev_if_le (pc := 1) (tgt := 10) dX2_mend_1 (by decide) (fun c_1 => absurd c_1 (by exact nI_nle he (by omega))) (fun _ => ?_)
      refine ev_iload_n (pc := 4) dX2_mend_4 rfl rfl ?_
      refine ev_iconst (pc := 5) (v := 1) dX2_mend_5 (by decide) ?_
      refine ev_isub (pc := 6) dX2_mend_6 ?_
      rw [nI_s1 he]
      refine ev_goto (pc := 7) (tgt := 13) dX2_mend_7 (by decide) ?_
      refine ev_istore_n (pc := 13) dX2_mend_13 rfl rfl rfl ?_
      refine ev_iload_n (pc := 14) dX2_mend_14 rfl rfl ?_
      refine ev_if_le (pc := 15) (tgt := 22) dX2_mend_15 (by decide) (fun c_15 => absurd c_15 (by exact nI_nle he (by omega))) (fun _ => ?_)
      refine ev_iload_n (pc := 18) dX2_mend_18 rfl rfl ?_
      refine ev_goto (pc := 19) (tgt := 23) dX2_mend_19 (by decide) ?_
      refine ev_istore (pc := 23) dX2_mend_23 rfl rfl ?_
      refine ev_aload_n (pc := 25) dX2_mend_25 rfl rfl ?_
      refine ev_get (pc := 26) dX2_mend_26 fd_X2_18 rfl rfl ?_
      refine ev_aload_n (pc := 29) dX2_mend_29 rfl rfl ?_
      refine ev_get (pc := 30) dX2_mend_30 fd_X2_18 rfl rfl ?_
      refine ev_iload_n (pc := 33) dX2_mend_33 rfl rfl ?_
      refine ev_iload_n (pc := 34) dX2_mend_34 rfl rfl ?_
      refine cV2 (pc := 35) lk_X2_mend_35 rfl rfl rfl (Nat.le_of_ble_eq_true rfl) ⟨Nat.le_of_ble_eq_true rfl, Nat.le_of_ble_eq_true rfl⟩ wb ?_
      refine cV1 (pc := 38) lk_X2_mend_38 rfl rfl rfl (Nat.le_of_ble_eq_true rfl) ⟨Nat.le_of_ble_eq_true rfl, Nat.le_of_ble_eq_true rfl⟩ (s_countN hC.1 hub rfl) ?_
      refine ev_iconst (pc := 41) (v := 2) dX2_mend_41 (by decide) ?_
      refine ev_ic_le (pc := 42) (tgt := 61) dX2_mend_42 (by decide) (fun _ => ?_) (fun c_42 => absurd (by rw [h2]; decide) c_42)
      refine ev_aload_n (pc := 61) dX2_mend_61 rfl rfl ?_
      refine ev_iload_n (pc := 62) dX2_mend_62 rfl rfl ?_
      refine ev_iload (pc := 63) dX2_mend_63 rfl ?_
      refine cV2 (pc := 65) lk_X2_mend_65 rfl rfl rfl (Nat.le_of_ble_eq_true rfl) ⟨Nat.le_of_ble_eq_true rfl, Nat.le_of_ble_eq_true rfl⟩ e1 ?_
      refine ev_aload_n (pc := 68) dX2_mend_68 rfl rfl ?_
      refine ev_iload_n (pc := 69) dX2_mend_69 rfl rfl ?_
      refine ev_iload (pc := 70) dX2_mend_70 rfl ?_
      refine cV2 (pc := 72) lk_X2_mend_72 rfl rfl rfl (Nat.le_of_ble_eq_true rfl) ⟨Nat.le_of_ble_eq_true rfl, Nat.le_of_ble_eq_true rfl⟩ hJ ?_
      exact ev_vretE (pc := 75) dX2_mend_75 rfl ⟨Nat.le_of_ble_eq_true rfl, Nat.le_of_ble_eq_true rfl⟩ rfl
    · rw [if_neg he] at wb e1 hJ
      have he0 : e = 0 := by omega
      subst he0
      refine evs_of (by decide +kernel) (Nat.le_of_ble_eq_true rfl) (by decide) rfl ?_
      refine ev_iload_n (pc := 0) dX2_mend_0 rfl rfl ?_
      refine ev_if_le (pc := 1) (tgt := 10) dX2_mend_1 (by decide) (fun _ => ?_) (fun c_1 => absurd (by decide) c_1)
      refine ev_iload_n (pc := 10) dX2_mend_10 rfl rfl ?_
      refine ev_iconst (pc := 11) (v := 1) dX2_mend_11 (by decide) ?_
      refine ev_iadd (pc := 12) dX2_mend_12 ?_
      refine ev_istore_n (pc := 13) dX2_mend_13 rfl rfl rfl ?_
      refine ev_iload_n (pc := 14) dX2_mend_14 rfl rfl ?_
      refine ev_if_le (pc := 15) (tgt := 22) dX2_mend_15 (by decide) (fun _ => ?_) (fun c_15 => absurd (by decide) c_15)
      refine ev_iload_n (pc := 22) dX2_mend_22 rfl rfl ?_
      refine ev_istore (pc := 23) dX2_mend_23 rfl rfl ?_
      refine ev_aload_n (pc := 25) dX2_mend_25 rfl rfl ?_
      refine ev_get (pc := 26) dX2_mend_26 fd_X2_18 rfl rfl ?_
      refine ev_aload_n (pc := 29) dX2_mend_29 rfl rfl ?_
      refine ev_get (pc := 30) dX2_mend_30 fd_X2_18 rfl rfl ?_
      refine ev_iload_n (pc := 33) dX2_mend_33 rfl rfl ?_
      refine ev_iload_n (pc := 34) dX2_mend_34 rfl rfl ?_
      refine cV2 (pc := 35) lk_X2_mend_35 rfl rfl rfl (Nat.le_of_ble_eq_true rfl) ⟨Nat.le_of_ble_eq_true rfl, Nat.le_of_ble_eq_true rfl⟩ wb ?_
      refine cV1 (pc := 38) lk_X2_mend_38 rfl rfl rfl (Nat.le_of_ble_eq_true rfl) ⟨Nat.le_of_ble_eq_true rfl, Nat.le_of_ble_eq_true rfl⟩ (s_countN hC.1 hub rfl) ?_
      refine ev_iconst (pc := 41) (v := 2) dX2_mend_41 (by decide) ?_
      refine ev_ic_le (pc := 42) (tgt := 61) dX2_mend_42 (by decide) (fun _ => ?_) (fun c_42 => absurd (by rw [h2]; decide) c_42)
      refine ev_aload_n (pc := 61) dX2_mend_61 rfl rfl ?_
      refine ev_iload_n (pc := 62) dX2_mend_62 rfl rfl ?_
      refine ev_iload (pc := 63) dX2_mend_63 rfl ?_
      refine cV2 (pc := 65) lk_X2_mend_65 rfl rfl rfl (Nat.le_of_ble_eq_true rfl) ⟨Nat.le_of_ble_eq_true rfl, Nat.le_of_ble_eq_true rfl⟩ e1 ?_
      refine ev_aload_n (pc := 68) dX2_mend_68 rfl rfl ?_
      refine ev_iload_n (pc := 69) dX2_mend_69 rfl rfl ?_
      refine ev_iload (pc := 70) dX2_mend_70 rfl ?_
      refine cV2 (pc := 72) lk_X2_mend_72 rfl rfl rfl (Nat.le_of_ble_eq_true rfl) ⟨Nat.le_of_ble_eq_true rfl, Nat.le_of_ble_eq_true rfl⟩ hJ ?_
      exact ev_vretE (pc := 75) dX2_mend_75 rfl ⟨Nat.le_of_ble_eq_true rfl, Nat.le_of_ble_eq_true rfl⟩ rfl
theorem s_shrinkRoot {sl : Int32} {cu ba r0 r1 r2 r3 : Q4} {sw : Nat → Int64} {bt : Int32} {cnt inn lk wd kp wr mk ls pth tk : Nat → Int32} {tl : List mC} {W W' : Nat → Prop} {T : Nat → Nd} (hC : CR K W T cnt inn lk wd kp wr) {be bk bo : Int32} {rr r' : Nat} (h : shR K T W rr W' r') : ∃ wr', CR K W' T cnt inn lk wd kp wr' ∧ EvS m_X2_shrinkRoot [.ref 12] (cW sl cu (be, nI rr, bk, bo) r0 r1 r2 r3 sw bt cnt inn lk wd kp wr mk ls pth tk tl) (.inl none) (cW sl cu (be, nI r', bk, bo) r0 r1 r2 r3 sw bt cnt inn lk wd kp wr' mk ls pth tk tl) := by
  obtain ⟨hW, h⟩ := h
  have hu : K rr ∨ W rr := Or.inr hW
  have hp8 := (hC.1 rr hu).1
  rcases h with ⟨c, hl, rfl, hr⟩ | ⟨hn, rfl, rfl⟩
  · rw [hr]
    obtain ⟨-, hi, -, hc, hrow⟩ := hC.1.inner hu hl
    refine ⟨_, ⟨Rp_mono hC.1 (fun q hq => hq.imp id (fun h => h.2)), hC.2.1, kS_rm hC.2.2⟩, ?_⟩
    refine evs_of (by decide +kernel) (Nat.le_of_ble_eq_true rfl) (by decide) rfl ?_
    refine ev_aload_n (pc := 0) dX2_shrinkRoot_0 rfl rfl ?_
    refine ev_get (pc := 1) dX2_shrinkRoot_1 fd_X2_22 rfl rfl ?_
    refine ev_get (pc := 4) dX2_shrinkRoot_4 fd_X2_73 rfl rfl ?_
    refine ev_istore_n (pc := 7) dX2_shrinkRoot_7 rfl rfl rfl ?_
    refine ev_aload_n (pc := 8) dX2_shrinkRoot_8 rfl rfl ?_
    refine ev_get (pc := 9) dX2_shrinkRoot_9 fd_X2_18 rfl rfl ?_
    refine ev_iload_n (pc := 12) dX2_shrinkRoot_12 rfl rfl ?_
    refine cV1 (pc := 13) lk_X2_shrinkRoot_13 rfl rfl rfl (Nat.le_of_ble_eq_true rfl) ⟨Nat.le_of_ble_eq_true rfl, Nat.le_of_ble_eq_true rfl⟩ (s_isLeafF hp8 hi) ?_
    refine ev_if_ne (pc := 16) (tgt := 55) dX2_shrinkRoot_16 (by decide) (fun c_16 => absurd (by decide) c_16) (fun _ => ?_)
    refine ev_aload_n (pc := 19) dX2_shrinkRoot_19 rfl rfl ?_
    refine ev_get (pc := 20) dX2_shrinkRoot_20 fd_X2_18 rfl rfl ?_
    refine ev_iload_n (pc := 23) dX2_shrinkRoot_23 rfl rfl ?_
    refine cV1 (pc := 24) lk_X2_shrinkRoot_24 rfl rfl rfl (Nat.le_of_ble_eq_true rfl) ⟨Nat.le_of_ble_eq_true rfl, Nat.le_of_ble_eq_true rfl⟩ (s_countOf hp8 hc) ?_
    refine ev_iconst (pc := 27) (v := 1) dX2_shrinkRoot_27 (by decide) ?_
    refine ev_ic_ne (pc := 28) (tgt := 55) dX2_shrinkRoot_28 (by decide) (fun c_28 => absurd rfl c_28) (fun _ => ?_)
    refine ev_aload_n (pc := 31) dX2_shrinkRoot_31 rfl rfl ?_
    refine ev_get (pc := 32) dX2_shrinkRoot_32 fd_X2_22 rfl rfl ?_
    refine ev_aload_n (pc := 35) dX2_shrinkRoot_35 rfl rfl ?_
    refine ev_get (pc := 36) dX2_shrinkRoot_36 fd_X2_18 rfl rfl ?_
    refine ev_iload_n (pc := 39) dX2_shrinkRoot_39 rfl rfl ?_
    refine ev_iconst (pc := 40) (v := 0) dX2_shrinkRoot_40 (by decide) ?_
    refine cV2 (pc := 41) lk_X2_shrinkRoot_41 rfl rfl rfl (Nat.le_of_ble_eq_true rfl) ⟨Nat.le_of_ble_eq_true rfl, Nat.le_of_ble_eq_true rfl⟩ (s_wordI hC.1 hu hl (e := 0) rfl) ?_
    refine ev_put (pc := 44) dX2_shrinkRoot_44 fp_X2_73 rfl (Nat.le_of_ble_eq_true rfl) (fun _ _ => ⟨rfl, rfl⟩) rfl ?_
    refine ev_aload_n (pc := 47) dX2_shrinkRoot_47 rfl rfl ?_
    refine ev_get (pc := 48) dX2_shrinkRoot_48 fd_X2_18 rfl rfl ?_
    refine ev_iload_n (pc := 51) dX2_shrinkRoot_51 rfl rfl ?_
    refine cV1 (pc := 52) lk_X2_shrinkRoot_52 rfl rfl rfl (Nat.le_of_ble_eq_true rfl) ⟨Nat.le_of_ble_eq_true rfl, Nat.le_of_ble_eq_true rfl⟩ (s_leave (sl := sl) (cu := cu) (ba := (be, nI c, bk, bo)) (r0 := r0) (r1 := r1) (r2 := r2) (r3 := r3) (sw := sw) (bt := bt) (cnt := cnt) (inn := inn) (lk := lk) (wd := wd) (kp := kp) (wr := wr) (mk := mk) (ls := ls) (pth := pth) (tk := tk) (tl := tl) hp8) ?_
    exact ev_vretE (pc := 55) dX2_shrinkRoot_55 rfl ⟨Nat.le_of_ble_eq_true rfl, Nat.le_of_ble_eq_true rfl⟩ rfl
  · refine ⟨wr, hC, ?_⟩
    cases ht : T r' with
    | inl l =>
      obtain ⟨-, hi, -⟩ := hC.1.leaf hu ht
      refine evs_of (by decide +kernel) (Nat.le_of_ble_eq_true rfl) (by decide) rfl ?_
      refine ev_aload_n (pc := 0) dX2_shrinkRoot_0 rfl rfl ?_
      refine ev_get (pc := 1) dX2_shrinkRoot_1 fd_X2_22 rfl rfl ?_
      refine ev_get (pc := 4) dX2_shrinkRoot_4 fd_X2_73 rfl rfl ?_
      refine ev_istore_n (pc := 7) dX2_shrinkRoot_7 rfl rfl rfl ?_
      refine ev_aload_n (pc := 8) dX2_shrinkRoot_8 rfl rfl ?_
      refine ev_get (pc := 9) dX2_shrinkRoot_9 fd_X2_18 rfl rfl ?_
      refine ev_iload_n (pc := 12) dX2_shrinkRoot_12 rfl rfl ?_
      refine cV1 (pc := 13) lk_X2_shrinkRoot_13 rfl rfl rfl (Nat.le_of_ble_eq_true rfl) ⟨Nat.le_of_ble_eq_true rfl, Nat.le_of_ble_eq_true rfl⟩ (s_isLeafT hp8 hi) ?_
      refine ev_if_ne (pc := 16) (tgt := 55) dX2_shrinkRoot_16 (by decide) (fun _ => ?_) (fun c_16 => absurd c_16 (by decide))
      exact ev_vretE (pc := 55) dX2_shrinkRoot_55 rfl ⟨Nat.le_of_ble_eq_true rfl, Nat.le_of_ble_eq_true rfl⟩ rfl
    | inr l =>
      obtain ⟨-, hi, h5, hc, -⟩ := hC.1.inner hu ht
      have h1 : l.length ≠ 1 := fun h1 => by
        match l, h1 with
        | [a], _ => exact hn a ht
      refine evs_of (by decide +kernel) (Nat.le_of_ble_eq_true rfl) (by decide) rfl ?_
      refine ev_aload_n (pc := 0) dX2_shrinkRoot_0 rfl rfl ?_
      refine ev_get (pc := 1) dX2_shrinkRoot_1 fd_X2_22 rfl rfl ?_
      refine ev_get (pc := 4) dX2_shrinkRoot_4 fd_X2_73 rfl rfl ?_
      refine ev_istore_n (pc := 7) dX2_shrinkRoot_7 rfl rfl rfl ?_
      refine ev_aload_n (pc := 8) dX2_shrinkRoot_8 rfl rfl ?_
      refine ev_get (pc := 9) dX2_shrinkRoot_9 fd_X2_18 rfl rfl ?_
      refine ev_iload_n (pc := 12) dX2_shrinkRoot_12 rfl rfl ?_
      refine cV1 (pc := 13) lk_X2_shrinkRoot_13 rfl rfl rfl (Nat.le_of_ble_eq_true rfl) ⟨Nat.le_of_ble_eq_true rfl, Nat.le_of_ble_eq_true rfl⟩ (s_isLeafF hp8 hi) ?_
      refine ev_if_ne (pc := 16) (tgt := 55) dX2_shrinkRoot_16 (by decide) (fun c_16 => absurd (by decide) c_16) (fun _ => ?_)
      refine ev_aload_n (pc := 19) dX2_shrinkRoot_19 rfl rfl ?_
      refine ev_get (pc := 20) dX2_shrinkRoot_20 fd_X2_18 rfl rfl ?_
      refine ev_iload_n (pc := 23) dX2_shrinkRoot_23 rfl rfl ?_
      refine cV1 (pc := 24) lk_X2_shrinkRoot_24 rfl rfl rfl (Nat.le_of_ble_eq_true rfl) ⟨Nat.le_of_ble_eq_true rfl, Nat.le_of_ble_eq_true rfl⟩ (s_countOf hp8 hc) ?_
      refine ev_iconst (pc := 27) (v := 1) dX2_shrinkRoot_27 (by decide) ?_
      refine ev_ic_ne (pc := 28) (tgt := 55) dX2_shrinkRoot_28 (by decide) (fun _ => ?_) (fun c_28 => absurd c_28 (fun h9 => h1 (nI_inj (a := l.length) (b := 1) (by omega) (by decide) h9)))
      exact ev_vretE (pc := 55) dX2_shrinkRoot_55 rfl ⟨Nat.le_of_ble_eq_true rfl, Nat.le_of_ble_eq_true rfl⟩ rfl
theorem l_dropUp {be bk bo : Int32} {rr : Nat} {T' : Nat → Nd} {W' W9 : Nat → Prop} {r' : Nat} (hsh : shR K T' W' rr W9 r') (a : Int32) : ∀ (rp : List (Nat × Nat)) {sl : Int32} {cu ba r0 r1 r2 r3 : Q4} {sw : Nat → Int64} {bt : Int32} {cnt inn lk wd kp wr mk ls pth tk : Nat → Int32} {tl : List mC} {W : Nat → Prop} {T : Nat → Nd} (_ : CR K W T cnt inn lk wd kp wr) {cur : Nat} (lfv : Int32) (_ : dlR K rr rp cur T W T' W') (_ : rp.length ≤ 6) (_ : wyB pth tk rp cur), ∃ cnt' inn' lk' wd' wr', CR K W9 T' cnt' inn' lk' wd' kp wr' ∧ EvF m_X2_drop (mQm m_X2_drop (.inl none) (cW sl cu (be, nI r', bk, bo) r0 r1 r2 r3 sw bt cnt' inn' lk' wd' kp wr' mk ls pth tk tl)) 41 [.ref 12, .int a, .int lfv, .int (nI rp.length)] [] 0 0 (cW sl cu (be, nI rr, bk, bo) r0 r1 r2 r3 sw bt cnt inn lk wd kp wr mk ls pth tk tl) := by
  intro rp
  induction rp with
  | nil =>
    intro sl cu ba r0 r1 r2 r3 sw bt cnt inn lk wd kp wr mk ls pth tk tl W T hC cur lfv h _ hwy
    obtain ⟨rfl, rfl⟩ := h
    obtain ⟨w1, hC1, e1⟩ := s_shrinkRoot (sl := sl) (cu := cu) (ba := ba) (r0 := r0) (r1 := r1) (r2 := r2) (r3 := r3) (sw := sw) (bt := bt) (cnt := cnt) (inn := inn) (lk := lk) (wd := wd) (kp := kp) (wr := wr) (mk := mk) (ls := ls) (pth := pth) (tk := tk) (tl := tl) (be := be) (bk := bk) (bo := bo) hC hsh
    refine ⟨cnt, inn, lk, wd, w1, hC1, ?_⟩
    refine ev_iload_n (pc := 41) dX2_drop_41 rfl rfl ?_
    refine ev_if_le (pc := 42) (tgt := 94) dX2_drop_42 (by decide) (fun _ => ?_) (fun c_42 => absurd (by decide) c_42)
    refine ev_aload_n (pc := 94) dX2_drop_94 rfl rfl ?_
    refine cV0 (pc := 95) lk_X2_drop_95 rfl rfl rfl (Nat.le_of_ble_eq_true rfl) ⟨Nat.le_of_ble_eq_true rfl, Nat.le_of_ble_eq_true rfl⟩ e1 ?_
    exact ev_vretE (pc := 98) dX2_drop_98 rfl ⟨Nat.le_of_ble_eq_true rfl, Nat.le_of_ble_eq_true rfl⟩ rfl
  | cons x rp ih =>
    intro sl cu ba r0 r1 r2 r3 sw bt cnt inn lk wd kp wr mk ls pth tk tl W T hC cur lfv h hlen hwy
    obtain ⟨q, e⟩ := x
    have hlen' : rp.length + 1 ≤ 6 := hlen
    obtain ⟨hw1, hw2, hw3⟩ := hwy
    obtain ⟨hWc, h⟩ := h
    have hu : K cur ∨ W cur := Or.inr hWc
    rcases h with ⟨h2, -, T1, W1, hmd, h⟩ | ⟨h2, h⟩
    · obtain ⟨c1, i1, l1, d1, w1, hC1, e1⟩ := s_mend (sl := sl) (cu := cu) (ba := (be, nI rr, bk, bo)) (r0 := r0) (r1 := r1) (r2 := r2) (r3 := r3) (sw := sw) (bt := bt) (cnt := cnt) (inn := inn) (lk := lk) (wd := wd) (kp := kp) (wr := wr) (mk := mk) (ls := ls) (pth := pth) (tk := tk) (tl := tl) hC hmd
      obtain ⟨c2, i2, l2, d2, w2, hC2, e2⟩ := ih (sl := sl) (cu := cu) (ba := ba) (r0 := r0) (r1 := r1) (r2 := r2) (r3 := r3) (sw := sw) (bt := bt) (cnt := c1) (inn := i1) (lk := l1) (wd := d1) (kp := kp) (wr := w1) (mk := mk) (ls := ls) (pth := pth) (tk := tk) (tl := tl) hC1 lfv h (by omega) hw3
      refine ⟨c2, i2, l2, d2, w2, hC2, ?_⟩
      refine ev_iload_n (pc := 41) dX2_drop_41 rfl rfl ?_
      refine ev_if_le (pc := 42) (tgt := 94) dX2_drop_42 (by decide) (fun c_42 => absurd c_42 (by exact nI_nle (show 0 < rp.length + 1 by omega) (by omega))) (fun _ => ?_)
      refine ev_iload_n (pc := 45) dX2_drop_45 rfl rfl ?_
      refine ev_bipush (pc := 46) (v := 8) dX2_drop_46 (by decide) ?_
      refine ev_ic_ge (pc := 48) (tgt := 94) dX2_drop_48 (by decide) (fun c_48 => absurd c_48 (nI_ge (show rp.length + 1 < 8 by omega) (by decide))) (fun _ => ?_)
      refine ev_aload_n (pc := 51) dX2_drop_51 rfl rfl ?_
      refine ev_get (pc := 52) dX2_drop_52 fd_X2_18 rfl rfl ?_
      refine ev_aload_n (pc := 55) dX2_drop_55 rfl rfl ?_
      refine ev_get (pc := 56) dX2_drop_56 fd_X2_9 rfl rfl ?_
      refine ev_iload_n (pc := 59) dX2_drop_59 rfl rfl ?_
      refine ev_ialdN (pc := 60) dX2_drop_60 rfl ⟨rfl, show rp.length + 1 < 8 by omega, by decide⟩ hw1 ?_
      refine cV1 (pc := 61) lk_X2_drop_61 rfl rfl rfl (Nat.le_of_ble_eq_true rfl) ⟨Nat.le_of_ble_eq_true rfl, Nat.le_of_ble_eq_true rfl⟩ (s_countN hC.1 hu rfl) ?_
      refine ev_iconst (pc := 64) (v := 2) dX2_drop_64 (by decide) ?_
      refine ev_ic_ge (pc := 65) (tgt := 88) dX2_drop_65 (by decide) (fun c_65 => absurd c_65 (nI_ge h2 (by decide))) (fun _ => ?_)
      refine ev_aload_n (pc := 68) dX2_drop_68 rfl rfl ?_
      refine ev_aload_n (pc := 69) dX2_drop_69 rfl rfl ?_
      refine ev_get (pc := 70) dX2_drop_70 fd_X2_9 rfl rfl ?_
      refine ev_iload_n (pc := 73) dX2_drop_73 rfl rfl ?_
      refine ev_iconst (pc := 74) (v := 1) dX2_drop_74 (by decide) ?_
      refine ev_isub (pc := 75) dX2_drop_75 ?_
      refine ev_ialdN (pc := 76) dX2_drop_76 rfl ⟨(nI_s1 (show 0 < rp.length + 1 by omega)), by exact (show rp.length < 8 by omega), by decide⟩ (wyB_cur hw3) ?_
      refine ev_aload_n (pc := 77) dX2_drop_77 rfl rfl ?_
      refine ev_get (pc := 78) dX2_drop_78 fd_X2_15 rfl rfl ?_
      refine ev_iload_n (pc := 81) dX2_drop_81 rfl rfl ?_
      refine ev_iconst (pc := 82) (v := 1) dX2_drop_82 (by decide) ?_
      refine ev_isub (pc := 83) dX2_drop_83 ?_
      refine ev_ialdN (pc := 84) dX2_drop_84 rfl ⟨(nI_s1 (show 0 < rp.length + 1 by omega)), by exact (show rp.length < 8 by omega), by decide⟩ hw2 ?_
      refine cV2 (pc := 85) lk_X2_drop_85 rfl rfl rfl (Nat.le_of_ble_eq_true rfl) ⟨Nat.le_of_ble_eq_true rfl, Nat.le_of_ble_eq_true rfl⟩ e1 ?_
      refine ev_iinc (pc := 88) dX2_drop_88 rfl rfl rfl ?_
      refine ev_goto (pc := 91) (tgt := 41) dX2_drop_91 (by decide) ?_
      rw [show nI ((q, e) :: rp).length + Int32.ofInt (-1) = nI rp.length from nI_im (show 0 < rp.length + 1 by omega)]
      exact e2
    · obtain ⟨c2, i2, l2, d2, w2, hC2, e2⟩ := ih (sl := sl) (cu := cu) (ba := ba) (r0 := r0) (r1 := r1) (r2 := r2) (r3 := r3) (sw := sw) (bt := bt) (cnt := cnt) (inn := inn) (lk := lk) (wd := wd) (kp := kp) (wr := wr) (mk := mk) (ls := ls) (pth := pth) (tk := tk) (tl := tl) hC lfv h (by omega) hw3
      refine ⟨c2, i2, l2, d2, w2, hC2, ?_⟩
      have hl5 := (hC.1.cnt hu).2.2
      refine ev_iload_n (pc := 41) dX2_drop_41 rfl rfl ?_
      refine ev_if_le (pc := 42) (tgt := 94) dX2_drop_42 (by decide) (fun c_42 => absurd c_42 (by exact nI_nle (show 0 < rp.length + 1 by omega) (by omega))) (fun _ => ?_)
      refine ev_iload_n (pc := 45) dX2_drop_45 rfl rfl ?_
      refine ev_bipush (pc := 46) (v := 8) dX2_drop_46 (by decide) ?_
      refine ev_ic_ge (pc := 48) (tgt := 94) dX2_drop_48 (by decide) (fun c_48 => absurd c_48 (nI_ge (show rp.length + 1 < 8 by omega) (by decide))) (fun _ => ?_)
      refine ev_aload_n (pc := 51) dX2_drop_51 rfl rfl ?_
      refine ev_get (pc := 52) dX2_drop_52 fd_X2_18 rfl rfl ?_
      refine ev_aload_n (pc := 55) dX2_drop_55 rfl rfl ?_
      refine ev_get (pc := 56) dX2_drop_56 fd_X2_9 rfl rfl ?_
      refine ev_iload_n (pc := 59) dX2_drop_59 rfl rfl ?_
      refine ev_ialdN (pc := 60) dX2_drop_60 rfl ⟨rfl, show rp.length + 1 < 8 by omega, by decide⟩ hw1 ?_
      refine cV1 (pc := 61) lk_X2_drop_61 rfl rfl rfl (Nat.le_of_ble_eq_true rfl) ⟨Nat.le_of_ble_eq_true rfl, Nat.le_of_ble_eq_true rfl⟩ (s_countN hC.1 hu rfl) ?_
      refine ev_iconst (pc := 64) (v := 2) dX2_drop_64 (by decide) ?_
      refine ev_ic_ge (pc := 65) (tgt := 88) dX2_drop_65 (by decide) (fun _ => ?_) (fun c_65 => absurd (by exact nI_le h2 (by omega)) c_65)
      refine ev_iinc (pc := 88) dX2_drop_88 rfl rfl rfl ?_
      refine ev_goto (pc := 91) (tgt := 41) dX2_drop_91 (by decide) ?_
      rw [show nI ((q, e) :: rp).length + Int32.ofInt (-1) = nI rp.length from nI_im (show 0 < rp.length + 1 by omega)]
      exact e2
end ST4
