/-! views and what is asked of them -/
section XB
variable {K W : Nat → Prop} {T : Nat → Nd} {c : RS3} {b : Option RS3} {rd : Nat → Option RS3}
theorem vw_none {i : Int32} (h : vwF c b rd i = none) : i ≠ -1 ∧ ∀ j, j < 4 → i = nI j → rd j = none := by
  unfold vwF at h
  by_cases h1 : i = -1
  · rw [if_pos h1] at h; cases h
  rw [if_neg h1] at h
  refine ⟨h1, fun j hj hi => ?_⟩
  subst hi
  rcases lt4 hj with rfl | rfl | rfl | rfl
  · rwa [if_pos rfl] at h
  · rwa [if_neg (by decide), if_pos rfl] at h
  · rwa [if_neg (by decide), if_neg (by decide), if_pos rfl] at h
  · rwa [if_neg (by decide), if_neg (by decide), if_neg (by decide), if_pos rfl] at h
theorem vw_some {i : Int32} {x : RS3} (h : vwF c b rd i = some x) : (i = -1 ∧ ((b = none ∧ x = c) ∨ b = some x)) ∨ (i ≠ -1 ∧ ∃ j, j < 4 ∧ i = nI j ∧ rd j = some x) := by
  unfold vwF at h
  by_cases h1 : i = -1
  · rw [if_pos h1] at h
    refine Or.inl ⟨h1, ?_⟩
    cases hb : b with
    | none => rw [hb] at h; exact Or.inl ⟨rfl, (Option.some.inj h).symm⟩
    | some y => rw [hb] at h; exact Or.inr h
  · rw [if_neg h1] at h
    refine Or.inr ⟨h1, ?_⟩
    by_cases h2 : i = nI 0
    · rw [if_pos h2] at h; exact ⟨0, by decide, h2, h⟩
    rw [if_neg h2] at h
    by_cases h3 : i = nI 1
    · rw [if_pos h3] at h; exact ⟨1, by decide, h3, h⟩
    rw [if_neg h3] at h
    by_cases h4 : i = nI 2
    · rw [if_pos h4] at h; exact ⟨2, by decide, h4, h⟩
    rw [if_neg h4] at h
    by_cases h5 : i = nI 3
    · rw [if_pos h5] at h; exact ⟨3, by decide, h5, h⟩
    rw [if_neg h5] at h
    cases h
theorem s_viewedT {sl : Int32} {cu ba r0 r1 r2 r3 : Q4} {sw : Nat → Int64} {bt : Int32} {cnt inn lk wd kp wr mk ls pth tk : Nat → Int32} {tl : List mC} (h : CS cu ba r0 r1 r2 r3 c b rd) {i : Int32} (hv : vwF c b rd i = none) : EvS m_X3_viewed [.ref 0, .int i] (cW sl cu ba r0 r1 r2 r3 sw bt cnt inn lk wd kp wr mk ls pth tk tl) (.inr xIB) (cW sl cu ba r0 r1 r2 r3 sw bt cnt inn lk wd kp wr mk ls pth tk tl) := by
  obtain ⟨h1, h2⟩ := vw_none hv
  refine evs_of (by decide +kernel) (Nat.le_of_ble_eq_true rfl) (by decide) rfl ?_
  refine ev_iload_n (pc := 0) dX3_viewed_0 rfl rfl ?_
  refine ev_iconst (pc := 1) (v := (-1)) dX3_viewed_1 (by decide) ?_
  refine ev_ic_ne (pc := 2) (tgt := 27) dX3_viewed_2 (by decide) (fun _ => ?_) (fun c_2 => absurd c_2 h1)
  refine ev_aload_n (pc := 27) dX3_viewed_27 rfl rfl ?_
  refine ev_iload_n (pc := 28) dX3_viewed_28 rfl rfl ?_
  exact tV1 (pc := 29) lk_X3_viewed_29 rfl rfl rfl rfl (Nat.le_of_ble_eq_true rfl) ⟨Nat.le_of_ble_eq_true rfl, Nat.le_of_ble_eq_true rfl⟩ (s_reqReaderT h.2.2 h2)
def stO (x : RS3) (o : Int32) : mC := .inr (1, [.int (nI x.1), .int (nI x.2.1), .int (nI x.2.2), .int o])
theorem s_viewed {sl : Int32} {cu ba r0 r1 r2 r3 : Q4} {sw : Nat → Int64} {bt : Int32} {cnt inn lk wd kp wr mk ls pth tk : Nat → Int32} {tl : List mC} (h : CS cu ba r0 r1 r2 r3 c b rd) {i : Int32} {x : RS3} (hv : vwF c b rd i = some x) : ∃ q o, EvS m_X3_viewed [.ref 0, .int i] (cW sl cu ba r0 r1 r2 r3 sw bt cnt inn lk wd kp wr mk ls pth tk tl) (.inl (some (.ref q))) (cW sl cu ba r0 r1 r2 r3 sw bt cnt inn lk wd kp wr mk ls pth tk tl) ∧ (cW sl cu ba r0 r1 r2 r3 sw bt cnt inn lk wd kp wr mk ls pth tk tl)[q]? = some (.inr (1, [.int (nI x.1), .int (nI x.2.1), .int (nI x.2.2), .int o])) := by
  obtain ⟨⟨o, rfl⟩, hb, hr⟩ := h
  rcases vw_some hv with ⟨rfl, ⟨rfl, rfl⟩ | rfl⟩ | ⟨hi, j, hj, rfl, hx⟩
  · refine ⟨10, o, ?_, rfl⟩
    have hb0 : ba.2.2.2 = 0 := hb
    refine evs_of (by decide +kernel) (Nat.le_of_ble_eq_true rfl) (by decide) rfl ?_
    refine ev_iload_n (pc := 0) dX3_viewed_0 rfl rfl ?_
    refine ev_iconst (pc := 1) (v := (-1)) dX3_viewed_1 (by decide) ?_
    refine ev_ic_ne (pc := 2) (tgt := 27) dX3_viewed_2 (by decide) (fun c_2 => absurd rfl c_2) (fun _ => ?_)
    refine ev_aload_n (pc := 5) dX3_viewed_5 rfl rfl ?_
    refine ev_get (pc := 6) dX3_viewed_6 fd_X3_23 rfl rfl ?_
    refine ev_get (pc := 9) dX3_viewed_9 fd_X3_58 rfl rfl ?_
    refine ev_if_eq (pc := 12) (tgt := 22) dX3_viewed_12 (by decide) (fun _ => ?_) (fun c_12 => absurd hb0 c_12)
    refine ev_aload_n (pc := 22) dX3_viewed_22 rfl rfl ?_
    refine ev_get (pc := 23) dX3_viewed_23 fd_X3_19 rfl rfl ?_
    exact ev_aretE (pc := 26) dX3_viewed_26 rfl ⟨Nat.le_of_ble_eq_true rfl, Nat.le_of_ble_eq_true rfl⟩ rfl rfl
  · have hb1 : ba = (nI x.1, nI x.2.1, nI x.2.2, 1) := hb
    subst hb1
    refine ⟨11, 1, ?_, rfl⟩
    refine evs_of (by decide +kernel) (Nat.le_of_ble_eq_true rfl) (by decide) rfl ?_
    refine ev_iload_n (pc := 0) dX3_viewed_0 rfl rfl ?_
    refine ev_iconst (pc := 1) (v := (-1)) dX3_viewed_1 (by decide) ?_
    refine ev_ic_ne (pc := 2) (tgt := 27) dX3_viewed_2 (by decide) (fun c_2 => absurd rfl c_2) (fun _ => ?_)
    refine ev_aload_n (pc := 5) dX3_viewed_5 rfl rfl ?_
    refine ev_get (pc := 6) dX3_viewed_6 fd_X3_23 rfl rfl ?_
    refine ev_get (pc := 9) dX3_viewed_9 fd_X3_58 rfl rfl ?_
    refine ev_if_eq (pc := 12) (tgt := 22) dX3_viewed_12 (by decide) (fun c_12 => absurd c_12 (show ¬ (1 : Int32) = 0 by decide)) (fun _ => ?_)
    refine ev_aload_n (pc := 15) dX3_viewed_15 rfl rfl ?_
    refine ev_get (pc := 16) dX3_viewed_16 fd_X3_23 rfl rfl ?_
    refine ev_goto (pc := 19) (tgt := 26) dX3_viewed_19 (by decide) ?_
    exact ev_aretE (pc := 26) dX3_viewed_26 rfl ⟨Nat.le_of_ble_eq_true rfl, Nat.le_of_ble_eq_true rfl⟩ rfl rfl
  · have e1 := s_reqReader (sl := sl) (cu := (nI c.1, nI c.2.1, nI c.2.2, o)) (ba := ba) (r0 := r0) (r1 := r1) (r2 := r2) (r3 := r3) (sw := sw) (bt := bt) (cnt := cnt) (inn := inn) (lk := lk) (wd := wd) (kp := kp) (wr := wr) (mk := mk) (ls := ls) (pth := pth) (tk := tk) (tl := tl) hr hj hx
    obtain ⟨q0, q1, q2, q3⟩ := hr
    rcases lt4 hj with rfl | rfl | rfl | rfl
    · rw [hx] at q0
      subst q0
      refine ⟨16, 1, ?_, rfl⟩
      refine evs_of (by decide +kernel) (Nat.le_of_ble_eq_true rfl) (by decide) rfl ?_
      refine ev_iload_n (pc := 0) dX3_viewed_0 rfl rfl ?_
      refine ev_iconst (pc := 1) (v := (-1)) dX3_viewed_1 (by decide) ?_
      refine ev_ic_ne (pc := 2) (tgt := 27) dX3_viewed_2 (by decide) (fun _ => ?_) (fun c_2 => absurd c_2 hi)
      refine ev_aload_n (pc := 27) dX3_viewed_27 rfl rfl ?_
      refine ev_iload_n (pc := 28) dX3_viewed_28 rfl rfl ?_
      refine cV1 (pc := 29) lk_X3_viewed_29 rfl rfl rfl (Nat.le_of_ble_eq_true rfl) ⟨Nat.le_of_ble_eq_true rfl, Nat.le_of_ble_eq_true rfl⟩ e1 ?_
      refine ev_aload_n (pc := 32) dX3_viewed_32 rfl rfl ?_
      refine ev_get (pc := 33) dX3_viewed_33 fd_X3_35 rfl rfl ?_
      refine ev_iload_n (pc := 36) dX3_viewed_36 rfl rfl ?_
      refine ev_aaldN (pc := 37) dX3_viewed_37 rfl ⟨rfl, by decide, by decide⟩ rfl ?_
      exact ev_aretE (pc := 38) dX3_viewed_38 rfl ⟨Nat.le_of_ble_eq_true rfl, Nat.le_of_ble_eq_true rfl⟩ rfl rfl
    · rw [hx] at q1
      subst q1
      refine ⟨17, 1, ?_, rfl⟩
      refine evs_of (by decide +kernel) (Nat.le_of_ble_eq_true rfl) (by decide) rfl ?_
      refine ev_iload_n (pc := 0) dX3_viewed_0 rfl rfl ?_
      refine ev_iconst (pc := 1) (v := (-1)) dX3_viewed_1 (by decide) ?_
      refine ev_ic_ne (pc := 2) (tgt := 27) dX3_viewed_2 (by decide) (fun _ => ?_) (fun c_2 => absurd c_2 hi)
      refine ev_aload_n (pc := 27) dX3_viewed_27 rfl rfl ?_
      refine ev_iload_n (pc := 28) dX3_viewed_28 rfl rfl ?_
      refine cV1 (pc := 29) lk_X3_viewed_29 rfl rfl rfl (Nat.le_of_ble_eq_true rfl) ⟨Nat.le_of_ble_eq_true rfl, Nat.le_of_ble_eq_true rfl⟩ e1 ?_
      refine ev_aload_n (pc := 32) dX3_viewed_32 rfl rfl ?_
      refine ev_get (pc := 33) dX3_viewed_33 fd_X3_35 rfl rfl ?_
      refine ev_iload_n (pc := 36) dX3_viewed_36 rfl rfl ?_
      refine ev_aaldN (pc := 37) dX3_viewed_37 rfl ⟨rfl, by decide, by decide⟩ rfl ?_
      exact ev_aretE (pc := 38) dX3_viewed_38 rfl ⟨Nat.le_of_ble_eq_true rfl, Nat.le_of_ble_eq_true rfl⟩ rfl rfl
    · rw [hx] at q2
      subst q2
      refine ⟨18, 1, ?_, rfl⟩
      refine evs_of (by decide +kernel) (Nat.le_of_ble_eq_true rfl) (by decide) rfl ?_
      refine ev_iload_n (pc := 0) dX3_viewed_0 rfl rfl ?_
      refine ev_iconst (pc := 1) (v := (-1)) dX3_viewed_1 (by decide) ?_
      refine ev_ic_ne (pc := 2) (tgt := 27) dX3_viewed_2 (by decide) (fun _ => ?_) (fun c_2 => absurd c_2 hi)
      refine ev_aload_n (pc := 27) dX3_viewed_27 rfl rfl ?_
      refine ev_iload_n (pc := 28) dX3_viewed_28 rfl rfl ?_
      refine cV1 (pc := 29) lk_X3_viewed_29 rfl rfl rfl (Nat.le_of_ble_eq_true rfl) ⟨Nat.le_of_ble_eq_true rfl, Nat.le_of_ble_eq_true rfl⟩ e1 ?_
      refine ev_aload_n (pc := 32) dX3_viewed_32 rfl rfl ?_
      refine ev_get (pc := 33) dX3_viewed_33 fd_X3_35 rfl rfl ?_
      refine ev_iload_n (pc := 36) dX3_viewed_36 rfl rfl ?_
      refine ev_aaldN (pc := 37) dX3_viewed_37 rfl ⟨rfl, by decide, by decide⟩ rfl ?_
      exact ev_aretE (pc := 38) dX3_viewed_38 rfl ⟨Nat.le_of_ble_eq_true rfl, Nat.le_of_ble_eq_true rfl⟩ rfl rfl
    · rw [hx] at q3
      subst q3
      refine ⟨19, 1, ?_, rfl⟩
      refine evs_of (by decide +kernel) (Nat.le_of_ble_eq_true rfl) (by decide) rfl ?_
      refine ev_iload_n (pc := 0) dX3_viewed_0 rfl rfl ?_
      refine ev_iconst (pc := 1) (v := (-1)) dX3_viewed_1 (by decide) ?_
      refine ev_ic_ne (pc := 2) (tgt := 27) dX3_viewed_2 (by decide) (fun _ => ?_) (fun c_2 => absurd c_2 hi)
      refine ev_aload_n (pc := 27) dX3_viewed_27 rfl rfl ?_
      refine ev_iload_n (pc := 28) dX3_viewed_28 rfl rfl ?_
      refine cV1 (pc := 29) lk_X3_viewed_29 rfl rfl rfl (Nat.le_of_ble_eq_true rfl) ⟨Nat.le_of_ble_eq_true rfl, Nat.le_of_ble_eq_true rfl⟩ e1 ?_
      refine ev_aload_n (pc := 32) dX3_viewed_32 rfl rfl ?_
      refine ev_get (pc := 33) dX3_viewed_33 fd_X3_35 rfl rfl ?_
      refine ev_iload_n (pc := 36) dX3_viewed_36 rfl rfl ?_
      refine ev_aaldN (pc := 37) dX3_viewed_37 rfl ⟨rfl, by decide, by decide⟩ rfl ?_
      exact ev_aretE (pc := 38) dX3_viewed_38 rfl ⟨Nat.le_of_ble_eq_true rfl, Nat.le_of_ble_eq_true rfl⟩ rfl rfl
theorem s_epochOf {sl : Int32} {cu ba r0 r1 r2 r3 : Q4} {sw : Nat → Int64} {bt : Int32} {cnt inn lk wd kp wr mk ls pth tk : Nat → Int32} {tl : List mC} (h : CS cu ba r0 r1 r2 r3 c b rd) {i : Int32} {x : RS3} (hv : vwF c b rd i = some x) : EvS m_X3_epochOf [.ref 0, .int i] (cW sl cu ba r0 r1 r2 r3 sw bt cnt inn lk wd kp wr mk ls pth tk tl) (.inl (some (.int (nI x.1)))) (cW sl cu ba r0 r1 r2 r3 sw bt cnt inn lk wd kp wr mk ls pth tk tl) := by
  obtain ⟨q, o, e1, hq⟩ := s_viewed (sl := sl) (cu := cu) (ba := ba) (r0 := r0) (r1 := r1) (r2 := r2) (r3 := r3) (sw := sw) (bt := bt) (cnt := cnt) (inn := inn) (lk := lk) (wd := wd) (kp := kp) (wr := wr) (mk := mk) (ls := ls) (pth := pth) (tk := tk) (tl := tl) h hv
  refine evs_of (by decide +kernel) (Nat.le_of_ble_eq_true rfl) (by decide) rfl ?_
  refine ev_aload_n (pc := 0) dX3_epochOf_0 rfl rfl ?_
  refine ev_iload_n (pc := 1) dX3_epochOf_1 rfl rfl ?_
  refine cV1 (pc := 2) lk_X3_epochOf_2 rfl rfl rfl (Nat.le_of_ble_eq_true rfl) ⟨Nat.le_of_ble_eq_true rfl, Nat.le_of_ble_eq_true rfl⟩ e1 ?_
  refine ev_get (pc := 5) dX3_epochOf_5 fd_X3_73 hq rfl ?_
  exact ev_iretE (pc := 8) dX3_epochOf_8 rfl ⟨Nat.le_of_ble_eq_true rfl, Nat.le_of_ble_eq_true rfl⟩ rfl rfl
theorem s_epochOfT {sl : Int32} {cu ba r0 r1 r2 r3 : Q4} {sw : Nat → Int64} {bt : Int32} {cnt inn lk wd kp wr mk ls pth tk : Nat → Int32} {tl : List mC} (h : CS cu ba r0 r1 r2 r3 c b rd) {i : Int32} (hv : vwF c b rd i = none) : EvS m_X3_epochOf [.ref 0, .int i] (cW sl cu ba r0 r1 r2 r3 sw bt cnt inn lk wd kp wr mk ls pth tk tl) (.inr xIB) (cW sl cu ba r0 r1 r2 r3 sw bt cnt inn lk wd kp wr mk ls pth tk tl) := by
  refine evs_of (by decide +kernel) (Nat.le_of_ble_eq_true rfl) (by decide) rfl ?_
  refine ev_aload_n (pc := 0) dX3_epochOf_0 rfl rfl ?_
  refine ev_iload_n (pc := 1) dX3_epochOf_1 rfl rfl ?_
  exact tV1 (pc := 2) lk_X3_epochOf_2 rfl rfl rfl rfl (Nat.le_of_ble_eq_true rfl) ⟨Nat.le_of_ble_eq_true rfl, Nat.le_of_ble_eq_true rfl⟩ (s_viewedT h hv)
theorem s_sizeOf {sl : Int32} {cu ba r0 r1 r2 r3 : Q4} {sw : Nat → Int64} {bt : Int32} {cnt inn lk wd kp wr mk ls pth tk : Nat → Int32} {tl : List mC} (h : CS cu ba r0 r1 r2 r3 c b rd) {i : Int32} {x : RS3} (hv : vwF c b rd i = some x) : EvS m_X3_size [.ref 0, .int i] (cW sl cu ba r0 r1 r2 r3 sw bt cnt inn lk wd kp wr mk ls pth tk tl) (.inl (some (.int (nI x.2.2)))) (cW sl cu ba r0 r1 r2 r3 sw bt cnt inn lk wd kp wr mk ls pth tk tl) := by
  obtain ⟨q, o, e1, hq⟩ := s_viewed (sl := sl) (cu := cu) (ba := ba) (r0 := r0) (r1 := r1) (r2 := r2) (r3 := r3) (sw := sw) (bt := bt) (cnt := cnt) (inn := inn) (lk := lk) (wd := wd) (kp := kp) (wr := wr) (mk := mk) (ls := ls) (pth := pth) (tk := tk) (tl := tl) h hv
  refine evs_of (by decide +kernel) (Nat.le_of_ble_eq_true rfl) (by decide) rfl ?_
  refine ev_aload_n (pc := 0) dX3_size_0 rfl rfl ?_
  refine ev_iload_n (pc := 1) dX3_size_1 rfl rfl ?_
  refine cV1 (pc := 2) lk_X3_size_2 rfl rfl rfl (Nat.le_of_ble_eq_true rfl) ⟨Nat.le_of_ble_eq_true rfl, Nat.le_of_ble_eq_true rfl⟩ e1 ?_
  refine ev_get (pc := 5) dX3_size_5 fd_X3_135 hq rfl ?_
  exact ev_iretE (pc := 8) dX3_size_8 rfl ⟨Nat.le_of_ble_eq_true rfl, Nat.le_of_ble_eq_true rfl⟩ rfl rfl
theorem s_sizeOfT {sl : Int32} {cu ba r0 r1 r2 r3 : Q4} {sw : Nat → Int64} {bt : Int32} {cnt inn lk wd kp wr mk ls pth tk : Nat → Int32} {tl : List mC} (h : CS cu ba r0 r1 r2 r3 c b rd) {i : Int32} (hv : vwF c b rd i = none) : EvS m_X3_size [.ref 0, .int i] (cW sl cu ba r0 r1 r2 r3 sw bt cnt inn lk wd kp wr mk ls pth tk tl) (.inr xIB) (cW sl cu ba r0 r1 r2 r3 sw bt cnt inn lk wd kp wr mk ls pth tk tl) := by
  refine evs_of (by decide +kernel) (Nat.le_of_ble_eq_true rfl) (by decide) rfl ?_
  refine ev_aload_n (pc := 0) dX3_size_0 rfl rfl ?_
  refine ev_iload_n (pc := 1) dX3_size_1 rfl rfl ?_
  exact tV1 (pc := 2) lk_X3_size_2 rfl rfl rfl rfl (Nat.le_of_ble_eq_true rfl) ⟨Nat.le_of_ble_eq_true rfl, Nat.le_of_ble_eq_true rfl⟩ (s_viewedT h hv)
theorem s_rootOf {sl : Int32} {cu ba r0 r1 r2 r3 : Q4} {sw : Nat → Int64} {bt : Int32} {cnt inn lk wd kp wr mk ls pth tk : Nat → Int32} {tl : List mC} (h : CS cu ba r0 r1 r2 r3 c b rd) {i : Int32} {x : RS3} (hv : vwF c b rd i = some x) : EvS m_X3_rootOf [.ref 0, .int i] (cW sl cu ba r0 r1 r2 r3 sw bt cnt inn lk wd kp wr mk ls pth tk tl) (.inl (some (.int (nI x.2.1)))) (cW sl cu ba r0 r1 r2 r3 sw bt cnt inn lk wd kp wr mk ls pth tk tl) := by
  obtain ⟨q, o, e1, hq⟩ := s_viewed (sl := sl) (cu := cu) (ba := ba) (r0 := r0) (r1 := r1) (r2 := r2) (r3 := r3) (sw := sw) (bt := bt) (cnt := cnt) (inn := inn) (lk := lk) (wd := wd) (kp := kp) (wr := wr) (mk := mk) (ls := ls) (pth := pth) (tk := tk) (tl := tl) h hv
  refine evs_of (by decide +kernel) (Nat.le_of_ble_eq_true rfl) (by decide) rfl ?_
  refine ev_aload_n (pc := 0) dX3_rootOf_0 rfl rfl ?_
  refine ev_iload_n (pc := 1) dX3_rootOf_1 rfl rfl ?_
  refine cV1 (pc := 2) lk_X3_rootOf_2 rfl rfl rfl (Nat.le_of_ble_eq_true rfl) ⟨Nat.le_of_ble_eq_true rfl, Nat.le_of_ble_eq_true rfl⟩ e1 ?_
  refine ev_get (pc := 5) dX3_rootOf_5 fd_X3_51 hq rfl ?_
  exact ev_iretE (pc := 8) dX3_rootOf_8 rfl ⟨Nat.le_of_ble_eq_true rfl, Nat.le_of_ble_eq_true rfl⟩ rfl rfl
theorem s_rootOfT {sl : Int32} {cu ba r0 r1 r2 r3 : Q4} {sw : Nat → Int64} {bt : Int32} {cnt inn lk wd kp wr mk ls pth tk : Nat → Int32} {tl : List mC} (h : CS cu ba r0 r1 r2 r3 c b rd) {i : Int32} (hv : vwF c b rd i = none) : EvS m_X3_rootOf [.ref 0, .int i] (cW sl cu ba r0 r1 r2 r3 sw bt cnt inn lk wd kp wr mk ls pth tk tl) (.inr xIB) (cW sl cu ba r0 r1 r2 r3 sw bt cnt inn lk wd kp wr mk ls pth tk tl) := by
  refine evs_of (by decide +kernel) (Nat.le_of_ble_eq_true rfl) (by decide) rfl ?_
  refine ev_aload_n (pc := 0) dX3_rootOf_0 rfl rfl ?_
  refine ev_iload_n (pc := 1) dX3_rootOf_1 rfl rfl ?_
  exact tV1 (pc := 2) lk_X3_rootOf_2 rfl rfl rfl rfl (Nat.le_of_ble_eq_true rfl) ⟨Nat.le_of_ble_eq_true rfl, Nat.le_of_ble_eq_true rfl⟩ (s_viewedT h hv)
theorem s_depth {sl : Int32} {cu ba r0 r1 r2 r3 : Q4} {sw : Nat → Int64} {bt : Int32} {cnt inn lk wd kp wr mk ls pth tk : Nat → Int32} {tl : List mC} (h : CS cu ba r0 r1 r2 r3 c b rd) (hR : Rp cnt inn lk wd T (fun q => K q ∨ W q)) {i : Int32} {x : RS3} (hv : vwF c b rd i = some x) {d : Nat} (hd : d ≤ 6) (ht : rt T (fun q => K q ∨ W q) d x.2.1) : EvS m_X3_depth [.ref 0, .int i] (cW sl cu ba r0 r1 r2 r3 sw bt cnt inn lk wd kp wr mk ls pth tk tl) (.inl (some (.int (nI (d + 1))))) (cW sl cu ba r0 r1 r2 r3 sw bt cnt inn lk wd kp wr mk ls pth tk tl) := by
  obtain ⟨q, o, e1, hq⟩ := s_viewed (sl := sl) (cu := cu) (ba := ba) (r0 := r0) (r1 := r1) (r2 := r2) (r3 := r3) (sw := sw) (bt := bt) (cnt := cnt) (inn := inn) (lk := lk) (wd := wd) (kp := kp) (wr := wr) (mk := mk) (ls := ls) (pth := pth) (tk := tk) (tl := tl) h hv
  refine evs_of (by decide +kernel) (Nat.le_of_ble_eq_true rfl) (by decide) rfl ?_
  refine ev_aload_n (pc := 0) dX3_depth_0 rfl rfl ?_
  refine ev_get (pc := 1) dX3_depth_1 fd_X3_12 rfl rfl ?_
  refine ev_aload_n (pc := 4) dX3_depth_4 rfl rfl ?_
  refine ev_iload_n (pc := 5) dX3_depth_5 rfl rfl ?_
  refine cV1 (pc := 6) lk_X3_depth_6 rfl rfl rfl (Nat.le_of_ble_eq_true rfl) ⟨Nat.le_of_ble_eq_true rfl, Nat.le_of_ble_eq_true rfl⟩ e1 ?_
  refine ev_get (pc := 9) dX3_depth_9 fd_X3_51 hq rfl ?_
  refine cV1 (pc := 12) lk_X3_depth_12 rfl rfl rfl (Nat.le_of_ble_eq_true rfl) ⟨Nat.le_of_ble_eq_true rfl, Nat.le_of_ble_eq_true rfl⟩ (s_levelsFrom hR ht (by omega)) ?_
  exact ev_iretE (pc := 15) dX3_depth_15 rfl ⟨Nat.le_of_ble_eq_true rfl, Nat.le_of_ble_eq_true rfl⟩ rfl rfl
theorem s_depthT {sl : Int32} {cu ba r0 r1 r2 r3 : Q4} {sw : Nat → Int64} {bt : Int32} {cnt inn lk wd kp wr mk ls pth tk : Nat → Int32} {tl : List mC} (h : CS cu ba r0 r1 r2 r3 c b rd) {i : Int32} (hv : vwF c b rd i = none) : EvS m_X3_depth [.ref 0, .int i] (cW sl cu ba r0 r1 r2 r3 sw bt cnt inn lk wd kp wr mk ls pth tk tl) (.inr xIB) (cW sl cu ba r0 r1 r2 r3 sw bt cnt inn lk wd kp wr mk ls pth tk tl) := by
  refine evs_of (by decide +kernel) (Nat.le_of_ble_eq_true rfl) (by decide) rfl ?_
  refine ev_aload_n (pc := 0) dX3_depth_0 rfl rfl ?_
  refine ev_get (pc := 1) dX3_depth_1 fd_X3_12 rfl rfl ?_
  refine ev_aload_n (pc := 4) dX3_depth_4 rfl rfl ?_
  refine ev_iload_n (pc := 5) dX3_depth_5 rfl rfl ?_
  exact tV1 (pc := 6) lk_X3_depth_6 rfl rfl rfl rfl (Nat.le_of_ble_eq_true rfl) ⟨Nat.le_of_ble_eq_true rfl, Nat.le_of_ble_eq_true rfl⟩ (s_viewedT h hv)
theorem s_next {sl : Int32} {cu ba r0 r1 r2 r3 : Q4} {sw : Nat → Int64} {bt : Int32} {cnt inn lk wd kp wr mk ls pth tk : Nat → Int32} {tl : List mC} (h : CS cu ba r0 r1 r2 r3 c b rd) (hR : Rp cnt inn lk wd T (fun q => K q ∨ W q)) {i a : Int32} {x : RS3} (hv : vwF c b rd i = some x) {d : Nat} (ht : rt T (fun q => K q ∨ W q) d x.2.1) (hlen : (bfs T d [x.2.1]).length ≤ 100) : EvS m_X3_next [.ref 0, .int i, .int a] (cW sl cu ba r0 r1 r2 r3 sw bt cnt inn lk wd kp wr mk ls pth tk tl) (.inl (some (.int (lkf T (bfs T d [x.2.1]) a)))) (cW sl cu ba r0 r1 r2 r3 sw bt cnt inn lk wd kp wr mk (fillL ls (bfs T d [x.2.1])) pth tk tl) := by
  obtain ⟨q, o, e1, hq⟩ := s_viewed (sl := sl) (cu := cu) (ba := ba) (r0 := r0) (r1 := r1) (r2 := r2) (r3 := r3) (sw := sw) (bt := bt) (cnt := cnt) (inn := inn) (lk := lk) (wd := wd) (kp := kp) (wr := wr) (mk := mk) (ls := ls) (pth := pth) (tk := tk) (tl := tl) h hv
  refine evs_of (by decide +kernel) (Nat.le_of_ble_eq_true rfl) (by decide) rfl ?_
  refine ev_aload_n (pc := 0) dX3_next_0 rfl rfl ?_
  refine ev_get (pc := 1) dX3_next_1 fd_X3_12 rfl rfl ?_
  refine ev_aload_n (pc := 4) dX3_next_4 rfl rfl ?_
  refine ev_iload_n (pc := 5) dX3_next_5 rfl rfl ?_
  refine cV1 (pc := 6) lk_X3_next_6 rfl rfl rfl (Nat.le_of_ble_eq_true rfl) ⟨Nat.le_of_ble_eq_true rfl, Nat.le_of_ble_eq_true rfl⟩ e1 ?_
  refine ev_get (pc := 9) dX3_next_9 fd_X3_51 hq rfl ?_
  refine ev_iload_n (pc := 12) dX3_next_12 rfl rfl ?_
  refine cV2 (pc := 13) lk_X3_next_13 rfl rfl rfl (Nat.le_of_ble_eq_true rfl) ⟨Nat.le_of_ble_eq_true rfl, Nat.le_of_ble_eq_true rfl⟩ (s_leastKeyFrom hR ht (by omega) a) ?_
  exact ev_iretE (pc := 16) dX3_next_16 rfl ⟨Nat.le_of_ble_eq_true rfl, Nat.le_of_ble_eq_true rfl⟩ rfl rfl
theorem s_nextT {sl : Int32} {cu ba r0 r1 r2 r3 : Q4} {sw : Nat → Int64} {bt : Int32} {cnt inn lk wd kp wr mk ls pth tk : Nat → Int32} {tl : List mC} (h : CS cu ba r0 r1 r2 r3 c b rd) {i a : Int32} (hv : vwF c b rd i = none) : EvS m_X3_next [.ref 0, .int i, .int a] (cW sl cu ba r0 r1 r2 r3 sw bt cnt inn lk wd kp wr mk ls pth tk tl) (.inr xIB) (cW sl cu ba r0 r1 r2 r3 sw bt cnt inn lk wd kp wr mk ls pth tk tl) := by
  refine evs_of (by decide +kernel) (Nat.le_of_ble_eq_true rfl) (by decide) rfl ?_
  refine ev_aload_n (pc := 0) dX3_next_0 rfl rfl ?_
  refine ev_get (pc := 1) dX3_next_1 fd_X3_12 rfl rfl ?_
  refine ev_aload_n (pc := 4) dX3_next_4 rfl rfl ?_
  refine ev_iload_n (pc := 5) dX3_next_5 rfl rfl ?_
  exact tV1 (pc := 6) lk_X3_next_6 rfl rfl rfl rfl (Nat.le_of_ble_eq_true rfl) ⟨Nat.le_of_ble_eq_true rfl, Nat.le_of_ble_eq_true rfl⟩ (s_viewedT h hv)
theorem s_rank {sl : Int32} {cu ba r0 r1 r2 r3 : Q4} {sw : Nat → Int64} {bt : Int32} {cnt inn lk wd kp wr mk ls pth tk : Nat → Int32} {tl : List mC} (h : CS cu ba r0 r1 r2 r3 c b rd) (hR : Rp cnt inn lk wd T (fun q => K q ∨ W q)) {i a : Int32} {x : RS3} (hv : vwF c b rd i = some x) {d : Nat} (ht : rt T (fun q => K q ∨ W q) d x.2.1) (hlen : (bfs T d [x.2.1]).length ≤ 100) : EvS m_X3_rank [.ref 0, .int i, .int a] (cW sl cu ba r0 r1 r2 r3 sw bt cnt inn lk wd kp wr mk ls pth tk tl) (.inl (some (.int (nI (ksb T (bfs T d [x.2.1]) a))))) (cW sl cu ba r0 r1 r2 r3 sw bt cnt inn lk wd kp wr mk (fillL ls (bfs T d [x.2.1])) pth tk tl) := by
  obtain ⟨q, o, e1, hq⟩ := s_viewed (sl := sl) (cu := cu) (ba := ba) (r0 := r0) (r1 := r1) (r2 := r2) (r3 := r3) (sw := sw) (bt := bt) (cnt := cnt) (inn := inn) (lk := lk) (wd := wd) (kp := kp) (wr := wr) (mk := mk) (ls := ls) (pth := pth) (tk := tk) (tl := tl) h hv
  refine evs_of (by decide +kernel) (Nat.le_of_ble_eq_true rfl) (by decide) rfl ?_
  refine ev_aload_n (pc := 0) dX3_rank_0 rfl rfl ?_
  refine ev_get (pc := 1) dX3_rank_1 fd_X3_12 rfl rfl ?_
  refine ev_aload_n (pc := 4) dX3_rank_4 rfl rfl ?_
  refine ev_iload_n (pc := 5) dX3_rank_5 rfl rfl ?_
  refine cV1 (pc := 6) lk_X3_rank_6 rfl rfl rfl (Nat.le_of_ble_eq_true rfl) ⟨Nat.le_of_ble_eq_true rfl, Nat.le_of_ble_eq_true rfl⟩ e1 ?_
  refine ev_get (pc := 9) dX3_rank_9 fd_X3_51 hq rfl ?_
  refine ev_iload_n (pc := 12) dX3_rank_12 rfl rfl ?_
  refine cV2 (pc := 13) lk_X3_rank_13 rfl rfl rfl (Nat.le_of_ble_eq_true rfl) ⟨Nat.le_of_ble_eq_true rfl, Nat.le_of_ble_eq_true rfl⟩ (s_keysBelow hR ht (by omega) a) ?_
  exact ev_iretE (pc := 16) dX3_rank_16 rfl ⟨Nat.le_of_ble_eq_true rfl, Nat.le_of_ble_eq_true rfl⟩ rfl rfl
theorem s_rankT {sl : Int32} {cu ba r0 r1 r2 r3 : Q4} {sw : Nat → Int64} {bt : Int32} {cnt inn lk wd kp wr mk ls pth tk : Nat → Int32} {tl : List mC} (h : CS cu ba r0 r1 r2 r3 c b rd) {i a : Int32} (hv : vwF c b rd i = none) : EvS m_X3_rank [.ref 0, .int i, .int a] (cW sl cu ba r0 r1 r2 r3 sw bt cnt inn lk wd kp wr mk ls pth tk tl) (.inr xIB) (cW sl cu ba r0 r1 r2 r3 sw bt cnt inn lk wd kp wr mk ls pth tk tl) := by
  refine evs_of (by decide +kernel) (Nat.le_of_ble_eq_true rfl) (by decide) rfl ?_
  refine ev_aload_n (pc := 0) dX3_rank_0 rfl rfl ?_
  refine ev_get (pc := 1) dX3_rank_1 fd_X3_12 rfl rfl ?_
  refine ev_aload_n (pc := 4) dX3_rank_4 rfl rfl ?_
  refine ev_iload_n (pc := 5) dX3_rank_5 rfl rfl ?_
  exact tV1 (pc := 6) lk_X3_rank_6 rfl rfl rfl rfl (Nat.le_of_ble_eq_true rfl) ⟨Nat.le_of_ble_eq_true rfl, Nat.le_of_ble_eq_true rfl⟩ (s_viewedT h hv)
/-- the leaf of a key in a tree of depth d: an entry with the key and this value, or none -/
theorem s_valueIn {sl : Int32} {cu ba r0 r1 r2 r3 : Q4} {sw : Nat → Int64} {bt : Int32} {cnt inn lk wd kp wr mk ls pth tk : Nat → Int32} {tl : List mC} (hR : Rp cnt inn lk wd T (fun q => K q ∨ W q)) {q : Nat} {e k o : Int32} {p d : Nat} (hq : (cW sl cu ba r0 r1 r2 r3 sw bt cnt inn lk wd kp wr mk ls pth tk tl)[q]? = some (.inr (1, [.int e, .int (nI p), .int k, .int o]))) (hd : d ≤ 6) (ht : rt T (fun q => K q ∨ W q) d p) {key v : Int32} {l : List (Nat × Int32)} (hl : T (lfF T d p key) = .inl l) (hu : K (lfF T d p key) ∨ W (lfF T d p key)) {n : Nat} (hx : l[plc l key]? = some (n, v)) (hn : nI n = key) : EvS m_X3_valueIn [.ref 0, .ref q, .int key] (cW sl cu ba r0 r1 r2 r3 sw bt cnt inn lk wd kp wr mk ls pth tk tl) (.inl (some (.int v))) (cW sl cu ba r0 r1 r2 r3 sw bt cnt inn lk wd kp wr mk ls pth tk tl) := by
  obtain ⟨hp8, -, h5, -, hrow⟩ := hR.leaf hu hl
  refine evs_of (by decide +kernel) (Nat.le_of_ble_eq_true rfl) (by decide) rfl ?_
  refine ev_aload_n (pc := 0) dX3_valueIn_0 rfl rfl ?_
  refine ev_get (pc := 1) dX3_valueIn_1 fd_X3_12 rfl rfl ?_
  refine ev_aload_n (pc := 4) dX3_valueIn_4 rfl rfl ?_
  refine ev_get (pc := 5) dX3_valueIn_5 fd_X3_51 hq rfl ?_
  refine ev_iload_n (pc := 8) dX3_valueIn_8 rfl rfl ?_
  refine cV2 (pc := 9) lk_X3_valueIn_9 rfl rfl rfl (Nat.le_of_ble_eq_true rfl) ⟨Nat.le_of_ble_eq_true rfl, Nat.le_of_ble_eq_true rfl⟩ (s_leafFor hR ht (by omega) key) ?_
  refine ev_istore_n (pc := 12) dX3_valueIn_12 rfl rfl rfl ?_
  refine ev_aload_n (pc := 13) dX3_valueIn_13 rfl rfl ?_
  refine ev_get (pc := 14) dX3_valueIn_14 fd_X3_12 rfl rfl ?_
  refine ev_iload_n (pc := 17) dX3_valueIn_17 rfl rfl ?_
  refine ev_iload_n (pc := 18) dX3_valueIn_18 rfl rfl ?_
  refine cV2 (pc := 19) lk_X3_valueIn_19 rfl rfl rfl (Nat.le_of_ble_eq_true rfl) ⟨Nat.le_of_ble_eq_true rfl, Nat.le_of_ble_eq_true rfl⟩ (s_placeOf hR hu hl key) ?_
  refine ev_istore (pc := 22) dX3_valueIn_22 rfl rfl ?_
  refine ev_aload_n (pc := 24) dX3_valueIn_24 rfl rfl ?_
  refine ev_get (pc := 25) dX3_valueIn_25 fd_X3_12 rfl rfl ?_
  refine ev_iload_n (pc := 28) dX3_valueIn_28 rfl rfl ?_
  refine ev_iload (pc := 29) dX3_valueIn_29 rfl ?_
  refine ev_iload_n (pc := 31) dX3_valueIn_31 rfl rfl ?_
  refine cV3 (pc := 32) lk_X3_valueIn_32 rfl rfl rfl (Nat.le_of_ble_eq_true rfl) ⟨Nat.le_of_ble_eq_true rfl, Nat.le_of_ble_eq_true rfl⟩ (s_holds1 hR hu hl ⟨(n, v), hx, hn⟩) ?_
  refine ev_if_ne (pc := 35) (tgt := 48) dX3_valueIn_35 (by decide) (fun _ => ?_) (fun c_35 => absurd c_35 (by decide))
  refine ev_aload_n (pc := 48) dX3_valueIn_48 rfl rfl ?_
  refine ev_get (pc := 49) dX3_valueIn_49 fd_X3_12 rfl rfl ?_
  refine ev_iload_n (pc := 52) dX3_valueIn_52 rfl rfl ?_
  refine ev_iload (pc := 53) dX3_valueIn_53 rfl ?_
  refine cV2 (pc := 55) lk_X3_valueIn_55 rfl rfl rfl (Nat.le_of_ble_eq_true rfl) ⟨Nat.le_of_ble_eq_true rfl, Nat.le_of_ble_eq_true rfl⟩ (s_wordOf hp8 (Nat.lt_of_lt_of_le (List.getElem?_eq_some_iff.mp hx).1 h5) (hrow _ _ hx).2.1) ?_
  exact ev_iretE (pc := 58) dX3_valueIn_58 rfl ⟨Nat.le_of_ble_eq_true rfl, Nat.le_of_ble_eq_true rfl⟩ rfl rfl
theorem s_valueInT {sl : Int32} {cu ba r0 r1 r2 r3 : Q4} {sw : Nat → Int64} {bt : Int32} {cnt inn lk wd kp wr mk ls pth tk : Nat → Int32} {tl : List mC} (hR : Rp cnt inn lk wd T (fun q => K q ∨ W q)) {q : Nat} {e k o : Int32} {p d : Nat} (hq : (cW sl cu ba r0 r1 r2 r3 sw bt cnt inn lk wd kp wr mk ls pth tk tl)[q]? = some (.inr (1, [.int e, .int (nI p), .int k, .int o]))) (hd : d ≤ 6) (ht : rt T (fun q => K q ∨ W q) d p) {key : Int32} {l : List (Nat × Int32)} (hl : T (lfF T d p key) = .inl l) (hu : K (lfF T d p key) ∨ W (lfF T d p key)) (hx : ¬ hld l (plc l key) key) : EvS m_X3_valueIn [.ref 0, .ref q, .int key] (cW sl cu ba r0 r1 r2 r3 sw bt cnt inn lk wd kp wr mk ls pth tk tl) (.inr nX) (cW sl cu ba r0 r1 r2 r3 sw bt cnt inn lk wd kp wr mk ls pth tk tl) := by
  obtain ⟨hp8, -, h5, -, hrow⟩ := hR.leaf hu hl
  refine evs_of (by decide +kernel) (Nat.le_of_ble_eq_true rfl) (by decide) rfl ?_
  refine ev_aload_n (pc := 0) dX3_valueIn_0 rfl rfl ?_
  refine ev_get (pc := 1) dX3_valueIn_1 fd_X3_12 rfl rfl ?_
  refine ev_aload_n (pc := 4) dX3_valueIn_4 rfl rfl ?_
  refine ev_get (pc := 5) dX3_valueIn_5 fd_X3_51 hq rfl ?_
  refine ev_iload_n (pc := 8) dX3_valueIn_8 rfl rfl ?_
  refine cV2 (pc := 9) lk_X3_valueIn_9 rfl rfl rfl (Nat.le_of_ble_eq_true rfl) ⟨Nat.le_of_ble_eq_true rfl, Nat.le_of_ble_eq_true rfl⟩ (s_leafFor hR ht (by omega) key) ?_
  refine ev_istore_n (pc := 12) dX3_valueIn_12 rfl rfl rfl ?_
  refine ev_aload_n (pc := 13) dX3_valueIn_13 rfl rfl ?_
  refine ev_get (pc := 14) dX3_valueIn_14 fd_X3_12 rfl rfl ?_
  refine ev_iload_n (pc := 17) dX3_valueIn_17 rfl rfl ?_
  refine ev_iload_n (pc := 18) dX3_valueIn_18 rfl rfl ?_
  refine cV2 (pc := 19) lk_X3_valueIn_19 rfl rfl rfl (Nat.le_of_ble_eq_true rfl) ⟨Nat.le_of_ble_eq_true rfl, Nat.le_of_ble_eq_true rfl⟩ (s_placeOf hR hu hl key) ?_
  refine ev_istore (pc := 22) dX3_valueIn_22 rfl rfl ?_
  refine ev_aload_n (pc := 24) dX3_valueIn_24 rfl rfl ?_
  refine ev_get (pc := 25) dX3_valueIn_25 fd_X3_12 rfl rfl ?_
  refine ev_iload_n (pc := 28) dX3_valueIn_28 rfl rfl ?_
  refine ev_iload (pc := 29) dX3_valueIn_29 rfl ?_
  refine ev_iload_n (pc := 31) dX3_valueIn_31 rfl rfl ?_
  refine cV3 (pc := 32) lk_X3_valueIn_32 rfl rfl rfl (Nat.le_of_ble_eq_true rfl) ⟨Nat.le_of_ble_eq_true rfl, Nat.le_of_ble_eq_true rfl⟩ (s_holds0 hR hu hl (Nat.le_trans (plc_le l key) h5) hx) ?_
  refine ev_if_ne (pc := 35) (tgt := 48) dX3_valueIn_35 (by decide) (fun c_35 => absurd rfl c_35) (fun _ => ?_)
  exact ev_throwN tn_X3_230 dX3_valueIn_38 dX3_valueIn_41 dX3_valueIn_42 dX3_valueIn_44 dX3_valueIn_47 rfl (Nat.le_of_ble_eq_true rfl) (Nat.le_of_ble_eq_true rfl) (Nat.le_of_ble_eq_true rfl) (Nat.le_of_ble_eq_true rfl)
theorem s_get {sl : Int32} {cu ba r0 r1 r2 r3 : Q4} {sw : Nat → Int64} {bt : Int32} {cnt inn lk wd kp wr mk ls pth tk : Nat → Int32} {tl : List mC} (h : CS cu ba r0 r1 r2 r3 c b rd) (hR : Rp cnt inn lk wd T (fun q => K q ∨ W q)) {i : Int32} {x : RS3} (hv : vwF c b rd i = some x) {d k : Nat} (hk : k < 100) (hd : d ≤ 6) (ht : rt T (fun q => K q ∨ W q) d x.2.1) {v : Int32} {l : List (Nat × Int32)} (hl : T (lfF T d x.2.1 (nI k)) = .inl l) (hu : K (lfF T d x.2.1 (nI k)) ∨ W (lfF T d x.2.1 (nI k))) {n : Nat} (hx : l[plc l (nI k)]? = some (n, v)) (hn : nI n = nI k) : EvS m_X3_get [.ref 0, .int i, .int (nI k)] (cW sl cu ba r0 r1 r2 r3 sw bt cnt inn lk wd kp wr mk ls pth tk tl) (.inl (some (.int v))) (cW sl cu ba r0 r1 r2 r3 sw bt cnt inn lk wd kp wr mk ls pth tk tl) := by
  obtain ⟨q, o, e1, hq⟩ := s_viewed (sl := sl) (cu := cu) (ba := ba) (r0 := r0) (r1 := r1) (r2 := r2) (r3 := r3) (sw := sw) (bt := bt) (cnt := cnt) (inn := inn) (lk := lk) (wd := wd) (kp := kp) (wr := wr) (mk := mk) (ls := ls) (pth := pth) (tk := tk) (tl := tl) h hv
  refine evs_of (by decide +kernel) (Nat.le_of_ble_eq_true rfl) (by decide) rfl ?_
  refine ev_aload_n (pc := 0) dX3_get_0 rfl rfl ?_
  refine ev_iload_n (pc := 1) dX3_get_1 rfl rfl ?_
  refine cV1 (pc := 2) lk_X3_get_2 rfl rfl rfl (Nat.le_of_ble_eq_true rfl) ⟨Nat.le_of_ble_eq_true rfl, Nat.le_of_ble_eq_true rfl⟩ e1 ?_
  refine ev_astore_n (pc := 5) dX3_get_5 rfl rfl rfl ?_
  refine ev_iload_n (pc := 6) dX3_get_6 rfl rfl ?_
  refine cS1 (pc := 7) lk_X3_get_7 (Nat.le_of_ble_eq_true rfl) ⟨Nat.le_of_ble_eq_true rfl, Nat.le_of_ble_eq_true rfl⟩ (s_reqKey hk) ?_
  refine ev_aload_n (pc := 10) dX3_get_10 rfl rfl ?_
  refine ev_aload_n (pc := 11) dX3_get_11 rfl rfl ?_
  refine ev_iload_n (pc := 12) dX3_get_12 rfl rfl ?_
  refine cV2 (pc := 13) lk_X3_get_13 rfl rfl rfl (Nat.le_of_ble_eq_true rfl) ⟨Nat.le_of_ble_eq_true rfl, Nat.le_of_ble_eq_true rfl⟩ (s_valueIn hR hq hd ht hl hu hx hn) ?_
  exact ev_iretE (pc := 16) dX3_get_16 rfl ⟨Nat.le_of_ble_eq_true rfl, Nat.le_of_ble_eq_true rfl⟩ rfl rfl
theorem s_getT3 {sl : Int32} {cu ba r0 r1 r2 r3 : Q4} {sw : Nat → Int64} {bt : Int32} {cnt inn lk wd kp wr mk ls pth tk : Nat → Int32} {tl : List mC} (h : CS cu ba r0 r1 r2 r3 c b rd) (hR : Rp cnt inn lk wd T (fun q => K q ∨ W q)) {i : Int32} {x : RS3} (hv : vwF c b rd i = some x) {d k : Nat} (hk : k < 100) (hd : d ≤ 6) (ht : rt T (fun q => K q ∨ W q) d x.2.1) {l : List (Nat × Int32)} (hl : T (lfF T d x.2.1 (nI k)) = .inl l) (hu : K (lfF T d x.2.1 (nI k)) ∨ W (lfF T d x.2.1 (nI k))) (hx : ¬ hld l (plc l (nI k)) (nI k)) : EvS m_X3_get [.ref 0, .int i, .int (nI k)] (cW sl cu ba r0 r1 r2 r3 sw bt cnt inn lk wd kp wr mk ls pth tk tl) (.inr nX) (cW sl cu ba r0 r1 r2 r3 sw bt cnt inn lk wd kp wr mk ls pth tk tl) := by
  obtain ⟨q, o, e1, hq⟩ := s_viewed (sl := sl) (cu := cu) (ba := ba) (r0 := r0) (r1 := r1) (r2 := r2) (r3 := r3) (sw := sw) (bt := bt) (cnt := cnt) (inn := inn) (lk := lk) (wd := wd) (kp := kp) (wr := wr) (mk := mk) (ls := ls) (pth := pth) (tk := tk) (tl := tl) h hv
  refine evs_of (by decide +kernel) (Nat.le_of_ble_eq_true rfl) (by decide) rfl ?_
  refine ev_aload_n (pc := 0) dX3_get_0 rfl rfl ?_
  refine ev_iload_n (pc := 1) dX3_get_1 rfl rfl ?_
  refine cV1 (pc := 2) lk_X3_get_2 rfl rfl rfl (Nat.le_of_ble_eq_true rfl) ⟨Nat.le_of_ble_eq_true rfl, Nat.le_of_ble_eq_true rfl⟩ e1 ?_
  refine ev_astore_n (pc := 5) dX3_get_5 rfl rfl rfl ?_
  refine ev_iload_n (pc := 6) dX3_get_6 rfl rfl ?_
  refine cS1 (pc := 7) lk_X3_get_7 (Nat.le_of_ble_eq_true rfl) ⟨Nat.le_of_ble_eq_true rfl, Nat.le_of_ble_eq_true rfl⟩ (s_reqKey hk) ?_
  refine ev_aload_n (pc := 10) dX3_get_10 rfl rfl ?_
  refine ev_aload_n (pc := 11) dX3_get_11 rfl rfl ?_
  refine ev_iload_n (pc := 12) dX3_get_12 rfl rfl ?_
  exact tV2 (pc := 13) lk_X3_get_13 rfl rfl rfl rfl (Nat.le_of_ble_eq_true rfl) ⟨Nat.le_of_ble_eq_true rfl, Nat.le_of_ble_eq_true rfl⟩ (s_valueInT hR hq hd ht hl hu hx)
theorem s_getT2 {sl : Int32} {cu ba r0 r1 r2 r3 : Q4} {sw : Nat → Int64} {bt : Int32} {cnt inn lk wd kp wr mk ls pth tk : Nat → Int32} {tl : List mC} (h : CS cu ba r0 r1 r2 r3 c b rd) {i k : Int32} {x : RS3} (hv : vwF c b rd i = some x) (hk : k < 0 ∨ (100 : Int32) ≤ k) : EvS m_X3_get [.ref 0, .int i, .int k] (cW sl cu ba r0 r1 r2 r3 sw bt cnt inn lk wd kp wr mk ls pth tk tl) (.inr xIA) (cW sl cu ba r0 r1 r2 r3 sw bt cnt inn lk wd kp wr mk ls pth tk tl) := by
  obtain ⟨q, o, e1, hq⟩ := s_viewed (sl := sl) (cu := cu) (ba := ba) (r0 := r0) (r1 := r1) (r2 := r2) (r3 := r3) (sw := sw) (bt := bt) (cnt := cnt) (inn := inn) (lk := lk) (wd := wd) (kp := kp) (wr := wr) (mk := mk) (ls := ls) (pth := pth) (tk := tk) (tl := tl) h hv
  refine evs_of (by decide +kernel) (Nat.le_of_ble_eq_true rfl) (by decide) rfl ?_
  refine ev_aload_n (pc := 0) dX3_get_0 rfl rfl ?_
  refine ev_iload_n (pc := 1) dX3_get_1 rfl rfl ?_
  refine cV1 (pc := 2) lk_X3_get_2 rfl rfl rfl (Nat.le_of_ble_eq_true rfl) ⟨Nat.le_of_ble_eq_true rfl, Nat.le_of_ble_eq_true rfl⟩ e1 ?_
  refine ev_astore_n (pc := 5) dX3_get_5 rfl rfl rfl ?_
  refine ev_iload_n (pc := 6) dX3_get_6 rfl rfl ?_
  exact tS1 (pc := 7) lk_X3_get_7 rfl (Nat.le_of_ble_eq_true rfl) ⟨Nat.le_of_ble_eq_true rfl, Nat.le_of_ble_eq_true rfl⟩ (s_reqKeyT hk)
theorem s_getT1 {sl : Int32} {cu ba r0 r1 r2 r3 : Q4} {sw : Nat → Int64} {bt : Int32} {cnt inn lk wd kp wr mk ls pth tk : Nat → Int32} {tl : List mC} (h : CS cu ba r0 r1 r2 r3 c b rd) {i k : Int32} (hv : vwF c b rd i = none) : EvS m_X3_get [.ref 0, .int i, .int k] (cW sl cu ba r0 r1 r2 r3 sw bt cnt inn lk wd kp wr mk ls pth tk tl) (.inr xIB) (cW sl cu ba r0 r1 r2 r3 sw bt cnt inn lk wd kp wr mk ls pth tk tl) := by
  refine evs_of (by decide +kernel) (Nat.le_of_ble_eq_true rfl) (by decide) rfl ?_
  refine ev_aload_n (pc := 0) dX3_get_0 rfl rfl ?_
  refine ev_iload_n (pc := 1) dX3_get_1 rfl rfl ?_
  exact tV1 (pc := 2) lk_X3_get_2 rfl rfl rfl rfl (Nat.le_of_ble_eq_true rfl) ⟨Nat.le_of_ble_eq_true rfl, Nat.le_of_ble_eq_true rfl⟩ (s_viewedT h hv)
theorem s_shared {sl : Int32} {cu ba r0 r1 r2 r3 : Q4} {sw : Nat → Int64} {bt : Int32} {cnt inn lk wd kp wr mk ls pth tk : Nat → Int32} {tl : List mC} (h : CS cu ba r0 r1 r2 r3 c b rd) (hR : Rp cnt inn lk wd T (fun q => K q ∨ W q)) {i j : Int32} {x y : RS3} (hv : vwF c b rd i = some x) (hv2 : vwF c b rd j = some y) {d1 d2 : Nat} (ht : rt T (fun q => K q ∨ W q) d1 x.2.1) (hlen : (bfs T d1 [x.2.1]).length ≤ 100) (ht2 : rt T (fun q => K q ∨ W q) d2 y.2.1) (hlen2 : (bfs T d2 [y.2.1]).length ≤ 100) : ∃ mk' ls', EvS m_X3_sharedPages [.ref 0, .int i, .int j] (cW sl cu ba r0 r1 r2 r3 sw bt cnt inn lk wd kp wr mk ls pth tk tl) (.inl (some (.int (nI (cmk (mkF (zr mk 800) (bfs T d1 [x.2.1])) (bfs T d2 [y.2.1])))))) (cW sl cu ba r0 r1 r2 r3 sw bt cnt inn lk wd kp wr mk' ls' pth tk tl) := by
  obtain ⟨q, o, e1, hq⟩ := s_viewed (sl := sl) (cu := cu) (ba := ba) (r0 := r0) (r1 := r1) (r2 := r2) (r3 := r3) (sw := sw) (bt := bt) (cnt := cnt) (inn := inn) (lk := lk) (wd := wd) (kp := kp) (wr := wr) (mk := mk) (ls := ls) (pth := pth) (tk := tk) (tl := tl) h hv
  obtain ⟨q2, o2, e2, hq2⟩ := s_viewed (sl := sl) (cu := cu) (ba := ba) (r0 := r0) (r1 := r1) (r2 := r2) (r3 := r3) (sw := sw) (bt := bt) (cnt := cnt) (inn := inn) (lk := lk) (wd := wd) (kp := kp) (wr := wr) (mk := mk) (ls := ls) (pth := pth) (tk := tk) (tl := tl) h hv2
  refine ⟨mkF (zr mk 800) (bfs T d1 [x.2.1]), fillL (fillL ls (bfs T d1 [x.2.1])) (bfs T d2 [y.2.1]), ?_⟩
  refine evs_of (by decide +kernel) (Nat.le_of_ble_eq_true rfl) (by decide) rfl ?_
  refine ev_aload_n (pc := 0) dX3_sharedPages_0 rfl rfl ?_
  refine ev_iload_n (pc := 1) dX3_sharedPages_1 rfl rfl ?_
  refine cV1 (pc := 2) lk_X3_sharedPages_2 rfl rfl rfl (Nat.le_of_ble_eq_true rfl) ⟨Nat.le_of_ble_eq_true rfl, Nat.le_of_ble_eq_true rfl⟩ e1 ?_
  refine ev_get (pc := 5) dX3_sharedPages_5 fd_X3_51 hq rfl ?_
  refine ev_istore_n (pc := 8) dX3_sharedPages_8 rfl rfl rfl ?_
  refine ev_aload_n (pc := 9) dX3_sharedPages_9 rfl rfl ?_
  refine ev_iload_n (pc := 10) dX3_sharedPages_10 rfl rfl ?_
  refine cV1 (pc := 11) lk_X3_sharedPages_11 rfl rfl rfl (Nat.le_of_ble_eq_true rfl) ⟨Nat.le_of_ble_eq_true rfl, Nat.le_of_ble_eq_true rfl⟩ e2 ?_
  refine ev_get (pc := 14) dX3_sharedPages_14 fd_X3_51 hq2 rfl ?_
  refine ev_istore (pc := 17) dX3_sharedPages_17 rfl rfl ?_
  refine ev_aload_n (pc := 19) dX3_sharedPages_19 rfl rfl ?_
  refine ev_get (pc := 20) dX3_sharedPages_20 fd_X3_12 rfl rfl ?_
  refine ev_get (pc := 23) dX3_sharedPages_23 fd_X3_121 rfl rfl ?_
  refine cS1 (pc := 26) lk_X3_sharedPages_26 (Nat.le_of_ble_eq_true rfl) ⟨Nat.le_of_ble_eq_true rfl, Nat.le_of_ble_eq_true rfl⟩ (s_unmark rfl rfl) ?_
  refine ev_aload_n (pc := 29) dX3_sharedPages_29 rfl rfl ?_
  refine ev_get (pc := 30) dX3_sharedPages_30 fd_X3_12 rfl rfl ?_
  refine ev_aload_n (pc := 33) dX3_sharedPages_33 rfl rfl ?_
  refine ev_get (pc := 34) dX3_sharedPages_34 fd_X3_12 rfl rfl ?_
  refine ev_get (pc := 37) dX3_sharedPages_37 fd_X3_121 rfl rfl ?_
  refine ev_iload_n (pc := 40) dX3_sharedPages_40 rfl rfl ?_
  refine cV2 (pc := 41) lk_X3_sharedPages_41 rfl rfl rfl (Nat.le_of_ble_eq_true rfl) ⟨Nat.le_of_ble_eq_true rfl, Nat.le_of_ble_eq_true rfl⟩ (s_markM (sl := sl) (cu := cu) (ba := ba) (r0 := r0) (r1 := r1) (r2 := r2) (r3 := r3) (sw := sw) (bt := bt) (cnt := cnt) (inn := inn) (lk := lk) (wd := wd) (kp := kp) (wr := wr) (mk := (zr mk 800)) (ls := ls) (pth := pth) (tk := tk) (tl := tl) hR ht (by omega)) ?_
  refine ev_aload_n (pc := 44) dX3_sharedPages_44 rfl rfl ?_
  refine ev_get (pc := 45) dX3_sharedPages_45 fd_X3_12 rfl rfl ?_
  refine ev_iload (pc := 48) dX3_sharedPages_48 rfl ?_
  refine cV1 (pc := 50) lk_X3_sharedPages_50 rfl rfl rfl (Nat.le_of_ble_eq_true rfl) ⟨Nat.le_of_ble_eq_true rfl, Nat.le_of_ble_eq_true rfl⟩ (s_countMarked hR ht2 (by omega)) ?_
  exact ev_iretE (pc := 53) dX3_sharedPages_53 rfl ⟨Nat.le_of_ble_eq_true rfl, Nat.le_of_ble_eq_true rfl⟩ rfl rfl
theorem s_sharedT1 {sl : Int32} {cu ba r0 r1 r2 r3 : Q4} {sw : Nat → Int64} {bt : Int32} {cnt inn lk wd kp wr mk ls pth tk : Nat → Int32} {tl : List mC} (h : CS cu ba r0 r1 r2 r3 c b rd) {i j : Int32} (hv : vwF c b rd i = none) : EvS m_X3_sharedPages [.ref 0, .int i, .int j] (cW sl cu ba r0 r1 r2 r3 sw bt cnt inn lk wd kp wr mk ls pth tk tl) (.inr xIB) (cW sl cu ba r0 r1 r2 r3 sw bt cnt inn lk wd kp wr mk ls pth tk tl) := by
  refine evs_of (by decide +kernel) (Nat.le_of_ble_eq_true rfl) (by decide) rfl ?_
  refine ev_aload_n (pc := 0) dX3_sharedPages_0 rfl rfl ?_
  refine ev_iload_n (pc := 1) dX3_sharedPages_1 rfl rfl ?_
  exact tV1 (pc := 2) lk_X3_sharedPages_2 rfl rfl rfl rfl (Nat.le_of_ble_eq_true rfl) ⟨Nat.le_of_ble_eq_true rfl, Nat.le_of_ble_eq_true rfl⟩ (s_viewedT h hv)
theorem s_sharedT2 {sl : Int32} {cu ba r0 r1 r2 r3 : Q4} {sw : Nat → Int64} {bt : Int32} {cnt inn lk wd kp wr mk ls pth tk : Nat → Int32} {tl : List mC} (h : CS cu ba r0 r1 r2 r3 c b rd) {i j : Int32} {x : RS3} (hv : vwF c b rd i = some x) (hv2 : vwF c b rd j = none) : EvS m_X3_sharedPages [.ref 0, .int i, .int j] (cW sl cu ba r0 r1 r2 r3 sw bt cnt inn lk wd kp wr mk ls pth tk tl) (.inr xIB) (cW sl cu ba r0 r1 r2 r3 sw bt cnt inn lk wd kp wr mk ls pth tk tl) := by
  obtain ⟨q, o, e1, hq⟩ := s_viewed (sl := sl) (cu := cu) (ba := ba) (r0 := r0) (r1 := r1) (r2 := r2) (r3 := r3) (sw := sw) (bt := bt) (cnt := cnt) (inn := inn) (lk := lk) (wd := wd) (kp := kp) (wr := wr) (mk := mk) (ls := ls) (pth := pth) (tk := tk) (tl := tl) h hv
  refine evs_of (by decide +kernel) (Nat.le_of_ble_eq_true rfl) (by decide) rfl ?_
  refine ev_aload_n (pc := 0) dX3_sharedPages_0 rfl rfl ?_
  refine ev_iload_n (pc := 1) dX3_sharedPages_1 rfl rfl ?_
  refine cV1 (pc := 2) lk_X3_sharedPages_2 rfl rfl rfl (Nat.le_of_ble_eq_true rfl) ⟨Nat.le_of_ble_eq_true rfl, Nat.le_of_ble_eq_true rfl⟩ e1 ?_
  refine ev_get (pc := 5) dX3_sharedPages_5 fd_X3_51 hq rfl ?_
  refine ev_istore_n (pc := 8) dX3_sharedPages_8 rfl rfl rfl ?_
  refine ev_aload_n (pc := 9) dX3_sharedPages_9 rfl rfl ?_
  refine ev_iload_n (pc := 10) dX3_sharedPages_10 rfl rfl ?_
  exact tV1 (pc := 11) lk_X3_sharedPages_11 rfl rfl rfl rfl (Nat.le_of_ble_eq_true rfl) ⟨Nat.le_of_ble_eq_true rfl, Nat.le_of_ble_eq_true rfl⟩ (s_viewedT h hv2)
end XB
