/-! readers; slots; crashes -/
section XF
variable {K W U : Nat → Prop} {T : Nat → Nd} {so rd : Nat → Option RS3} {c : RS3} {b : Option RS3}
def setR (rd : Nat → Option RS3) (j : Nat) (o : Option RS3) : Nat → Option RS3 := fun i => if i = j then o else rd i
theorem s_openT {sl : Int32} {cu ba r0 r1 r2 r3 : Q4} {sw : Nat → Int64} {bt : Int32} {cnt inn lk wd kp wr mk ls pth tk : Nat → Int32} {tl : List mC} (hRD : RD r0 r1 r2 r3 rd) (h : ∀ j, j < 4 → ∃ x, rd j = some x) : EvS m_X3_openReader [.ref 0] (cW sl cu ba r0 r1 r2 r3 sw bt cnt inn lk wd kp wr mk ls pth tk tl) (.inr xIS) (cW sl cu ba r0 r1 r2 r3 sw bt cnt inn lk wd kp wr mk ls pth tk tl) := by
  obtain ⟨x0, h0⟩ := h 0 (by decide)
  obtain ⟨x1, h1⟩ := h 1 (by decide)
  obtain ⟨x2, h2⟩ := h 2 (by decide)
  obtain ⟨x3, h3⟩ := h 3 (by decide)
  refine evs_of (by decide +kernel) (Nat.le_of_ble_eq_true rfl) (by decide) rfl ?_
  refine ev_iconst (pc := 0) (v := 0) dX3_openReader_0 (by decide) ?_
  refine ev_istore_n (pc := 1) dX3_openReader_1 rfl rfl rfl ?_
  refine ev_iload_n (pc := 2) dX3_openReader_2 rfl rfl ?_
  refine ev_iconst (pc := 3) (v := 4) dX3_openReader_3 (by decide) ?_
  refine ev_ic_ge (pc := 4) (tgt := 36) dX3_openReader_4 (by decide) (fun c_4 => absurd c_4 (by decide)) (fun _ => ?_)
  refine ev_aload_n (pc := 7) dX3_openReader_7 rfl rfl ?_
  refine ev_iload_n (pc := 8) dX3_openReader_8 rfl rfl ?_
  refine cV1 (pc := 9) lk_X3_openReader_9 rfl rfl rfl (Nat.le_of_ble_eq_true rfl) ⟨Nat.le_of_ble_eq_true rfl, Nat.le_of_ble_eq_true rfl⟩ (s_isOpen1 hRD (j := 0) (by decide) h0) ?_
  refine ev_if_ne (pc := 12) (tgt := 30) dX3_openReader_12 (by decide) (fun _ => ?_) (fun c_12 => absurd c_12 (by decide))
  refine ev_iinc (pc := 30) dX3_openReader_30 rfl rfl rfl ?_
  refine ev_goto (pc := 33) (tgt := 2) dX3_openReader_33 (by decide) ?_
  refine ev_iload_n (pc := 2) dX3_openReader_2 rfl rfl ?_
  refine ev_iconst (pc := 3) (v := 4) dX3_openReader_3 (by decide) ?_
  refine ev_ic_ge (pc := 4) (tgt := 36) dX3_openReader_4 (by decide) (fun c_4 => absurd c_4 (by decide)) (fun _ => ?_)
  refine ev_aload_n (pc := 7) dX3_openReader_7 rfl rfl ?_
  refine ev_iload_n (pc := 8) dX3_openReader_8 rfl rfl ?_
  refine cV1 (pc := 9) lk_X3_openReader_9 rfl rfl rfl (Nat.le_of_ble_eq_true rfl) ⟨Nat.le_of_ble_eq_true rfl, Nat.le_of_ble_eq_true rfl⟩ (s_isOpen1 hRD (j := 1) (by decide) h1) ?_
  refine ev_if_ne (pc := 12) (tgt := 30) dX3_openReader_12 (by decide) (fun _ => ?_) (fun c_12 => absurd c_12 (by decide))
  refine ev_iinc (pc := 30) dX3_openReader_30 rfl rfl rfl ?_
  refine ev_goto (pc := 33) (tgt := 2) dX3_openReader_33 (by decide) ?_
  refine ev_iload_n (pc := 2) dX3_openReader_2 rfl rfl ?_
  refine ev_iconst (pc := 3) (v := 4) dX3_openReader_3 (by decide) ?_
  refine ev_ic_ge (pc := 4) (tgt := 36) dX3_openReader_4 (by decide) (fun c_4 => absurd c_4 (by decide)) (fun _ => ?_)
  refine ev_aload_n (pc := 7) dX3_openReader_7 rfl rfl ?_
  refine ev_iload_n (pc := 8) dX3_openReader_8 rfl rfl ?_
  refine cV1 (pc := 9) lk_X3_openReader_9 rfl rfl rfl (Nat.le_of_ble_eq_true rfl) ⟨Nat.le_of_ble_eq_true rfl, Nat.le_of_ble_eq_true rfl⟩ (s_isOpen1 hRD (j := 2) (by decide) h2) ?_
  refine ev_if_ne (pc := 12) (tgt := 30) dX3_openReader_12 (by decide) (fun _ => ?_) (fun c_12 => absurd c_12 (by decide))
  refine ev_iinc (pc := 30) dX3_openReader_30 rfl rfl rfl ?_
  refine ev_goto (pc := 33) (tgt := 2) dX3_openReader_33 (by decide) ?_
  refine ev_iload_n (pc := 2) dX3_openReader_2 rfl rfl ?_
  refine ev_iconst (pc := 3) (v := 4) dX3_openReader_3 (by decide) ?_
  refine ev_ic_ge (pc := 4) (tgt := 36) dX3_openReader_4 (by decide) (fun c_4 => absurd c_4 (by decide)) (fun _ => ?_)
  refine ev_aload_n (pc := 7) dX3_openReader_7 rfl rfl ?_
  refine ev_iload_n (pc := 8) dX3_openReader_8 rfl rfl ?_
  refine cV1 (pc := 9) lk_X3_openReader_9 rfl rfl rfl (Nat.le_of_ble_eq_true rfl) ⟨Nat.le_of_ble_eq_true rfl, Nat.le_of_ble_eq_true rfl⟩ (s_isOpen1 hRD (j := 3) (by decide) h3) ?_
  refine ev_if_ne (pc := 12) (tgt := 30) dX3_openReader_12 (by decide) (fun _ => ?_) (fun c_12 => absurd c_12 (by decide))
  refine ev_iinc (pc := 30) dX3_openReader_30 rfl rfl rfl ?_
  refine ev_goto (pc := 33) (tgt := 2) dX3_openReader_33 (by decide) ?_
  refine ev_iload_n (pc := 2) dX3_openReader_2 rfl rfl ?_
  refine ev_iconst (pc := 3) (v := 4) dX3_openReader_3 (by decide) ?_
  refine ev_ic_ge (pc := 4) (tgt := 36) dX3_openReader_4 (by decide) (fun _ => ?_) (fun c_4 => absurd (by decide) c_4)
  exact ev_throw th_X3_113 dX3_openReader_36 dX3_openReader_39 dX3_openReader_40 dX3_openReader_42 dX3_openReader_45 rfl (Nat.le_of_ble_eq_true rfl) (Nat.le_of_ble_eq_true rfl) (Nat.le_of_ble_eq_true rfl) (Nat.le_of_ble_eq_true rfl)
theorem s_open_0 {sl : Int32} {cu ba r0 r1 r2 r3 : Q4} {sw : Nat → Int64} {bt : Int32} {cnt inn lk wd kp wr mk ls pth tk : Nat → Int32} {tl : List mC} {oc : Int32} (hRD : RD r0 r1 r2 r3 rd) (h0 : rd 0 = none) (h : ∀ i, i < 0 → ∃ x, rd i = some x) : RD (nI c.1, nI c.2.1, nI c.2.2, 1) r1 r2 r3 (setR rd 0 (some c)) ∧ EvS m_X3_openReader [.ref 0] (cW sl (nI c.1, nI c.2.1, nI c.2.2, oc) ba r0 r1 r2 r3 sw bt cnt inn lk wd kp wr mk ls pth tk tl) (.inl (some (.int (nI 0)))) (cW sl (nI c.1, nI c.2.1, nI c.2.2, oc) ba (nI c.1, nI c.2.1, nI c.2.2, 1) r1 r2 r3 sw bt cnt inn lk wd kp wr mk ls pth tk tl) := by
  refine ⟨⟨rfl, hRD.2.1, hRD.2.2.1, hRD.2.2.2⟩, ?_⟩
  refine evs_of (by decide +kernel) (Nat.le_of_ble_eq_true rfl) (by decide) rfl ?_
  refine ev_iconst (pc := 0) (v := 0) dX3_openReader_0 (by decide) ?_
  refine ev_istore_n (pc := 1) dX3_openReader_1 rfl rfl rfl ?_
  refine ev_iload_n (pc := 2) dX3_openReader_2 rfl rfl ?_
  refine ev_iconst (pc := 3) (v := 4) dX3_openReader_3 (by decide) ?_
  refine ev_ic_ge (pc := 4) (tgt := 36) dX3_openReader_4 (by decide) (fun c_4 => absurd c_4 (by decide)) (fun _ => ?_)
  refine ev_aload_n (pc := 7) dX3_openReader_7 rfl rfl ?_
  refine ev_iload_n (pc := 8) dX3_openReader_8 rfl rfl ?_
  refine cV1 (pc := 9) lk_X3_openReader_9 rfl rfl rfl (Nat.le_of_ble_eq_true rfl) ⟨Nat.le_of_ble_eq_true rfl, Nat.le_of_ble_eq_true rfl⟩ (s_isOpen0 hRD (i := nI 0) (fun i hi h => by rw [← nI_inj (a := 0) (by omega) (by omega) h]; exact h0)) ?_
  refine ev_if_ne (pc := 12) (tgt := 30) dX3_openReader_12 (by decide) (fun c_12 => absurd rfl c_12) (fun _ => ?_)
  refine ev_aload_n (pc := 15) dX3_openReader_15 rfl rfl ?_
  refine ev_get (pc := 16) dX3_openReader_16 fd_X3_35 rfl rfl ?_
  refine ev_iload_n (pc := 19) dX3_openReader_19 rfl rfl ?_
  refine ev_aaldN (pc := 20) dX3_openReader_20 rfl ⟨(show _ = nI 0 from rfl), by decide, by decide⟩ rfl ?_
  refine ev_aload_n (pc := 21) dX3_openReader_21 rfl rfl ?_
  refine ev_get (pc := 22) dX3_openReader_22 fd_X3_19 rfl rfl ?_
  refine cV1 (pc := 25) lk_X3_openReader_25 rfl rfl rfl (Nat.le_of_ble_eq_true rfl) ⟨Nat.le_of_ble_eq_true rfl, Nat.le_of_ble_eq_true rfl⟩ (s_become0 (sl := sl) (cu := (nI c.1, nI c.2.1, nI c.2.2, oc)) (ba := ba) (r0 := r0) (r1 := r1) (r2 := r2) (r3 := r3) (sw := sw) (bt := bt) (cnt := cnt) (inn := inn) (lk := lk) (wd := wd) (kp := kp) (wr := wr) (mk := mk) (ls := ls) (pth := pth) (tk := tk) (tl := tl)) ?_
  refine ev_iload_n (pc := 28) dX3_openReader_28 rfl rfl ?_
  exact ev_iretE (pc := 29) dX3_openReader_29 rfl ⟨Nat.le_of_ble_eq_true rfl, Nat.le_of_ble_eq_true rfl⟩ rfl rfl
theorem s_open_1 {sl : Int32} {cu ba r0 r1 r2 r3 : Q4} {sw : Nat → Int64} {bt : Int32} {cnt inn lk wd kp wr mk ls pth tk : Nat → Int32} {tl : List mC} {oc : Int32} (hRD : RD r0 r1 r2 r3 rd) (h0 : rd 1 = none) (h : ∀ i, i < 1 → ∃ x, rd i = some x) : RD r0 (nI c.1, nI c.2.1, nI c.2.2, 1) r2 r3 (setR rd 1 (some c)) ∧ EvS m_X3_openReader [.ref 0] (cW sl (nI c.1, nI c.2.1, nI c.2.2, oc) ba r0 r1 r2 r3 sw bt cnt inn lk wd kp wr mk ls pth tk tl) (.inl (some (.int (nI 1)))) (cW sl (nI c.1, nI c.2.1, nI c.2.2, oc) ba r0 (nI c.1, nI c.2.1, nI c.2.2, 1) r2 r3 sw bt cnt inn lk wd kp wr mk ls pth tk tl) := by
  obtain ⟨x0, g0⟩ := h 0 (by decide)
  refine ⟨⟨hRD.1, rfl, hRD.2.2.1, hRD.2.2.2⟩, ?_⟩
  refine evs_of (by decide +kernel) (Nat.le_of_ble_eq_true rfl) (by decide) rfl ?_
  refine ev_iconst (pc := 0) (v := 0) dX3_openReader_0 (by decide) ?_
  refine ev_istore_n (pc := 1) dX3_openReader_1 rfl rfl rfl ?_
  refine ev_iload_n (pc := 2) dX3_openReader_2 rfl rfl ?_
  refine ev_iconst (pc := 3) (v := 4) dX3_openReader_3 (by decide) ?_
  refine ev_ic_ge (pc := 4) (tgt := 36) dX3_openReader_4 (by decide) (fun c_4 => absurd c_4 (by decide)) (fun _ => ?_)
  refine ev_aload_n (pc := 7) dX3_openReader_7 rfl rfl ?_
  refine ev_iload_n (pc := 8) dX3_openReader_8 rfl rfl ?_
  refine cV1 (pc := 9) lk_X3_openReader_9 rfl rfl rfl (Nat.le_of_ble_eq_true rfl) ⟨Nat.le_of_ble_eq_true rfl, Nat.le_of_ble_eq_true rfl⟩ (s_isOpen1 hRD (j := 0) (by decide) g0) ?_
  refine ev_if_ne (pc := 12) (tgt := 30) dX3_openReader_12 (by decide) (fun _ => ?_) (fun c_12 => absurd c_12 (by decide))
  refine ev_iinc (pc := 30) dX3_openReader_30 rfl rfl rfl ?_
  refine ev_goto (pc := 33) (tgt := 2) dX3_openReader_33 (by decide) ?_
  refine ev_iload_n (pc := 2) dX3_openReader_2 rfl rfl ?_
  refine ev_iconst (pc := 3) (v := 4) dX3_openReader_3 (by decide) ?_
  refine ev_ic_ge (pc := 4) (tgt := 36) dX3_openReader_4 (by decide) (fun c_4 => absurd c_4 (by decide)) (fun _ => ?_)
  refine ev_aload_n (pc := 7) dX3_openReader_7 rfl rfl ?_
  refine ev_iload_n (pc := 8) dX3_openReader_8 rfl rfl ?_
  refine cV1 (pc := 9) lk_X3_openReader_9 rfl rfl rfl (Nat.le_of_ble_eq_true rfl) ⟨Nat.le_of_ble_eq_true rfl, Nat.le_of_ble_eq_true rfl⟩ (s_isOpen0 hRD (i := nI 1) (fun i hi h => by rw [← nI_inj (a := 1) (by omega) (by omega) h]; exact h0)) ?_
  refine ev_if_ne (pc := 12) (tgt := 30) dX3_openReader_12 (by decide) (fun c_12 => absurd rfl c_12) (fun _ => ?_)
  refine ev_aload_n (pc := 15) dX3_openReader_15 rfl rfl ?_
  refine ev_get (pc := 16) dX3_openReader_16 fd_X3_35 rfl rfl ?_
  refine ev_iload_n (pc := 19) dX3_openReader_19 rfl rfl ?_
  refine ev_aaldN (pc := 20) dX3_openReader_20 rfl ⟨(show _ = nI 1 from rfl), by decide, by decide⟩ rfl ?_
  refine ev_aload_n (pc := 21) dX3_openReader_21 rfl rfl ?_
  refine ev_get (pc := 22) dX3_openReader_22 fd_X3_19 rfl rfl ?_
  refine cV1 (pc := 25) lk_X3_openReader_25 rfl rfl rfl (Nat.le_of_ble_eq_true rfl) ⟨Nat.le_of_ble_eq_true rfl, Nat.le_of_ble_eq_true rfl⟩ (s_becomeR1 (sl := sl) (cu := (nI c.1, nI c.2.1, nI c.2.2, oc)) (ba := ba) (r0 := r0) (r1 := r1) (r2 := r2) (r3 := r3) (sw := sw) (bt := bt) (cnt := cnt) (inn := inn) (lk := lk) (wd := wd) (kp := kp) (wr := wr) (mk := mk) (ls := ls) (pth := pth) (tk := tk) (tl := tl)) ?_
  refine ev_iload_n (pc := 28) dX3_openReader_28 rfl rfl ?_
  exact ev_iretE (pc := 29) dX3_openReader_29 rfl ⟨Nat.le_of_ble_eq_true rfl, Nat.le_of_ble_eq_true rfl⟩ rfl rfl
theorem s_open_2 {sl : Int32} {cu ba r0 r1 r2 r3 : Q4} {sw : Nat → Int64} {bt : Int32} {cnt inn lk wd kp wr mk ls pth tk : Nat → Int32} {tl : List mC} {oc : Int32} (hRD : RD r0 r1 r2 r3 rd) (h0 : rd 2 = none) (h : ∀ i, i < 2 → ∃ x, rd i = some x) : RD r0 r1 (nI c.1, nI c.2.1, nI c.2.2, 1) r3 (setR rd 2 (some c)) ∧ EvS m_X3_openReader [.ref 0] (cW sl (nI c.1, nI c.2.1, nI c.2.2, oc) ba r0 r1 r2 r3 sw bt cnt inn lk wd kp wr mk ls pth tk tl) (.inl (some (.int (nI 2)))) (cW sl (nI c.1, nI c.2.1, nI c.2.2, oc) ba r0 r1 (nI c.1, nI c.2.1, nI c.2.2, 1) r3 sw bt cnt inn lk wd kp wr mk ls pth tk tl) := by
  obtain ⟨x0, g0⟩ := h 0 (by decide)
  obtain ⟨x1, g1⟩ := h 1 (by decide)
  refine ⟨⟨hRD.1, hRD.2.1, rfl, hRD.2.2.2⟩, ?_⟩
  refine evs_of (by decide +kernel) (Nat.le_of_ble_eq_true rfl) (by decide) rfl ?_
  refine ev_iconst (pc := 0) (v := 0) dX3_openReader_0 (by decide) ?_
  refine ev_istore_n (pc := 1) dX3_openReader_1 rfl rfl rfl ?_
  refine ev_iload_n (pc := 2) dX3_openReader_2 rfl rfl ?_
  refine ev_iconst (pc := 3) (v := 4) dX3_openReader_3 (by decide) ?_
  refine ev_ic_ge (pc := 4) (tgt := 36) dX3_openReader_4 (by decide) (fun c_4 => absurd c_4 (by decide)) (fun _ => ?_)
  refine ev_aload_n (pc := 7) dX3_openReader_7 rfl rfl ?_
  refine ev_iload_n (pc := 8) dX3_openReader_8 rfl rfl ?_
  refine cV1 (pc := 9) lk_X3_openReader_9 rfl rfl rfl (Nat.le_of_ble_eq_true rfl) ⟨Nat.le_of_ble_eq_true rfl, Nat.le_of_ble_eq_true rfl⟩ (s_isOpen1 hRD (j := 0) (by decide) g0) ?_
  refine ev_if_ne (pc := 12) (tgt := 30) dX3_openReader_12 (by decide) (fun _ => ?_) (fun c_12 => absurd c_12 (by decide))
  refine ev_iinc (pc := 30) dX3_openReader_30 rfl rfl rfl ?_
  refine ev_goto (pc := 33) (tgt := 2) dX3_openReader_33 (by decide) ?_
  refine ev_iload_n (pc := 2) dX3_openReader_2 rfl rfl ?_
  refine ev_iconst (pc := 3) (v := 4) dX3_openReader_3 (by decide) ?_
  refine ev_ic_ge (pc := 4) (tgt := 36) dX3_openReader_4 (by decide) (fun c_4 => absurd c_4 (by decide)) (fun _ => ?_)
  refine ev_aload_n (pc := 7) dX3_openReader_7 rfl rfl ?_
  refine ev_iload_n (pc := 8) dX3_openReader_8 rfl rfl ?_
  refine cV1 (pc := 9) lk_X3_openReader_9 rfl rfl rfl (Nat.le_of_ble_eq_true rfl) ⟨Nat.le_of_ble_eq_true rfl, Nat.le_of_ble_eq_true rfl⟩ (s_isOpen1 hRD (j := 1) (by decide) g1) ?_
  refine ev_if_ne (pc := 12) (tgt := 30) dX3_openReader_12 (by decide) (fun _ => ?_) (fun c_12 => absurd c_12 (by decide))
  refine ev_iinc (pc := 30) dX3_openReader_30 rfl rfl rfl ?_
  refine ev_goto (pc := 33) (tgt := 2) dX3_openReader_33 (by decide) ?_
  refine ev_iload_n (pc := 2) dX3_openReader_2 rfl rfl ?_
  refine ev_iconst (pc := 3) (v := 4) dX3_openReader_3 (by decide) ?_
  refine ev_ic_ge (pc := 4) (tgt := 36) dX3_openReader_4 (by decide) (fun c_4 => absurd c_4 (by decide)) (fun _ => ?_)
  refine ev_aload_n (pc := 7) dX3_openReader_7 rfl rfl ?_
  refine ev_iload_n (pc := 8) dX3_openReader_8 rfl rfl ?_
  refine cV1 (pc := 9) lk_X3_openReader_9 rfl rfl rfl (Nat.le_of_ble_eq_true rfl) ⟨Nat.le_of_ble_eq_true rfl, Nat.le_of_ble_eq_true rfl⟩ (s_isOpen0 hRD (i := nI 2) (fun i hi h => by rw [← nI_inj (a := 2) (by omega) (by omega) h]; exact h0)) ?_
  refine ev_if_ne (pc := 12) (tgt := 30) dX3_openReader_12 (by decide) (fun c_12 => absurd rfl c_12) (fun _ => ?_)
  refine ev_aload_n (pc := 15) dX3_openReader_15 rfl rfl ?_
  refine ev_get (pc := 16) dX3_openReader_16 fd_X3_35 rfl rfl ?_
  refine ev_iload_n (pc := 19) dX3_openReader_19 rfl rfl ?_
  refine ev_aaldN (pc := 20) dX3_openReader_20 rfl ⟨(show _ = nI 2 from rfl), by decide, by decide⟩ rfl ?_
  refine ev_aload_n (pc := 21) dX3_openReader_21 rfl rfl ?_
  refine ev_get (pc := 22) dX3_openReader_22 fd_X3_19 rfl rfl ?_
  refine cV1 (pc := 25) lk_X3_openReader_25 rfl rfl rfl (Nat.le_of_ble_eq_true rfl) ⟨Nat.le_of_ble_eq_true rfl, Nat.le_of_ble_eq_true rfl⟩ (s_become2 (sl := sl) (cu := (nI c.1, nI c.2.1, nI c.2.2, oc)) (ba := ba) (r0 := r0) (r1 := r1) (r2 := r2) (r3 := r3) (sw := sw) (bt := bt) (cnt := cnt) (inn := inn) (lk := lk) (wd := wd) (kp := kp) (wr := wr) (mk := mk) (ls := ls) (pth := pth) (tk := tk) (tl := tl)) ?_
  refine ev_iload_n (pc := 28) dX3_openReader_28 rfl rfl ?_
  exact ev_iretE (pc := 29) dX3_openReader_29 rfl ⟨Nat.le_of_ble_eq_true rfl, Nat.le_of_ble_eq_true rfl⟩ rfl rfl
theorem s_open_3 {sl : Int32} {cu ba r0 r1 r2 r3 : Q4} {sw : Nat → Int64} {bt : Int32} {cnt inn lk wd kp wr mk ls pth tk : Nat → Int32} {tl : List mC} {oc : Int32} (hRD : RD r0 r1 r2 r3 rd) (h0 : rd 3 = none) (h : ∀ i, i < 3 → ∃ x, rd i = some x) : RD r0 r1 r2 (nI c.1, nI c.2.1, nI c.2.2, 1) (setR rd 3 (some c)) ∧ EvS m_X3_openReader [.ref 0] (cW sl (nI c.1, nI c.2.1, nI c.2.2, oc) ba r0 r1 r2 r3 sw bt cnt inn lk wd kp wr mk ls pth tk tl) (.inl (some (.int (nI 3)))) (cW sl (nI c.1, nI c.2.1, nI c.2.2, oc) ba r0 r1 r2 (nI c.1, nI c.2.1, nI c.2.2, 1) sw bt cnt inn lk wd kp wr mk ls pth tk tl) := by
  obtain ⟨x0, g0⟩ := h 0 (by decide)
  obtain ⟨x1, g1⟩ := h 1 (by decide)
  obtain ⟨x2, g2⟩ := h 2 (by decide)
  refine ⟨⟨hRD.1, hRD.2.1, hRD.2.2.1, rfl⟩, ?_⟩
  refine evs_of (by decide +kernel) (Nat.le_of_ble_eq_true rfl) (by decide) rfl ?_
  refine ev_iconst (pc := 0) (v := 0) dX3_openReader_0 (by decide) ?_
  refine ev_istore_n (pc := 1) dX3_openReader_1 rfl rfl rfl ?_
  refine ev_iload_n (pc := 2) dX3_openReader_2 rfl rfl ?_
  refine ev_iconst (pc := 3) (v := 4) dX3_openReader_3 (by decide) ?_
  refine ev_ic_ge (pc := 4) (tgt := 36) dX3_openReader_4 (by decide) (fun c_4 => absurd c_4 (by decide)) (fun _ => ?_)
  refine ev_aload_n (pc := 7) dX3_openReader_7 rfl rfl ?_
  refine ev_iload_n (pc := 8) dX3_openReader_8 rfl rfl ?_
  refine cV1 (pc := 9) lk_X3_openReader_9 rfl rfl rfl (Nat.le_of_ble_eq_true rfl) ⟨Nat.le_of_ble_eq_true rfl, Nat.le_of_ble_eq_true rfl⟩ (s_isOpen1 hRD (j := 0) (by decide) g0) ?_
  refine ev_if_ne (pc := 12) (tgt := 30) dX3_openReader_12 (by decide) (fun _ => ?_) (fun c_12 => absurd c_12 (by decide))
  refine ev_iinc (pc := 30) dX3_openReader_30 rfl rfl rfl ?_
  refine ev_goto (pc := 33) (tgt := 2) dX3_openReader_33 (by decide) ?_
  refine ev_iload_n (pc := 2) dX3_openReader_2 rfl rfl ?_
  refine ev_iconst (pc := 3) (v := 4) dX3_openReader_3 (by decide) ?_
  refine ev_ic_ge (pc := 4) (tgt := 36) dX3_openReader_4 (by decide) (fun c_4 => absurd c_4 (by decide)) (fun _ => ?_)
  refine ev_aload_n (pc := 7) dX3_openReader_7 rfl rfl ?_
  refine ev_iload_n (pc := 8) dX3_openReader_8 rfl rfl ?_
  refine cV1 (pc := 9) lk_X3_openReader_9 rfl rfl rfl (Nat.le_of_ble_eq_true rfl) ⟨Nat.le_of_ble_eq_true rfl, Nat.le_of_ble_eq_true rfl⟩ (s_isOpen1 hRD (j := 1) (by decide) g1) ?_
  refine ev_if_ne (pc := 12) (tgt := 30) dX3_openReader_12 (by decide) (fun _ => ?_) (fun c_12 => absurd c_12 (by decide))
  refine ev_iinc (pc := 30) dX3_openReader_30 rfl rfl rfl ?_
  refine ev_goto (pc := 33) (tgt := 2) dX3_openReader_33 (by decide) ?_
  refine ev_iload_n (pc := 2) dX3_openReader_2 rfl rfl ?_
  refine ev_iconst (pc := 3) (v := 4) dX3_openReader_3 (by decide) ?_
  refine ev_ic_ge (pc := 4) (tgt := 36) dX3_openReader_4 (by decide) (fun c_4 => absurd c_4 (by decide)) (fun _ => ?_)
  refine ev_aload_n (pc := 7) dX3_openReader_7 rfl rfl ?_
  refine ev_iload_n (pc := 8) dX3_openReader_8 rfl rfl ?_
  refine cV1 (pc := 9) lk_X3_openReader_9 rfl rfl rfl (Nat.le_of_ble_eq_true rfl) ⟨Nat.le_of_ble_eq_true rfl, Nat.le_of_ble_eq_true rfl⟩ (s_isOpen1 hRD (j := 2) (by decide) g2) ?_
  refine ev_if_ne (pc := 12) (tgt := 30) dX3_openReader_12 (by decide) (fun _ => ?_) (fun c_12 => absurd c_12 (by decide))
  refine ev_iinc (pc := 30) dX3_openReader_30 rfl rfl rfl ?_
  refine ev_goto (pc := 33) (tgt := 2) dX3_openReader_33 (by decide) ?_
  refine ev_iload_n (pc := 2) dX3_openReader_2 rfl rfl ?_
  refine ev_iconst (pc := 3) (v := 4) dX3_openReader_3 (by decide) ?_
  refine ev_ic_ge (pc := 4) (tgt := 36) dX3_openReader_4 (by decide) (fun c_4 => absurd c_4 (by decide)) (fun _ => ?_)
  refine ev_aload_n (pc := 7) dX3_openReader_7 rfl rfl ?_
  refine ev_iload_n (pc := 8) dX3_openReader_8 rfl rfl ?_
  refine cV1 (pc := 9) lk_X3_openReader_9 rfl rfl rfl (Nat.le_of_ble_eq_true rfl) ⟨Nat.le_of_ble_eq_true rfl, Nat.le_of_ble_eq_true rfl⟩ (s_isOpen0 hRD (i := nI 3) (fun i hi h => by rw [← nI_inj (a := 3) (by omega) (by omega) h]; exact h0)) ?_
  refine ev_if_ne (pc := 12) (tgt := 30) dX3_openReader_12 (by decide) (fun c_12 => absurd rfl c_12) (fun _ => ?_)
  refine ev_aload_n (pc := 15) dX3_openReader_15 rfl rfl ?_
  refine ev_get (pc := 16) dX3_openReader_16 fd_X3_35 rfl rfl ?_
  refine ev_iload_n (pc := 19) dX3_openReader_19 rfl rfl ?_
  refine ev_aaldN (pc := 20) dX3_openReader_20 rfl ⟨(show _ = nI 3 from rfl), by decide, by decide⟩ rfl ?_
  refine ev_aload_n (pc := 21) dX3_openReader_21 rfl rfl ?_
  refine ev_get (pc := 22) dX3_openReader_22 fd_X3_19 rfl rfl ?_
  refine cV1 (pc := 25) lk_X3_openReader_25 rfl rfl rfl (Nat.le_of_ble_eq_true rfl) ⟨Nat.le_of_ble_eq_true rfl, Nat.le_of_ble_eq_true rfl⟩ (s_become3 (sl := sl) (cu := (nI c.1, nI c.2.1, nI c.2.2, oc)) (ba := ba) (r0 := r0) (r1 := r1) (r2 := r2) (r3 := r3) (sw := sw) (bt := bt) (cnt := cnt) (inn := inn) (lk := lk) (wd := wd) (kp := kp) (wr := wr) (mk := mk) (ls := ls) (pth := pth) (tk := tk) (tl := tl)) ?_
  refine ev_iload_n (pc := 28) dX3_openReader_28 rfl rfl ?_
  exact ev_iretE (pc := 29) dX3_openReader_29 rfl ⟨Nat.le_of_ble_eq_true rfl, Nat.le_of_ble_eq_true rfl⟩ rfl rfl
theorem s_close_0 {sl : Int32} {cu ba r0 r1 r2 r3 : Q4} {sw : Nat → Int64} {bt : Int32} {cnt inn lk wd kp wr mk ls pth tk : Nat → Int32} {tl : List mC} (hC : CR K W T cnt inn lk wd kp wr) {oc : Int32} {x : RS3} (hRD : RD r0 r1 r2 r3 rd) (h0 : rd 0 = some x) (hSL : SLR sw so) (hok : ∀ r ∈ rts c so (setR rd 0 none), okR T (fun q => K q ∨ W q) r) {n1 n2 : Nat} (h1 : cntR (fun q => K q ∨ W q) 800 n1) (h2 : cntR (fun q => RS T (rts c so (setR rd 0 none)) q ∨ W q) 800 n2) : ∃ q0 q1 q2 q3 kp' ls', RD q0 q1 q2 q3 (setR rd 0 none) ∧ kS kp' (RS T (rts c so (setR rd 0 none))) ∧ EvS m_X3_closeReader [.ref 0, .int (nI 0)] (cW sl (nI c.1, nI c.2.1, nI c.2.2, oc) ba r0 r1 r2 r3 sw bt cnt inn lk wd kp wr mk ls pth tk tl) (.inl (some (.int (nI n1 - nI n2)))) (cW sl (nI c.1, nI c.2.1, nI c.2.2, oc) ba q0 q1 q2 q3 sw bt cnt inn lk wd kp' wr mk ls' pth tk tl) := by
  have e0 := s_reqReader (sl := sl) (cu := (nI c.1, nI c.2.1, nI c.2.2, oc)) (ba := ba) (r0 := r0) (r1 := r1) (r2 := r2) (r3 := r3) (sw := sw) (bt := bt) (cnt := cnt) (inn := inn) (lk := lk) (wd := wd) (kp := kp) (wr := wr) (mk := mk) (ls := ls) (pth := pth) (tk := tk) (tl := tl) hRD (j := 0) (by decide) h0
  have hD : RD (r0.1, r0.2.1, r0.2.2.1, 0) r1 r2 r3 (setR rd 0 none) := ⟨rfl, hRD.2.1, hRD.2.2.1, hRD.2.2.2⟩
  obtain ⟨k1, l1, hS1, e1⟩ := s_keepK (sl := sl) (cu := (nI c.1, nI c.2.1, nI c.2.2, oc)) (ba := ba) (r0 := (r0.1, r0.2.1, r0.2.2.1, 0)) (r1 := r1) (r2 := r2) (r3 := r3) (sw := sw) (bt := bt) (cnt := cnt) (inn := inn) (lk := lk) (wd := wd) (kp := kp) (wr := wr) (mk := mk) (ls := ls) (pth := pth) (tk := tk) (tl := tl) hC.1 (c := c) rfl hD hSL (wo := -1) (by rw [rts_no]; exact hok)
  rw [rts_no] at hS1
  refine ⟨_, _, _, _, k1, l1, hD, hS1, ?_⟩
  refine evs_of (by decide +kernel) (Nat.le_of_ble_eq_true rfl) (by decide) rfl ?_
  refine ev_aload_n (pc := 0) dX3_closeReader_0 rfl rfl ?_
  refine ev_iload_n (pc := 1) dX3_closeReader_1 rfl rfl ?_
  refine cV1 (pc := 2) lk_X3_closeReader_2 rfl rfl rfl (Nat.le_of_ble_eq_true rfl) ⟨Nat.le_of_ble_eq_true rfl, Nat.le_of_ble_eq_true rfl⟩ e0 ?_
  refine ev_aload_n (pc := 5) dX3_closeReader_5 rfl rfl ?_
  refine cV0 (pc := 6) lk_X3_closeReader_6 rfl rfl rfl (Nat.le_of_ble_eq_true rfl) ⟨Nat.le_of_ble_eq_true rfl, Nat.le_of_ble_eq_true rfl⟩ (s_inUse (sl := sl) (cu := (nI c.1, nI c.2.1, nI c.2.2, oc)) (ba := ba) (r0 := r0) (r1 := r1) (r2 := r2) (r3 := r3) (sw := sw) (bt := bt) (cnt := cnt) (inn := inn) (lk := lk) (wd := wd) (kp := kp) (wr := wr) (mk := mk) (ls := ls) (pth := pth) (tk := tk) (tl := tl) hC.2.1 hC.2.2 h1) ?_
  refine ev_istore_n (pc := 9) dX3_closeReader_9 rfl rfl rfl ?_
  refine ev_aload_n (pc := 10) dX3_closeReader_10 rfl rfl ?_
  refine ev_get (pc := 11) dX3_closeReader_11 fd_X3_35 rfl rfl ?_
  refine ev_iload_n (pc := 14) dX3_closeReader_14 rfl rfl ?_
  refine ev_aaldN (pc := 15) dX3_closeReader_15 rfl ⟨rfl, by decide, by decide⟩ rfl ?_
  refine ev_iconst (pc := 16) (v := 0) dX3_closeReader_16 (by decide) ?_
  refine ev_put (pc := 17) dX3_closeReader_17 fp_X3_58 rfl (Nat.le_of_ble_eq_true rfl) (fun _ _ => ⟨rfl, rfl⟩) rfl ?_
  refine ev_aload_n (pc := 20) dX3_closeReader_20 rfl rfl ?_
  refine ev_aload_n (pc := 21) dX3_closeReader_21 rfl rfl ?_
  refine ev_get (pc := 22) dX3_closeReader_22 fd_X3_12 rfl rfl ?_
  refine ev_get (pc := 25) dX3_closeReader_25 fd_X3_47 rfl rfl ?_
  refine ev_iconst (pc := 28) (v := (-1)) dX3_closeReader_28 (by decide) ?_
  refine cV2 (pc := 29) lk_X3_closeReader_29 rfl rfl rfl (Nat.le_of_ble_eq_true rfl) ⟨Nat.le_of_ble_eq_true rfl, Nat.le_of_ble_eq_true rfl⟩ e1 ?_
  refine ev_iload_n (pc := 32) dX3_closeReader_32 rfl rfl ?_
  refine ev_aload_n (pc := 33) dX3_closeReader_33 rfl rfl ?_
  refine cV0 (pc := 34) lk_X3_closeReader_34 rfl rfl rfl (Nat.le_of_ble_eq_true rfl) ⟨Nat.le_of_ble_eq_true rfl, Nat.le_of_ble_eq_true rfl⟩ (s_inUse (sl := sl) (cu := (nI c.1, nI c.2.1, nI c.2.2, oc)) (ba := ba) (r0 := (r0.1, r0.2.1, r0.2.2.1, 0)) (r1 := r1) (r2 := r2) (r3 := r3) (sw := sw) (bt := bt) (cnt := cnt) (inn := inn) (lk := lk) (wd := wd) (kp := k1) (wr := wr) (mk := mk) (ls := l1) (pth := pth) (tk := tk) (tl := tl) hS1 hC.2.2 h2) ?_
  refine ev_isub (pc := 37) dX3_closeReader_37 ?_
  exact ev_iretE (pc := 38) dX3_closeReader_38 rfl ⟨Nat.le_of_ble_eq_true rfl, Nat.le_of_ble_eq_true rfl⟩ rfl rfl
theorem s_close_1 {sl : Int32} {cu ba r0 r1 r2 r3 : Q4} {sw : Nat → Int64} {bt : Int32} {cnt inn lk wd kp wr mk ls pth tk : Nat → Int32} {tl : List mC} (hC : CR K W T cnt inn lk wd kp wr) {oc : Int32} {x : RS3} (hRD : RD r0 r1 r2 r3 rd) (h0 : rd 1 = some x) (hSL : SLR sw so) (hok : ∀ r ∈ rts c so (setR rd 1 none), okR T (fun q => K q ∨ W q) r) {n1 n2 : Nat} (h1 : cntR (fun q => K q ∨ W q) 800 n1) (h2 : cntR (fun q => RS T (rts c so (setR rd 1 none)) q ∨ W q) 800 n2) : ∃ q0 q1 q2 q3 kp' ls', RD q0 q1 q2 q3 (setR rd 1 none) ∧ kS kp' (RS T (rts c so (setR rd 1 none))) ∧ EvS m_X3_closeReader [.ref 0, .int (nI 1)] (cW sl (nI c.1, nI c.2.1, nI c.2.2, oc) ba r0 r1 r2 r3 sw bt cnt inn lk wd kp wr mk ls pth tk tl) (.inl (some (.int (nI n1 - nI n2)))) (cW sl (nI c.1, nI c.2.1, nI c.2.2, oc) ba q0 q1 q2 q3 sw bt cnt inn lk wd kp' wr mk ls' pth tk tl) := by
  have e0 := s_reqReader (sl := sl) (cu := (nI c.1, nI c.2.1, nI c.2.2, oc)) (ba := ba) (r0 := r0) (r1 := r1) (r2 := r2) (r3 := r3) (sw := sw) (bt := bt) (cnt := cnt) (inn := inn) (lk := lk) (wd := wd) (kp := kp) (wr := wr) (mk := mk) (ls := ls) (pth := pth) (tk := tk) (tl := tl) hRD (j := 1) (by decide) h0
  have hD : RD r0 (r1.1, r1.2.1, r1.2.2.1, 0) r2 r3 (setR rd 1 none) := ⟨hRD.1, rfl, hRD.2.2.1, hRD.2.2.2⟩
  obtain ⟨k1, l1, hS1, e1⟩ := s_keepK (sl := sl) (cu := (nI c.1, nI c.2.1, nI c.2.2, oc)) (ba := ba) (r0 := r0) (r1 := (r1.1, r1.2.1, r1.2.2.1, 0)) (r2 := r2) (r3 := r3) (sw := sw) (bt := bt) (cnt := cnt) (inn := inn) (lk := lk) (wd := wd) (kp := kp) (wr := wr) (mk := mk) (ls := ls) (pth := pth) (tk := tk) (tl := tl) hC.1 (c := c) rfl hD hSL (wo := -1) (by rw [rts_no]; exact hok)
  rw [rts_no] at hS1
  refine ⟨_, _, _, _, k1, l1, hD, hS1, ?_⟩
  refine evs_of (by decide +kernel) (Nat.le_of_ble_eq_true rfl) (by decide) rfl ?_
  refine ev_aload_n (pc := 0) dX3_closeReader_0 rfl rfl ?_
  refine ev_iload_n (pc := 1) dX3_closeReader_1 rfl rfl ?_
  refine cV1 (pc := 2) lk_X3_closeReader_2 rfl rfl rfl (Nat.le_of_ble_eq_true rfl) ⟨Nat.le_of_ble_eq_true rfl, Nat.le_of_ble_eq_true rfl⟩ e0 ?_
  refine ev_aload_n (pc := 5) dX3_closeReader_5 rfl rfl ?_
  refine cV0 (pc := 6) lk_X3_closeReader_6 rfl rfl rfl (Nat.le_of_ble_eq_true rfl) ⟨Nat.le_of_ble_eq_true rfl, Nat.le_of_ble_eq_true rfl⟩ (s_inUse (sl := sl) (cu := (nI c.1, nI c.2.1, nI c.2.2, oc)) (ba := ba) (r0 := r0) (r1 := r1) (r2 := r2) (r3 := r3) (sw := sw) (bt := bt) (cnt := cnt) (inn := inn) (lk := lk) (wd := wd) (kp := kp) (wr := wr) (mk := mk) (ls := ls) (pth := pth) (tk := tk) (tl := tl) hC.2.1 hC.2.2 h1) ?_
  refine ev_istore_n (pc := 9) dX3_closeReader_9 rfl rfl rfl ?_
  refine ev_aload_n (pc := 10) dX3_closeReader_10 rfl rfl ?_
  refine ev_get (pc := 11) dX3_closeReader_11 fd_X3_35 rfl rfl ?_
  refine ev_iload_n (pc := 14) dX3_closeReader_14 rfl rfl ?_
  refine ev_aaldN (pc := 15) dX3_closeReader_15 rfl ⟨rfl, by decide, by decide⟩ rfl ?_
  refine ev_iconst (pc := 16) (v := 0) dX3_closeReader_16 (by decide) ?_
  refine ev_put (pc := 17) dX3_closeReader_17 fp_X3_58 rfl (Nat.le_of_ble_eq_true rfl) (fun _ _ => ⟨rfl, rfl⟩) rfl ?_
  refine ev_aload_n (pc := 20) dX3_closeReader_20 rfl rfl ?_
  refine ev_aload_n (pc := 21) dX3_closeReader_21 rfl rfl ?_
  refine ev_get (pc := 22) dX3_closeReader_22 fd_X3_12 rfl rfl ?_
  refine ev_get (pc := 25) dX3_closeReader_25 fd_X3_47 rfl rfl ?_
  refine ev_iconst (pc := 28) (v := (-1)) dX3_closeReader_28 (by decide) ?_
  refine cV2 (pc := 29) lk_X3_closeReader_29 rfl rfl rfl (Nat.le_of_ble_eq_true rfl) ⟨Nat.le_of_ble_eq_true rfl, Nat.le_of_ble_eq_true rfl⟩ e1 ?_
  refine ev_iload_n (pc := 32) dX3_closeReader_32 rfl rfl ?_
  refine ev_aload_n (pc := 33) dX3_closeReader_33 rfl rfl ?_
  refine cV0 (pc := 34) lk_X3_closeReader_34 rfl rfl rfl (Nat.le_of_ble_eq_true rfl) ⟨Nat.le_of_ble_eq_true rfl, Nat.le_of_ble_eq_true rfl⟩ (s_inUse (sl := sl) (cu := (nI c.1, nI c.2.1, nI c.2.2, oc)) (ba := ba) (r0 := r0) (r1 := (r1.1, r1.2.1, r1.2.2.1, 0)) (r2 := r2) (r3 := r3) (sw := sw) (bt := bt) (cnt := cnt) (inn := inn) (lk := lk) (wd := wd) (kp := k1) (wr := wr) (mk := mk) (ls := l1) (pth := pth) (tk := tk) (tl := tl) hS1 hC.2.2 h2) ?_
  refine ev_isub (pc := 37) dX3_closeReader_37 ?_
  exact ev_iretE (pc := 38) dX3_closeReader_38 rfl ⟨Nat.le_of_ble_eq_true rfl, Nat.le_of_ble_eq_true rfl⟩ rfl rfl
theorem s_close_2 {sl : Int32} {cu ba r0 r1 r2 r3 : Q4} {sw : Nat → Int64} {bt : Int32} {cnt inn lk wd kp wr mk ls pth tk : Nat → Int32} {tl : List mC} (hC : CR K W T cnt inn lk wd kp wr) {oc : Int32} {x : RS3} (hRD : RD r0 r1 r2 r3 rd) (h0 : rd 2 = some x) (hSL : SLR sw so) (hok : ∀ r ∈ rts c so (setR rd 2 none), okR T (fun q => K q ∨ W q) r) {n1 n2 : Nat} (h1 : cntR (fun q => K q ∨ W q) 800 n1) (h2 : cntR (fun q => RS T (rts c so (setR rd 2 none)) q ∨ W q) 800 n2) : ∃ q0 q1 q2 q3 kp' ls', RD q0 q1 q2 q3 (setR rd 2 none) ∧ kS kp' (RS T (rts c so (setR rd 2 none))) ∧ EvS m_X3_closeReader [.ref 0, .int (nI 2)] (cW sl (nI c.1, nI c.2.1, nI c.2.2, oc) ba r0 r1 r2 r3 sw bt cnt inn lk wd kp wr mk ls pth tk tl) (.inl (some (.int (nI n1 - nI n2)))) (cW sl (nI c.1, nI c.2.1, nI c.2.2, oc) ba q0 q1 q2 q3 sw bt cnt inn lk wd kp' wr mk ls' pth tk tl) := by
  have e0 := s_reqReader (sl := sl) (cu := (nI c.1, nI c.2.1, nI c.2.2, oc)) (ba := ba) (r0 := r0) (r1 := r1) (r2 := r2) (r3 := r3) (sw := sw) (bt := bt) (cnt := cnt) (inn := inn) (lk := lk) (wd := wd) (kp := kp) (wr := wr) (mk := mk) (ls := ls) (pth := pth) (tk := tk) (tl := tl) hRD (j := 2) (by decide) h0
  have hD : RD r0 r1 (r2.1, r2.2.1, r2.2.2.1, 0) r3 (setR rd 2 none) := ⟨hRD.1, hRD.2.1, rfl, hRD.2.2.2⟩
  obtain ⟨k1, l1, hS1, e1⟩ := s_keepK (sl := sl) (cu := (nI c.1, nI c.2.1, nI c.2.2, oc)) (ba := ba) (r0 := r0) (r1 := r1) (r2 := (r2.1, r2.2.1, r2.2.2.1, 0)) (r3 := r3) (sw := sw) (bt := bt) (cnt := cnt) (inn := inn) (lk := lk) (wd := wd) (kp := kp) (wr := wr) (mk := mk) (ls := ls) (pth := pth) (tk := tk) (tl := tl) hC.1 (c := c) rfl hD hSL (wo := -1) (by rw [rts_no]; exact hok)
  rw [rts_no] at hS1
  refine ⟨_, _, _, _, k1, l1, hD, hS1, ?_⟩
  refine evs_of (by decide +kernel) (Nat.le_of_ble_eq_true rfl) (by decide) rfl ?_
  refine ev_aload_n (pc := 0) dX3_closeReader_0 rfl rfl ?_
  refine ev_iload_n (pc := 1) dX3_closeReader_1 rfl rfl ?_
  refine cV1 (pc := 2) lk_X3_closeReader_2 rfl rfl rfl (Nat.le_of_ble_eq_true rfl) ⟨Nat.le_of_ble_eq_true rfl, Nat.le_of_ble_eq_true rfl⟩ e0 ?_
  refine ev_aload_n (pc := 5) dX3_closeReader_5 rfl rfl ?_
  refine cV0 (pc := 6) lk_X3_closeReader_6 rfl rfl rfl (Nat.le_of_ble_eq_true rfl) ⟨Nat.le_of_ble_eq_true rfl, Nat.le_of_ble_eq_true rfl⟩ (s_inUse (sl := sl) (cu := (nI c.1, nI c.2.1, nI c.2.2, oc)) (ba := ba) (r0 := r0) (r1 := r1) (r2 := r2) (r3 := r3) (sw := sw) (bt := bt) (cnt := cnt) (inn := inn) (lk := lk) (wd := wd) (kp := kp) (wr := wr) (mk := mk) (ls := ls) (pth := pth) (tk := tk) (tl := tl) hC.2.1 hC.2.2 h1) ?_
  refine ev_istore_n (pc := 9) dX3_closeReader_9 rfl rfl rfl ?_
  refine ev_aload_n (pc := 10) dX3_closeReader_10 rfl rfl ?_
  refine ev_get (pc := 11) dX3_closeReader_11 fd_X3_35 rfl rfl ?_
  refine ev_iload_n (pc := 14) dX3_closeReader_14 rfl rfl ?_
  refine ev_aaldN (pc := 15) dX3_closeReader_15 rfl ⟨rfl, by decide, by decide⟩ rfl ?_
  refine ev_iconst (pc := 16) (v := 0) dX3_closeReader_16 (by decide) ?_
  refine ev_put (pc := 17) dX3_closeReader_17 fp_X3_58 rfl (Nat.le_of_ble_eq_true rfl) (fun _ _ => ⟨rfl, rfl⟩) rfl ?_
  refine ev_aload_n (pc := 20) dX3_closeReader_20 rfl rfl ?_
  refine ev_aload_n (pc := 21) dX3_closeReader_21 rfl rfl ?_
  refine ev_get (pc := 22) dX3_closeReader_22 fd_X3_12 rfl rfl ?_
  refine ev_get (pc := 25) dX3_closeReader_25 fd_X3_47 rfl rfl ?_
  refine ev_iconst (pc := 28) (v := (-1)) dX3_closeReader_28 (by decide) ?_
  refine cV2 (pc := 29) lk_X3_closeReader_29 rfl rfl rfl (Nat.le_of_ble_eq_true rfl) ⟨Nat.le_of_ble_eq_true rfl, Nat.le_of_ble_eq_true rfl⟩ e1 ?_
  refine ev_iload_n (pc := 32) dX3_closeReader_32 rfl rfl ?_
  refine ev_aload_n (pc := 33) dX3_closeReader_33 rfl rfl ?_
  refine cV0 (pc := 34) lk_X3_closeReader_34 rfl rfl rfl (Nat.le_of_ble_eq_true rfl) ⟨Nat.le_of_ble_eq_true rfl, Nat.le_of_ble_eq_true rfl⟩ (s_inUse (sl := sl) (cu := (nI c.1, nI c.2.1, nI c.2.2, oc)) (ba := ba) (r0 := r0) (r1 := r1) (r2 := (r2.1, r2.2.1, r2.2.2.1, 0)) (r3 := r3) (sw := sw) (bt := bt) (cnt := cnt) (inn := inn) (lk := lk) (wd := wd) (kp := k1) (wr := wr) (mk := mk) (ls := l1) (pth := pth) (tk := tk) (tl := tl) hS1 hC.2.2 h2) ?_
  refine ev_isub (pc := 37) dX3_closeReader_37 ?_
  exact ev_iretE (pc := 38) dX3_closeReader_38 rfl ⟨Nat.le_of_ble_eq_true rfl, Nat.le_of_ble_eq_true rfl⟩ rfl rfl
theorem s_close_3 {sl : Int32} {cu ba r0 r1 r2 r3 : Q4} {sw : Nat → Int64} {bt : Int32} {cnt inn lk wd kp wr mk ls pth tk : Nat → Int32} {tl : List mC} (hC : CR K W T cnt inn lk wd kp wr) {oc : Int32} {x : RS3} (hRD : RD r0 r1 r2 r3 rd) (h0 : rd 3 = some x) (hSL : SLR sw so) (hok : ∀ r ∈ rts c so (setR rd 3 none), okR T (fun q => K q ∨ W q) r) {n1 n2 : Nat} (h1 : cntR (fun q => K q ∨ W q) 800 n1) (h2 : cntR (fun q => RS T (rts c so (setR rd 3 none)) q ∨ W q) 800 n2) : ∃ q0 q1 q2 q3 kp' ls', RD q0 q1 q2 q3 (setR rd 3 none) ∧ kS kp' (RS T (rts c so (setR rd 3 none))) ∧ EvS m_X3_closeReader [.ref 0, .int (nI 3)] (cW sl (nI c.1, nI c.2.1, nI c.2.2, oc) ba r0 r1 r2 r3 sw bt cnt inn lk wd kp wr mk ls pth tk tl) (.inl (some (.int (nI n1 - nI n2)))) (cW sl (nI c.1, nI c.2.1, nI c.2.2, oc) ba q0 q1 q2 q3 sw bt cnt inn lk wd kp' wr mk ls' pth tk tl) := by
  have e0 := s_reqReader (sl := sl) (cu := (nI c.1, nI c.2.1, nI c.2.2, oc)) (ba := ba) (r0 := r0) (r1 := r1) (r2 := r2) (r3 := r3) (sw := sw) (bt := bt) (cnt := cnt) (inn := inn) (lk := lk) (wd := wd) (kp := kp) (wr := wr) (mk := mk) (ls := ls) (pth := pth) (tk := tk) (tl := tl) hRD (j := 3) (by decide) h0
  have hD : RD r0 r1 r2 (r3.1, r3.2.1, r3.2.2.1, 0) (setR rd 3 none) := ⟨hRD.1, hRD.2.1, hRD.2.2.1, rfl⟩
  obtain ⟨k1, l1, hS1, e1⟩ := s_keepK (sl := sl) (cu := (nI c.1, nI c.2.1, nI c.2.2, oc)) (ba := ba) (r0 := r0) (r1 := r1) (r2 := r2) (r3 := (r3.1, r3.2.1, r3.2.2.1, 0)) (sw := sw) (bt := bt) (cnt := cnt) (inn := inn) (lk := lk) (wd := wd) (kp := kp) (wr := wr) (mk := mk) (ls := ls) (pth := pth) (tk := tk) (tl := tl) hC.1 (c := c) rfl hD hSL (wo := -1) (by rw [rts_no]; exact hok)
  rw [rts_no] at hS1
  refine ⟨_, _, _, _, k1, l1, hD, hS1, ?_⟩
  refine evs_of (by decide +kernel) (Nat.le_of_ble_eq_true rfl) (by decide) rfl ?_
  refine ev_aload_n (pc := 0) dX3_closeReader_0 rfl rfl ?_
  refine ev_iload_n (pc := 1) dX3_closeReader_1 rfl rfl ?_
  refine cV1 (pc := 2) lk_X3_closeReader_2 rfl rfl rfl (Nat.le_of_ble_eq_true rfl) ⟨Nat.le_of_ble_eq_true rfl, Nat.le_of_ble_eq_true rfl⟩ e0 ?_
  refine ev_aload_n (pc := 5) dX3_closeReader_5 rfl rfl ?_
  refine cV0 (pc := 6) lk_X3_closeReader_6 rfl rfl rfl (Nat.le_of_ble_eq_true rfl) ⟨Nat.le_of_ble_eq_true rfl, Nat.le_of_ble_eq_true rfl⟩ (s_inUse (sl := sl) (cu := (nI c.1, nI c.2.1, nI c.2.2, oc)) (ba := ba) (r0 := r0) (r1 := r1) (r2 := r2) (r3 := r3) (sw := sw) (bt := bt) (cnt := cnt) (inn := inn) (lk := lk) (wd := wd) (kp := kp) (wr := wr) (mk := mk) (ls := ls) (pth := pth) (tk := tk) (tl := tl) hC.2.1 hC.2.2 h1) ?_
  refine ev_istore_n (pc := 9) dX3_closeReader_9 rfl rfl rfl ?_
  refine ev_aload_n (pc := 10) dX3_closeReader_10 rfl rfl ?_
  refine ev_get (pc := 11) dX3_closeReader_11 fd_X3_35 rfl rfl ?_
  refine ev_iload_n (pc := 14) dX3_closeReader_14 rfl rfl ?_
  refine ev_aaldN (pc := 15) dX3_closeReader_15 rfl ⟨rfl, by decide, by decide⟩ rfl ?_
  refine ev_iconst (pc := 16) (v := 0) dX3_closeReader_16 (by decide) ?_
  refine ev_put (pc := 17) dX3_closeReader_17 fp_X3_58 rfl (Nat.le_of_ble_eq_true rfl) (fun _ _ => ⟨rfl, rfl⟩) rfl ?_
  refine ev_aload_n (pc := 20) dX3_closeReader_20 rfl rfl ?_
  refine ev_aload_n (pc := 21) dX3_closeReader_21 rfl rfl ?_
  refine ev_get (pc := 22) dX3_closeReader_22 fd_X3_12 rfl rfl ?_
  refine ev_get (pc := 25) dX3_closeReader_25 fd_X3_47 rfl rfl ?_
  refine ev_iconst (pc := 28) (v := (-1)) dX3_closeReader_28 (by decide) ?_
  refine cV2 (pc := 29) lk_X3_closeReader_29 rfl rfl rfl (Nat.le_of_ble_eq_true rfl) ⟨Nat.le_of_ble_eq_true rfl, Nat.le_of_ble_eq_true rfl⟩ e1 ?_
  refine ev_iload_n (pc := 32) dX3_closeReader_32 rfl rfl ?_
  refine ev_aload_n (pc := 33) dX3_closeReader_33 rfl rfl ?_
  refine cV0 (pc := 34) lk_X3_closeReader_34 rfl rfl rfl (Nat.le_of_ble_eq_true rfl) ⟨Nat.le_of_ble_eq_true rfl, Nat.le_of_ble_eq_true rfl⟩ (s_inUse (sl := sl) (cu := (nI c.1, nI c.2.1, nI c.2.2, oc)) (ba := ba) (r0 := r0) (r1 := r1) (r2 := r2) (r3 := (r3.1, r3.2.1, r3.2.2.1, 0)) (sw := sw) (bt := bt) (cnt := cnt) (inn := inn) (lk := lk) (wd := wd) (kp := k1) (wr := wr) (mk := mk) (ls := l1) (pth := pth) (tk := tk) (tl := tl) hS1 hC.2.2 h2) ?_
  refine ev_isub (pc := 37) dX3_closeReader_37 ?_
  exact ev_iretE (pc := 38) dX3_closeReader_38 rfl ⟨Nat.le_of_ble_eq_true rfl, Nat.le_of_ble_eq_true rfl⟩ rfl rfl
theorem s_closeT {sl : Int32} {cu ba r0 r1 r2 r3 : Q4} {sw : Nat → Int64} {bt : Int32} {cnt inn lk wd kp wr mk ls pth tk : Nat → Int32} {tl : List mC} (hRD : RD r0 r1 r2 r3 rd) {i : Int32} (hx : ∀ j, j < 4 → i = nI j → rd j = none) : EvS m_X3_closeReader [.ref 0, .int i] (cW sl cu ba r0 r1 r2 r3 sw bt cnt inn lk wd kp wr mk ls pth tk tl) (.inr xIB) (cW sl cu ba r0 r1 r2 r3 sw bt cnt inn lk wd kp wr mk ls pth tk tl) := by
  refine evs_of (by decide +kernel) (Nat.le_of_ble_eq_true rfl) (by decide) rfl ?_
  refine ev_aload_n (pc := 0) dX3_closeReader_0 rfl rfl ?_
  refine ev_iload_n (pc := 1) dX3_closeReader_1 rfl rfl ?_
  exact tV1 (pc := 2) lk_X3_closeReader_2 rfl rfl rfl rfl (Nat.le_of_ble_eq_true rfl) ⟨Nat.le_of_ble_eq_true rfl, Nat.le_of_ble_eq_true rfl⟩ (s_reqReaderT hRD hx)
theorem s_heldByT {sl : Int32} {cu ba r0 r1 r2 r3 : Q4} {sw : Nat → Int64} {bt : Int32} {cnt inn lk wd kp wr mk ls pth tk : Nat → Int32} {tl : List mC} (hRD : RD r0 r1 r2 r3 rd) {i : Int32} (hx : ∀ j, j < 4 → i = nI j → rd j = none) : EvS m_X3_heldBy [.ref 0, .int i] (cW sl cu ba r0 r1 r2 r3 sw bt cnt inn lk wd kp wr mk ls pth tk tl) (.inr xIB) (cW sl cu ba r0 r1 r2 r3 sw bt cnt inn lk wd kp wr mk ls pth tk tl) := by
  refine evs_of (by decide +kernel) (Nat.le_of_ble_eq_true rfl) (by decide) rfl ?_
  refine ev_aload_n (pc := 0) dX3_heldBy_0 rfl rfl ?_
  refine ev_iload_n (pc := 1) dX3_heldBy_1 rfl rfl ?_
  exact tV1 (pc := 2) lk_X3_heldBy_2 rfl rfl rfl rfl (Nat.le_of_ble_eq_true rfl) ⟨Nat.le_of_ble_eq_true rfl, Nat.le_of_ble_eq_true rfl⟩ (s_reqReaderT hRD hx)
theorem l_heldBy {sl : Int32} {cu ba r0 r1 r2 r3 : Q4} {sw : Nat → Int64} {bt : Int32} {cnt inn lk wd kp wr mk ls pth tk : Nat → Int32} {tl : List mC} {S : Nat → Prop} (hk : kS kp K) (hm : kS mk S) {n : Nat} (hn : cntR (fun q => K q ∧ ¬ S q) 800 n) (a : Int32) : ∀ (m i s : Nat), 800 = i + m → cntR (fun q => K q ∧ ¬ S q) i s → EvF m_X3_heldBy (mQm m_X3_heldBy (.inl (some (.int (nI n)))) (cW sl cu ba r0 r1 r2 r3 sw bt cnt inn lk wd kp wr mk ls pth tk tl)) 21 [.ref 0, .int a, .int (nI s), .int (nI i)] [] (0 + (mMR m_X3_requireReader).cells + (mMR m_X3_keepStates).cells) (0 + (mMR m_X3_requireReader).slots + (mMR m_X3_keepStates).slots) (cW sl cu ba r0 r1 r2 r3 sw bt cnt inn lk wd kp wr mk ls pth tk tl) := by
  intro m
  induction m with
  | zero =>
    intro i s hi hs
    have : i = 800 := by omega
    subst this
    refine ev_iload_n (pc := 21) dX3_heldBy_21 rfl rfl ?_
    refine ev_sipush (pc := 22) (v := 800) dX3_heldBy_22 (by decide) ?_
    refine ev_ic_ge (pc := 25) (tgt := 61) dX3_heldBy_25 (by decide) (fun _ => ?_) (fun c_25 => absurd (by decide) c_25)
    refine ev_iload_n (pc := 61) dX3_heldBy_61 rfl rfl ?_
    exact ev_iretE (pc := 62) dX3_heldBy_62 rfl ⟨Nat.le_of_ble_eq_true rfl, Nat.le_of_ble_eq_true rfl⟩ (by rw [cntR_un hs hn]) rfl
  | succ m ih =>
    intro i s hi hs
    have hi8 : i < 800 := by omega
    by_cases h : K i
    · have h1 : ¬ kp i = 0 := (hk i hi8).mpr h
      by_cases h2 : S i
      · have h3 : ¬ mk i = 0 := (hm i hi8).mpr h2
        refine ev_iload_n (pc := 21) dX3_heldBy_21 rfl rfl ?_
        refine ev_sipush (pc := 22) (v := 800) dX3_heldBy_22 (by decide) ?_
        refine ev_ic_ge (pc := 25) (tgt := 61) dX3_heldBy_25 (by decide) (fun c_25 => absurd c_25 (hp8 hi8)) (fun _ => ?_)
        refine ev_aload_n (pc := 28) dX3_heldBy_28 rfl rfl ?_
        refine ev_get (pc := 29) dX3_heldBy_29 fd_X3_12 rfl rfl ?_
        refine ev_get (pc := 32) dX3_heldBy_32 fd_X3_47 rfl rfl ?_
        refine ev_iload_n (pc := 35) dX3_heldBy_35 rfl rfl ?_
        refine ev_zaldN (pc := 36) dX3_heldBy_36 rfl ⟨rfl, hi8, by decide⟩ rfl ?_
        refine ev_if_eq (pc := 37) (tgt := 55) dX3_heldBy_37 (by decide) (fun c_37 => absurd c_37 h1) (fun _ => ?_)
        refine ev_aload_n (pc := 40) dX3_heldBy_40 rfl rfl ?_
        refine ev_get (pc := 41) dX3_heldBy_41 fd_X3_12 rfl rfl ?_
        refine ev_get (pc := 44) dX3_heldBy_44 fd_X3_121 rfl rfl ?_
        refine ev_iload_n (pc := 47) dX3_heldBy_47 rfl rfl ?_
        refine ev_zaldN (pc := 48) dX3_heldBy_48 rfl ⟨rfl, hi8, by decide⟩ rfl ?_
        refine ev_if_ne (pc := 49) (tgt := 55) dX3_heldBy_49 (by decide) (fun _ => ?_) (fun c_49 => absurd c_49 h3)
        refine ev_iinc (pc := 55) dX3_heldBy_55 rfl rfl rfl ?_
        refine ev_goto (pc := 58) (tgt := 21) dX3_heldBy_58 (by decide) ?_
        rw [nI_i1]
        exact ih (i + 1) s (by omega) (cntR_s0 hs (fun h => h.2 h2))
      · have h3 : mk i = 0 := by
          by_cases h4 : mk i = 0
          · exact h4
          · exact absurd ((hm i hi8).mp h4) h2
        refine ev_iload_n (pc := 21) dX3_heldBy_21 rfl rfl ?_
        refine ev_sipush (pc := 22) (v := 800) dX3_heldBy_22 (by decide) ?_
        refine ev_ic_ge (pc := 25) (tgt := 61) dX3_heldBy_25 (by decide) (fun c_25 => absurd c_25 (hp8 hi8)) (fun _ => ?_)
        refine ev_aload_n (pc := 28) dX3_heldBy_28 rfl rfl ?_
        refine ev_get (pc := 29) dX3_heldBy_29 fd_X3_12 rfl rfl ?_
        refine ev_get (pc := 32) dX3_heldBy_32 fd_X3_47 rfl rfl ?_
        refine ev_iload_n (pc := 35) dX3_heldBy_35 rfl rfl ?_
        refine ev_zaldN (pc := 36) dX3_heldBy_36 rfl ⟨rfl, hi8, by decide⟩ rfl ?_
        refine ev_if_eq (pc := 37) (tgt := 55) dX3_heldBy_37 (by decide) (fun c_37 => absurd c_37 h1) (fun _ => ?_)
        refine ev_aload_n (pc := 40) dX3_heldBy_40 rfl rfl ?_
        refine ev_get (pc := 41) dX3_heldBy_41 fd_X3_12 rfl rfl ?_
        refine ev_get (pc := 44) dX3_heldBy_44 fd_X3_121 rfl rfl ?_
        refine ev_iload_n (pc := 47) dX3_heldBy_47 rfl rfl ?_
        refine ev_zaldN (pc := 48) dX3_heldBy_48 rfl ⟨rfl, hi8, by decide⟩ rfl ?_
        refine ev_if_ne (pc := 49) (tgt := 55) dX3_heldBy_49 (by decide) (fun c_49 => absurd h3 c_49) (fun _ => ?_)
        refine ev_iinc (pc := 52) dX3_heldBy_52 rfl rfl rfl ?_
        refine ev_iinc (pc := 55) dX3_heldBy_55 rfl rfl rfl ?_
        refine ev_goto (pc := 58) (tgt := 21) dX3_heldBy_58 (by decide) ?_
        rw [nI_i1, nI_i1]
        exact ih (i + 1) (s + 1) (by omega) (cntR_s1 hs ⟨h, h2⟩)
    · have h1 : kp i = 0 := by
        by_cases h4 : kp i = 0
        · exact h4
        · exact absurd ((hk i hi8).mp h4) h
      refine ev_iload_n (pc := 21) dX3_heldBy_21 rfl rfl ?_
      refine ev_sipush (pc := 22) (v := 800) dX3_heldBy_22 (by decide) ?_
      refine ev_ic_ge (pc := 25) (tgt := 61) dX3_heldBy_25 (by decide) (fun c_25 => absurd c_25 (hp8 hi8)) (fun _ => ?_)
      refine ev_aload_n (pc := 28) dX3_heldBy_28 rfl rfl ?_
      refine ev_get (pc := 29) dX3_heldBy_29 fd_X3_12 rfl rfl ?_
      refine ev_get (pc := 32) dX3_heldBy_32 fd_X3_47 rfl rfl ?_
      refine ev_iload_n (pc := 35) dX3_heldBy_35 rfl rfl ?_
      refine ev_zaldN (pc := 36) dX3_heldBy_36 rfl ⟨rfl, hi8, by decide⟩ rfl ?_
      refine ev_if_eq (pc := 37) (tgt := 55) dX3_heldBy_37 (by decide) (fun _ => ?_) (fun c_37 => absurd h1 c_37)
      refine ev_iinc (pc := 55) dX3_heldBy_55 rfl rfl rfl ?_
      refine ev_goto (pc := 58) (tgt := 21) dX3_heldBy_58 (by decide) ?_
      rw [nI_i1]
      exact ih (i + 1) s (by omega) (cntR_s0 hs (fun h9 => h h9.1))
theorem s_heldBy {sl : Int32} {cu ba r0 r1 r2 r3 : Q4} {sw : Nat → Int64} {bt : Int32} {cnt inn lk wd kp wr mk ls pth tk : Nat → Int32} {tl : List mC} (hR : Rp cnt inn lk wd T U) (hk : kS kp K) {oc : Int32} (hRD : RD r0 r1 r2 r3 rd) (hSL : SLR sw so) {j : Nat} {x : RS3} (hj : j < 4) (hx : rd j = some x) (hok : ∀ r ∈ rts c so (rdW rd (nI j)), okR T U r) {n : Nat} (hn : cntR (fun q => K q ∧ ¬ RS T (rts c so (rdW rd (nI j))) q) 800 n) : ∃ mk' ls', EvS m_X3_heldBy [.ref 0, .int (nI j)] (cW sl (nI c.1, nI c.2.1, nI c.2.2, oc) ba r0 r1 r2 r3 sw bt cnt inn lk wd kp wr mk ls pth tk tl) (.inl (some (.int (nI n)))) (cW sl (nI c.1, nI c.2.1, nI c.2.2, oc) ba r0 r1 r2 r3 sw bt cnt inn lk wd kp wr mk' ls' pth tk tl) := by
  obtain ⟨k1, l1, hS1, e1⟩ := s_keepM (sl := sl) (cu := (nI c.1, nI c.2.1, nI c.2.2, oc)) (ba := ba) (r0 := r0) (r1 := r1) (r2 := r2) (r3 := r3) (sw := sw) (bt := bt) (cnt := cnt) (inn := inn) (lk := lk) (wd := wd) (kp := kp) (wr := wr) (mk := mk) (ls := ls) (pth := pth) (tk := tk) (tl := tl) hR (c := c) rfl hRD hSL (wo := nI j) hok
  have e2 := l_heldBy (sl := sl) (cu := (nI c.1, nI c.2.1, nI c.2.2, oc)) (ba := ba) (r0 := r0) (r1 := r1) (r2 := r2) (r3 := r3) (sw := sw) (bt := bt) (cnt := cnt) (inn := inn) (lk := lk) (wd := wd) (kp := kp) (wr := wr) (mk := k1) (ls := l1) (pth := pth) (tk := tk) (tl := tl) hk hS1 hn (nI j) 800 0 0 rfl rfl
  refine ⟨k1, l1, ?_⟩
  refine evs_of (by decide +kernel) (Nat.le_of_ble_eq_true rfl) (by decide) rfl ?_
  refine ev_aload_n (pc := 0) dX3_heldBy_0 rfl rfl ?_
  refine ev_iload_n (pc := 1) dX3_heldBy_1 rfl rfl ?_
  refine cV1 (pc := 2) lk_X3_heldBy_2 rfl rfl rfl (Nat.le_of_ble_eq_true rfl) ⟨Nat.le_of_ble_eq_true rfl, Nat.le_of_ble_eq_true rfl⟩ (s_reqReader hRD hj hx) ?_
  refine ev_aload_n (pc := 5) dX3_heldBy_5 rfl rfl ?_
  refine ev_aload_n (pc := 6) dX3_heldBy_6 rfl rfl ?_
  refine ev_get (pc := 7) dX3_heldBy_7 fd_X3_12 rfl rfl ?_
  refine ev_get (pc := 10) dX3_heldBy_10 fd_X3_121 rfl rfl ?_
  refine ev_iload_n (pc := 13) dX3_heldBy_13 rfl rfl ?_
  refine cV2 (pc := 14) lk_X3_heldBy_14 rfl rfl rfl (Nat.le_of_ble_eq_true rfl) ⟨Nat.le_of_ble_eq_true rfl, Nat.le_of_ble_eq_true rfl⟩ e1 ?_
  refine ev_iconst (pc := 17) (v := 0) dX3_heldBy_17 (by decide) ?_
  refine ev_istore_n (pc := 18) dX3_heldBy_18 rfl rfl rfl ?_
  refine ev_iconst (pc := 19) (v := 0) dX3_heldBy_19 (by decide) ?_
  refine ev_istore_n (pc := 20) dX3_heldBy_20 rfl rfl rfl ?_
  exact e2
/-! slots -/
theorem s_curSlot {sl : Int32} {cu ba r0 r1 r2 r3 : Q4} {sw : Nat → Int64} {bt : Int32} {cnt inn lk wd kp wr mk ls pth tk : Nat → Int32} {tl : List mC} : EvS m_X3_currentSlot [.ref 0] (cW sl cu ba r0 r1 r2 r3 sw bt cnt inn lk wd kp wr mk ls pth tk tl) (.inl (some (.int sl))) (cW sl cu ba r0 r1 r2 r3 sw bt cnt inn lk wd kp wr mk ls pth tk tl) := by
  refine evs_of (by decide +kernel) (Nat.le_of_ble_eq_true rfl) (by decide) rfl ?_
  refine ev_aload_n (pc := 0) dX3_currentSlot_0 rfl rfl ?_
  refine ev_get (pc := 1) dX3_currentSlot_1 fd_X3_43 rfl rfl ?_
  exact ev_iretE (pc := 4) dX3_currentSlot_4 rfl ⟨Nat.le_of_ble_eq_true rfl, Nat.le_of_ble_eq_true rfl⟩ rfl rfl
theorem s_slotWord {sl : Int32} {cu ba r0 r1 r2 r3 : Q4} {sw : Nat → Int64} {bt : Int32} {cnt inn lk wd kp wr mk ls pth tk : Nat → Int32} {tl : List mC} {s j : Nat} (hs : s < 2) (hj : j < 4) : EvS m_X3_slotWord [.ref 0, .int (nI s), .int (nI j)] (cW sl cu ba r0 r1 r2 r3 sw bt cnt inn lk wd kp wr mk ls pth tk tl) (.inl (some (.long (sw (4 * s + j))))) (cW sl cu ba r0 r1 r2 r3 sw bt cnt inn lk wd kp wr mk ls pth tk tl) := by
  refine evs_of (by decide +kernel) (Nat.le_of_ble_eq_true rfl) (by decide) rfl ?_
  refine ev_iload_n (pc := 0) dX3_slotWord_0 rfl rfl ?_
  refine cS1 (pc := 1) lk_X3_slotWord_1 (Nat.le_of_ble_eq_true rfl) ⟨Nat.le_of_ble_eq_true rfl, Nat.le_of_ble_eq_true rfl⟩ (s_reqSlot hs) ?_
  refine ev_iload_n (pc := 4) dX3_slotWord_4 rfl rfl ?_
  refine ev_if_lt (pc := 5) (tgt := 13) dX3_slotWord_5 (by decide) (fun c_5 => absurd c_5 (nI_pos (show j < 2147483648 by omega))) (fun _ => ?_)
  refine ev_iload_n (pc := 8) dX3_slotWord_8 rfl rfl ?_
  refine ev_iconst (pc := 9) (v := 4) dX3_slotWord_9 (by decide) ?_
  refine ev_ic_lt (pc := 10) (tgt := 23) dX3_slotWord_10 (by decide) (fun _ => ?_) (fun c_10 => absurd (by exact nI_lt hj (by decide)) c_10)
  refine ev_aload_n (pc := 23) dX3_slotWord_23 rfl rfl ?_
  refine ev_iload_n (pc := 24) dX3_slotWord_24 rfl rfl ?_
  refine ev_iload_n (pc := 25) dX3_slotWord_25 rfl rfl ?_
  refine cV2 (pc := 26) lk_X3_slotWord_26 rfl rfl rfl (Nat.le_of_ble_eq_true rfl) ⟨Nat.le_of_ble_eq_true rfl, Nat.le_of_ble_eq_true rfl⟩ (s_wordIn hs hj rfl) ?_
  exact ev_lretE (pc := 29) dX3_slotWord_29 rfl ⟨Nat.le_of_ble_eq_true rfl, Nat.le_of_ble_eq_true rfl⟩ rfl rfl
theorem s_slotWordT1 {sl : Int32} {cu ba r0 r1 r2 r3 : Q4} {sw : Nat → Int64} {bt : Int32} {cnt inn lk wd kp wr mk ls pth tk : Nat → Int32} {tl : List mC} {i a : Int32} (h : i < 0 ∨ (2 : Int32) ≤ i) : EvS m_X3_slotWord [.ref 0, .int i, .int a] (cW sl cu ba r0 r1 r2 r3 sw bt cnt inn lk wd kp wr mk ls pth tk tl) (.inr xIB) (cW sl cu ba r0 r1 r2 r3 sw bt cnt inn lk wd kp wr mk ls pth tk tl) := by
  refine evs_of (by decide +kernel) (Nat.le_of_ble_eq_true rfl) (by decide) rfl ?_
  refine ev_iload_n (pc := 0) dX3_slotWord_0 rfl rfl ?_
  exact tS1 (pc := 1) lk_X3_slotWord_1 rfl (Nat.le_of_ble_eq_true rfl) ⟨Nat.le_of_ble_eq_true rfl, Nat.le_of_ble_eq_true rfl⟩ (s_reqSlotT h)
theorem s_slotWordT2 {sl : Int32} {cu ba r0 r1 r2 r3 : Q4} {sw : Nat → Int64} {bt : Int32} {cnt inn lk wd kp wr mk ls pth tk : Nat → Int32} {tl : List mC} {s : Nat} {a : Int32} (hs : s < 2) (h : a < 0 ∨ (4 : Int32) ≤ a) : EvS m_X3_slotWord [.ref 0, .int (nI s), .int a] (cW sl cu ba r0 r1 r2 r3 sw bt cnt inn lk wd kp wr mk ls pth tk tl) (.inr xIB) (cW sl cu ba r0 r1 r2 r3 sw bt cnt inn lk wd kp wr mk ls pth tk tl) := by
  by_cases h0 : a < 0
  · refine evs_of (by decide +kernel) (Nat.le_of_ble_eq_true rfl) (by decide) rfl ?_
    refine ev_iload_n (pc := 0) dX3_slotWord_0 rfl rfl ?_
    refine cS1 (pc := 1) lk_X3_slotWord_1 (Nat.le_of_ble_eq_true rfl) ⟨Nat.le_of_ble_eq_true rfl, Nat.le_of_ble_eq_true rfl⟩ (s_reqSlot hs) ?_
    refine ev_iload_n (pc := 4) dX3_slotWord_4 rfl rfl ?_
    refine ev_if_lt (pc := 5) (tgt := 13) dX3_slotWord_5 (by decide) (fun _ => ?_) (fun c_5 => absurd h0 c_5)
    exact ev_throw th_X3_180 dX3_slotWord_13 dX3_slotWord_16 dX3_slotWord_17 dX3_slotWord_19 dX3_slotWord_22 rfl (Nat.le_of_ble_eq_true rfl) (Nat.le_of_ble_eq_true rfl) (Nat.le_of_ble_eq_true rfl) (Nat.le_of_ble_eq_true rfl)
  · have h1 := h.resolve_left h0
    refine evs_of (by decide +kernel) (Nat.le_of_ble_eq_true rfl) (by decide) rfl ?_
    refine ev_iload_n (pc := 0) dX3_slotWord_0 rfl rfl ?_
    refine cS1 (pc := 1) lk_X3_slotWord_1 (Nat.le_of_ble_eq_true rfl) ⟨Nat.le_of_ble_eq_true rfl, Nat.le_of_ble_eq_true rfl⟩ (s_reqSlot hs) ?_
    refine ev_iload_n (pc := 4) dX3_slotWord_4 rfl rfl ?_
    refine ev_if_lt (pc := 5) (tgt := 13) dX3_slotWord_5 (by decide) (fun c_5 => absurd c_5 h0) (fun _ => ?_)
    refine ev_iload_n (pc := 8) dX3_slotWord_8 rfl rfl ?_
    refine ev_iconst (pc := 9) (v := 4) dX3_slotWord_9 (by decide) ?_
    refine ev_ic_lt (pc := 10) (tgt := 23) dX3_slotWord_10 (by decide) (fun c_10 => absurd c_10 (Int32.not_lt.mpr h1)) (fun _ => ?_)
    exact ev_throw th_X3_180 dX3_slotWord_13 dX3_slotWord_16 dX3_slotWord_17 dX3_slotWord_19 dX3_slotWord_22 rfl (Nat.le_of_ble_eq_true rfl) (Nat.le_of_ble_eq_true rfl) (Nat.le_of_ble_eq_true rfl) (Nat.le_of_ble_eq_true rfl)
theorem s_isWholeT {sl : Int32} {cu ba r0 r1 r2 r3 : Q4} {sw : Nat → Int64} {bt : Int32} {cnt inn lk wd kp wr mk ls pth tk : Nat → Int32} {tl : List mC} {i : Int32} (h : i < 0 ∨ (2 : Int32) ≤ i) : EvS m_X3_isWhole [.ref 0, .int i] (cW sl cu ba r0 r1 r2 r3 sw bt cnt inn lk wd kp wr mk ls pth tk tl) (.inr xIB) (cW sl cu ba r0 r1 r2 r3 sw bt cnt inn lk wd kp wr mk ls pth tk tl) := by
  refine evs_of (by decide +kernel) (Nat.le_of_ble_eq_true rfl) (by decide) rfl ?_
  refine ev_iload_n (pc := 0) dX3_isWhole_0 rfl rfl ?_
  exact tS1 (pc := 1) lk_X3_isWhole_1 rfl (Nat.le_of_ble_eq_true rfl) ⟨Nat.le_of_ble_eq_true rfl, Nat.le_of_ble_eq_true rfl⟩ (s_reqSlotT h)
theorem s_isWhole1 {sl : Int32} {cu ba r0 r1 r2 r3 : Q4} {sw : Nat → Int64} {bt : Int32} {cnt inn lk wd kp wr mk ls pth tk : Nat → Int32} {tl : List mC} {s : Nat} (hs : s < 2) (h : whl sw s) : EvS m_X3_isWhole [.ref 0, .int (nI s)] (cW sl cu ba r0 r1 r2 r3 sw bt cnt inn lk wd kp wr mk ls pth tk tl) (.inl (some (.int 1))) (cW sl cu ba r0 r1 r2 r3 sw bt cnt inn lk wd kp wr mk ls pth tk tl) := by
  refine evs_of (by decide +kernel) (Nat.le_of_ble_eq_true rfl) (by decide) rfl ?_
  refine ev_iload_n (pc := 0) dX3_isWhole_0 rfl rfl ?_
  refine cS1 (pc := 1) lk_X3_isWhole_1 (Nat.le_of_ble_eq_true rfl) ⟨Nat.le_of_ble_eq_true rfl, Nat.le_of_ble_eq_true rfl⟩ (s_reqSlot hs) ?_
  refine ev_aload_n (pc := 4) dX3_isWhole_4 rfl rfl ?_
  refine ev_iload_n (pc := 5) dX3_isWhole_5 rfl rfl ?_
  refine cV1 (pc := 6) lk_X3_isWhole_6 rfl rfl rfl (Nat.le_of_ble_eq_true rfl) ⟨Nat.le_of_ble_eq_true rfl, Nat.le_of_ble_eq_true rfl⟩ (s_sumsUp1 hs h) ?_
  exact ev_zretE (pc := 9) dX3_isWhole_9 rfl ⟨Nat.le_of_ble_eq_true rfl, Nat.le_of_ble_eq_true rfl⟩ (by first | exact Or.inl rfl | exact Or.inr rfl | assumption | exact i10_o) rfl rfl
theorem s_isWhole0 {sl : Int32} {cu ba r0 r1 r2 r3 : Q4} {sw : Nat → Int64} {bt : Int32} {cnt inn lk wd kp wr mk ls pth tk : Nat → Int32} {tl : List mC} {s : Nat} (hs : s < 2) (h : ¬ whl sw s) : EvS m_X3_isWhole [.ref 0, .int (nI s)] (cW sl cu ba r0 r1 r2 r3 sw bt cnt inn lk wd kp wr mk ls pth tk tl) (.inl (some (.int 0))) (cW sl cu ba r0 r1 r2 r3 sw bt cnt inn lk wd kp wr mk ls pth tk tl) := by
  refine evs_of (by decide +kernel) (Nat.le_of_ble_eq_true rfl) (by decide) rfl ?_
  refine ev_iload_n (pc := 0) dX3_isWhole_0 rfl rfl ?_
  refine cS1 (pc := 1) lk_X3_isWhole_1 (Nat.le_of_ble_eq_true rfl) ⟨Nat.le_of_ble_eq_true rfl, Nat.le_of_ble_eq_true rfl⟩ (s_reqSlot hs) ?_
  refine ev_aload_n (pc := 4) dX3_isWhole_4 rfl rfl ?_
  refine ev_iload_n (pc := 5) dX3_isWhole_5 rfl rfl ?_
  refine cV1 (pc := 6) lk_X3_isWhole_6 rfl rfl rfl (Nat.le_of_ble_eq_true rfl) ⟨Nat.le_of_ble_eq_true rfl, Nat.le_of_ble_eq_true rfl⟩ (s_sumsUp0 hs h) ?_
  exact ev_zretE (pc := 9) dX3_isWhole_9 rfl ⟨Nat.le_of_ble_eq_true rfl, Nat.le_of_ble_eq_true rfl⟩ (by first | exact Or.inl rfl | exact Or.inr rfl | assumption | exact i10_o) rfl rfl
theorem s_tearT1 {sl : Int32} {cu ba r0 r1 r2 r3 : Q4} {sw : Nat → Int64} {bt : Int32} {cnt inn lk wd kp wr mk ls pth tk : Nat → Int32} {tl : List mC} {i : Int32} (h : i < 0 ∨ (2 : Int32) ≤ i) : EvS m_X3_tear [.ref 0, .int i] (cW sl cu ba r0 r1 r2 r3 sw bt cnt inn lk wd kp wr mk ls pth tk tl) (.inr xIB) (cW sl cu ba r0 r1 r2 r3 sw bt cnt inn lk wd kp wr mk ls pth tk tl) := by
  refine evs_of (by decide +kernel) (Nat.le_of_ble_eq_true rfl) (by decide) rfl ?_
  refine ev_iload_n (pc := 0) dX3_tear_0 rfl rfl ?_
  exact tS1 (pc := 1) lk_X3_tear_1 rfl (Nat.le_of_ble_eq_true rfl) ⟨Nat.le_of_ble_eq_true rfl, Nat.le_of_ble_eq_true rfl⟩ (s_reqSlotT h)
theorem s_tearT2 {sl : Int32} {cu ba r0 r1 r2 r3 : Q4} {sw : Nat → Int64} {bt : Int32} {cnt inn lk wd kp wr mk ls pth tk : Nat → Int32} {tl : List mC} {s : Nat} (hs : s < 2) (h : ¬ whl sw (1 - s)) : EvS m_X3_tear [.ref 0, .int (nI s)] (cW sl cu ba r0 r1 r2 r3 sw bt cnt inn lk wd kp wr mk ls pth tk tl) (.inr xIS) (cW sl cu ba r0 r1 r2 r3 sw bt cnt inn lk wd kp wr mk ls pth tk tl) := by
  refine evs_of (by decide +kernel) (Nat.le_of_ble_eq_true rfl) (by decide) rfl ?_
  refine ev_iload_n (pc := 0) dX3_tear_0 rfl rfl ?_
  refine cS1 (pc := 1) lk_X3_tear_1 (Nat.le_of_ble_eq_true rfl) ⟨Nat.le_of_ble_eq_true rfl, Nat.le_of_ble_eq_true rfl⟩ (s_reqSlot hs) ?_
  refine ev_aload_n (pc := 4) dX3_tear_4 rfl rfl ?_
  refine ev_iload_n (pc := 5) dX3_tear_5 rfl rfl ?_
  refine cS1 (pc := 6) lk_X3_tear_6 (Nat.le_of_ble_eq_true rfl) ⟨Nat.le_of_ble_eq_true rfl, Nat.le_of_ble_eq_true rfl⟩ (s_other hs) ?_
  refine cV1 (pc := 9) lk_X3_tear_9 rfl rfl rfl (Nat.le_of_ble_eq_true rfl) ⟨Nat.le_of_ble_eq_true rfl, Nat.le_of_ble_eq_true rfl⟩ (s_sumsUp0 (show 1 - s < 2 by omega) h) ?_
  refine ev_if_ne (pc := 12) (tgt := 25) dX3_tear_12 (by decide) (fun c_12 => absurd rfl c_12) (fun _ => ?_)
  exact ev_throw th_X3_189 dX3_tear_15 dX3_tear_18 dX3_tear_19 dX3_tear_21 dX3_tear_24 rfl (Nat.le_of_ble_eq_true rfl) (Nat.le_of_ble_eq_true rfl) (Nat.le_of_ble_eq_true rfl) (Nat.le_of_ble_eq_true rfl)
theorem s_tear {sl : Int32} {cu ba r0 r1 r2 r3 : Q4} {sw : Nat → Int64} {bt : Int32} {cnt inn lk wd kp wr mk ls pth tk : Nat → Int32} {tl : List mC} (hC : CR K W T cnt inn lk wd kp wr) {oc : Int32} {s : Nat} (hs : s < 2) (h : whl sw (1 - s)) (hRD : RD r0 r1 r2 r3 rd) (hSL : SLR (vp_updL sw (4 * s + 3) (-1)) so) (hok : ∀ r ∈ rts c so rd, okR T (fun q => K q ∨ W q) r) {n1 n2 : Nat} (h1 : cntR (fun q => K q ∨ W q) 800 n1) (h2 : cntR (fun q => RS T (rts c so rd) q ∨ W q) 800 n2) : ∃ kp' ls', kS kp' (RS T (rts c so rd)) ∧ EvS m_X3_tear [.ref 0, .int (nI s)] (cW sl (nI c.1, nI c.2.1, nI c.2.2, oc) ba r0 r1 r2 r3 sw bt cnt inn lk wd kp wr mk ls pth tk tl) (.inl (some (.int (nI n1 - nI n2)))) (cW sl (nI c.1, nI c.2.1, nI c.2.2, oc) ba r0 r1 r2 r3 (vp_updL sw (4 * s + 3) (-1)) bt cnt inn lk wd kp' wr mk ls' pth tk tl) := by
  obtain ⟨k1, l1, hS1, e1⟩ := s_keepK (sl := sl) (cu := (nI c.1, nI c.2.1, nI c.2.2, oc)) (ba := ba) (r0 := r0) (r1 := r1) (r2 := r2) (r3 := r3) (sw := (vp_updL sw (4 * s + 3) (-1))) (bt := bt) (cnt := cnt) (inn := inn) (lk := lk) (wd := wd) (kp := kp) (wr := wr) (mk := mk) (ls := ls) (pth := pth) (tk := tk) (tl := tl) hC.1 (c := c) rfl hRD hSL (wo := -1) (by rw [rts_no]; exact hok)
  rw [rts_no] at hS1
  refine ⟨k1, l1, hS1, ?_⟩
  refine evs_of (by decide +kernel) (Nat.le_of_ble_eq_true rfl) (by decide) rfl ?_
  refine ev_iload_n (pc := 0) dX3_tear_0 rfl rfl ?_
  refine cS1 (pc := 1) lk_X3_tear_1 (Nat.le_of_ble_eq_true rfl) ⟨Nat.le_of_ble_eq_true rfl, Nat.le_of_ble_eq_true rfl⟩ (s_reqSlot hs) ?_
  refine ev_aload_n (pc := 4) dX3_tear_4 rfl rfl ?_
  refine ev_iload_n (pc := 5) dX3_tear_5 rfl rfl ?_
  refine cS1 (pc := 6) lk_X3_tear_6 (Nat.le_of_ble_eq_true rfl) ⟨Nat.le_of_ble_eq_true rfl, Nat.le_of_ble_eq_true rfl⟩ (s_other hs) ?_
  refine cV1 (pc := 9) lk_X3_tear_9 rfl rfl rfl (Nat.le_of_ble_eq_true rfl) ⟨Nat.le_of_ble_eq_true rfl, Nat.le_of_ble_eq_true rfl⟩ (s_sumsUp1 (show 1 - s < 2 by omega) h) ?_
  refine ev_if_ne (pc := 12) (tgt := 25) dX3_tear_12 (by decide) (fun _ => ?_) (fun c_12 => absurd c_12 (by decide))
  refine ev_aload_n (pc := 25) dX3_tear_25 rfl rfl ?_
  refine cV0 (pc := 26) lk_X3_tear_26 rfl rfl rfl (Nat.le_of_ble_eq_true rfl) ⟨Nat.le_of_ble_eq_true rfl, Nat.le_of_ble_eq_true rfl⟩ (s_inUse (sl := sl) (cu := (nI c.1, nI c.2.1, nI c.2.2, oc)) (ba := ba) (r0 := r0) (r1 := r1) (r2 := r2) (r3 := r3) (sw := sw) (bt := bt) (cnt := cnt) (inn := inn) (lk := lk) (wd := wd) (kp := kp) (wr := wr) (mk := mk) (ls := ls) (pth := pth) (tk := tk) (tl := tl) hC.2.1 hC.2.2 h1) ?_
  refine ev_istore_n (pc := 29) dX3_tear_29 rfl rfl rfl ?_
  refine ev_aload_n (pc := 30) dX3_tear_30 rfl rfl ?_
  refine ev_get (pc := 31) dX3_tear_31 fd_X3_39 rfl rfl ?_
  refine ev_iload_n (pc := 34) dX3_tear_34 rfl rfl ?_
  refine ev_iconst (pc := 35) (v := 4) dX3_tear_35 (by decide) ?_
  refine ev_imul (pc := 36) dX3_tear_36 ?_
  refine ev_iconst (pc := 37) (v := 3) dX3_tear_37 (by decide) ?_
  refine ev_iadd (pc := 38) dX3_tear_38 ?_
  refine ev_ldc2 (pc := 39) dX3_tear_39 kl_X3_191 ?_
  refine ev_lastN (pc := 42) dX3_tear_42 rfl ⟨(ix4 s 3), by omega, by decide⟩ rfl rfl ?_
  refine ev_aload_n (pc := 43) dX3_tear_43 rfl rfl ?_
  refine ev_aload_n (pc := 44) dX3_tear_44 rfl rfl ?_
  refine ev_get (pc := 45) dX3_tear_45 fd_X3_12 rfl rfl ?_
  refine ev_get (pc := 48) dX3_tear_48 fd_X3_47 rfl rfl ?_
  refine ev_iconst (pc := 51) (v := (-1)) dX3_tear_51 (by decide) ?_
  refine cV2 (pc := 52) lk_X3_tear_52 rfl rfl rfl (Nat.le_of_ble_eq_true rfl) ⟨Nat.le_of_ble_eq_true rfl, Nat.le_of_ble_eq_true rfl⟩ e1 ?_
  refine ev_iload_n (pc := 55) dX3_tear_55 rfl rfl ?_
  refine ev_aload_n (pc := 56) dX3_tear_56 rfl rfl ?_
  refine cV0 (pc := 57) lk_X3_tear_57 rfl rfl rfl (Nat.le_of_ble_eq_true rfl) ⟨Nat.le_of_ble_eq_true rfl, Nat.le_of_ble_eq_true rfl⟩ (s_inUse (sl := sl) (cu := (nI c.1, nI c.2.1, nI c.2.2, oc)) (ba := ba) (r0 := r0) (r1 := r1) (r2 := r2) (r3 := r3) (sw := (vp_updL sw (4 * s + 3) (-1))) (bt := bt) (cnt := cnt) (inn := inn) (lk := lk) (wd := wd) (kp := k1) (wr := wr) (mk := mk) (ls := l1) (pth := pth) (tk := tk) (tl := tl) hS1 hC.2.2 h2) ?_
  refine ev_isub (pc := 60) dX3_tear_60 ?_
  exact ev_iretE (pc := 61) dX3_tear_61 rfl ⟨Nat.le_of_ble_eq_true rfl, Nat.le_of_ble_eq_true rfl⟩ rfl rfl
/-- the latest whole slot -/
def lat (so : Nat → Option RS3) (s : Nat) : Prop := (so 0 = none ∧ s = 1) ∨ (∃ x0, so 0 = some x0 ∧ ((∃ x1, so 1 = some x1 ∧ x0.1 < x1.1 ∧ s = 1) ∨ ((so 1 = none ∨ ∃ x1, so 1 = some x1 ∧ x1.1 ≤ x0.1) ∧ s = 0)))
theorem lat_ex (so : Nat → Option RS3) : ∃ s, s < 2 ∧ lat so s := by
  cases h0 : so 0 with
  | none => exact ⟨1, by decide, Or.inl ⟨h0, rfl⟩⟩
  | some x0 =>
    cases h1 : so 1 with
    | none => exact ⟨0, by decide, Or.inr ⟨x0, h0, Or.inr ⟨Or.inl h1, rfl⟩⟩⟩
    | some x1 =>
      rcases Nat.lt_or_ge x0.1 x1.1 with h | h
      · exact ⟨1, by decide, Or.inr ⟨x0, h0, Or.inl ⟨x1, h1, h, rfl⟩⟩⟩
      · exact ⟨0, by decide, Or.inr ⟨x0, h0, Or.inr ⟨Or.inr ⟨x1, h1, h⟩, rfl⟩⟩⟩
theorem l64_le {a b : Nat} (ha : a < 2147483648) (hb : b < 2147483648) : (nI a).toInt64 ≤ (nI b).toInt64 ↔ a ≤ b := by
  rw [Int64.le_iff_toInt_le, Int32.toInt_toInt64, Int32.toInt_toInt64, nI_toInt ha, nI_toInt hb]
  exact Int.ofNat_le
theorem s_latest {sl : Int32} {cu ba r0 r1 r2 r3 : Q4} {sw : Nat → Int64} {bt : Int32} {cnt inn lk wd kp wr mk ls pth tk : Nat → Int32} {tl : List mC} (hSL : SLR sw so) (hb : ∀ s x, s < 2 → so s = some x → x.1 < 2147483648) {s : Nat} (h : lat so s) : EvS m_X3_latestWholeSlot [.ref 0] (cW sl cu ba r0 r1 r2 r3 sw bt cnt inn lk wd kp wr mk ls pth tk tl) (.inl (some (.int (nI s)))) (cW sl cu ba r0 r1 r2 r3 sw bt cnt inn lk wd kp wr mk ls pth tk tl) := by
  rcases h with ⟨h0, rfl⟩ | ⟨x0, h0, ⟨x1, h1, hlt, rfl⟩ | ⟨h1 | ⟨x1, h1, hle⟩, rfl⟩⟩
  · have g := hSL 0 (by decide)
    rw [h0] at g
    refine evs_of (by decide +kernel) (Nat.le_of_ble_eq_true rfl) (by decide) rfl ?_
    refine ev_aload_n (pc := 0) dX3_latestWholeSlot_0 rfl rfl ?_
    refine ev_iconst (pc := 1) (v := 0) dX3_latestWholeSlot_1 (by decide) ?_
    refine cV1 (pc := 2) lk_X3_latestWholeSlot_2 rfl rfl rfl (Nat.le_of_ble_eq_true rfl) ⟨Nat.le_of_ble_eq_true rfl, Nat.le_of_ble_eq_true rfl⟩ (s_sumsUp0 (s := 0) (by decide) g) ?_
    refine ev_if_ne (pc := 5) (tgt := 10) dX3_latestWholeSlot_5 (by decide) (fun c_5 => absurd rfl c_5) (fun _ => ?_)
    refine ev_iconst (pc := 8) (v := 1) dX3_latestWholeSlot_8 (by decide) ?_
    exact ev_iretE (pc := 9) dX3_latestWholeSlot_9 rfl ⟨Nat.le_of_ble_eq_true rfl, Nat.le_of_ble_eq_true rfl⟩ rfl rfl
  · have g := hSL 0 (by decide)
    have g1 := hSL 1 (by decide)
    rw [h0] at g
    rw [h1] at g1
    have b0 := hb 0 x0 (by decide) h0
    have b1 := hb 1 x1 (by decide) h1
    refine evs_of (by decide +kernel) (Nat.le_of_ble_eq_true rfl) (by decide) rfl ?_
    refine ev_aload_n (pc := 0) dX3_latestWholeSlot_0 rfl rfl ?_
    refine ev_iconst (pc := 1) (v := 0) dX3_latestWholeSlot_1 (by decide) ?_
    refine cV1 (pc := 2) lk_X3_latestWholeSlot_2 rfl rfl rfl (Nat.le_of_ble_eq_true rfl) ⟨Nat.le_of_ble_eq_true rfl, Nat.le_of_ble_eq_true rfl⟩ (s_sumsUp1 (s := 0) (by decide) g.1) ?_
    refine ev_if_ne (pc := 5) (tgt := 10) dX3_latestWholeSlot_5 (by decide) (fun _ => ?_) (fun c_5 => absurd c_5 (by decide))
    refine ev_aload_n (pc := 10) dX3_latestWholeSlot_10 rfl rfl ?_
    refine ev_iconst (pc := 11) (v := 1) dX3_latestWholeSlot_11 (by decide) ?_
    refine cV1 (pc := 12) lk_X3_latestWholeSlot_12 rfl rfl rfl (Nat.le_of_ble_eq_true rfl) ⟨Nat.le_of_ble_eq_true rfl, Nat.le_of_ble_eq_true rfl⟩ (s_sumsUp1 (s := 1) (by decide) g1.1) ?_
    refine ev_if_eq (pc := 15) (tgt := 38) dX3_latestWholeSlot_15 (by decide) (fun c_15 => absurd c_15 (by decide)) (fun _ => ?_)
    refine ev_aload_n (pc := 18) dX3_latestWholeSlot_18 rfl rfl ?_
    refine ev_iconst (pc := 19) (v := 1) dX3_latestWholeSlot_19 (by decide) ?_
    refine ev_iconst (pc := 20) (v := 0) dX3_latestWholeSlot_20 (by decide) ?_
    refine cV2 (pc := 21) lk_X3_latestWholeSlot_21 rfl rfl rfl (Nat.le_of_ble_eq_true rfl) ⟨Nat.le_of_ble_eq_true rfl, Nat.le_of_ble_eq_true rfl⟩ (s_wordIn (s := 1) (j := 0) (by decide) (by decide) g1.2.1) ?_
    refine ev_aload_n (pc := 24) dX3_latestWholeSlot_24 rfl rfl ?_
    refine ev_iconst (pc := 25) (v := 0) dX3_latestWholeSlot_25 (by decide) ?_
    refine ev_iconst (pc := 26) (v := 0) dX3_latestWholeSlot_26 (by decide) ?_
    refine cV2 (pc := 27) lk_X3_latestWholeSlot_27 rfl rfl rfl (Nat.le_of_ble_eq_true rfl) ⟨Nat.le_of_ble_eq_true rfl, Nat.le_of_ble_eq_true rfl⟩ (s_wordIn (s := 0) (j := 0) (by decide) (by decide) g.2.1) ?_
    refine ev_lcmp (pc := 30) dX3_latestWholeSlot_30 ?_
    refine ev_if_le (pc := 31) (tgt := 38) dX3_latestWholeSlot_31 (by decide) (fun c_31 => absurd c_31 (fun h9 => absurd ((l64_le b1 b0).mp ((lg_cmp_le _ _).mp h9)) (by omega))) (fun _ => ?_)
    refine ev_iconst (pc := 34) (v := 1) dX3_latestWholeSlot_34 (by decide) ?_
    refine ev_goto (pc := 35) (tgt := 39) dX3_latestWholeSlot_35 (by decide) ?_
    exact ev_iretE (pc := 39) dX3_latestWholeSlot_39 rfl ⟨Nat.le_of_ble_eq_true rfl, Nat.le_of_ble_eq_true rfl⟩ rfl rfl
  · have g := hSL 0 (by decide)
    have g1 := hSL 1 (by decide)
    rw [h0] at g
    rw [h1] at g1
    refine evs_of (by decide +kernel) (Nat.le_of_ble_eq_true rfl) (by decide) rfl ?_
    refine ev_aload_n (pc := 0) dX3_latestWholeSlot_0 rfl rfl ?_
    refine ev_iconst (pc := 1) (v := 0) dX3_latestWholeSlot_1 (by decide) ?_
    refine cV1 (pc := 2) lk_X3_latestWholeSlot_2 rfl rfl rfl (Nat.le_of_ble_eq_true rfl) ⟨Nat.le_of_ble_eq_true rfl, Nat.le_of_ble_eq_true rfl⟩ (s_sumsUp1 (s := 0) (by decide) g.1) ?_
    refine ev_if_ne (pc := 5) (tgt := 10) dX3_latestWholeSlot_5 (by decide) (fun _ => ?_) (fun c_5 => absurd c_5 (by decide))
    refine ev_aload_n (pc := 10) dX3_latestWholeSlot_10 rfl rfl ?_
    refine ev_iconst (pc := 11) (v := 1) dX3_latestWholeSlot_11 (by decide) ?_
    refine cV1 (pc := 12) lk_X3_latestWholeSlot_12 rfl rfl rfl (Nat.le_of_ble_eq_true rfl) ⟨Nat.le_of_ble_eq_true rfl, Nat.le_of_ble_eq_true rfl⟩ (s_sumsUp0 (s := 1) (by decide) g1) ?_
    refine ev_if_eq (pc := 15) (tgt := 38) dX3_latestWholeSlot_15 (by decide) (fun _ => ?_) (fun c_15 => absurd rfl c_15)
    refine ev_iconst (pc := 38) (v := 0) dX3_latestWholeSlot_38 (by decide) ?_
    exact ev_iretE (pc := 39) dX3_latestWholeSlot_39 rfl ⟨Nat.le_of_ble_eq_true rfl, Nat.le_of_ble_eq_true rfl⟩ rfl rfl
  · have g := hSL 0 (by decide)
    have g1 := hSL 1 (by decide)
    rw [h0] at g
    rw [h1] at g1
    have b0 := hb 0 x0 (by decide) h0
    have b1 := hb 1 x1 (by decide) h1
    refine evs_of (by decide +kernel) (Nat.le_of_ble_eq_true rfl) (by decide) rfl ?_
    refine ev_aload_n (pc := 0) dX3_latestWholeSlot_0 rfl rfl ?_
    refine ev_iconst (pc := 1) (v := 0) dX3_latestWholeSlot_1 (by decide) ?_
    refine cV1 (pc := 2) lk_X3_latestWholeSlot_2 rfl rfl rfl (Nat.le_of_ble_eq_true rfl) ⟨Nat.le_of_ble_eq_true rfl, Nat.le_of_ble_eq_true rfl⟩ (s_sumsUp1 (s := 0) (by decide) g.1) ?_
    refine ev_if_ne (pc := 5) (tgt := 10) dX3_latestWholeSlot_5 (by decide) (fun _ => ?_) (fun c_5 => absurd c_5 (by decide))
    refine ev_aload_n (pc := 10) dX3_latestWholeSlot_10 rfl rfl ?_
    refine ev_iconst (pc := 11) (v := 1) dX3_latestWholeSlot_11 (by decide) ?_
    refine cV1 (pc := 12) lk_X3_latestWholeSlot_12 rfl rfl rfl (Nat.le_of_ble_eq_true rfl) ⟨Nat.le_of_ble_eq_true rfl, Nat.le_of_ble_eq_true rfl⟩ (s_sumsUp1 (s := 1) (by decide) g1.1) ?_
    refine ev_if_eq (pc := 15) (tgt := 38) dX3_latestWholeSlot_15 (by decide) (fun c_15 => absurd c_15 (by decide)) (fun _ => ?_)
    refine ev_aload_n (pc := 18) dX3_latestWholeSlot_18 rfl rfl ?_
    refine ev_iconst (pc := 19) (v := 1) dX3_latestWholeSlot_19 (by decide) ?_
    refine ev_iconst (pc := 20) (v := 0) dX3_latestWholeSlot_20 (by decide) ?_
    refine cV2 (pc := 21) lk_X3_latestWholeSlot_21 rfl rfl rfl (Nat.le_of_ble_eq_true rfl) ⟨Nat.le_of_ble_eq_true rfl, Nat.le_of_ble_eq_true rfl⟩ (s_wordIn (s := 1) (j := 0) (by decide) (by decide) g1.2.1) ?_
    refine ev_aload_n (pc := 24) dX3_latestWholeSlot_24 rfl rfl ?_
    refine ev_iconst (pc := 25) (v := 0) dX3_latestWholeSlot_25 (by decide) ?_
    refine ev_iconst (pc := 26) (v := 0) dX3_latestWholeSlot_26 (by decide) ?_
    refine cV2 (pc := 27) lk_X3_latestWholeSlot_27 rfl rfl rfl (Nat.le_of_ble_eq_true rfl) ⟨Nat.le_of_ble_eq_true rfl, Nat.le_of_ble_eq_true rfl⟩ (s_wordIn (s := 0) (j := 0) (by decide) (by decide) g.2.1) ?_
    refine ev_lcmp (pc := 30) dX3_latestWholeSlot_30 ?_
    refine ev_if_le (pc := 31) (tgt := 38) dX3_latestWholeSlot_31 (by decide) (fun _ => ?_) (fun c_31 => absurd ((lg_cmp_le _ _).mpr ((l64_le b1 b0).mpr hle)) c_31)
    refine ev_iconst (pc := 38) (v := 0) dX3_latestWholeSlot_38 (by decide) ?_
    exact ev_iretE (pc := 39) dX3_latestWholeSlot_39 rfl ⟨Nat.le_of_ble_eq_true rfl, Nat.le_of_ble_eq_true rfl⟩ rfl rfl
def noR : Nat → Option RS3 := fun _ => none
theorem s_crash {sl : Int32} {cu ba r0 r1 r2 r3 : Q4} {sw : Nat → Int64} {bt : Int32} {cnt inn lk wd kp wr mk ls pth tk : Nat → Int32} {tl : List mC} (hR : Rp cnt inn lk wd T U) {be br bk bo : Int32} (hSL : SLR sw so) (hb : ∀ s x, s < 2 → so s = some x → x.1 < 2147483648) {s : Nat} {x : RS3} (hs : s < 2) (hl : lat so s) (hx : so s = some x) (hok : ∀ r ∈ rts x so noR, okR T U r) : ∃ q0 q1 q2 q3 kp' ls', RD q0 q1 q2 q3 noR ∧ kS kp' (RS T (rts x so noR)) ∧ EvS m_X3_crash [.ref 0] (cW sl cu (be, br, bk, bo) r0 r1 r2 r3 sw bt cnt inn lk wd kp wr mk ls pth tk tl) (.inl (some (.int (nI x.1)))) (cW (nI s) (nI x.1, nI x.2.1, nI x.2.2, cu.2.2.2) (be, br, bk, 0) q0 q1 q2 q3 sw bt cnt inn lk wd kp' (zr wr 800) mk ls' pth tk tl) := by
  have hD : RD (r0.1, r0.2.1, r0.2.2.1, 0) (r1.1, r1.2.1, r1.2.2.1, 0) (r2.1, r2.2.1, r2.2.2.1, 0) (r3.1, r3.2.1, r3.2.2.1, 0) noR := ⟨rfl, rfl, rfl, rfl⟩
  have g := hSL s hs
  rw [hx] at g
  obtain ⟨g0, g1, g2, g3⟩ := g
  obtain ⟨k1, l1, hS1, e1⟩ := s_endBatch (sl := (nI s)) (cu := cu) (ba := ba) (r0 := (r0.1, r0.2.1, r0.2.2.1, 0)) (r1 := (r1.1, r1.2.1, r1.2.2.1, 0)) (r2 := (r2.1, r2.2.1, r2.2.2.1, 0)) (r3 := (r3.1, r3.2.1, r3.2.2.1, 0)) (sw := sw) (bt := bt) (cnt := cnt) (inn := inn) (lk := lk) (wd := wd) (kp := kp) (wr := wr) (mk := mk) (ls := ls) (pth := pth) (tk := tk) (tl := tl) hR (c := x) (o := cu.2.2.2) (be := be) (br := br) (bk := bk) (bo := bo) hD hSL hok
  refine ⟨_, _, _, _, k1, l1, hD, hS1, ?_⟩
  refine evs_of (by decide +kernel) (Nat.le_of_ble_eq_true rfl) (by decide) rfl ?_
  refine ev_iconst (pc := 0) (v := 0) dX3_crash_0 (by decide) ?_
  refine ev_istore_n (pc := 1) dX3_crash_1 rfl rfl rfl ?_
  refine ev_iload_n (pc := 2) dX3_crash_2 rfl rfl ?_
  refine ev_iconst (pc := 3) (v := 4) dX3_crash_3 (by decide) ?_
  refine ev_ic_ge (pc := 4) (tgt := 23) dX3_crash_4 (by decide) (fun c_4 => absurd c_4 (by decide)) (fun _ => ?_)
  refine ev_aload_n (pc := 7) dX3_crash_7 rfl rfl ?_
  refine ev_get (pc := 8) dX3_crash_8 fd_X3_35 rfl rfl ?_
  refine ev_iload_n (pc := 11) dX3_crash_11 rfl rfl ?_
  refine ev_aaldN (pc := 12) dX3_crash_12 rfl ⟨(show _ = nI 0 from rfl), by decide, by decide⟩ rfl ?_
  refine ev_iconst (pc := 13) (v := 0) dX3_crash_13 (by decide) ?_
  refine ev_put (pc := 14) dX3_crash_14 fp_X3_58 rfl (Nat.le_of_ble_eq_true rfl) (fun _ _ => ⟨rfl, rfl⟩) rfl ?_
  refine ev_iinc (pc := 17) dX3_crash_17 rfl rfl rfl ?_
  refine ev_goto (pc := 20) (tgt := 2) dX3_crash_20 (by decide) ?_
  refine ev_iload_n (pc := 2) dX3_crash_2 rfl rfl ?_
  refine ev_iconst (pc := 3) (v := 4) dX3_crash_3 (by decide) ?_
  refine ev_ic_ge (pc := 4) (tgt := 23) dX3_crash_4 (by decide) (fun c_4 => absurd c_4 (by decide)) (fun _ => ?_)
  refine ev_aload_n (pc := 7) dX3_crash_7 rfl rfl ?_
  refine ev_get (pc := 8) dX3_crash_8 fd_X3_35 rfl rfl ?_
  refine ev_iload_n (pc := 11) dX3_crash_11 rfl rfl ?_
  refine ev_aaldN (pc := 12) dX3_crash_12 rfl ⟨(show _ = nI 1 from rfl), by decide, by decide⟩ rfl ?_
  refine ev_iconst (pc := 13) (v := 0) dX3_crash_13 (by decide) ?_
  refine ev_put (pc := 14) dX3_crash_14 fp_X3_58 rfl (Nat.le_of_ble_eq_true rfl) (fun _ _ => ⟨rfl, rfl⟩) rfl ?_
  refine ev_iinc (pc := 17) dX3_crash_17 rfl rfl rfl ?_
  refine ev_goto (pc := 20) (tgt := 2) dX3_crash_20 (by decide) ?_
  refine ev_iload_n (pc := 2) dX3_crash_2 rfl rfl ?_
  refine ev_iconst (pc := 3) (v := 4) dX3_crash_3 (by decide) ?_
  refine ev_ic_ge (pc := 4) (tgt := 23) dX3_crash_4 (by decide) (fun c_4 => absurd c_4 (by decide)) (fun _ => ?_)
  refine ev_aload_n (pc := 7) dX3_crash_7 rfl rfl ?_
  refine ev_get (pc := 8) dX3_crash_8 fd_X3_35 rfl rfl ?_
  refine ev_iload_n (pc := 11) dX3_crash_11 rfl rfl ?_
  refine ev_aaldN (pc := 12) dX3_crash_12 rfl ⟨(show _ = nI 2 from rfl), by decide, by decide⟩ rfl ?_
  refine ev_iconst (pc := 13) (v := 0) dX3_crash_13 (by decide) ?_
  refine ev_put (pc := 14) dX3_crash_14 fp_X3_58 rfl (Nat.le_of_ble_eq_true rfl) (fun _ _ => ⟨rfl, rfl⟩) rfl ?_
  refine ev_iinc (pc := 17) dX3_crash_17 rfl rfl rfl ?_
  refine ev_goto (pc := 20) (tgt := 2) dX3_crash_20 (by decide) ?_
  refine ev_iload_n (pc := 2) dX3_crash_2 rfl rfl ?_
  refine ev_iconst (pc := 3) (v := 4) dX3_crash_3 (by decide) ?_
  refine ev_ic_ge (pc := 4) (tgt := 23) dX3_crash_4 (by decide) (fun c_4 => absurd c_4 (by decide)) (fun _ => ?_)
  refine ev_aload_n (pc := 7) dX3_crash_7 rfl rfl ?_
  refine ev_get (pc := 8) dX3_crash_8 fd_X3_35 rfl rfl ?_
  refine ev_iload_n (pc := 11) dX3_crash_11 rfl rfl ?_
  refine ev_aaldN (pc := 12) dX3_crash_12 rfl ⟨(show _ = nI 3 from rfl), by decide, by decide⟩ rfl ?_
  refine ev_iconst (pc := 13) (v := 0) dX3_crash_13 (by decide) ?_
  refine ev_put (pc := 14) dX3_crash_14 fp_X3_58 rfl (Nat.le_of_ble_eq_true rfl) (fun _ _ => ⟨rfl, rfl⟩) rfl ?_
  refine ev_iinc (pc := 17) dX3_crash_17 rfl rfl rfl ?_
  refine ev_goto (pc := 20) (tgt := 2) dX3_crash_20 (by decide) ?_
  refine ev_iload_n (pc := 2) dX3_crash_2 rfl rfl ?_
  refine ev_iconst (pc := 3) (v := 4) dX3_crash_3 (by decide) ?_
  refine ev_ic_ge (pc := 4) (tgt := 23) dX3_crash_4 (by decide) (fun _ => ?_) (fun c_4 => absurd (by decide) c_4)
  refine ev_aload_n (pc := 23) dX3_crash_23 rfl rfl ?_
  refine ev_aload_n (pc := 24) dX3_crash_24 rfl rfl ?_
  refine cV0 (pc := 25) lk_X3_crash_25 rfl rfl rfl (Nat.le_of_ble_eq_true rfl) ⟨Nat.le_of_ble_eq_true rfl, Nat.le_of_ble_eq_true rfl⟩ (s_latest (sl := sl) (cu := cu) (ba := (be, br, bk, bo)) (r0 := (r0.1, r0.2.1, r0.2.2.1, 0)) (r1 := (r1.1, r1.2.1, r1.2.2.1, 0)) (r2 := (r2.1, r2.2.1, r2.2.2.1, 0)) (r3 := (r3.1, r3.2.1, r3.2.2.1, 0)) (sw := sw) (bt := bt) (cnt := cnt) (inn := inn) (lk := lk) (wd := wd) (kp := kp) (wr := wr) (mk := mk) (ls := ls) (pth := pth) (tk := tk) (tl := tl) hSL hb hl) ?_
  refine ev_put (pc := 28) dX3_crash_28 fp_X3_43 rfl (Nat.le_of_ble_eq_true rfl) (fun _ _ => ⟨rfl, rfl⟩) rfl ?_
  refine ev_aload_n (pc := 31) dX3_crash_31 rfl rfl ?_
  refine ev_get (pc := 32) dX3_crash_32 fd_X3_19 rfl rfl ?_
  refine ev_aload_n (pc := 35) dX3_crash_35 rfl rfl ?_
  refine ev_aload_n (pc := 36) dX3_crash_36 rfl rfl ?_
  refine ev_get (pc := 37) dX3_crash_37 fd_X3_43 rfl rfl ?_
  refine ev_iconst (pc := 40) (v := 0) dX3_crash_40 (by decide) ?_
  refine cV2 (pc := 41) lk_X3_crash_41 rfl rfl rfl (Nat.le_of_ble_eq_true rfl) ⟨Nat.le_of_ble_eq_true rfl, Nat.le_of_ble_eq_true rfl⟩ (s_wordIn (sl := (nI s)) (cu := cu) (ba := (be, br, bk, bo)) (r0 := (r0.1, r0.2.1, r0.2.2.1, 0)) (r1 := (r1.1, r1.2.1, r1.2.2.1, 0)) (r2 := (r2.1, r2.2.1, r2.2.2.1, 0)) (r3 := (r3.1, r3.2.1, r3.2.2.1, 0)) (sw := sw) (bt := bt) (cnt := cnt) (inn := inn) (lk := lk) (wd := wd) (kp := kp) (wr := wr) (mk := mk) (ls := ls) (pth := pth) (tk := tk) (tl := tl) (j := 0) hs (by decide) g1) ?_
  refine ev_l2i (pc := 44) dX3_crash_44 ?_
  rw [Int32.toInt32_toInt64]
  refine ev_put (pc := 45) dX3_crash_45 fp_X3_73 rfl (Nat.le_of_ble_eq_true rfl) (fun _ _ => ⟨rfl, rfl⟩) rfl ?_
  refine ev_aload_n (pc := 48) dX3_crash_48 rfl rfl ?_
  refine ev_get (pc := 49) dX3_crash_49 fd_X3_19 rfl rfl ?_
  refine ev_aload_n (pc := 52) dX3_crash_52 rfl rfl ?_
  refine ev_aload_n (pc := 53) dX3_crash_53 rfl rfl ?_
  refine ev_get (pc := 54) dX3_crash_54 fd_X3_43 rfl rfl ?_
  refine ev_iconst (pc := 57) (v := 1) dX3_crash_57 (by decide) ?_
  refine cV2 (pc := 58) lk_X3_crash_58 rfl rfl rfl (Nat.le_of_ble_eq_true rfl) ⟨Nat.le_of_ble_eq_true rfl, Nat.le_of_ble_eq_true rfl⟩ (s_wordIn (sl := (nI s)) (cu := (nI x.1, cu.2.1, cu.2.2.1, cu.2.2.2)) (ba := (be, br, bk, bo)) (r0 := (r0.1, r0.2.1, r0.2.2.1, 0)) (r1 := (r1.1, r1.2.1, r1.2.2.1, 0)) (r2 := (r2.1, r2.2.1, r2.2.2.1, 0)) (r3 := (r3.1, r3.2.1, r3.2.2.1, 0)) (sw := sw) (bt := bt) (cnt := cnt) (inn := inn) (lk := lk) (wd := wd) (kp := kp) (wr := wr) (mk := mk) (ls := ls) (pth := pth) (tk := tk) (tl := tl) (j := 1) hs (by decide) g2) ?_
  refine ev_l2i (pc := 61) dX3_crash_61 ?_
  rw [Int32.toInt32_toInt64]
  refine ev_put (pc := 62) dX3_crash_62 fp_X3_51 rfl (Nat.le_of_ble_eq_true rfl) (fun _ _ => ⟨rfl, rfl⟩) rfl ?_
  refine ev_aload_n (pc := 65) dX3_crash_65 rfl rfl ?_
  refine ev_get (pc := 66) dX3_crash_66 fd_X3_19 rfl rfl ?_
  refine ev_aload_n (pc := 69) dX3_crash_69 rfl rfl ?_
  refine ev_aload_n (pc := 70) dX3_crash_70 rfl rfl ?_
  refine ev_get (pc := 71) dX3_crash_71 fd_X3_43 rfl rfl ?_
  refine ev_iconst (pc := 74) (v := 2) dX3_crash_74 (by decide) ?_
  refine cV2 (pc := 75) lk_X3_crash_75 rfl rfl rfl (Nat.le_of_ble_eq_true rfl) ⟨Nat.le_of_ble_eq_true rfl, Nat.le_of_ble_eq_true rfl⟩ (s_wordIn (sl := (nI s)) (cu := (nI x.1, nI x.2.1, cu.2.2.1, cu.2.2.2)) (ba := (be, br, bk, bo)) (r0 := (r0.1, r0.2.1, r0.2.2.1, 0)) (r1 := (r1.1, r1.2.1, r1.2.2.1, 0)) (r2 := (r2.1, r2.2.1, r2.2.2.1, 0)) (r3 := (r3.1, r3.2.1, r3.2.2.1, 0)) (sw := sw) (bt := bt) (cnt := cnt) (inn := inn) (lk := lk) (wd := wd) (kp := kp) (wr := wr) (mk := mk) (ls := ls) (pth := pth) (tk := tk) (tl := tl) (j := 2) hs (by decide) g3) ?_
  refine ev_l2i (pc := 78) dX3_crash_78 ?_
  rw [Int32.toInt32_toInt64]
  refine ev_put (pc := 79) dX3_crash_79 fp_X3_135 rfl (Nat.le_of_ble_eq_true rfl) (fun _ _ => ⟨rfl, rfl⟩) rfl ?_
  refine ev_aload_n (pc := 82) dX3_crash_82 rfl rfl ?_
  refine cV0 (pc := 83) lk_X3_crash_83 rfl rfl rfl (Nat.le_of_ble_eq_true rfl) ⟨Nat.le_of_ble_eq_true rfl, Nat.le_of_ble_eq_true rfl⟩ e1 ?_
  refine ev_aload_n (pc := 86) dX3_crash_86 rfl rfl ?_
  refine ev_get (pc := 87) dX3_crash_87 fd_X3_19 rfl rfl ?_
  refine ev_get (pc := 90) dX3_crash_90 fd_X3_73 rfl rfl ?_
  exact ev_iretE (pc := 93) dX3_crash_93 rfl ⟨Nat.le_of_ble_eq_true rfl, Nat.le_of_ble_eq_true rfl⟩ rfl rfl
theorem s_cicT1 {sl : Int32} {cu ba r0 r1 r2 r3 : Q4} {sw : Nat → Int64} {bt : Int32} {cnt inn lk wd kp wr mk ls pth tk : Nat → Int32} {tl : List mC} {i : Int32} (h : i < 0 ∨ (4 : Int32) < i) : EvS m_X3_crashInCommit [.ref 0, .int i] (cW sl cu ba r0 r1 r2 r3 sw bt cnt inn lk wd kp wr mk ls pth tk tl) (.inr xIA) (cW sl cu ba r0 r1 r2 r3 sw bt cnt inn lk wd kp wr mk ls pth tk tl) := by
  by_cases h0 : i < 0
  · refine evs_of (by decide +kernel) (Nat.le_of_ble_eq_true rfl) (by decide) rfl ?_
    refine ev_iload_n (pc := 0) dX3_crashInCommit_0 rfl rfl ?_
    refine ev_if_lt (pc := 1) (tgt := 9) dX3_crashInCommit_1 (by decide) (fun _ => ?_) (fun c_1 => absurd h0 c_1)
    exact ev_throw th_X3_198 dX3_crashInCommit_9 dX3_crashInCommit_12 dX3_crashInCommit_13 dX3_crashInCommit_15 dX3_crashInCommit_18 rfl (Nat.le_of_ble_eq_true rfl) (Nat.le_of_ble_eq_true rfl) (Nat.le_of_ble_eq_true rfl) (Nat.le_of_ble_eq_true rfl)
  · have h1 := h.resolve_left h0
    refine evs_of (by decide +kernel) (Nat.le_of_ble_eq_true rfl) (by decide) rfl ?_
    refine ev_iload_n (pc := 0) dX3_crashInCommit_0 rfl rfl ?_
    refine ev_if_lt (pc := 1) (tgt := 9) dX3_crashInCommit_1 (by decide) (fun c_1 => absurd c_1 h0) (fun _ => ?_)
    refine ev_iload_n (pc := 4) dX3_crashInCommit_4 rfl rfl ?_
    refine ev_iconst (pc := 5) (v := 4) dX3_crashInCommit_5 (by decide) ?_
    refine ev_ic_le (pc := 6) (tgt := 19) dX3_crashInCommit_6 (by decide) (fun c_6 => absurd c_6 (Int32.not_le.mpr h1)) (fun _ => ?_)
    exact ev_throw th_X3_198 dX3_crashInCommit_9 dX3_crashInCommit_12 dX3_crashInCommit_13 dX3_crashInCommit_15 dX3_crashInCommit_18 rfl (Nat.le_of_ble_eq_true rfl) (Nat.le_of_ble_eq_true rfl) (Nat.le_of_ble_eq_true rfl) (Nat.le_of_ble_eq_true rfl)
theorem s_cicT2 {sl : Int32} {cu ba r0 r1 r2 r3 : Q4} {sw : Nat → Int64} {bt : Int32} {cnt inn lk wd kp wr mk ls pth tk : Nat → Int32} {tl : List mC} {be br bk : Int32} {n : Nat} (hn : n ≤ 4) : EvS m_X3_crashInCommit [.ref 0, .int (nI n)] (cW sl cu (be, br, bk, 0) r0 r1 r2 r3 sw bt cnt inn lk wd kp wr mk ls pth tk tl) (.inr xIS) (cW sl cu (be, br, bk, 0) r0 r1 r2 r3 sw bt cnt inn lk wd kp wr mk ls pth tk tl) := by
  refine evs_of (by decide +kernel) (Nat.le_of_ble_eq_true rfl) (by decide) rfl ?_
  refine ev_iload_n (pc := 0) dX3_crashInCommit_0 rfl rfl ?_
  refine ev_if_lt (pc := 1) (tgt := 9) dX3_crashInCommit_1 (by decide) (fun c_1 => absurd c_1 (nI_pos (show n < 2147483648 by omega))) (fun _ => ?_)
  refine ev_iload_n (pc := 4) dX3_crashInCommit_4 rfl rfl ?_
  refine ev_iconst (pc := 5) (v := 4) dX3_crashInCommit_5 (by decide) ?_
  refine ev_ic_le (pc := 6) (tgt := 19) dX3_crashInCommit_6 (by decide) (fun _ => ?_) (fun c_6 => absurd (by exact nI_le hn (by decide)) c_6)
  refine ev_aload_n (pc := 19) dX3_crashInCommit_19 rfl rfl ?_
  exact tV0 (pc := 20) lk_X3_crashInCommit_20 rfl rfl rfl rfl (Nat.le_of_ble_eq_true rfl) ⟨Nat.le_of_ble_eq_true rfl, Nat.le_of_ble_eq_true rfl⟩ (s_reqBatchT (sl := sl) (cu := cu) (ba := ba) (r0 := r0) (r1 := r1) (r2 := r2) (r3 := r3) (sw := sw) (bt := bt) (cnt := cnt) (inn := inn) (lk := lk) (wd := wd) (kp := kp) (wr := wr) (mk := mk) (ls := ls) (pth := pth) (tk := tk) (tl := tl) (be := be) (br := br) (bk := bk))
theorem s_cicT3 {sl : Int32} {cu ba r0 r1 r2 r3 : Q4} {sw : Nat → Int64} {bt : Int32} {cnt inn lk wd kp wr mk ls pth tk : Nat → Int32} {tl : List mC} {be br bk : Int32} {n s : Nat} (hs : s < 2) (hn : 0 < n ∧ n < 4) (h : ¬ whl sw s) : EvS m_X3_crashInCommit [.ref 0, .int (nI n)] (cW (nI s) cu (be, br, bk, 1) r0 r1 r2 r3 sw bt cnt inn lk wd kp wr mk ls pth tk tl) (.inr xIS) (cW (nI s) cu (be, br, bk, 1) r0 r1 r2 r3 sw bt cnt inn lk wd kp wr mk ls pth tk tl) := by
  refine evs_of (by decide +kernel) (Nat.le_of_ble_eq_true rfl) (by decide) rfl ?_
  refine ev_iload_n (pc := 0) dX3_crashInCommit_0 rfl rfl ?_
  refine ev_if_lt (pc := 1) (tgt := 9) dX3_crashInCommit_1 (by decide) (fun c_1 => absurd c_1 (nI_pos (show n < 2147483648 by omega))) (fun _ => ?_)
  refine ev_iload_n (pc := 4) dX3_crashInCommit_4 rfl rfl ?_
  refine ev_iconst (pc := 5) (v := 4) dX3_crashInCommit_5 (by decide) ?_
  refine ev_ic_le (pc := 6) (tgt := 19) dX3_crashInCommit_6 (by decide) (fun _ => ?_) (fun c_6 => absurd (by exact nI_le (show n ≤ 4 by omega) (by decide)) c_6)
  refine ev_aload_n (pc := 19) dX3_crashInCommit_19 rfl rfl ?_
  refine cV0 (pc := 20) lk_X3_crashInCommit_20 rfl rfl rfl (Nat.le_of_ble_eq_true rfl) ⟨Nat.le_of_ble_eq_true rfl, Nat.le_of_ble_eq_true rfl⟩ (s_reqBatch (sl := (nI s)) (cu := cu) (ba := ba) (r0 := r0) (r1 := r1) (r2 := r2) (r3 := r3) (sw := sw) (bt := bt) (cnt := cnt) (inn := inn) (lk := lk) (wd := wd) (kp := kp) (wr := wr) (mk := mk) (ls := ls) (pth := pth) (tk := tk) (tl := tl) (be := be) (br := br) (bk := bk)) ?_
  refine ev_iload_n (pc := 23) dX3_crashInCommit_23 rfl rfl ?_
  refine ev_if_le (pc := 24) (tgt := 53) dX3_crashInCommit_24 (by decide) (fun c_24 => absurd c_24 (by exact nI_nle hn.1 (by omega))) (fun _ => ?_)
  refine ev_iload_n (pc := 27) dX3_crashInCommit_27 rfl rfl ?_
  refine ev_iconst (pc := 28) (v := 4) dX3_crashInCommit_28 (by decide) ?_
  refine ev_ic_ge (pc := 29) (tgt := 53) dX3_crashInCommit_29 (by decide) (fun c_29 => absurd c_29 (nI_ge hn.2 (by decide))) (fun _ => ?_)
  refine ev_aload_n (pc := 32) dX3_crashInCommit_32 rfl rfl ?_
  refine ev_aload_n (pc := 33) dX3_crashInCommit_33 rfl rfl ?_
  refine ev_get (pc := 34) dX3_crashInCommit_34 fd_X3_43 rfl rfl ?_
  refine cV1 (pc := 37) lk_X3_crashInCommit_37 rfl rfl rfl (Nat.le_of_ble_eq_true rfl) ⟨Nat.le_of_ble_eq_true rfl, Nat.le_of_ble_eq_true rfl⟩ (s_sumsUp0 (sl := (nI s)) (cu := cu) (ba := (be, br, bk, 1)) (r0 := r0) (r1 := r1) (r2 := r2) (r3 := r3) (sw := sw) (bt := bt) (cnt := cnt) (inn := inn) (lk := lk) (wd := wd) (kp := kp) (wr := wr) (mk := mk) (ls := ls) (pth := pth) (tk := tk) (tl := tl) hs h) ?_
  refine ev_if_ne (pc := 40) (tgt := 53) dX3_crashInCommit_40 (by decide) (fun c_40 => absurd rfl c_40) (fun _ => ?_)
  exact ev_throw th_X3_201 dX3_crashInCommit_43 dX3_crashInCommit_46 dX3_crashInCommit_47 dX3_crashInCommit_49 dX3_crashInCommit_52 rfl (Nat.le_of_ble_eq_true rfl) (Nat.le_of_ble_eq_true rfl) (Nat.le_of_ble_eq_true rfl) (Nat.le_of_ble_eq_true rfl)
theorem s_cic {sl : Int32} {cu ba r0 r1 r2 r3 : Q4} {sw : Nat → Int64} {bt : Int32} {cnt inn lk wd kp wr mk ls pth tk : Nat → Int32} {tl : List mC} (hR : Rp cnt inn lk wd T U) {y : RS3} {n s0 : Nat} (hs0 : s0 < 2) (hn : n ≤ 4) (hw : 0 < n ∧ n < 4 → whl sw s0) (hSL : SLR (wrS sw (1 - s0) y n) so) (hb : ∀ s x, s < 2 → so s = some x → x.1 < 2147483648) {s : Nat} {x : RS3} (hs : s < 2) (hl : lat so s) (hx : so s = some x) (hok : ∀ r ∈ rts x so noR, okR T U r) : ∃ q0 q1 q2 q3 kp' ls', RD q0 q1 q2 q3 noR ∧ kS kp' (RS T (rts x so noR)) ∧ EvS m_X3_crashInCommit [.ref 0, .int (nI n)] (cW (nI s0) cu (nI y.1, nI y.2.1, nI y.2.2, 1) r0 r1 r2 r3 sw bt cnt inn lk wd kp wr mk ls pth tk tl) (.inl (some (.int (nI x.1)))) (cW (nI s) (nI x.1, nI x.2.1, nI x.2.2, cu.2.2.2) (nI y.1, nI y.2.1, nI y.2.2, 0) q0 q1 q2 q3 (wrS sw (1 - s0) y n) bt cnt inn lk wd kp' (zr wr 800) mk ls' pth tk tl) := by
  obtain ⟨q0, q1, q2, q3, k1, l1, hD, hS1, e1⟩ := s_crash (sl := (nI s0)) (cu := cu) (ba := ba) (r0 := r0) (r1 := r1) (r2 := r2) (r3 := r3) (sw := (wrS sw (1 - s0) y n)) (bt := bt) (cnt := cnt) (inn := inn) (lk := lk) (wd := wd) (kp := kp) (wr := wr) (mk := mk) (ls := ls) (pth := pth) (tk := tk) (tl := tl) hR (be := nI y.1) (br := nI y.2.1) (bk := nI y.2.2) (bo := 1) hSL hb hs hl hx hok
  refine ⟨q0, q1, q2, q3, k1, l1, hD, hS1, ?_⟩
  by_cases h0 : 0 < n
  · by_cases h4 : n < 4
    · refine evs_of (by decide +kernel) (Nat.le_of_ble_eq_true rfl) (by decide) rfl ?_
      refine ev_iload_n (pc := 0) dX3_crashInCommit_0 rfl rfl ?_
      refine ev_if_lt (pc := 1) (tgt := 9) dX3_crashInCommit_1 (by decide) (fun c_1 => absurd c_1 (nI_pos (show n < 2147483648 by omega))) (fun _ => ?_)
      refine ev_iload_n (pc := 4) dX3_crashInCommit_4 rfl rfl ?_
      refine ev_iconst (pc := 5) (v := 4) dX3_crashInCommit_5 (by decide) ?_
      refine ev_ic_le (pc := 6) (tgt := 19) dX3_crashInCommit_6 (by decide) (fun _ => ?_) (fun c_6 => absurd (by exact nI_le hn (by decide)) c_6)
      refine ev_aload_n (pc := 19) dX3_crashInCommit_19 rfl rfl ?_
      refine cV0 (pc := 20) lk_X3_crashInCommit_20 rfl rfl rfl (Nat.le_of_ble_eq_true rfl) ⟨Nat.le_of_ble_eq_true rfl, Nat.le_of_ble_eq_true rfl⟩ (s_reqBatch (sl := (nI s0)) (cu := cu) (ba := ba) (r0 := r0) (r1 := r1) (r2 := r2) (r3 := r3) (sw := sw) (bt := bt) (cnt := cnt) (inn := inn) (lk := lk) (wd := wd) (kp := kp) (wr := wr) (mk := mk) (ls := ls) (pth := pth) (tk := tk) (tl := tl) (be := nI y.1) (br := nI y.2.1) (bk := nI y.2.2)) ?_
      refine ev_iload_n (pc := 23) dX3_crashInCommit_23 rfl rfl ?_
      refine ev_if_le (pc := 24) (tgt := 53) dX3_crashInCommit_24 (by decide) (fun c_24 => absurd c_24 (by exact nI_nle h0 (by omega))) (fun _ => ?_)
      refine ev_iload_n (pc := 27) dX3_crashInCommit_27 rfl rfl ?_
      refine ev_iconst (pc := 28) (v := 4) dX3_crashInCommit_28 (by decide) ?_
      refine ev_ic_ge (pc := 29) (tgt := 53) dX3_crashInCommit_29 (by decide) (fun c_29 => absurd c_29 (nI_ge h4 (by decide))) (fun _ => ?_)
      refine ev_aload_n (pc := 32) dX3_crashInCommit_32 rfl rfl ?_
      refine ev_aload_n (pc := 33) dX3_crashInCommit_33 rfl rfl ?_
      refine ev_get (pc := 34) dX3_crashInCommit_34 fd_X3_43 rfl rfl ?_
      refine cV1 (pc := 37) lk_X3_crashInCommit_37 rfl rfl rfl (Nat.le_of_ble_eq_true rfl) ⟨Nat.le_of_ble_eq_true rfl, Nat.le_of_ble_eq_true rfl⟩ (s_sumsUp1 (sl := (nI s0)) (cu := cu) (ba := (nI y.1, nI y.2.1, nI y.2.2, 1)) (r0 := r0) (r1 := r1) (r2 := r2) (r3 := r3) (sw := sw) (bt := bt) (cnt := cnt) (inn := inn) (lk := lk) (wd := wd) (kp := kp) (wr := wr) (mk := mk) (ls := ls) (pth := pth) (tk := tk) (tl := tl) hs0 (hw ⟨h0, h4⟩)) ?_
      refine ev_if_ne (pc := 40) (tgt := 53) dX3_crashInCommit_40 (by decide) (fun _ => ?_) (fun c_40 => absurd c_40 (by decide))
      refine ev_aload_n (pc := 53) dX3_crashInCommit_53 rfl rfl ?_
      refine ev_aload_n (pc := 54) dX3_crashInCommit_54 rfl rfl ?_
      refine ev_get (pc := 55) dX3_crashInCommit_55 fd_X3_43 rfl rfl ?_
      refine cS1 (pc := 58) lk_X3_crashInCommit_58 (Nat.le_of_ble_eq_true rfl) ⟨Nat.le_of_ble_eq_true rfl, Nat.le_of_ble_eq_true rfl⟩ (s_other hs0) ?_
      refine ev_iload_n (pc := 61) dX3_crashInCommit_61 rfl rfl ?_
      refine cV2 (pc := 62) lk_X3_crashInCommit_62 rfl rfl rfl (Nat.le_of_ble_eq_true rfl) ⟨Nat.le_of_ble_eq_true rfl, Nat.le_of_ble_eq_true rfl⟩ (s_writeSlot (sl := (nI s0)) (cu := cu) (ba := ba) (r0 := r0) (r1 := r1) (r2 := r2) (r3 := r3) (sw := sw) (bt := bt) (cnt := cnt) (inn := inn) (lk := lk) (wd := wd) (kp := kp) (wr := wr) (mk := mk) (ls := ls) (pth := pth) (tk := tk) (tl := tl) (x := y) (o := 1) (n := n) (s := 1 - s0) (by omega) hn) ?_
      refine ev_aload_n (pc := 65) dX3_crashInCommit_65 rfl rfl ?_
      refine cV0 (pc := 66) lk_X3_crashInCommit_66 rfl rfl rfl (Nat.le_of_ble_eq_true rfl) ⟨Nat.le_of_ble_eq_true rfl, Nat.le_of_ble_eq_true rfl⟩ e1 ?_
      exact ev_iretE (pc := 69) dX3_crashInCommit_69 rfl ⟨Nat.le_of_ble_eq_true rfl, Nat.le_of_ble_eq_true rfl⟩ rfl rfl
    · refine evs_of (by decide +kernel) (Nat.le_of_ble_eq_true rfl) (by decide) rfl ?_
      refine ev_iload_n (pc := 0) dX3_crashInCommit_0 rfl rfl ?_
      refine ev_if_lt (pc := 1) (tgt := 9) dX3_crashInCommit_1 (by decide) (fun c_1 => absurd c_1 (nI_pos (show n < 2147483648 by omega))) (fun _ => ?_)
      refine ev_iload_n (pc := 4) dX3_crashInCommit_4 rfl rfl ?_
      refine ev_iconst (pc := 5) (v := 4) dX3_crashInCommit_5 (by decide) ?_
      refine ev_ic_le (pc := 6) (tgt := 19) dX3_crashInCommit_6 (by decide) (fun _ => ?_) (fun c_6 => absurd (by exact nI_le hn (by decide)) c_6)
      refine ev_aload_n (pc := 19) dX3_crashInCommit_19 rfl rfl ?_
      refine cV0 (pc := 20) lk_X3_crashInCommit_20 rfl rfl rfl (Nat.le_of_ble_eq_true rfl) ⟨Nat.le_of_ble_eq_true rfl, Nat.le_of_ble_eq_true rfl⟩ (s_reqBatch (sl := (nI s0)) (cu := cu) (ba := ba) (r0 := r0) (r1 := r1) (r2 := r2) (r3 := r3) (sw := sw) (bt := bt) (cnt := cnt) (inn := inn) (lk := lk) (wd := wd) (kp := kp) (wr := wr) (mk := mk) (ls := ls) (pth := pth) (tk := tk) (tl := tl) (be := nI y.1) (br := nI y.2.1) (bk := nI y.2.2)) ?_
      refine ev_iload_n (pc := 23) dX3_crashInCommit_23 rfl rfl ?_
      refine ev_if_le (pc := 24) (tgt := 53) dX3_crashInCommit_24 (by decide) (fun c_24 => absurd c_24 (by exact nI_nle h0 (by omega))) (fun _ => ?_)
      refine ev_iload_n (pc := 27) dX3_crashInCommit_27 rfl rfl ?_
      refine ev_iconst (pc := 28) (v := 4) dX3_crashInCommit_28 (by decide) ?_
      refine ev_ic_ge (pc := 29) (tgt := 53) dX3_crashInCommit_29 (by decide) (fun _ => ?_) (fun c_29 => absurd (by exact nI_le (Nat.not_lt.mp h4) (by omega)) c_29)
      refine ev_aload_n (pc := 53) dX3_crashInCommit_53 rfl rfl ?_
      refine ev_aload_n (pc := 54) dX3_crashInCommit_54 rfl rfl ?_
      refine ev_get (pc := 55) dX3_crashInCommit_55 fd_X3_43 rfl rfl ?_
      refine cS1 (pc := 58) lk_X3_crashInCommit_58 (Nat.le_of_ble_eq_true rfl) ⟨Nat.le_of_ble_eq_true rfl, Nat.le_of_ble_eq_true rfl⟩ (s_other hs0) ?_
      refine ev_iload_n (pc := 61) dX3_crashInCommit_61 rfl rfl ?_
      refine cV2 (pc := 62) lk_X3_crashInCommit_62 rfl rfl rfl (Nat.le_of_ble_eq_true rfl) ⟨Nat.le_of_ble_eq_true rfl, Nat.le_of_ble_eq_true rfl⟩ (s_writeSlot (sl := (nI s0)) (cu := cu) (ba := ba) (r0 := r0) (r1 := r1) (r2 := r2) (r3 := r3) (sw := sw) (bt := bt) (cnt := cnt) (inn := inn) (lk := lk) (wd := wd) (kp := kp) (wr := wr) (mk := mk) (ls := ls) (pth := pth) (tk := tk) (tl := tl) (x := y) (o := 1) (n := n) (s := 1 - s0) (by omega) hn) ?_
      refine ev_aload_n (pc := 65) dX3_crashInCommit_65 rfl rfl ?_
      refine cV0 (pc := 66) lk_X3_crashInCommit_66 rfl rfl rfl (Nat.le_of_ble_eq_true rfl) ⟨Nat.le_of_ble_eq_true rfl, Nat.le_of_ble_eq_true rfl⟩ e1 ?_
      exact ev_iretE (pc := 69) dX3_crashInCommit_69 rfl ⟨Nat.le_of_ble_eq_true rfl, Nat.le_of_ble_eq_true rfl⟩ rfl rfl
  · have : n = 0 := by omega
    subst this
    refine evs_of (by decide +kernel) (Nat.le_of_ble_eq_true rfl) (by decide) rfl ?_
    refine ev_iload_n (pc := 0) dX3_crashInCommit_0 rfl rfl ?_
    refine ev_if_lt (pc := 1) (tgt := 9) dX3_crashInCommit_1 (by decide) (fun c_1 => absurd c_1 (by decide)) (fun _ => ?_)
    refine ev_iload_n (pc := 4) dX3_crashInCommit_4 rfl rfl ?_
    refine ev_iconst (pc := 5) (v := 4) dX3_crashInCommit_5 (by decide) ?_
    refine ev_ic_le (pc := 6) (tgt := 19) dX3_crashInCommit_6 (by decide) (fun _ => ?_) (fun c_6 => absurd (by decide) c_6)
    refine ev_aload_n (pc := 19) dX3_crashInCommit_19 rfl rfl ?_
    refine cV0 (pc := 20) lk_X3_crashInCommit_20 rfl rfl rfl (Nat.le_of_ble_eq_true rfl) ⟨Nat.le_of_ble_eq_true rfl, Nat.le_of_ble_eq_true rfl⟩ (s_reqBatch (sl := (nI s0)) (cu := cu) (ba := ba) (r0 := r0) (r1 := r1) (r2 := r2) (r3 := r3) (sw := sw) (bt := bt) (cnt := cnt) (inn := inn) (lk := lk) (wd := wd) (kp := kp) (wr := wr) (mk := mk) (ls := ls) (pth := pth) (tk := tk) (tl := tl) (be := nI y.1) (br := nI y.2.1) (bk := nI y.2.2)) ?_
    refine ev_iload_n (pc := 23) dX3_crashInCommit_23 rfl rfl ?_
    refine ev_if_le (pc := 24) (tgt := 53) dX3_crashInCommit_24 (by decide) (fun _ => ?_) (fun c_24 => absurd (by decide) c_24)
    refine ev_aload_n (pc := 53) dX3_crashInCommit_53 rfl rfl ?_
    refine ev_aload_n (pc := 54) dX3_crashInCommit_54 rfl rfl ?_
    refine ev_get (pc := 55) dX3_crashInCommit_55 fd_X3_43 rfl rfl ?_
    refine cS1 (pc := 58) lk_X3_crashInCommit_58 (Nat.le_of_ble_eq_true rfl) ⟨Nat.le_of_ble_eq_true rfl, Nat.le_of_ble_eq_true rfl⟩ (s_other hs0) ?_
    refine ev_iload_n (pc := 61) dX3_crashInCommit_61 rfl rfl ?_
    refine cV2 (pc := 62) lk_X3_crashInCommit_62 rfl rfl rfl (Nat.le_of_ble_eq_true rfl) ⟨Nat.le_of_ble_eq_true rfl, Nat.le_of_ble_eq_true rfl⟩ (s_writeSlot (sl := (nI s0)) (cu := cu) (ba := ba) (r0 := r0) (r1 := r1) (r2 := r2) (r3 := r3) (sw := sw) (bt := bt) (cnt := cnt) (inn := inn) (lk := lk) (wd := wd) (kp := kp) (wr := wr) (mk := mk) (ls := ls) (pth := pth) (tk := tk) (tl := tl) (x := y) (o := 1) (n := 0) (s := 1 - s0) (by omega) hn) ?_
    refine ev_aload_n (pc := 65) dX3_crashInCommit_65 rfl rfl ?_
    refine cV0 (pc := 66) lk_X3_crashInCommit_66 rfl rfl rfl (Nat.le_of_ble_eq_true rfl) ⟨Nat.le_of_ble_eq_true rfl, Nat.le_of_ble_eq_true rfl⟩ e1 ?_
    exact ev_iretE (pc := 69) dX3_crashInCommit_69 rfl ⟨Nat.le_of_ble_eq_true rfl, Nat.le_of_ble_eq_true rfl⟩ rfl rfl
end XF
