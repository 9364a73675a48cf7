/-! store and drop -/
section ST5
variable {K : Nat → Prop}
theorem s_splitUp {sl : Int32} {cu ba r0 r1 r2 r3 : Q4} {sw : Nat → Int64} {bt : Int32} {cnt inn lk wd kp wr mk ls pth tk : Nat → Int32} {tl : List mC} {be bk bo : Int32} {rr r' : Nat} {T T' : Nat → Nd} {W W' : Nat → Prop} (hC : CR K W T cnt inn lk wd kp wr) {rp : List (Nat × Nat)} {cur : Nat} (h : upR K rr rp cur T W T' W' r') (hlen : rp.length ≤ 6) (hwy : wyB pth tk rp cur) (hbt : bt = nI rp.length) : ∃ cnt' inn' lk' wd' wr', CR K W' T' cnt' inn' lk' wd' kp wr' ∧ EvS m_X2_splitUpwards [.ref 12] (cW sl cu (be, nI rr, bk, bo) r0 r1 r2 r3 sw bt cnt inn lk wd kp wr mk ls pth tk tl) (.inl none) (cW sl cu (be, nI r', bk, bo) r0 r1 r2 r3 sw bt cnt' inn' lk' wd' kp wr' mk ls pth tk tl) := by
  subst hbt
  obtain ⟨c1, i1, l1, d1, w1, hC1, e1⟩ := l_splitUp (be := be) (bk := bk) (bo := bo) (rr := rr) rp (sl := sl) (cu := cu) (ba := ba) (r0 := r0) (r1 := r1) (r2 := r2) (r3 := r3) (sw := sw) (bt := (nI rp.length)) (cnt := cnt) (inn := inn) (lk := lk) (wd := wd) (kp := kp) (wr := wr) (mk := mk) (ls := ls) (pth := pth) (tk := tk) (tl := tl) hC hole hole h hlen hwy
  refine ⟨c1, i1, l1, d1, w1, hC1, ?_⟩
  refine evs_of (by decide +kernel) (Nat.le_of_ble_eq_true rfl) (by decide) rfl ?_
  refine ev_aload_n (pc := 0) dX2_splitUpwards_0 rfl rfl ?_
  refine ev_get (pc := 1) dX2_splitUpwards_1 fd_X2_61 rfl rfl ?_
  refine ev_istore_n (pc := 4) dX2_splitUpwards_4 rfl rfl rfl ?_
  exact e1
theorem wy_rev {pth tk : Nat → Int32} {P : List (Nat × Nat)} {lf : Nat} (h : wyA pth tk 0 P lf) : wyB pth tk P.reverse lf := by
  refine wyA_B P.reverse P lf (fun j x hj => ?_) ?_ (List.reverse_reverse P).symm
  · have h9 := h.1 j x hj
    rw [Nat.zero_add] at h9
    exact h9
  · have h9 := h.2
    rw [Nat.zero_add] at h9
    exact h9
theorem s_store {sl : Int32} {cu ba r0 r1 r2 r3 : Q4} {sw : Nat → Int64} {bt : Int32} {cnt inn lk wd kp wr mk ls pth tk : Nat → Int32} {tl : List mC} {be bk bo v : Int32} {rr r' k : Nat} {nw : Bool} {T T' : Nat → Nd} {W W' : Nat → Prop} (hC : CR K W T cnt inn lk wd kp wr) (h : putR K T W rr k v T' W' r' nw) : ∃ cnt' inn' lk' wd' wr' bt' pth' tk', CR K W' T' cnt' inn' lk' wd' kp wr' ∧ EvS m_X2_store [.ref 12, .int (nI k), .int v] (cW sl cu (be, nI rr, bk, bo) r0 r1 r2 r3 sw bt cnt inn lk wd kp wr mk ls pth tk tl) (.inl (some (.int (if nw then 1 else 0)))) (cW sl cu (be, nI r', if nw then bk + 1 else bk, bo) r0 r1 r2 r3 sw bt' cnt' inn' lk' wd' kp wr' mk ls pth' tk' tl) := by
  obtain ⟨d, ra, T1, W1, T2, W2, P, lf, l, hd, hk, hw, hdn, hl, -, h⟩ := h
  obtain ⟨c1, i1, l1, d1, w1, p1, t1, hC1, hwy, e1⟩ := s_writePath (sl := sl) (cu := cu) (ba := ba) (r0 := r0) (r1 := r1) (r2 := r2) (r3 := r3) (sw := sw) (bt := bt) (cnt := cnt) (inn := inn) (lk := lk) (wd := wd) (kp := kp) (wr := wr) (mk := mk) (ls := ls) (pth := pth) (tk := tk) (tl := tl) (be := be) (bk := bk) (bo := bo) hC hw hdn hd
  obtain ⟨hPl, hWl⟩ := dnR_len hdn
  have hu : K lf ∨ W2 lf := Or.inr hWl
  obtain ⟨hl8, hi, h5, hc, hrow⟩ := hC1.1.leaf hu hl
  have e2 := s_placeOf (sl := sl) (cu := cu) (ba := (be, nI ra, bk, bo)) (r0 := r0) (r1 := r1) (r2 := r2) (r3 := r3) (sw := sw) (bt := (nI d)) (cnt := c1) (inn := i1) (lk := l1) (wd := d1) (kp := kp) (wr := w1) (mk := mk) (ls := ls) (pth := p1) (tk := t1) (tl := tl) hC1.1 hu hl (nI k)
  rcases h with ⟨rfl, x, hx, hxk, rfl, rfl, rfl⟩ | ⟨rfl, hnh, hup⟩
  · have hp5 : plc l (nI k) < 5 := Nat.lt_of_lt_of_le (List.getElem?_eq_some_iff.mp hx).1 h5
    refine ⟨_, _, _, _, _, nI d, p1, t1, ⟨Rp_setL hC1.1 (v := v) hu hl hx, hC1.2⟩, ?_⟩
    refine evs_of (by decide +kernel) (Nat.le_of_ble_eq_true rfl) (by decide) rfl ?_
    refine ev_aload_n (pc := 0) dX2_store_0 rfl rfl ?_
    refine ev_iload_n (pc := 1) dX2_store_1 rfl rfl ?_
    refine cV1 (pc := 2) lk_X2_store_2 rfl rfl rfl (Nat.le_of_ble_eq_true rfl) ⟨Nat.le_of_ble_eq_true rfl, Nat.le_of_ble_eq_true rfl⟩ e1 ?_
    refine ev_istore_n (pc := 5) dX2_store_5 rfl rfl rfl ?_
    refine ev_aload_n (pc := 6) dX2_store_6 rfl rfl ?_
    refine ev_get (pc := 7) dX2_store_7 fd_X2_18 rfl rfl ?_
    refine ev_iload_n (pc := 10) dX2_store_10 rfl rfl ?_
    refine ev_iload_n (pc := 11) dX2_store_11 rfl rfl ?_
    refine cV2 (pc := 12) lk_X2_store_12 rfl rfl rfl (Nat.le_of_ble_eq_true rfl) ⟨Nat.le_of_ble_eq_true rfl, Nat.le_of_ble_eq_true rfl⟩ e2 ?_
    refine ev_istore (pc := 15) dX2_store_15 rfl rfl ?_
    refine ev_aload_n (pc := 17) dX2_store_17 rfl rfl ?_
    refine ev_get (pc := 18) dX2_store_18 fd_X2_18 rfl rfl ?_
    refine ev_iload_n (pc := 21) dX2_store_21 rfl rfl ?_
    refine ev_iload (pc := 22) dX2_store_22 rfl ?_
    refine ev_iload_n (pc := 24) dX2_store_24 rfl rfl ?_
    refine cV3 (pc := 25) lk_X2_store_25 rfl rfl rfl (Nat.le_of_ble_eq_true rfl) ⟨Nat.le_of_ble_eq_true rfl, Nat.le_of_ble_eq_true rfl⟩ (s_holds1 (sl := sl) (cu := cu) (ba := (be, nI r', bk, bo)) (r0 := r0) (r1 := r1) (r2 := r2) (r3 := r3) (sw := sw) (bt := (nI d)) (cnt := c1) (inn := i1) (lk := l1) (wd := d1) (kp := kp) (wr := w1) (mk := mk) (ls := ls) (pth := p1) (tk := t1) (tl := tl) hC1.1 hu hl ⟨x, hx, by rw [hxk]⟩) ?_
    refine ev_if_eq (pc := 28) (tgt := 44) dX2_store_28 (by decide) (fun c_28 => absurd c_28 (by decide)) (fun _ => ?_)
    refine ev_aload_n (pc := 31) dX2_store_31 rfl rfl ?_
    refine ev_get (pc := 32) dX2_store_32 fd_X2_18 rfl rfl ?_
    refine ev_iload_n (pc := 35) dX2_store_35 rfl rfl ?_
    refine ev_iload (pc := 36) dX2_store_36 rfl ?_
    refine ev_iload_n (pc := 38) dX2_store_38 rfl rfl ?_
    refine cV3 (pc := 39) lk_X2_store_39 rfl rfl rfl (Nat.le_of_ble_eq_true rfl) ⟨Nat.le_of_ble_eq_true rfl, Nat.le_of_ble_eq_true rfl⟩ (s_setWord (sl := sl) (cu := cu) (ba := (be, nI r', bk, bo)) (r0 := r0) (r1 := r1) (r2 := r2) (r3 := r3) (sw := sw) (bt := (nI d)) (cnt := c1) (inn := i1) (lk := l1) (wd := d1) (kp := kp) (wr := w1) (mk := mk) (ls := ls) (pth := p1) (tk := t1) (tl := tl) hl8 hp5) ?_
    refine ev_iconst (pc := 42) (v := 0) dX2_store_42 (by decide) ?_
    exact ev_zretE (pc := 43) dX2_store_43 rfl ⟨Nat.le_of_ble_eq_true rfl, Nat.le_of_ble_eq_true rfl⟩ (by first | exact Or.inl rfl | exact Or.inr rfl | assumption | exact i10_o) rfl rfl
  · have hpl : plc l (nI k) ≤ l.length := plc_le l (nI k)
    have h4 : l.length ≤ 4 := dnR_4 hdn hl
    have R1 := Rp_insL hC1.1 (x := (k, v)) hu hl hpl h4 hk
    obtain ⟨c2, i2, l2, d2, w2, hC2, e3⟩ := s_splitUp (sl := sl) (cu := cu) (ba := ba) (r0 := r0) (r1 := r1) (r2 := r2) (r3 := r3) (sw := sw) (bt := (nI d)) (cnt := (upd c1 lf (nI (l.length + 1)))) (inn := i1) (lk := (insF l1 (5 * lf) (plc l (nI k)) l.length (nI k))) (wd := (insF d1 (5 * lf) (plc l (nI k)) l.length v)) (kp := kp) (wr := w1) (mk := mk) (ls := ls) (pth := p1) (tk := t1) (tl := tl) (be := be) (bk := bk + 1) (bo := bo) ⟨R1, hC1.2⟩ hup (by rw [List.length_reverse, hPl]; exact hd) (wy_rev hwy) (by rw [List.length_reverse, hPl])
    refine ⟨c2, i2, l2, d2, w2, nI d, p1, t1, hC2, ?_⟩
    refine evs_of (by decide +kernel) (Nat.le_of_ble_eq_true rfl) (by decide) rfl ?_
    refine ev_aload_n (pc := 0) dX2_store_0 rfl rfl ?_
    refine ev_iload_n (pc := 1) dX2_store_1 rfl rfl ?_
    refine cV1 (pc := 2) lk_X2_store_2 rfl rfl rfl (Nat.le_of_ble_eq_true rfl) ⟨Nat.le_of_ble_eq_true rfl, Nat.le_of_ble_eq_true rfl⟩ e1 ?_
    refine ev_istore_n (pc := 5) dX2_store_5 rfl rfl rfl ?_
    refine ev_aload_n (pc := 6) dX2_store_6 rfl rfl ?_
    refine ev_get (pc := 7) dX2_store_7 fd_X2_18 rfl rfl ?_
    refine ev_iload_n (pc := 10) dX2_store_10 rfl rfl ?_
    refine ev_iload_n (pc := 11) dX2_store_11 rfl rfl ?_
    refine cV2 (pc := 12) lk_X2_store_12 rfl rfl rfl (Nat.le_of_ble_eq_true rfl) ⟨Nat.le_of_ble_eq_true rfl, Nat.le_of_ble_eq_true rfl⟩ e2 ?_
    refine ev_istore (pc := 15) dX2_store_15 rfl rfl ?_
    refine ev_aload_n (pc := 17) dX2_store_17 rfl rfl ?_
    refine ev_get (pc := 18) dX2_store_18 fd_X2_18 rfl rfl ?_
    refine ev_iload_n (pc := 21) dX2_store_21 rfl rfl ?_
    refine ev_iload (pc := 22) dX2_store_22 rfl ?_
    refine ev_iload_n (pc := 24) dX2_store_24 rfl rfl ?_
    refine cV3 (pc := 25) lk_X2_store_25 rfl rfl rfl (Nat.le_of_ble_eq_true rfl) ⟨Nat.le_of_ble_eq_true rfl, Nat.le_of_ble_eq_true rfl⟩ (s_holds0 (sl := sl) (cu := cu) (ba := (be, nI ra, bk, bo)) (r0 := r0) (r1 := r1) (r2 := r2) (r3 := r3) (sw := sw) (bt := (nI d)) (cnt := c1) (inn := i1) (lk := l1) (wd := d1) (kp := kp) (wr := w1) (mk := mk) (ls := ls) (pth := p1) (tk := t1) (tl := tl) hC1.1 hu hl (by omega) hnh) ?_
    refine ev_if_eq (pc := 28) (tgt := 44) dX2_store_28 (by decide) (fun _ => ?_) (fun c_28 => absurd rfl c_28)
    refine ev_aload_n (pc := 44) dX2_store_44 rfl rfl ?_
    refine ev_get (pc := 45) dX2_store_45 fd_X2_18 rfl rfl ?_
    refine ev_iload_n (pc := 48) dX2_store_48 rfl rfl ?_
    refine ev_iload (pc := 49) dX2_store_49 rfl ?_
    refine ev_iload_n (pc := 51) dX2_store_51 rfl rfl ?_
    refine ev_iload_n (pc := 52) dX2_store_52 rfl rfl ?_
    refine cV4 (pc := 53) lk_X2_store_53 rfl rfl rfl (Nat.le_of_ble_eq_true rfl) ⟨Nat.le_of_ble_eq_true rfl, Nat.le_of_ble_eq_true rfl⟩ (s_insert (sl := sl) (cu := cu) (ba := (be, nI ra, bk, bo)) (r0 := r0) (r1 := r1) (r2 := r2) (r3 := r3) (sw := sw) (bt := (nI d)) (cnt := c1) (inn := i1) (lk := l1) (wd := d1) (kp := kp) (wr := w1) (mk := mk) (ls := ls) (pth := p1) (tk := t1) (tl := tl) hl8 hc hpl h4) ?_
    refine ev_aload_n (pc := 56) dX2_store_56 rfl rfl ?_
    refine ev_get (pc := 57) dX2_store_57 fd_X2_22 rfl rfl ?_
    refine ev_dup (pc := 60) dX2_store_60 rfl ?_
    refine ev_get (pc := 61) dX2_store_61 fd_X2_48 rfl rfl ?_
    refine ev_iconst (pc := 64) (v := 1) dX2_store_64 (by decide) ?_
    refine ev_iadd (pc := 65) dX2_store_65 ?_
    refine ev_put (pc := 66) dX2_store_66 fp_X2_48 rfl (Nat.le_of_ble_eq_true rfl) (fun _ _ => ⟨rfl, rfl⟩) rfl ?_
    refine ev_aload_n (pc := 69) dX2_store_69 rfl rfl ?_
    refine cV0 (pc := 70) lk_X2_store_70 rfl rfl rfl (Nat.le_of_ble_eq_true rfl) ⟨Nat.le_of_ble_eq_true rfl, Nat.le_of_ble_eq_true rfl⟩ e3 ?_
    refine ev_iconst (pc := 73) (v := 1) dX2_store_73 (by decide) ?_
    exact ev_zretE (pc := 74) dX2_store_74 rfl ⟨Nat.le_of_ble_eq_true rfl, Nat.le_of_ble_eq_true rfl⟩ (by first | exact Or.inl rfl | exact Or.inr rfl | assumption | exact i10_o) rfl rfl
theorem s_drop {sl : Int32} {cu ba r0 r1 r2 r3 : Q4} {sw : Nat → Int64} {bt : Int32} {cnt inn lk wd kp wr mk ls pth tk : Nat → Int32} {tl : List mC} {be bk bo v : Int32} {rr r' k : Nat} {T T' : Nat → Nd} {W W' : Nat → Prop} (hC : CR K W T cnt inn lk wd kp wr) (h : delR K T W rr k v T' W' r') : ∃ cnt' inn' lk' wd' wr' bt' pth' tk', CR K W' T' cnt' inn' lk' wd' kp wr' ∧ EvS m_X2_drop [.ref 12, .int (nI k)] (cW sl cu (be, nI rr, bk, bo) r0 r1 r2 r3 sw bt cnt inn lk wd kp wr mk ls pth tk tl) (.inl none) (cW sl cu (be, nI r', bk - 1, bo) r0 r1 r2 r3 sw bt' cnt' inn' lk' wd' kp wr' mk ls pth' tk' tl) := by
  obtain ⟨d, ra, T1, W1, T2, W2, W3, P, lf, l, hd, hk, hw, hdn, hl, -, hx, hdl, hsh⟩ := h
  obtain ⟨c1, i1, l1, d1, w1, p1, t1, hC1, hwy, e1⟩ := s_writePath (sl := sl) (cu := cu) (ba := ba) (r0 := r0) (r1 := r1) (r2 := r2) (r3 := r3) (sw := sw) (bt := bt) (cnt := cnt) (inn := inn) (lk := lk) (wd := wd) (kp := kp) (wr := wr) (mk := mk) (ls := ls) (pth := pth) (tk := tk) (tl := tl) (be := be) (bk := bk) (bo := bo) hC hw hdn hd
  obtain ⟨hPl, hWl⟩ := dnR_len hdn
  have hu : K lf ∨ W2 lf := Or.inr hWl
  obtain ⟨hl8, hi, h5, hc, hrow⟩ := hC1.1.leaf hu hl
  have e2 := s_placeOf (sl := sl) (cu := cu) (ba := (be, nI ra, bk, bo)) (r0 := r0) (r1 := r1) (r2 := r2) (r3 := r3) (sw := sw) (bt := (nI d)) (cnt := c1) (inn := i1) (lk := l1) (wd := d1) (kp := kp) (wr := w1) (mk := mk) (ls := ls) (pth := p1) (tk := t1) (tl := tl) hC1.1 hu hl (nI k)
  have hpl : plc l (nI k) < l.length := (List.getElem?_eq_some_iff.mp hx).1
  have R1 := Rp_rm hC1.1 (p := lf) (e := plc l (nI k)) hu (by rw [hl]; exact hpl)
  rw [hl] at R1
  have hPr : P.reverse.length = d := by rw [List.length_reverse, hPl]
  obtain ⟨c2, i2, l2, d2, w2, hC2, e3⟩ := l_dropUp (be := be) (bk := bk - 1) (bo := bo) hsh (nI k) P.reverse (sl := sl) (cu := cu) (ba := ba) (r0 := r0) (r1 := r1) (r2 := r2) (r3 := r3) (sw := sw) (bt := (nI d)) (cnt := (upd c1 lf (nI (l.length - 1)))) (inn := i1) (lk := (shD l1 (5 * lf) (plc l (nI k)) (l.length - 1))) (wd := (shD d1 (5 * lf) (plc l (nI k)) (l.length - 1))) (kp := kp) (wr := w1) (mk := mk) (ls := ls) (pth := p1) (tk := t1) (tl := tl) ⟨R1, hC1.2⟩ (nI lf) hdl (by rw [hPr]; exact hd) (wy_rev hwy)
  rw [hPr] at e3
  refine ⟨c2, i2, l2, d2, w2, nI d, p1, t1, hC2, ?_⟩
  refine evs_of (by decide +kernel) (Nat.le_of_ble_eq_true rfl) (by decide) rfl ?_
  refine ev_aload_n (pc := 0) dX2_drop_0 rfl rfl ?_
  refine ev_iload_n (pc := 1) dX2_drop_1 rfl rfl ?_
  refine cV1 (pc := 2) lk_X2_drop_2 rfl rfl rfl (Nat.le_of_ble_eq_true rfl) ⟨Nat.le_of_ble_eq_true rfl, Nat.le_of_ble_eq_true rfl⟩ e1 ?_
  refine ev_istore_n (pc := 5) dX2_drop_5 rfl rfl rfl ?_
  refine ev_aload_n (pc := 6) dX2_drop_6 rfl rfl ?_
  refine ev_get (pc := 7) dX2_drop_7 fd_X2_18 rfl rfl ?_
  refine ev_iload_n (pc := 10) dX2_drop_10 rfl rfl ?_
  refine ev_aload_n (pc := 11) dX2_drop_11 rfl rfl ?_
  refine ev_get (pc := 12) dX2_drop_12 fd_X2_18 rfl rfl ?_
  refine ev_iload_n (pc := 15) dX2_drop_15 rfl rfl ?_
  refine ev_iload_n (pc := 16) dX2_drop_16 rfl rfl ?_
  refine cV2 (pc := 17) lk_X2_drop_17 rfl rfl rfl (Nat.le_of_ble_eq_true rfl) ⟨Nat.le_of_ble_eq_true rfl, Nat.le_of_ble_eq_true rfl⟩ e2 ?_
  refine cV2 (pc := 20) lk_X2_drop_20 rfl rfl rfl (Nat.le_of_ble_eq_true rfl) ⟨Nat.le_of_ble_eq_true rfl, Nat.le_of_ble_eq_true rfl⟩ (s_remove (sl := sl) (cu := cu) (ba := (be, nI ra, bk, bo)) (r0 := r0) (r1 := r1) (r2 := r2) (r3 := r3) (sw := sw) (bt := (nI d)) (cnt := c1) (inn := i1) (lk := l1) (wd := d1) (kp := kp) (wr := w1) (mk := mk) (ls := ls) (pth := p1) (tk := t1) (tl := tl) hl8 hc hpl h5) ?_
  refine ev_aload_n (pc := 23) dX2_drop_23 rfl rfl ?_
  refine ev_get (pc := 24) dX2_drop_24 fd_X2_22 rfl rfl ?_
  refine ev_dup (pc := 27) dX2_drop_27 rfl ?_
  refine ev_get (pc := 28) dX2_drop_28 fd_X2_48 rfl rfl ?_
  refine ev_iconst (pc := 31) (v := 1) dX2_drop_31 (by decide) ?_
  refine ev_isub (pc := 32) dX2_drop_32 ?_
  refine ev_put (pc := 33) dX2_drop_33 fp_X2_48 rfl (Nat.le_of_ble_eq_true rfl) (fun _ _ => ⟨rfl, rfl⟩) rfl ?_
  refine ev_aload_n (pc := 36) dX2_drop_36 rfl rfl ?_
  refine ev_get (pc := 37) dX2_drop_37 fd_X2_61 rfl rfl ?_
  refine ev_istore_n (pc := 40) dX2_drop_40 rfl rfl rfl ?_
  exact e3
theorem s_become1 {sl : Int32} {cu ba r0 r1 r2 r3 : Q4} {sw : Nat → Int64} {bt : Int32} {cnt inn lk wd kp wr mk ls pth tk : Nat → Int32} {tl : List mC} {q0 : Q4} : EvS m_X1_become [.ref 10, .ref 11] (cW sl q0 ba r0 r1 r2 r3 sw bt cnt inn lk wd kp wr mk ls pth tk tl) (.inl none) (cW sl (ba.1, ba.2.1, ba.2.2.1, 1) ba r0 r1 r2 r3 sw bt cnt inn lk wd kp wr mk ls pth tk tl) := by
  refine evs_of (by decide +kernel) (Nat.le_of_ble_eq_true rfl) (by decide) rfl ?_
  refine ev_aload_n (pc := 0) dX1_become_0 rfl rfl ?_
  refine ev_aload_n (pc := 1) dX1_become_1 rfl rfl ?_
  refine ev_get (pc := 2) dX1_become_2 fd_X1_7 rfl rfl ?_
  refine ev_put (pc := 5) dX1_become_5 fp_X1_7 rfl (Nat.le_of_ble_eq_true rfl) (fun _ _ => ⟨rfl, rfl⟩) rfl ?_
  refine ev_aload_n (pc := 8) dX1_become_8 rfl rfl ?_
  refine ev_aload_n (pc := 9) dX1_become_9 rfl rfl ?_
  refine ev_get (pc := 10) dX1_become_10 fd_X1_13 rfl rfl ?_
  refine ev_put (pc := 13) dX1_become_13 fp_X1_13 rfl (Nat.le_of_ble_eq_true rfl) (fun _ _ => ⟨rfl, rfl⟩) rfl ?_
  refine ev_aload_n (pc := 16) dX1_become_16 rfl rfl ?_
  refine ev_aload_n (pc := 17) dX1_become_17 rfl rfl ?_
  refine ev_get (pc := 18) dX1_become_18 fd_X1_16 rfl rfl ?_
  refine ev_put (pc := 21) dX1_become_21 fp_X1_16 rfl (Nat.le_of_ble_eq_true rfl) (fun _ _ => ⟨rfl, rfl⟩) rfl ?_
  refine ev_aload_n (pc := 24) dX1_become_24 rfl rfl ?_
  refine ev_iconst (pc := 25) (v := 1) dX1_become_25 (by decide) ?_
  refine ev_put (pc := 26) dX1_become_26 fp_X1_19 rfl (Nat.le_of_ble_eq_true rfl) (fun _ _ => ⟨rfl, rfl⟩) rfl ?_
  exact ev_vretE (pc := 29) dX1_become_29 rfl ⟨Nat.le_of_ble_eq_true rfl, Nat.le_of_ble_eq_true rfl⟩ rfl
end ST5
