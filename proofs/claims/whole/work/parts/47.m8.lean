/-! the model: put -/
section M8
variable {K : Nat → Prop} {c : RS3} {so rd : Nat → Option RS3}
theorem s_splits {cc : C21} {ep ro bb sl th dp : Int32} {many inn item val wr met rst : Nat → Int32} {wds : Nat → Int64} {opd ope way tk : Nat → Int32} {tl : List mC} (hro : ro = nI c.2.1) {r r' : Nat} (hop : opC opd ope rd) (hSL : SLR wds so) {T T' : Nat → Nd} {W W' : Nat → Prop} (hM : MBt K W T (rts c so rd) many inn item val wr) {rp : List (Nat × Nat)} {cur : Nat} (h : upR K r rp cur T W T' W' r') (hlen : rp.length ≤ 6) (hwy : wyB way tk rp cur) (hdp : dp = nI rp.length) : ∃ met' rst' many' inn' item' val' wr', MBt K W' T' (rts c so rd) many' inn' item' val' wr' ∧ EvS m_X4_splits [.ref 21] (dW cc ep ro (nI r) sl th dp many inn item val wr met rst wds opd ope way tk tl) (.inl none) (dW cc ep ro (nI r') sl th dp many' inn' item' val' wr' met' rst' wds opd ope way tk tl) := by
  subst hdp
  obtain ⟨m1, q1, a1, i1, t1, v1, w1, hM1, e1⟩ := l_splits (cc := cc) (ep := ep) (ro := ro) (bb := bb) (sl := sl) (th := th) (dp := (nI rp.length)) (many := many) (inn := inn) (item := item) (val := val) (wr := wr) (met := met) (rst := rst) (wds := wds) (opd := opd) (ope := ope) (way := way) (tk := tk) (tl := tl) hro hop hSL rp many inn item val wr met rst hM h hlen hwy
  refine ⟨m1, q1, a1, i1, t1, v1, w1, hM1, ?_⟩
  refine evs_of (by decide +kernel) (Nat.le_of_ble_eq_true rfl) (by decide) rfl rfl ?_
  refine ev_aload_n (pc := 0) dX4_splits_0 rfl rfl ?_
  refine ev_get (pc := 1) dX4_splits_1 fd_X4_91 rfl rfl ?_
  refine ev_istore_n (pc := 4) dX4_splits_4 rfl rfl rfl ?_
  exact e1 _ _ _
theorem way_tk {P P0 : List (Nat × Nat)} {way tk : Nat → Int32} {lf : Nat} (h : wyA way tk 0 P0 lf) (hP : P0.map (fun x => x.2) = P.map (fun x => x.2)) : ∀ (j : Nat) (x : Nat × Nat), P[j]? = some x → tk j = nI x.2 := fun j x hx => by
  have h1 : (P.map (fun x => x.2))[j]? = some x.2 := by rw [List.getElem?_map, hx]; rfl
  rw [← hP, List.getElem?_map] at h1
  obtain ⟨y, hy, hyx⟩ := Option.map_eq_some_iff.mp h1
  have h2 := (h.1 j y hy).2
  rw [Nat.zero_add] at h2
  rw [h2, hyx]
theorem s_mPut {cc : C21} {ep ro bb sl th dp : Int32} {many inn item val wr met rst : Nat → Int32} {wds : Nat → Int64} {opd ope way tk : Nat → Int32} {tl : List mC} (hro : ro = nI c.2.1) {r r' k : Nat} {v : Int32} {nw : Bool} (hop : opC opd ope rd) (hSL : SLR wds so) {T T' : Nat → Nd} {W W' : Nat → Prop} (hM : MBt K W T (rts c so rd) many inn item val wr) (h : putR K T W r k v T' W' r' nw) : ∃ met' rst' many' inn' item' val' wr' way' tk' dp', MBt K W' T' (rts c so rd) many' inn' item' val' wr' ∧ EvS m_X4_put [.ref 21, .int (nI k), .int v] (dW cc ep ro (nI r) sl th dp many inn item val wr met rst wds opd ope way tk tl) (.inl (some (.int (if nw then 1 else 0)))) (dW cc ep ro (nI r') sl 0 dp' many' inn' item' val' wr' met' rst' wds opd ope way' tk' tl) := by
  obtain ⟨d, ra, T1, W1, T2, W2, P, lf, l, hd, hk, hw, hdn, hl, ⟨P0, lf0, hfd, hP, -⟩, h⟩ := h
  have hr7 : r < 720 := (hM.1 r hw.1).1
  obtain ⟨y1, k1, hwy0, e1⟩ := s_finds (cc := cc) (ep := ep) (ro := ro) (bb := (nI r)) (sl := sl) (th := 0) (dp := dp) (many := many) (inn := inn) (item := item) (val := val) (wr := wr) (met := met) (rst := rst) (wds := wds) (opd := opd) (ope := ope) (way := way) (tk := tk) (tl := tl) hM.1 hfd hd
  obtain ⟨m2, q2, a2, i2, t2, v2, w2, y2, hM2, hwy, e2⟩ := s_wWay (cc := cc) (ep := ep) (ro := ro) (bb := (nI r)) (sl := sl) (th := 0) (dp := (nI d)) (many := many) (inn := inn) (item := item) (val := val) (wr := wr) (met := met) (rst := rst) (wds := wds) (opd := opd) (ope := ope) (way := y1) (tk := k1) (tl := tl) hM hro hop hSL hw hdn hd (way_tk hwy0 hP)
  obtain ⟨hPl, hWl⟩ := dnR_len hdn
  have hu : K lf ∨ W2 lf := Or.inr hWl
  obtain ⟨hl7, hi, h5, hc, hrow, hva, hk1⟩ := hM2.1.leaf hu hl
  have hyd : y2 d = nI lf := by
    have h9 := hwy.2
    rw [Nat.zero_add, hPl] at h9
    exact h9
  have e3 := s_mPlace (cc := cc) (ep := ep) (ro := ro) (bb := (nI ra)) (sl := sl) (th := 0) (dp := (nI d)) (many := a2) (inn := i2) (item := t2) (val := v2) (wr := w2) (met := m2) (rst := q2) (wds := wds) (opd := opd) (ope := ope) (way := y2) (tk := k1) (tl := tl) hM2.1 hu hl (nI k)
  have hkk : nI k ≤ 99 := by exact nI_le (show k ≤ 99 by omega) (by decide)
  rcases h with ⟨rfl, x, hx, hxk, rfl, rfl, rfl⟩ | ⟨rfl, hnh, hup⟩
  · have hp5 : plc l (nI k) < 5 := Nat.lt_of_lt_of_le (List.getElem?_eq_some_iff.mp hx).1 h5
    refine ⟨m2, q2, a2, i2, t2, upd v2 (5 * lf + plc l (nI k)) v, w2, y2, k1, nI d, ⟨Rm_setL hM2.1 (v := v) hu hl hx, hM2.2.1, K_frame hM2.2.2.1 (fun q hq => upT_n (fun h => hM2.2.2.2 q hq (by rw [h]; exact hWl))), hM2.2.2.2⟩, ?_⟩
    refine evs_of (by decide +kernel) (Nat.le_of_ble_eq_true rfl) (by decide) rfl rfl ?_
    refine ev_aload_n (pc := 0) dX4_put_0 rfl rfl ?_
    refine ev_iload_n (pc := 1) dX4_put_1 rfl rfl ?_
    refine ev_iconst (pc := 2) (v := 0) dX4_put_2 (by decide) ?_
    refine ev_bipush (pc := 3) (v := 99) dX4_put_3 (by decide) ?_
    refine cS3 (pc := 5) lk_X4_put_5 (Nat.le_of_ble_eq_true rfl) ⟨Nat.le_of_ble_eq_true rfl, Nat.le_of_ble_eq_true rfl⟩ (s_in1 (nI_pos' (show k < 2147483648 by omega)) hkk) ?_
    refine ev_aload_n (pc := 8) dX4_put_8 rfl rfl ?_
    refine ev_get (pc := 9) dX4_put_9 fd_X4_32 rfl rfl ?_
    refine ev_iconst (pc := 12) (v := (-1)) dX4_put_12 (by decide) ?_
    refine ev_ic_eq (pc := 13) (tgt := 20) dX4_put_13 (by decide) (fun c_13 => absurd c_13 (fun h => nI_m1 (by omega) h)) (fun _ => ?_)
    refine ev_iconst (pc := 16) (v := 1) dX4_put_16 (by decide) ?_
    refine ev_goto (pc := 17) (tgt := 21) dX4_put_17 (by decide) ?_
    refine ev_iconst (pc := 21) (v := 1) dX4_put_21 (by decide) ?_
    refine cV3 (pc := 22) lk_X4_put_22 rfl rfl rfl (Nat.le_of_ble_eq_true rfl) ⟨Nat.le_of_ble_eq_true rfl, Nat.le_of_ble_eq_true rfl⟩ (s_goes (cc := cc) (ep := ep) (ro := ro) (bb := (nI r)) (sl := sl) (th := th) (dp := dp) (many := many) (inn := inn) (item := item) (val := val) (wr := wr) (met := met) (rst := rst) (wds := wds) (opd := opd) (ope := ope) (way := way) (tk := tk) (tl := tl)) ?_
    refine ev_if_ne (pc := 25) (tgt := 30) dX4_put_25 (by decide) (fun _ => ?_) (fun c_25 => absurd c_25 (by decide))
    refine ev_aload_n (pc := 30) dX4_put_30 rfl rfl ?_
    refine ev_aload_n (pc := 31) dX4_put_31 rfl rfl ?_
    refine ev_get (pc := 32) dX4_put_32 fd_X4_32 rfl rfl ?_
    refine ev_iload_n (pc := 35) dX4_put_35 rfl rfl ?_
    refine cV2 (pc := 36) lk_X4_put_36 rfl rfl rfl (Nat.le_of_ble_eq_true rfl) ⟨Nat.le_of_ble_eq_true rfl, Nat.le_of_ble_eq_true rfl⟩ e1 ?_
    refine ev_aload_n (pc := 39) dX4_put_39 rfl rfl ?_
    refine cV0 (pc := 40) lk_X4_put_40 rfl rfl rfl (Nat.le_of_ble_eq_true rfl) ⟨Nat.le_of_ble_eq_true rfl, Nat.le_of_ble_eq_true rfl⟩ e2 ?_
    refine ev_aload_n (pc := 43) dX4_put_43 rfl rfl ?_
    refine ev_get (pc := 44) dX4_put_44 fd_X4_46 rfl rfl ?_
    refine ev_aload_n (pc := 47) dX4_put_47 rfl rfl ?_
    refine ev_get (pc := 48) dX4_put_48 fd_X4_91 rfl rfl ?_
    refine ev_ialdN (pc := 51) dX4_put_51 rfl ⟨rfl, by omega, by decide⟩ hyd ?_
    refine ev_istore_n (pc := 52) dX4_put_52 rfl rfl rfl ?_
    refine ev_aload_n (pc := 53) dX4_put_53 rfl rfl ?_
    refine ev_iload_n (pc := 54) dX4_put_54 rfl rfl ?_
    refine ev_iload_n (pc := 55) dX4_put_55 rfl rfl ?_
    refine cV2 (pc := 56) lk_X4_put_56 rfl rfl rfl (Nat.le_of_ble_eq_true rfl) ⟨Nat.le_of_ble_eq_true rfl, Nat.le_of_ble_eq_true rfl⟩ e3 ?_
    refine ev_istore (pc := 59) dX4_put_59 rfl rfl ?_
    refine ev_aload_n (pc := 61) dX4_put_61 rfl rfl ?_
    refine ev_iload_n (pc := 62) dX4_put_62 rfl rfl ?_
    refine ev_iload (pc := 63) dX4_put_63 rfl ?_
    refine ev_iload_n (pc := 65) dX4_put_65 rfl rfl ?_
    refine cV3 (pc := 66) lk_X4_put_66 rfl rfl rfl (Nat.le_of_ble_eq_true rfl) ⟨Nat.le_of_ble_eq_true rfl, Nat.le_of_ble_eq_true rfl⟩ (s_has1 (cc := cc) (ep := ep) (ro := ro) (bb := (nI r')) (sl := sl) (th := 0) (dp := (nI d)) (many := a2) (inn := i2) (item := t2) (val := v2) (wr := w2) (met := m2) (rst := q2) (wds := wds) (opd := opd) (ope := ope) (way := y2) (tk := k1) (tl := tl) hM2.1 hu hl ⟨x, hx, by rw [hxk]⟩) ?_
    refine ev_if_eq (pc := 69) (tgt := 86) dX4_put_69 (by decide) (fun c_69 => absurd c_69 (by decide)) (fun _ => ?_)
    refine ev_aload_n (pc := 72) dX4_put_72 rfl rfl ?_
    refine ev_get (pc := 73) dX4_put_73 fd_X4_20 rfl rfl ?_
    refine ev_iconst (pc := 76) (v := 5) dX4_put_76 (by decide) ?_
    refine ev_iload_n (pc := 77) dX4_put_77 rfl rfl ?_
    refine ev_imul (pc := 78) dX4_put_78 ?_
    refine ev_iload (pc := 79) dX4_put_79 rfl ?_
    refine ev_iadd (pc := 81) dX4_put_81 ?_
    refine ev_iload_n (pc := 82) dX4_put_82 rfl rfl ?_
    refine ev_iastN (pc := 83) dX4_put_83 rfl ⟨(ix5m lf (plc l (nI k))), by omega, by decide⟩ rfl rfl ?_
    refine ev_iconst (pc := 84) (v := 0) dX4_put_84 (by decide) ?_
    exact ev_zretE (pc := 85) dX4_put_85 rfl ⟨Nat.le_of_ble_eq_true rfl, Nat.le_of_ble_eq_true rfl⟩ (by first | exact Or.inl rfl | exact Or.inr rfl | assumption | exact i10_o) rfl rfl
  · have hpl : plc l (nI k) ≤ l.length := plc_le l (nI k)
    have h4 : l.length ≤ 4 := dnR_4 hdn hl
    have R1 := Rm_insL hM2.1 (x := (k, v)) hu hl hpl h4 hk
    have hPr : P.reverse.length = d := by rw [List.length_reverse, hPl]
    obtain ⟨m3, q3, a3, i3, t3, v3, w3, hM3, e4⟩ := s_splits (cc := cc) (ep := ep) (ro := ro) (bb := (nI ra)) (sl := sl) (th := 0) (dp := (nI d)) (many := (upd a2 lf (nI (l.length + 1)))) (inn := i2) (item := (insF t2 (5 * lf) (plc l (nI k)) l.length (nI k))) (val := (insF v2 (5 * lf) (plc l (nI k)) l.length v)) (wr := w2) (met := m2) (rst := q2) (wds := wds) (opd := opd) (ope := ope) (way := y2) (tk := k1) (tl := tl) hro hop hSL ⟨R1, hM2.2.1, K_frame hM2.2.2.1 (fun q hq => upT_n (fun h => hM2.2.2.2 q hq (by rw [h]; exact hWl))), hM2.2.2.2⟩ hup (by rw [hPr]; exact hd) (wy_rev hwy) (by rw [hPr])
    refine ⟨m3, q3, a3, i3, t3, v3, w3, y2, k1, nI d, hM3, ?_⟩
    refine evs_of (by decide +kernel) (Nat.le_of_ble_eq_true rfl) (by decide) rfl rfl ?_
    refine ev_aload_n (pc := 0) dX4_put_0 rfl rfl ?_
    refine ev_iload_n (pc := 1) dX4_put_1 rfl rfl ?_
    refine ev_iconst (pc := 2) (v := 0) dX4_put_2 (by decide) ?_
    refine ev_bipush (pc := 3) (v := 99) dX4_put_3 (by decide) ?_
    refine cS3 (pc := 5) lk_X4_put_5 (Nat.le_of_ble_eq_true rfl) ⟨Nat.le_of_ble_eq_true rfl, Nat.le_of_ble_eq_true rfl⟩ (s_in1 (nI_pos' (show k < 2147483648 by omega)) hkk) ?_
    refine ev_aload_n (pc := 8) dX4_put_8 rfl rfl ?_
    refine ev_get (pc := 9) dX4_put_9 fd_X4_32 rfl rfl ?_
    refine ev_iconst (pc := 12) (v := (-1)) dX4_put_12 (by decide) ?_
    refine ev_ic_eq (pc := 13) (tgt := 20) dX4_put_13 (by decide) (fun c_13 => absurd c_13 (fun h => nI_m1 (by omega) h)) (fun _ => ?_)
    refine ev_iconst (pc := 16) (v := 1) dX4_put_16 (by decide) ?_
    refine ev_goto (pc := 17) (tgt := 21) dX4_put_17 (by decide) ?_
    refine ev_iconst (pc := 21) (v := 1) dX4_put_21 (by decide) ?_
    refine cV3 (pc := 22) lk_X4_put_22 rfl rfl rfl (Nat.le_of_ble_eq_true rfl) ⟨Nat.le_of_ble_eq_true rfl, Nat.le_of_ble_eq_true rfl⟩ (s_goes (cc := cc) (ep := ep) (ro := ro) (bb := (nI r)) (sl := sl) (th := th) (dp := dp) (many := many) (inn := inn) (item := item) (val := val) (wr := wr) (met := met) (rst := rst) (wds := wds) (opd := opd) (ope := ope) (way := way) (tk := tk) (tl := tl)) ?_
    refine ev_if_ne (pc := 25) (tgt := 30) dX4_put_25 (by decide) (fun _ => ?_) (fun c_25 => absurd c_25 (by decide))
    refine ev_aload_n (pc := 30) dX4_put_30 rfl rfl ?_
    refine ev_aload_n (pc := 31) dX4_put_31 rfl rfl ?_
    refine ev_get (pc := 32) dX4_put_32 fd_X4_32 rfl rfl ?_
    refine ev_iload_n (pc := 35) dX4_put_35 rfl rfl ?_
    refine cV2 (pc := 36) lk_X4_put_36 rfl rfl rfl (Nat.le_of_ble_eq_true rfl) ⟨Nat.le_of_ble_eq_true rfl, Nat.le_of_ble_eq_true rfl⟩ e1 ?_
    refine ev_aload_n (pc := 39) dX4_put_39 rfl rfl ?_
    refine cV0 (pc := 40) lk_X4_put_40 rfl rfl rfl (Nat.le_of_ble_eq_true rfl) ⟨Nat.le_of_ble_eq_true rfl, Nat.le_of_ble_eq_true rfl⟩ e2 ?_
    refine ev_aload_n (pc := 43) dX4_put_43 rfl rfl ?_
    refine ev_get (pc := 44) dX4_put_44 fd_X4_46 rfl rfl ?_
    refine ev_aload_n (pc := 47) dX4_put_47 rfl rfl ?_
    refine ev_get (pc := 48) dX4_put_48 fd_X4_91 rfl rfl ?_
    refine ev_ialdN (pc := 51) dX4_put_51 rfl ⟨rfl, by omega, by decide⟩ hyd ?_
    refine ev_istore_n (pc := 52) dX4_put_52 rfl rfl rfl ?_
    refine ev_aload_n (pc := 53) dX4_put_53 rfl rfl ?_
    refine ev_iload_n (pc := 54) dX4_put_54 rfl rfl ?_
    refine ev_iload_n (pc := 55) dX4_put_55 rfl rfl ?_
    refine cV2 (pc := 56) lk_X4_put_56 rfl rfl rfl (Nat.le_of_ble_eq_true rfl) ⟨Nat.le_of_ble_eq_true rfl, Nat.le_of_ble_eq_true rfl⟩ e3 ?_
    refine ev_istore (pc := 59) dX4_put_59 rfl rfl ?_
    refine ev_aload_n (pc := 61) dX4_put_61 rfl rfl ?_
    refine ev_iload_n (pc := 62) dX4_put_62 rfl rfl ?_
    refine ev_iload (pc := 63) dX4_put_63 rfl ?_
    refine ev_iload_n (pc := 65) dX4_put_65 rfl rfl ?_
    refine cV3 (pc := 66) lk_X4_put_66 rfl rfl rfl (Nat.le_of_ble_eq_true rfl) ⟨Nat.le_of_ble_eq_true rfl, Nat.le_of_ble_eq_true rfl⟩ (s_has0 (cc := cc) (ep := ep) (ro := ro) (bb := (nI ra)) (sl := sl) (th := 0) (dp := (nI d)) (many := a2) (inn := i2) (item := t2) (val := v2) (wr := w2) (met := m2) (rst := q2) (wds := wds) (opd := opd) (ope := ope) (way := y2) (tk := k1) (tl := tl) hM2.1 hu hl (by omega) hnh) ?_
    refine ev_if_eq (pc := 69) (tgt := 86) dX4_put_69 (by decide) (fun _ => ?_) (fun c_69 => absurd rfl c_69)
    refine ev_aload_n (pc := 86) dX4_put_86 rfl rfl ?_
    refine ev_iload_n (pc := 87) dX4_put_87 rfl rfl ?_
    refine ev_iload (pc := 88) dX4_put_88 rfl ?_
    refine ev_iload_n (pc := 90) dX4_put_90 rfl rfl ?_
    refine ev_iload_n (pc := 91) dX4_put_91 rfl rfl ?_
    refine cV4 (pc := 92) lk_X4_put_92 rfl rfl rfl (Nat.le_of_ble_eq_true rfl) ⟨Nat.le_of_ble_eq_true rfl, Nat.le_of_ble_eq_true rfl⟩ (s_lays hl7 hc hpl h4) ?_
    refine ev_aload_n (pc := 95) dX4_put_95 rfl rfl ?_
    refine cV0 (pc := 96) lk_X4_put_96 rfl rfl rfl (Nat.le_of_ble_eq_true rfl) ⟨Nat.le_of_ble_eq_true rfl, Nat.le_of_ble_eq_true rfl⟩ e4 ?_
    refine ev_iconst (pc := 99) (v := 1) dX4_put_99 (by decide) ?_
    exact ev_zretE (pc := 100) dX4_put_100 rfl ⟨Nat.le_of_ble_eq_true rfl, Nat.le_of_ble_eq_true rfl⟩ (by first | exact Or.inl rfl | exact Or.inr rfl | assumption | exact i10_o) rfl rfl
end M8
