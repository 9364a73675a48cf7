/-! the model: joins, delete -/
section M11
variable {K U : Nat → Prop} {c : RS3} {so rd : Nat → Option RS3}
theorem fdR_U {T : Nat → Nd} {key : Int32} : ∀ {d p : Nat} {P : List (Nat × Nat)} {lf : Nat}, fdR T U key d p P lf → U lf ∧ P.length = d ∧ U p
  | 0, _, _, _, h => by
    obtain ⟨rfl, rfl, hu, -⟩ := h
    exact ⟨hu, rfl, hu⟩
  | d + 1, _, _, _, h => by
    obtain ⟨hu, l, e, x, P', -, -, -, -, -, rfl, h⟩ := h
    obtain ⟨a, b, -⟩ := fdR_U h
    exact ⟨a, by simp [b], hu⟩
theorem s_mMend {cc : C21} {ep ro bb sl th dp : Int32} {many inn item val wr met rst : Nat → Int32} {wds : Nat → Int64} {opd ope way tk : Nat → Int32} {tl : List mC} (hro : ro = nI c.2.1) {r : Nat} (hbb : bb = nI r) (hop : opC opd ope rd) (hSL : SLR wds so) {W W' : Nat → Prop} {T T' : Nat → Nd} (hM : MBt K W T (rts c so rd) many inn item val wr) {q e i cur : Nat} {l : List Nat} (hi0 : i < 11) (hw1 : way (i + 1) = nI cur) (hw2 : way i = nI q) (hw3 : tk i = nI e) (hl : T q = .inr l) (hxe : l[e]? = some cur) (h : mdR K r T W q e T' W') : ∃ met' rst' many' inn' item' val' wr', MBt K W' T' (rts c so rd) many' inn' item' val' wr' ∧ EvS m_X4_mends [.ref 21, .int (nI (i + 1))] (dW cc ep ro bb sl th dp many inn item val wr met rst wds opd ope way tk tl) (.inl none) (dW cc ep ro bb sl th dp many' inn' item' val' wr' met' rst' wds opd ope way tk tl) := by
  obtain ⟨l2, cur2, b, hl2, hWq, hl4, hxe2, hWc, h1, hxb, hub, hkd, hbc, hqb, hqc, hb2, hb4, h⟩ := h
  rw [hl] at hl2
  cases hl2
  rw [hxe] at hxe2
  cases hxe2
  rcases h with ⟨h2, b', T1, hw, hky, rfl⟩ | ⟨h2, f, g, f', T1, W1, hf, hg, hw, hfg, hqf, hqg, hug, rfl, rfl⟩
  · exact s_mMendA hro hbb hop hSL hM hi0 hw1 hw2 hw3 hl hWq hl4 hxe hWc h1 hxb hub hkd hbc hqb hqc hb4 h2 hw
  · by_cases he : 0 < e
    · simp only [if_pos he] at hf hg hxb ⊢
      rw [hxb] at hf
      cases hf
      rw [Nat.sub_add_cancel he] at hg ⊢
      rw [hxe] at hg
      cases hg
      exact s_mMendB1 hro hbb hop hSL hM hi0 hw1 hw2 hw3 hl hWq hl4 hxe hWc h1 he hxb hub hkd hbc hqb hqc h2 hw
    · have he0 : e = 0 := by omega
      subst he0
      simp only [if_neg he, Nat.zero_add] at hf hg hxb ⊢
      rw [hxe] at hf
      cases hf
      rw [hxb] at hg
      cases hg
      obtain ⟨-, hw⟩ := hw
      rcases hw with ⟨-, rfl, rfl, rfl⟩ | ⟨hn, -⟩
      · rw [list_set_same hxe, upT_same hl]
        obtain ⟨a2, i2, t2, v2, w2, hM2, e2⟩ := s_mMendB2 (cc := cc) (ep := ep) (ro := ro) (bb := bb) (sl := sl) (th := th) (dp := dp) (met := met) (rst := rst) (wds := wds) (opd := opd) (ope := ope) (tl := tl) hM hi0 hw1 hw2 hw3 hl hWq hl4 hxe hWc h1 hxb hub hkd hbc hqb hqc h2
        exact ⟨met, rst, a2, i2, t2, v2, w2, hM2, e2⟩
      · exact absurd hWc hn
theorem l_joins {cc : C21} {ep ro bb sl th dp : Int32} {many inn item val wr met rst : Nat → Int32} {wds : Nat → Int64} {opd ope way tk : Nat → Int32} {tl : List mC} (hro : ro = nI c.2.1) {rr r' : Nat} (hop : opC opd ope rd) (hSL : SLR wds so) {T' : Nat → Nd} {W' W9 : Nat → Prop} (hsh : shR K T' W' rr W9 r') : ∀ (rp : List (Nat × Nat)) (many inn item val wr met rst : Nat → Int32) {W : Nat → Prop} {T : Nat → Nd} (_ : MBt K W T (rts c so rd) many inn item val wr) {cur : Nat} (_ : dlR K rr rp cur T W T' W') (_ : rp.length ≤ 6) (_ : wyB way tk rp cur), ∃ met' rst' many' inn' item' val' wr', MBt K W9 T' (rts c so rd) many' inn' item' val' wr' ∧ EvF m_X4_joins (mQm m_X4_joins (.inl none) (dW cc ep ro (nI r') sl th dp many' inn' item' val' wr' met' rst' wds opd ope way tk tl)) 5 [.ref 21, .int (nI rp.length)] [] 0 0 (dW cc ep ro (nI rr) sl th dp many inn item val wr met rst wds opd ope way tk tl) := by
  intro rp
  induction rp with
  | nil =>
    intro many inn item val wr met rst W T hM cur h _ hwy
    obtain ⟨rfl, rfl⟩ := h
    obtain ⟨hWr, h⟩ := hsh
    have hu : K rr ∨ W' rr := Or.inr hWr
    rcases h with ⟨x, hx, rfl, rfl⟩ | ⟨hx, rfl, rfl⟩
    · obtain ⟨hp7, hi, -, hc, hrow, hk7⟩ := hM.1.inner hu hx
      refine ⟨met, rst, many, inn, item, val, wr, ⟨Rm_mono hM.1 (fun x hx => hx.imp id (fun h => h.2)), MW_rm hM.2.1 hM.2.2.2, hM.2.2.1, fun x hx h => hM.2.2.2 x hx h.2⟩, ?_⟩
      refine ev_iload_n (pc := 5) dX4_joins_5 rfl rfl ?_
      refine ev_if_le (pc := 6) (tgt := 35) dX4_joins_6 (by decide) (fun _ => ?_) (fun c_6 => absurd (by decide) c_6)
      refine ev_aload_n (pc := 35) dX4_joins_35 rfl rfl ?_
      refine ev_get (pc := 36) dX4_joins_36 fd_X4_13 rfl rfl ?_
      refine ev_aload_n (pc := 39) dX4_joins_39 rfl rfl ?_
      refine ev_get (pc := 40) dX4_joins_40 fd_X4_32 rfl rfl ?_
      refine ev_zaldN (pc := 43) dX4_joins_43 rfl ⟨rfl, hp7, by decide⟩ hi ?_
      refine ev_if_eq (pc := 44) (tgt := 75) dX4_joins_44 (by decide) (fun c_44 => absurd c_44 (by decide)) (fun _ => ?_)
      refine ev_aload_n (pc := 47) dX4_joins_47 rfl rfl ?_
      refine ev_get (pc := 48) dX4_joins_48 fd_X4_7 rfl rfl ?_
      refine ev_aload_n (pc := 51) dX4_joins_51 rfl rfl ?_
      refine ev_get (pc := 52) dX4_joins_52 fd_X4_32 rfl rfl ?_
      refine ev_ialdN (pc := 55) dX4_joins_55 rfl ⟨rfl, hp7, by decide⟩ hc ?_
      refine ev_iconst (pc := 56) (v := 1) dX4_joins_56 (by decide) ?_
      refine ev_ic_ne (pc := 57) (tgt := 75) dX4_joins_57 (by decide) (fun c_57 => absurd rfl c_57) (fun _ => ?_)
      refine ev_aload_n (pc := 60) dX4_joins_60 rfl rfl ?_
      refine ev_aload_n (pc := 61) dX4_joins_61 rfl rfl ?_
      refine ev_get (pc := 62) dX4_joins_62 fd_X4_17 rfl rfl ?_
      refine ev_iconst (pc := 65) (v := 5) dX4_joins_65 (by decide) ?_
      refine ev_aload_n (pc := 66) dX4_joins_66 rfl rfl ?_
      refine ev_get (pc := 67) dX4_joins_67 fd_X4_32 rfl rfl ?_
      refine ev_imul (pc := 70) dX4_joins_70 ?_
      refine ev_ialdN (pc := 71) dX4_joins_71 rfl ⟨(ix5n rr), by omega, by decide⟩ (row_ch (e := 0) hrow rfl) ?_
      refine ev_put (pc := 72) dX4_joins_72 fp_X4_32 rfl (Nat.le_of_ble_eq_true rfl) (fun _ _ => ⟨rfl, rfl⟩) rfl ?_
      exact ev_vretE (pc := 75) dX4_joins_75 rfl ⟨Nat.le_of_ble_eq_true rfl, Nat.le_of_ble_eq_true rfl⟩ rfl
    · refine ⟨met, rst, many, inn, item, val, wr, hM, ?_⟩
      cases hT : T' r' with
      | inl l =>
        obtain ⟨hp7, hi, -⟩ := hM.1.leaf hu hT
        refine ev_iload_n (pc := 5) dX4_joins_5 rfl rfl ?_
        refine ev_if_le (pc := 6) (tgt := 35) dX4_joins_6 (by decide) (fun _ => ?_) (fun c_6 => absurd (by decide) c_6)
        refine ev_aload_n (pc := 35) dX4_joins_35 rfl rfl ?_
        refine ev_get (pc := 36) dX4_joins_36 fd_X4_13 rfl rfl ?_
        refine ev_aload_n (pc := 39) dX4_joins_39 rfl rfl ?_
        refine ev_get (pc := 40) dX4_joins_40 fd_X4_32 rfl rfl ?_
        refine ev_zaldN (pc := 43) dX4_joins_43 rfl ⟨rfl, hp7, by decide⟩ hi ?_
        refine ev_if_eq (pc := 44) (tgt := 75) dX4_joins_44 (by decide) (fun _ => ?_) (fun c_44 => absurd rfl c_44)
        exact ev_vretE (pc := 75) dX4_joins_75 rfl ⟨Nat.le_of_ble_eq_true rfl, Nat.le_of_ble_eq_true rfl⟩ rfl
      | inr l =>
        obtain ⟨hp7, hi, h5, hc, -⟩ := hM.1.inner hu hT
        have hl1 : l.length ≠ 1 := fun h => by
          obtain ⟨x, rfl⟩ := List.length_eq_one_iff.mp h
          exact hx x hT
        refine ev_iload_n (pc := 5) dX4_joins_5 rfl rfl ?_
        refine ev_if_le (pc := 6) (tgt := 35) dX4_joins_6 (by decide) (fun _ => ?_) (fun c_6 => absurd (by decide) c_6)
        refine ev_aload_n (pc := 35) dX4_joins_35 rfl rfl ?_
        refine ev_get (pc := 36) dX4_joins_36 fd_X4_13 rfl rfl ?_
        refine ev_aload_n (pc := 39) dX4_joins_39 rfl rfl ?_
        refine ev_get (pc := 40) dX4_joins_40 fd_X4_32 rfl rfl ?_
        refine ev_zaldN (pc := 43) dX4_joins_43 rfl ⟨rfl, hp7, by decide⟩ hi ?_
        refine ev_if_eq (pc := 44) (tgt := 75) dX4_joins_44 (by decide) (fun c_44 => absurd c_44 (by decide)) (fun _ => ?_)
        refine ev_aload_n (pc := 47) dX4_joins_47 rfl rfl ?_
        refine ev_get (pc := 48) dX4_joins_48 fd_X4_7 rfl rfl ?_
        refine ev_aload_n (pc := 51) dX4_joins_51 rfl rfl ?_
        refine ev_get (pc := 52) dX4_joins_52 fd_X4_32 rfl rfl ?_
        refine ev_ialdN (pc := 55) dX4_joins_55 rfl ⟨rfl, hp7, by decide⟩ hc ?_
        refine ev_iconst (pc := 56) (v := 1) dX4_joins_56 (by decide) ?_
        refine ev_ic_ne (pc := 57) (tgt := 75) dX4_joins_57 (by decide) (fun _ => ?_) (fun c_57 => absurd c_57 (fun h9 => hl1 (nI_inj (a := l.length) (b := 1) (by omega) (by decide) h9)))
        exact ev_vretE (pc := 75) dX4_joins_75 rfl ⟨Nat.le_of_ble_eq_true rfl, Nat.le_of_ble_eq_true rfl⟩ rfl
  | cons x rp ih =>
    intro many inn item val wr met rst W T hM cur h hlen hwy
    obtain ⟨q, e⟩ := x
    have hlen' : rp.length + 1 ≤ 6 := hlen
    obtain ⟨hw1, hw2, hw3⟩ := hwy
    obtain ⟨hWc, h⟩ := h
    have hu : K cur ∨ W cur := Or.inr hWc
    obtain ⟨hp7, hcp, hp5⟩ := hM.1.many hu
    rcases h with ⟨h2, ⟨l, hl, hxe⟩, T1, W1, hmd, h⟩ | ⟨h2, h⟩
    · obtain ⟨m1, q1, a1, i1, t1, v1, w1, hM1, e1⟩ := s_mMend (cc := cc) (ep := ep) (ro := ro) (bb := (nI rr)) (sl := sl) (th := th) (dp := dp) (many := many) (inn := inn) (item := item) (val := val) (wr := wr) (met := met) (rst := rst) (wds := wds) (opd := opd) (ope := ope) (way := way) (tk := tk) (tl := tl) hro rfl hop hSL hM (i := rp.length) (by omega) hw1 (wyB_cur hw3) hw2 hl hxe hmd
      obtain ⟨m2, q2, a2, i2, t2, v2, w2, hM2, e2⟩ := ih a1 i1 t1 v1 w1 m1 q1 hM1 h (by omega) hw3
      refine ⟨m2, q2, a2, i2, t2, v2, w2, hM2, ?_⟩
      refine ev_iload_n (pc := 5) dX4_joins_5 rfl rfl ?_
      refine ev_if_le (pc := 6) (tgt := 35) dX4_joins_6 (by decide) (fun c_6 => absurd c_6 (by exact nI_nle (show 0 < rp.length + 1 by omega) (by omega))) (fun _ => ?_)
      refine ev_aload_n (pc := 9) dX4_joins_9 rfl rfl ?_
      refine ev_get (pc := 10) dX4_joins_10 fd_X4_7 rfl rfl ?_
      refine ev_aload_n (pc := 13) dX4_joins_13 rfl rfl ?_
      refine ev_get (pc := 14) dX4_joins_14 fd_X4_46 rfl rfl ?_
      refine ev_iload_n (pc := 17) dX4_joins_17 rfl rfl ?_
      refine ev_ialdN (pc := 18) dX4_joins_18 rfl ⟨rfl, show rp.length + 1 < 12 by omega, by decide⟩ hw1 ?_
      refine ev_ialdN (pc := 19) dX4_joins_19 rfl ⟨rfl, hp7, by decide⟩ hcp ?_
      refine ev_iconst (pc := 20) (v := 2) dX4_joins_20 (by decide) ?_
      refine ev_ic_ge (pc := 21) (tgt := 29) dX4_joins_21 (by decide) (fun c_21 => absurd c_21 (nI_ge h2 (by decide))) (fun _ => ?_)
      refine ev_aload_n (pc := 24) dX4_joins_24 rfl rfl ?_
      refine ev_iload_n (pc := 25) dX4_joins_25 rfl rfl ?_
      refine cV1 (pc := 26) lk_X4_joins_26 rfl rfl rfl (Nat.le_of_ble_eq_true rfl) ⟨Nat.le_of_ble_eq_true rfl, Nat.le_of_ble_eq_true rfl⟩ e1 ?_
      refine ev_iinc (pc := 29) dX4_joins_29 rfl rfl rfl ?_
      refine ev_goto (pc := 32) (tgt := 5) dX4_joins_32 (by decide) ?_
      rw [show nI ((q, e) :: rp).length + Int32.ofInt (-1) = nI rp.length from nI_im (show 0 < rp.length + 1 by omega)]
      exact e2
    · obtain ⟨m2, q2, a2, i2, t2, v2, w2, hM2, e2⟩ := ih many inn item val wr met rst hM h (by omega) hw3
      refine ⟨m2, q2, a2, i2, t2, v2, w2, hM2, ?_⟩
      refine ev_iload_n (pc := 5) dX4_joins_5 rfl rfl ?_
      refine ev_if_le (pc := 6) (tgt := 35) dX4_joins_6 (by decide) (fun c_6 => absurd c_6 (by exact nI_nle (show 0 < rp.length + 1 by omega) (by omega))) (fun _ => ?_)
      refine ev_aload_n (pc := 9) dX4_joins_9 rfl rfl ?_
      refine ev_get (pc := 10) dX4_joins_10 fd_X4_7 rfl rfl ?_
      refine ev_aload_n (pc := 13) dX4_joins_13 rfl rfl ?_
      refine ev_get (pc := 14) dX4_joins_14 fd_X4_46 rfl rfl ?_
      refine ev_iload_n (pc := 17) dX4_joins_17 rfl rfl ?_
      refine ev_ialdN (pc := 18) dX4_joins_18 rfl ⟨rfl, show rp.length + 1 < 12 by omega, by decide⟩ hw1 ?_
      refine ev_ialdN (pc := 19) dX4_joins_19 rfl ⟨rfl, hp7, by decide⟩ hcp ?_
      refine ev_iconst (pc := 20) (v := 2) dX4_joins_20 (by decide) ?_
      refine ev_ic_ge (pc := 21) (tgt := 29) dX4_joins_21 (by decide) (fun _ => ?_) (fun c_21 => absurd (by exact nI_le h2 (by omega)) c_21)
      refine ev_iinc (pc := 29) dX4_joins_29 rfl rfl rfl ?_
      refine ev_goto (pc := 32) (tgt := 5) dX4_joins_32 (by decide) ?_
      rw [show nI ((q, e) :: rp).length + Int32.ofInt (-1) = nI rp.length from nI_im (show 0 < rp.length + 1 by omega)]
      exact e2
theorem s_joins {cc : C21} {ep ro bb sl th dp : Int32} {many inn item val wr met rst : Nat → Int32} {wds : Nat → Int64} {opd ope way tk : Nat → Int32} {tl : List mC} (hro : ro = nI c.2.1) {r r' : Nat} (hop : opC opd ope rd) (hSL : SLR wds so) {T T' : Nat → Nd} {W W' W9 : Nat → Prop} (hM : MBt K W T (rts c so rd) many inn item val wr) {rp : List (Nat × Nat)} {cur : Nat} (h : dlR K r rp cur T W T' W') (hsh : shR K T' W' r W9 r') (hlen : rp.length ≤ 6) (hwy : wyB way tk rp cur) (hdp : dp = nI rp.length) : ∃ met' rst' many' inn' item' val' wr', MBt K W9 T' (rts c so rd) many' inn' item' val' wr' ∧ EvS m_X4_joins [.ref 21] (dW cc ep ro (nI r) sl th dp many inn item val wr met rst wds opd ope way tk tl) (.inl none) (dW cc ep ro (nI r') sl th dp many' inn' item' val' wr' met' rst' wds opd ope way tk tl) := by
  subst hdp
  obtain ⟨m1, q1, a1, i1, t1, v1, w1, hM1, e1⟩ := l_joins (cc := cc) (ep := ep) (ro := ro) (bb := bb) (sl := sl) (th := th) (dp := (nI rp.length)) (many := many) (inn := inn) (item := item) (val := val) (wr := wr) (met := met) (rst := rst) (wds := wds) (opd := opd) (ope := ope) (way := way) (tk := tk) (tl := tl) hro hop hSL hsh rp many inn item val wr met rst hM h hlen hwy
  refine ⟨m1, q1, a1, i1, t1, v1, w1, hM1, ?_⟩
  refine evs_of (by decide +kernel) (Nat.le_of_ble_eq_true rfl) (by decide) rfl rfl ?_
  refine ev_aload_n (pc := 0) dX4_joins_0 rfl rfl ?_
  refine ev_get (pc := 1) dX4_joins_1 fd_X4_91 rfl rfl ?_
  refine ev_istore_n (pc := 4) dX4_joins_4 rfl rfl rfl ?_
  exact e1
theorem s_mDel {cc : C21} {ep ro bb sl th dp : Int32} {many inn item val wr met rst : Nat → Int32} {wds : Nat → Int64} {opd ope way tk : Nat → Int32} {tl : List mC} (hro : ro = nI c.2.1) {r r' k : Nat} {v : Int32} (hop : opC opd ope rd) (hSL : SLR wds so) {T T' : Nat → Nd} {W W' : Nat → Prop} (hM : MBt K W T (rts c so rd) many inn item val wr) (h : delR K T W r k v T' W' r') : ∃ met' rst' many' inn' item' val' wr' way' tk' dp', MBt K W' T' (rts c so rd) many' inn' item' val' wr' ∧ EvS m_X4_delete [.ref 21, .int (nI k)] (dW cc ep ro (nI r) sl th dp many inn item val wr met rst wds opd ope way tk tl) (.inl (some (.int v))) (dW cc ep ro (nI r') sl 0 dp' many' inn' item' val' wr' met' rst' wds opd ope way' tk' tl) := by
  obtain ⟨d, ra, T1, W1, T2, W2, W3, P, lf, l, hd, hk, hw, hdn, hl, ⟨P0, lf0, hfd, hP, hl0⟩, hx, hdl, hsh⟩ := h
  obtain ⟨hu0, hPd, hur⟩ := fdR_U hfd
  have hr7 : r < 720 := (hM.1 r hur).1
  obtain ⟨y1, k1, hwy0, e1⟩ := s_finds (cc := cc) (ep := ep) (ro := ro) (bb := (nI r)) (sl := sl) (th := th) (dp := dp) (many := many) (inn := inn) (item := item) (val := val) (wr := wr) (met := met) (rst := rst) (wds := wds) (opd := opd) (ope := ope) (way := way) (tk := tk) (tl := tl) hM.1 hfd hd
  have hyd0 : y1 d = nI lf0 := by
    have h9 := hwy0.2
    rw [Nat.zero_add, hPd] at h9
    exact h9
  have e0 := s_mPlace (cc := cc) (ep := ep) (ro := ro) (bb := (nI r)) (sl := sl) (th := th) (dp := (nI d)) (many := many) (inn := inn) (item := item) (val := val) (wr := wr) (met := met) (rst := rst) (wds := wds) (opd := opd) (ope := ope) (way := y1) (tk := k1) (tl := tl) hM.1 hu0 hl0 (nI k)
  have eh := s_has1 (cc := cc) (ep := ep) (ro := ro) (bb := (nI r)) (sl := sl) (th := th) (dp := (nI d)) (many := many) (inn := inn) (item := item) (val := val) (wr := wr) (met := met) (rst := rst) (wds := wds) (opd := opd) (ope := ope) (way := y1) (tk := k1) (tl := tl) hM.1 hu0 hl0 ⟨_, hx, rfl⟩
  obtain ⟨m2, q2, a2, i2, t2, v2, w2, y2, hM2, hwy, e2⟩ := s_wWay (cc := cc) (ep := ep) (ro := ro) (bb := (nI r)) (sl := sl) (th := 0) (dp := (nI d)) (many := many) (inn := inn) (item := item) (val := val) (wr := wr) (met := met) (rst := rst) (wds := wds) (opd := opd) (ope := ope) (way := y1) (tk := k1) (tl := tl) hM hro hop hSL hw hdn hd (way_tk hwy0 hP)
  obtain ⟨hPl, hWl⟩ := dnR_len hdn
  have hu : K lf ∨ W2 lf := Or.inr hWl
  obtain ⟨hl7, hi, h5, hc, hrow, hva, hk1⟩ := hM2.1.leaf hu hl
  have hyd : y2 d = nI lf := by
    have h9 := hwy.2
    rw [Nat.zero_add, hPl] at h9
    exact h9
  have hkk : nI k ≤ 99 := by exact nI_le (show k ≤ 99 by omega) (by decide)
  have hpl : plc l (nI k) < l.length := (List.getElem?_eq_some_iff.mp hx).1
  have R1 := Rm_rm hM2.1 (p := lf) (e := plc l (nI k)) hu (by rw [hl]; exact hpl)
  rw [hl] at R1
  have hPr : P.reverse.length = d := by rw [List.length_reverse, hPl]
  obtain ⟨m3, q3, a3, i3, t3, v3, w3, hM3, e4⟩ := s_joins (cc := cc) (ep := ep) (ro := ro) (bb := (nI ra)) (sl := sl) (th := 0) (dp := (nI d)) (many := (upd a2 lf (nI (l.length - 1)))) (inn := i2) (item := (shD t2 (5 * lf) (plc l (nI k)) (l.length - 1))) (val := (shD v2 (5 * lf) (plc l (nI k)) (l.length - 1))) (wr := w2) (met := m2) (rst := q2) (wds := wds) (opd := opd) (ope := ope) (way := y2) (tk := k1) (tl := tl) hro hop hSL ⟨R1, hM2.2.1, K_frame hM2.2.2.1 (fun q hq => upT_n (fun h => hM2.2.2.2 q hq (by rw [h]; exact hWl))), hM2.2.2.2⟩ hdl hsh (by rw [hPr]; exact hd) (wy_rev hwy) (by rw [hPr])
  refine ⟨m3, q3, a3, i3, t3, v3, w3, y2, k1, nI d, hM3, ?_⟩
  refine evs_of (by decide +kernel) (Nat.le_of_ble_eq_true rfl) (by decide) rfl rfl ?_
  refine ev_iload_n (pc := 0) dX4_delete_0 rfl rfl ?_
  refine ev_iconst (pc := 1) (v := 0) dX4_delete_1 (by decide) ?_
  refine ev_bipush (pc := 2) (v := 99) dX4_delete_2 (by decide) ?_
  refine cS3 (pc := 4) lk_X4_delete_4 (Nat.le_of_ble_eq_true rfl) ⟨Nat.le_of_ble_eq_true rfl, Nat.le_of_ble_eq_true rfl⟩ (s_in1 (nI_pos' (show k < 2147483648 by omega)) hkk) ?_
  refine ev_if_eq (pc := 7) (tgt := 22) dX4_delete_7 (by decide) (fun c_7 => absurd c_7 (by decide)) (fun _ => ?_)
  refine ev_aload_n (pc := 10) dX4_delete_10 rfl rfl ?_
  refine ev_get (pc := 11) dX4_delete_11 fd_X4_32 rfl rfl ?_
  refine ev_iconst (pc := 14) (v := (-1)) dX4_delete_14 (by decide) ?_
  refine ev_ic_eq (pc := 15) (tgt := 22) dX4_delete_15 (by decide) (fun c_15 => absurd c_15 (fun h => nI_m1 (by omega) h)) (fun _ => ?_)
  refine ev_iconst (pc := 18) (v := 1) dX4_delete_18 (by decide) ?_
  refine ev_goto (pc := 19) (tgt := 23) dX4_delete_19 (by decide) ?_
  refine ev_istore_n (pc := 23) dX4_delete_23 rfl rfl rfl ?_
  refine ev_iconst (pc := 24) (v := 0) dX4_delete_24 (by decide) ?_
  refine ev_istore_n (pc := 25) dX4_delete_25 rfl rfl rfl ?_
  refine ev_iload_n (pc := 26) dX4_delete_26 rfl rfl ?_
  refine ev_if_eq (pc := 27) (tgt := 54) dX4_delete_27 (by decide) (fun c_27 => absurd c_27 (by decide)) (fun _ => ?_)
  refine ev_aload_n (pc := 30) dX4_delete_30 rfl rfl ?_
  refine ev_aload_n (pc := 31) dX4_delete_31 rfl rfl ?_
  refine ev_get (pc := 32) dX4_delete_32 fd_X4_32 rfl rfl ?_
  refine ev_iload_n (pc := 35) dX4_delete_35 rfl rfl ?_
  refine cV2 (pc := 36) lk_X4_delete_36 rfl rfl rfl (Nat.le_of_ble_eq_true rfl) ⟨Nat.le_of_ble_eq_true rfl, Nat.le_of_ble_eq_true rfl⟩ e1 ?_
  refine ev_aload_n (pc := 39) dX4_delete_39 rfl rfl ?_
  refine ev_aload_n (pc := 40) dX4_delete_40 rfl rfl ?_
  refine ev_get (pc := 41) dX4_delete_41 fd_X4_46 rfl rfl ?_
  refine ev_aload_n (pc := 44) dX4_delete_44 rfl rfl ?_
  refine ev_get (pc := 45) dX4_delete_45 fd_X4_91 rfl rfl ?_
  refine ev_ialdN (pc := 48) dX4_delete_48 rfl ⟨rfl, by omega, by decide⟩ hyd0 ?_
  refine ev_iload_n (pc := 49) dX4_delete_49 rfl rfl ?_
  refine cV2 (pc := 50) lk_X4_delete_50 rfl rfl rfl (Nat.le_of_ble_eq_true rfl) ⟨Nat.le_of_ble_eq_true rfl, Nat.le_of_ble_eq_true rfl⟩ e0 ?_
  refine ev_istore_n (pc := 53) dX4_delete_53 rfl rfl rfl ?_
  refine ev_aload_n (pc := 54) dX4_delete_54 rfl rfl ?_
  refine ev_iload_n (pc := 55) dX4_delete_55 rfl rfl ?_
  refine ev_iconst (pc := 56) (v := 0) dX4_delete_56 (by decide) ?_
  refine ev_bipush (pc := 57) (v := 99) dX4_delete_57 (by decide) ?_
  refine cS3 (pc := 59) lk_X4_delete_59 (Nat.le_of_ble_eq_true rfl) ⟨Nat.le_of_ble_eq_true rfl, Nat.le_of_ble_eq_true rfl⟩ (s_in1 (nI_pos' (show k < 2147483648 by omega)) hkk) ?_
  refine ev_aload_n (pc := 62) dX4_delete_62 rfl rfl ?_
  refine ev_get (pc := 63) dX4_delete_63 fd_X4_32 rfl rfl ?_
  refine ev_iconst (pc := 66) (v := (-1)) dX4_delete_66 (by decide) ?_
  refine ev_ic_eq (pc := 67) (tgt := 74) dX4_delete_67 (by decide) (fun c_67 => absurd c_67 (fun h => nI_m1 (by omega) h)) (fun _ => ?_)
  refine ev_iconst (pc := 70) (v := 1) dX4_delete_70 (by decide) ?_
  refine ev_goto (pc := 71) (tgt := 75) dX4_delete_71 (by decide) ?_
  refine ev_iload_n (pc := 75) dX4_delete_75 rfl rfl ?_
  refine ev_if_eq (pc := 76) (tgt := 101) dX4_delete_76 (by decide) (fun c_76 => absurd c_76 (by decide)) (fun _ => ?_)
  refine ev_aload_n (pc := 79) dX4_delete_79 rfl rfl ?_
  refine ev_aload_n (pc := 80) dX4_delete_80 rfl rfl ?_
  refine ev_get (pc := 81) dX4_delete_81 fd_X4_46 rfl rfl ?_
  refine ev_aload_n (pc := 84) dX4_delete_84 rfl rfl ?_
  refine ev_get (pc := 85) dX4_delete_85 fd_X4_91 rfl rfl ?_
  refine ev_ialdN (pc := 88) dX4_delete_88 rfl ⟨rfl, by omega, by decide⟩ hyd0 ?_
  refine ev_iload_n (pc := 89) dX4_delete_89 rfl rfl ?_
  refine ev_iload_n (pc := 90) dX4_delete_90 rfl rfl ?_
  refine cV3 (pc := 91) lk_X4_delete_91 rfl rfl rfl (Nat.le_of_ble_eq_true rfl) ⟨Nat.le_of_ble_eq_true rfl, Nat.le_of_ble_eq_true rfl⟩ eh ?_
  refine ev_if_eq (pc := 94) (tgt := 101) dX4_delete_94 (by decide) (fun c_94 => absurd c_94 (by decide)) (fun _ => ?_)
  refine ev_iconst (pc := 97) (v := 1) dX4_delete_97 (by decide) ?_
  refine ev_goto (pc := 98) (tgt := 102) dX4_delete_98 (by decide) ?_
  refine cV3 (pc := 102) lk_X4_delete_102 rfl rfl rfl (Nat.le_of_ble_eq_true rfl) ⟨Nat.le_of_ble_eq_true rfl, Nat.le_of_ble_eq_true rfl⟩ (s_goes (cc := cc) (ep := ep) (ro := ro) (bb := (nI r)) (sl := sl) (th := th) (dp := (nI d)) (many := many) (inn := inn) (item := item) (val := val) (wr := wr) (met := met) (rst := rst) (wds := wds) (opd := opd) (ope := ope) (way := y1) (tk := k1) (tl := tl)) ?_
  refine ev_if_ne (pc := 105) (tgt := 110) dX4_delete_105 (by decide) (fun _ => ?_) (fun c_105 => absurd c_105 (by decide))
  refine ev_aload_n (pc := 110) dX4_delete_110 rfl rfl ?_
  refine cV0 (pc := 111) lk_X4_delete_111 rfl rfl rfl (Nat.le_of_ble_eq_true rfl) ⟨Nat.le_of_ble_eq_true rfl, Nat.le_of_ble_eq_true rfl⟩ e2 ?_
  refine ev_aload_n (pc := 114) dX4_delete_114 rfl rfl ?_
  refine ev_get (pc := 115) dX4_delete_115 fd_X4_20 rfl rfl ?_
  refine ev_iconst (pc := 118) (v := 5) dX4_delete_118 (by decide) ?_
  refine ev_aload_n (pc := 119) dX4_delete_119 rfl rfl ?_
  refine ev_get (pc := 120) dX4_delete_120 fd_X4_46 rfl rfl ?_
  refine ev_aload_n (pc := 123) dX4_delete_123 rfl rfl ?_
  refine ev_get (pc := 124) dX4_delete_124 fd_X4_91 rfl rfl ?_
  refine ev_ialdN (pc := 127) dX4_delete_127 rfl ⟨rfl, by omega, by decide⟩ hyd ?_
  refine ev_imul (pc := 128) dX4_delete_128 ?_
  refine ev_iload_n (pc := 129) dX4_delete_129 rfl rfl ?_
  refine ev_iadd (pc := 130) dX4_delete_130 ?_
  refine ev_ialdN (pc := 131) dX4_delete_131 rfl ⟨(ix5m lf (plc l (nI k))), by omega, by decide⟩ (row_va hva hx) ?_
  refine ev_istore (pc := 132) dX4_delete_132 rfl rfl ?_
  refine ev_aload_n (pc := 134) dX4_delete_134 rfl rfl ?_
  refine ev_aload_n (pc := 135) dX4_delete_135 rfl rfl ?_
  refine ev_get (pc := 136) dX4_delete_136 fd_X4_46 rfl rfl ?_
  refine ev_aload_n (pc := 139) dX4_delete_139 rfl rfl ?_
  refine ev_get (pc := 140) dX4_delete_140 fd_X4_91 rfl rfl ?_
  refine ev_ialdN (pc := 143) dX4_delete_143 rfl ⟨rfl, by omega, by decide⟩ hyd ?_
  refine ev_iload_n (pc := 144) dX4_delete_144 rfl rfl ?_
  refine cV2 (pc := 145) lk_X4_delete_145 rfl rfl rfl (Nat.le_of_ble_eq_true rfl) ⟨Nat.le_of_ble_eq_true rfl, Nat.le_of_ble_eq_true rfl⟩ (s_drops hl7 hc hpl h5) ?_
  refine ev_aload_n (pc := 148) dX4_delete_148 rfl rfl ?_
  refine cV0 (pc := 149) lk_X4_delete_149 rfl rfl rfl (Nat.le_of_ble_eq_true rfl) ⟨Nat.le_of_ble_eq_true rfl, Nat.le_of_ble_eq_true rfl⟩ e4 ?_
  refine ev_iload (pc := 152) dX4_delete_152 rfl ?_
  exact ev_iretE (pc := 154) dX4_delete_154 rfl ⟨Nat.le_of_ble_eq_true rfl, Nat.le_of_ble_eq_true rfl⟩ rfl rfl
theorem s_mDelT3 {cc : C21} {ep ro bb sl th dp : Int32} {many inn item val wr met rst : Nat → Int32} {wds : Nat → Int64} {opd ope way tk : Nat → Int32} {tl : List mC} {r k d lf0 : Nat} {T : Nat → Nd} {P0 : List (Nat × Nat)} (hR : Rm many inn item val T U) (hk : k < 100) (hd : d ≤ 6) (hfd : fdR T U (nI k) d r P0 lf0) {l : List (Nat × Int32)} (hl0 : T lf0 = .inl l) (hx : ¬ hld l (plc l (nI k)) (nI k)) : ∃ way' tk', EvS m_X4_delete [.ref 21, .int (nI k)] (dW cc ep ro (nI r) sl th dp many inn item val wr met rst wds opd ope way tk tl) (.inl (some (.int 0))) (dW cc ep ro (nI r) sl 3 (nI d) many inn item val wr met rst wds opd ope way' tk' tl) := by
  obtain ⟨hu0, hPd, hur⟩ := fdR_U hfd
  have hr7 : r < 720 := (hR r hur).1
  obtain ⟨y1, k1, hwy0, e1⟩ := s_finds (cc := cc) (ep := ep) (ro := ro) (bb := (nI r)) (sl := sl) (th := th) (dp := dp) (many := many) (inn := inn) (item := item) (val := val) (wr := wr) (met := met) (rst := rst) (wds := wds) (opd := opd) (ope := ope) (way := way) (tk := tk) (tl := tl) hR hfd hd
  have hyd0 : y1 d = nI lf0 := by
    have h9 := hwy0.2
    rw [Nat.zero_add, hPd] at h9
    exact h9
  obtain ⟨hl7, hi, h5, -⟩ := hR.leaf hu0 hl0
  have e0 := s_mPlace (cc := cc) (ep := ep) (ro := ro) (bb := (nI r)) (sl := sl) (th := th) (dp := (nI d)) (many := many) (inn := inn) (item := item) (val := val) (wr := wr) (met := met) (rst := rst) (wds := wds) (opd := opd) (ope := ope) (way := y1) (tk := k1) (tl := tl) hR hu0 hl0 (nI k)
  have hpl := plc_le l (nI k)
  have eh := s_has0 (cc := cc) (ep := ep) (ro := ro) (bb := (nI r)) (sl := sl) (th := th) (dp := (nI d)) (many := many) (inn := inn) (item := item) (val := val) (wr := wr) (met := met) (rst := rst) (wds := wds) (opd := opd) (ope := ope) (way := y1) (tk := k1) (tl := tl) hR hu0 hl0 (by omega) hx
  have hkk : nI k ≤ 99 := by exact nI_le (show k ≤ 99 by omega) (by decide)
  refine ⟨y1, k1, ?_⟩
  refine evs_of (by decide +kernel) (Nat.le_of_ble_eq_true rfl) (by decide) rfl rfl ?_
  refine ev_iload_n (pc := 0) dX4_delete_0 rfl rfl ?_
  refine ev_iconst (pc := 1) (v := 0) dX4_delete_1 (by decide) ?_
  refine ev_bipush (pc := 2) (v := 99) dX4_delete_2 (by decide) ?_
  refine cS3 (pc := 4) lk_X4_delete_4 (Nat.le_of_ble_eq_true rfl) ⟨Nat.le_of_ble_eq_true rfl, Nat.le_of_ble_eq_true rfl⟩ (s_in1 (nI_pos' (show k < 2147483648 by omega)) hkk) ?_
  refine ev_if_eq (pc := 7) (tgt := 22) dX4_delete_7 (by decide) (fun c_7 => absurd c_7 (by decide)) (fun _ => ?_)
  refine ev_aload_n (pc := 10) dX4_delete_10 rfl rfl ?_
  refine ev_get (pc := 11) dX4_delete_11 fd_X4_32 rfl rfl ?_
  refine ev_iconst (pc := 14) (v := (-1)) dX4_delete_14 (by decide) ?_
  refine ev_ic_eq (pc := 15) (tgt := 22) dX4_delete_15 (by decide) (fun c_15 => absurd c_15 (fun h => nI_m1 (by omega) h)) (fun _ => ?_)
  refine ev_iconst (pc := 18) (v := 1) dX4_delete_18 (by decide) ?_
  refine ev_goto (pc := 19) (tgt := 23) dX4_delete_19 (by decide) ?_
  refine ev_istore_n (pc := 23) dX4_delete_23 rfl rfl rfl ?_
  refine ev_iconst (pc := 24) (v := 0) dX4_delete_24 (by decide) ?_
  refine ev_istore_n (pc := 25) dX4_delete_25 rfl rfl rfl ?_
  refine ev_iload_n (pc := 26) dX4_delete_26 rfl rfl ?_
  refine ev_if_eq (pc := 27) (tgt := 54) dX4_delete_27 (by decide) (fun c_27 => absurd c_27 (by decide)) (fun _ => ?_)
  refine ev_aload_n (pc := 30) dX4_delete_30 rfl rfl ?_
  refine ev_aload_n (pc := 31) dX4_delete_31 rfl rfl ?_
  refine ev_get (pc := 32) dX4_delete_32 fd_X4_32 rfl rfl ?_
  refine ev_iload_n (pc := 35) dX4_delete_35 rfl rfl ?_
  refine cV2 (pc := 36) lk_X4_delete_36 rfl rfl rfl (Nat.le_of_ble_eq_true rfl) ⟨Nat.le_of_ble_eq_true rfl, Nat.le_of_ble_eq_true rfl⟩ e1 ?_
  refine ev_aload_n (pc := 39) dX4_delete_39 rfl rfl ?_
  refine ev_aload_n (pc := 40) dX4_delete_40 rfl rfl ?_
  refine ev_get (pc := 41) dX4_delete_41 fd_X4_46 rfl rfl ?_
  refine ev_aload_n (pc := 44) dX4_delete_44 rfl rfl ?_
  refine ev_get (pc := 45) dX4_delete_45 fd_X4_91 rfl rfl ?_
  refine ev_ialdN (pc := 48) dX4_delete_48 rfl ⟨rfl, by omega, by decide⟩ hyd0 ?_
  refine ev_iload_n (pc := 49) dX4_delete_49 rfl rfl ?_
  refine cV2 (pc := 50) lk_X4_delete_50 rfl rfl rfl (Nat.le_of_ble_eq_true rfl) ⟨Nat.le_of_ble_eq_true rfl, Nat.le_of_ble_eq_true rfl⟩ e0 ?_
  refine ev_istore_n (pc := 53) dX4_delete_53 rfl rfl rfl ?_
  refine ev_aload_n (pc := 54) dX4_delete_54 rfl rfl ?_
  refine ev_iload_n (pc := 55) dX4_delete_55 rfl rfl ?_
  refine ev_iconst (pc := 56) (v := 0) dX4_delete_56 (by decide) ?_
  refine ev_bipush (pc := 57) (v := 99) dX4_delete_57 (by decide) ?_
  refine cS3 (pc := 59) lk_X4_delete_59 (Nat.le_of_ble_eq_true rfl) ⟨Nat.le_of_ble_eq_true rfl, Nat.le_of_ble_eq_true rfl⟩ (s_in1 (nI_pos' (show k < 2147483648 by omega)) hkk) ?_
  refine ev_aload_n (pc := 62) dX4_delete_62 rfl rfl ?_
  refine ev_get (pc := 63) dX4_delete_63 fd_X4_32 rfl rfl ?_
  refine ev_iconst (pc := 66) (v := (-1)) dX4_delete_66 (by decide) ?_
  refine ev_ic_eq (pc := 67) (tgt := 74) dX4_delete_67 (by decide) (fun c_67 => absurd c_67 (fun h => nI_m1 (by omega) h)) (fun _ => ?_)
  refine ev_iconst (pc := 70) (v := 1) dX4_delete_70 (by decide) ?_
  refine ev_goto (pc := 71) (tgt := 75) dX4_delete_71 (by decide) ?_
  refine ev_iload_n (pc := 75) dX4_delete_75 rfl rfl ?_
  refine ev_if_eq (pc := 76) (tgt := 101) dX4_delete_76 (by decide) (fun c_76 => absurd c_76 (by decide)) (fun _ => ?_)
  refine ev_aload_n (pc := 79) dX4_delete_79 rfl rfl ?_
  refine ev_aload_n (pc := 80) dX4_delete_80 rfl rfl ?_
  refine ev_get (pc := 81) dX4_delete_81 fd_X4_46 rfl rfl ?_
  refine ev_aload_n (pc := 84) dX4_delete_84 rfl rfl ?_
  refine ev_get (pc := 85) dX4_delete_85 fd_X4_91 rfl rfl ?_
  refine ev_ialdN (pc := 88) dX4_delete_88 rfl ⟨rfl, by omega, by decide⟩ hyd0 ?_
  refine ev_iload_n (pc := 89) dX4_delete_89 rfl rfl ?_
  refine ev_iload_n (pc := 90) dX4_delete_90 rfl rfl ?_
  refine cV3 (pc := 91) lk_X4_delete_91 rfl rfl rfl (Nat.le_of_ble_eq_true rfl) ⟨Nat.le_of_ble_eq_true rfl, Nat.le_of_ble_eq_true rfl⟩ eh ?_
  refine ev_if_eq (pc := 94) (tgt := 101) dX4_delete_94 (by decide) (fun _ => ?_) (fun c_94 => absurd rfl c_94)
  refine ev_iconst (pc := 101) (v := 0) dX4_delete_101 (by decide) ?_
  refine cV3 (pc := 102) lk_X4_delete_102 rfl rfl rfl (Nat.le_of_ble_eq_true rfl) ⟨Nat.le_of_ble_eq_true rfl, Nat.le_of_ble_eq_true rfl⟩ (s_goesT3 (cc := cc) (ep := ep) (ro := ro) (bb := (nI r)) (sl := sl) (th := th) (dp := (nI d)) (many := many) (inn := inn) (item := item) (val := val) (wr := wr) (met := met) (rst := rst) (wds := wds) (opd := opd) (ope := ope) (way := y1) (tk := k1) (tl := tl)) ?_
  refine ev_if_ne (pc := 105) (tgt := 110) dX4_delete_105 (by decide) (fun c_105 => absurd (by decide) c_105) (fun _ => ?_)
  refine ev_iconst (pc := 108) (v := 0) dX4_delete_108 (by decide) ?_
  exact ev_iretE (pc := 109) dX4_delete_109 rfl ⟨Nat.le_of_ble_eq_true rfl, Nat.le_of_ble_eq_true rfl⟩ rfl rfl
theorem s_mDelT2 {cc : C21} {ep ro bb sl th dp : Int32} {many inn item val wr met rst : Nat → Int32} {wds : Nat → Int64} {opd ope way tk : Nat → Int32} {tl : List mC} {k : Nat} (hk : k < 100) : EvS m_X4_delete [.ref 21, .int (nI k)] (dW cc ep ro (-1) sl th dp many inn item val wr met rst wds opd ope way tk tl) (.inl (some (.int 0))) (dW cc ep ro (-1) sl 2 dp many inn item val wr met rst wds opd ope way tk tl) := by
  have hkk : nI k ≤ 99 := by exact nI_le (show k ≤ 99 by omega) (by decide)
  refine evs_of (by decide +kernel) (Nat.le_of_ble_eq_true rfl) (by decide) rfl rfl ?_
  refine ev_iload_n (pc := 0) dX4_delete_0 rfl rfl ?_
  refine ev_iconst (pc := 1) (v := 0) dX4_delete_1 (by decide) ?_
  refine ev_bipush (pc := 2) (v := 99) dX4_delete_2 (by decide) ?_
  refine cS3 (pc := 4) lk_X4_delete_4 (Nat.le_of_ble_eq_true rfl) ⟨Nat.le_of_ble_eq_true rfl, Nat.le_of_ble_eq_true rfl⟩ (s_in1 (nI_pos' (show k < 2147483648 by omega)) hkk) ?_
  refine ev_if_eq (pc := 7) (tgt := 22) dX4_delete_7 (by decide) (fun c_7 => absurd c_7 (by decide)) (fun _ => ?_)
  refine ev_aload_n (pc := 10) dX4_delete_10 rfl rfl ?_
  refine ev_get (pc := 11) dX4_delete_11 fd_X4_32 rfl rfl ?_
  refine ev_iconst (pc := 14) (v := (-1)) dX4_delete_14 (by decide) ?_
  refine ev_ic_eq (pc := 15) (tgt := 22) dX4_delete_15 (by decide) (fun _ => ?_) (fun c_15 => absurd rfl c_15)
  refine ev_iconst (pc := 22) (v := 0) dX4_delete_22 (by decide) ?_
  refine ev_istore_n (pc := 23) dX4_delete_23 rfl rfl rfl ?_
  refine ev_iconst (pc := 24) (v := 0) dX4_delete_24 (by decide) ?_
  refine ev_istore_n (pc := 25) dX4_delete_25 rfl rfl rfl ?_
  refine ev_iload_n (pc := 26) dX4_delete_26 rfl rfl ?_
  refine ev_if_eq (pc := 27) (tgt := 54) dX4_delete_27 (by decide) (fun _ => ?_) (fun c_27 => absurd rfl c_27)
  refine ev_aload_n (pc := 54) dX4_delete_54 rfl rfl ?_
  refine ev_iload_n (pc := 55) dX4_delete_55 rfl rfl ?_
  refine ev_iconst (pc := 56) (v := 0) dX4_delete_56 (by decide) ?_
  refine ev_bipush (pc := 57) (v := 99) dX4_delete_57 (by decide) ?_
  refine cS3 (pc := 59) lk_X4_delete_59 (Nat.le_of_ble_eq_true rfl) ⟨Nat.le_of_ble_eq_true rfl, Nat.le_of_ble_eq_true rfl⟩ (s_in1 (nI_pos' (show k < 2147483648 by omega)) hkk) ?_
  refine ev_aload_n (pc := 62) dX4_delete_62 rfl rfl ?_
  refine ev_get (pc := 63) dX4_delete_63 fd_X4_32 rfl rfl ?_
  refine ev_iconst (pc := 66) (v := (-1)) dX4_delete_66 (by decide) ?_
  refine ev_ic_eq (pc := 67) (tgt := 74) dX4_delete_67 (by decide) (fun _ => ?_) (fun c_67 => absurd rfl c_67)
  refine ev_iconst (pc := 74) (v := 0) dX4_delete_74 (by decide) ?_
  refine ev_iload_n (pc := 75) dX4_delete_75 rfl rfl ?_
  refine ev_if_eq (pc := 76) (tgt := 101) dX4_delete_76 (by decide) (fun _ => ?_) (fun c_76 => absurd rfl c_76)
  refine ev_iconst (pc := 101) (v := 0) dX4_delete_101 (by decide) ?_
  refine cV3 (pc := 102) lk_X4_delete_102 rfl rfl rfl (Nat.le_of_ble_eq_true rfl) ⟨Nat.le_of_ble_eq_true rfl, Nat.le_of_ble_eq_true rfl⟩ (s_goesT2 (cc := cc) (ep := ep) (ro := ro) (bb := (-1)) (sl := sl) (th := th) (dp := dp) (many := many) (inn := inn) (item := item) (val := val) (wr := wr) (met := met) (rst := rst) (wds := wds) (opd := opd) (ope := ope) (way := way) (tk := tk) (tl := tl)) ?_
  refine ev_if_ne (pc := 105) (tgt := 110) dX4_delete_105 (by decide) (fun c_105 => absurd (by decide) c_105) (fun _ => ?_)
  refine ev_iconst (pc := 108) (v := 0) dX4_delete_108 (by decide) ?_
  exact ev_iretE (pc := 109) dX4_delete_109 rfl ⟨Nat.le_of_ble_eq_true rfl, Nat.le_of_ble_eq_true rfl⟩ rfl rfl
theorem s_mDelT1 {cc : C21} {ep ro bb sl th dp : Int32} {many inn item val wr met rst : Nat → Int32} {wds : Nat → Int64} {opd ope way tk : Nat → Int32} {tl : List mC} {k : Int32} (hk : k < 0 ∨ (99 : Int32) < k) : EvS m_X4_delete [.ref 21, .int k] (dW cc ep ro bb sl th dp many inn item val wr met rst wds opd ope way tk tl) (.inl (some (.int 0))) (dW cc ep ro bb sl 1 dp many inn item val wr met rst wds opd ope way tk tl) := by
  refine evs_of (by decide +kernel) (Nat.le_of_ble_eq_true rfl) (by decide) rfl rfl ?_
  refine ev_iload_n (pc := 0) dX4_delete_0 rfl rfl ?_
  refine ev_iconst (pc := 1) (v := 0) dX4_delete_1 (by decide) ?_
  refine ev_bipush (pc := 2) (v := 99) dX4_delete_2 (by decide) ?_
  refine cS3 (pc := 4) lk_X4_delete_4 (Nat.le_of_ble_eq_true rfl) ⟨Nat.le_of_ble_eq_true rfl, Nat.le_of_ble_eq_true rfl⟩ (s_in0 hk) ?_
  refine ev_if_eq (pc := 7) (tgt := 22) dX4_delete_7 (by decide) (fun _ => ?_) (fun c_7 => absurd rfl c_7)
  refine ev_iconst (pc := 22) (v := 0) dX4_delete_22 (by decide) ?_
  refine ev_istore_n (pc := 23) dX4_delete_23 rfl rfl rfl ?_
  refine ev_iconst (pc := 24) (v := 0) dX4_delete_24 (by decide) ?_
  refine ev_istore_n (pc := 25) dX4_delete_25 rfl rfl rfl ?_
  refine ev_iload_n (pc := 26) dX4_delete_26 rfl rfl ?_
  refine ev_if_eq (pc := 27) (tgt := 54) dX4_delete_27 (by decide) (fun _ => ?_) (fun c_27 => absurd rfl c_27)
  refine ev_aload_n (pc := 54) dX4_delete_54 rfl rfl ?_
  refine ev_iload_n (pc := 55) dX4_delete_55 rfl rfl ?_
  refine ev_iconst (pc := 56) (v := 0) dX4_delete_56 (by decide) ?_
  refine ev_bipush (pc := 57) (v := 99) dX4_delete_57 (by decide) ?_
  refine cS3 (pc := 59) lk_X4_delete_59 (Nat.le_of_ble_eq_true rfl) ⟨Nat.le_of_ble_eq_true rfl, Nat.le_of_ble_eq_true rfl⟩ (s_in0 hk) ?_
  refine ev_aload_n (pc := 62) dX4_delete_62 rfl rfl ?_
  refine ev_get (pc := 63) dX4_delete_63 fd_X4_32 rfl rfl ?_
  refine ev_iconst (pc := 66) (v := (-1)) dX4_delete_66 (by decide) ?_
  refine ev_ic_eq (pc := 67) (tgt := 74) dX4_delete_67 (by decide) (fun c_67 => ?_) (fun c_67 => ?_)
  · refine ev_iconst (pc := 74) (v := 0) dX4_delete_74 (by decide) ?_
    refine ev_iload_n (pc := 75) dX4_delete_75 rfl rfl ?_
    refine ev_if_eq (pc := 76) (tgt := 101) dX4_delete_76 (by decide) (fun _ => ?_) (fun c_76 => absurd rfl c_76)
    refine ev_iconst (pc := 101) (v := 0) dX4_delete_101 (by decide) ?_
    refine cV3 (pc := 102) lk_X4_delete_102 rfl rfl rfl (Nat.le_of_ble_eq_true rfl) ⟨Nat.le_of_ble_eq_true rfl, Nat.le_of_ble_eq_true rfl⟩ (s_goesT1 (cc := cc) (ep := ep) (ro := ro) (bb := bb) (sl := sl) (th := th) (dp := dp) (many := many) (inn := inn) (item := item) (val := val) (wr := wr) (met := met) (rst := rst) (wds := wds) (opd := opd) (ope := ope) (way := way) (tk := tk) (tl := tl)) ?_
    refine ev_if_ne (pc := 105) (tgt := 110) dX4_delete_105 (by decide) (fun c_105 => absurd (by decide) c_105) (fun _ => ?_)
    refine ev_iconst (pc := 108) (v := 0) dX4_delete_108 (by decide) ?_
    exact ev_iretE (pc := 109) dX4_delete_109 rfl ⟨Nat.le_of_ble_eq_true rfl, Nat.le_of_ble_eq_true rfl⟩ rfl rfl
  · refine ev_iconst (pc := 70) (v := 1) dX4_delete_70 (by decide) ?_
    refine ev_goto (pc := 71) (tgt := 75) dX4_delete_71 (by decide) ?_
    refine ev_iload_n (pc := 75) dX4_delete_75 rfl rfl ?_
    refine ev_if_eq (pc := 76) (tgt := 101) dX4_delete_76 (by decide) (fun _ => ?_) (fun c_76 => absurd rfl c_76)
    refine ev_iconst (pc := 101) (v := 0) dX4_delete_101 (by decide) ?_
    refine cV3 (pc := 102) lk_X4_delete_102 rfl rfl rfl (Nat.le_of_ble_eq_true rfl) ⟨Nat.le_of_ble_eq_true rfl, Nat.le_of_ble_eq_true rfl⟩ (s_goesT1 (cc := cc) (ep := ep) (ro := ro) (bb := bb) (sl := sl) (th := th) (dp := dp) (many := many) (inn := inn) (item := item) (val := val) (wr := wr) (met := met) (rst := rst) (wds := wds) (opd := opd) (ope := ope) (way := way) (tk := tk) (tl := tl)) ?_
    refine ev_if_ne (pc := 105) (tgt := 110) dX4_delete_105 (by decide) (fun c_105 => absurd (by decide) c_105) (fun _ => ?_)
    refine ev_iconst (pc := 108) (v := 0) dX4_delete_108 (by decide) ?_
    exact ev_iretE (pc := 109) dX4_delete_109 rfl ⟨Nat.le_of_ble_eq_true rfl, Nat.le_of_ble_eq_true rfl⟩ rfl rfl
theorem s_mPutT2 {cc : C21} {ep ro bb sl th dp : Int32} {many inn item val wr met rst : Nat → Int32} {wds : Nat → Int64} {opd ope way tk : Nat → Int32} {tl : List mC} {k : Nat} {v : Int32} (hk : k < 100) : EvS m_X4_put [.ref 21, .int (nI k), .int v] (dW cc ep ro (-1) sl th dp many inn item val wr met rst wds opd ope way tk tl) (.inl (some (.int 0))) (dW cc ep ro (-1) sl 2 dp many inn item val wr met rst wds opd ope way tk tl) := by
  have hkk : nI k ≤ 99 := by exact nI_le (show k ≤ 99 by omega) (by decide)
  refine evs_of (by decide +kernel) (Nat.le_of_ble_eq_true rfl) (by decide) rfl rfl ?_
  refine ev_aload_n (pc := 0) dX4_put_0 rfl rfl ?_
  refine ev_iload_n (pc := 1) dX4_put_1 rfl rfl ?_
  refine ev_iconst (pc := 2) (v := 0) dX4_put_2 (by decide) ?_
  refine ev_bipush (pc := 3) (v := 99) dX4_put_3 (by decide) ?_
  refine cS3 (pc := 5) lk_X4_put_5 (Nat.le_of_ble_eq_true rfl) ⟨Nat.le_of_ble_eq_true rfl, Nat.le_of_ble_eq_true rfl⟩ (s_in1 (nI_pos' (show k < 2147483648 by omega)) hkk) ?_
  refine ev_aload_n (pc := 8) dX4_put_8 rfl rfl ?_
  refine ev_get (pc := 9) dX4_put_9 fd_X4_32 rfl rfl ?_
  refine ev_iconst (pc := 12) (v := (-1)) dX4_put_12 (by decide) ?_
  refine ev_ic_eq (pc := 13) (tgt := 20) dX4_put_13 (by decide) (fun _ => ?_) (fun c_13 => absurd rfl c_13)
  refine ev_iconst (pc := 20) (v := 0) dX4_put_20 (by decide) ?_
  refine ev_iconst (pc := 21) (v := 1) dX4_put_21 (by decide) ?_
  refine cV3 (pc := 22) lk_X4_put_22 rfl rfl rfl (Nat.le_of_ble_eq_true rfl) ⟨Nat.le_of_ble_eq_true rfl, Nat.le_of_ble_eq_true rfl⟩ (s_goesT2 (cc := cc) (ep := ep) (ro := ro) (bb := (-1)) (sl := sl) (th := th) (dp := dp) (many := many) (inn := inn) (item := item) (val := val) (wr := wr) (met := met) (rst := rst) (wds := wds) (opd := opd) (ope := ope) (way := way) (tk := tk) (tl := tl)) ?_
  refine ev_if_ne (pc := 25) (tgt := 30) dX4_put_25 (by decide) (fun c_25 => absurd (by decide) c_25) (fun _ => ?_)
  refine ev_iconst (pc := 28) (v := 0) dX4_put_28 (by decide) ?_
  exact ev_zretE (pc := 29) dX4_put_29 rfl ⟨Nat.le_of_ble_eq_true rfl, Nat.le_of_ble_eq_true rfl⟩ (by first | exact Or.inl rfl | exact Or.inr rfl | assumption | exact i10_o) rfl rfl
theorem s_mPutT1 {cc : C21} {ep ro bb sl th dp : Int32} {many inn item val wr met rst : Nat → Int32} {wds : Nat → Int64} {opd ope way tk : Nat → Int32} {tl : List mC} {k v : Int32} (hk : k < 0 ∨ (99 : Int32) < k) : EvS m_X4_put [.ref 21, .int k, .int v] (dW cc ep ro bb sl th dp many inn item val wr met rst wds opd ope way tk tl) (.inl (some (.int 0))) (dW cc ep ro bb sl 1 dp many inn item val wr met rst wds opd ope way tk tl) := by
  refine evs_of (by decide +kernel) (Nat.le_of_ble_eq_true rfl) (by decide) rfl rfl ?_
  refine ev_aload_n (pc := 0) dX4_put_0 rfl rfl ?_
  refine ev_iload_n (pc := 1) dX4_put_1 rfl rfl ?_
  refine ev_iconst (pc := 2) (v := 0) dX4_put_2 (by decide) ?_
  refine ev_bipush (pc := 3) (v := 99) dX4_put_3 (by decide) ?_
  refine cS3 (pc := 5) lk_X4_put_5 (Nat.le_of_ble_eq_true rfl) ⟨Nat.le_of_ble_eq_true rfl, Nat.le_of_ble_eq_true rfl⟩ (s_in0 hk) ?_
  refine ev_aload_n (pc := 8) dX4_put_8 rfl rfl ?_
  refine ev_get (pc := 9) dX4_put_9 fd_X4_32 rfl rfl ?_
  refine ev_iconst (pc := 12) (v := (-1)) dX4_put_12 (by decide) ?_
  refine ev_ic_eq (pc := 13) (tgt := 20) dX4_put_13 (by decide) (fun c_13 => ?_) (fun c_13 => ?_)
  · refine ev_iconst (pc := 20) (v := 0) dX4_put_20 (by decide) ?_
    refine ev_iconst (pc := 21) (v := 1) dX4_put_21 (by decide) ?_
    refine cV3 (pc := 22) lk_X4_put_22 rfl rfl rfl (Nat.le_of_ble_eq_true rfl) ⟨Nat.le_of_ble_eq_true rfl, Nat.le_of_ble_eq_true rfl⟩ (s_goesT1 (cc := cc) (ep := ep) (ro := ro) (bb := bb) (sl := sl) (th := th) (dp := dp) (many := many) (inn := inn) (item := item) (val := val) (wr := wr) (met := met) (rst := rst) (wds := wds) (opd := opd) (ope := ope) (way := way) (tk := tk) (tl := tl)) ?_
    refine ev_if_ne (pc := 25) (tgt := 30) dX4_put_25 (by decide) (fun c_25 => absurd (by decide) c_25) (fun _ => ?_)
    refine ev_iconst (pc := 28) (v := 0) dX4_put_28 (by decide) ?_
    exact ev_zretE (pc := 29) dX4_put_29 rfl ⟨Nat.le_of_ble_eq_true rfl, Nat.le_of_ble_eq_true rfl⟩ (by first | exact Or.inl rfl | exact Or.inr rfl | assumption | exact i10_o) rfl rfl
  · refine ev_iconst (pc := 16) (v := 1) dX4_put_16 (by decide) ?_
    refine ev_goto (pc := 17) (tgt := 21) dX4_put_17 (by decide) ?_
    refine ev_iconst (pc := 21) (v := 1) dX4_put_21 (by decide) ?_
    refine cV3 (pc := 22) lk_X4_put_22 rfl rfl rfl (Nat.le_of_ble_eq_true rfl) ⟨Nat.le_of_ble_eq_true rfl, Nat.le_of_ble_eq_true rfl⟩ (s_goesT1 (cc := cc) (ep := ep) (ro := ro) (bb := bb) (sl := sl) (th := th) (dp := dp) (many := many) (inn := inn) (item := item) (val := val) (wr := wr) (met := met) (rst := rst) (wds := wds) (opd := opd) (ope := ope) (way := way) (tk := tk) (tl := tl)) ?_
    refine ev_if_ne (pc := 25) (tgt := 30) dX4_put_25 (by decide) (fun c_25 => absurd (by decide) c_25) (fun _ => ?_)
    refine ev_iconst (pc := 28) (v := 0) dX4_put_28 (by decide) ?_
    exact ev_zretE (pc := 29) dX4_put_29 rfl ⟨Nat.le_of_ble_eq_true rfl, Nat.le_of_ble_eq_true rfl⟩ (by first | exact Or.inl rfl | exact Or.inr rfl | assumption | exact i10_o) rfl rfl
end M11
