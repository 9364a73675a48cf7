/-! the model: splitting; put -/
section M7
variable {K : Nat → Prop} {c : RS3} {so rd : Nat → Option RS3}
theorem Rm_many0 {many inn item val : Nat → Int32} {T : Nat → Nd} {U : Nat → Prop} (hR : Rm many inn item val T U) {n : Nat} {x : Int32} (hn : ¬ U n) : Rm (upd many n x) inn item val T U := fun q hq => ⟨(hR q hq).1, rpM_kept (hR q hq).2 (upd_o (fun h => hn (h ▸ hq))) rfl (fun _ _ => rfl) (fun _ _ => rfl)⟩
theorem Rm_cg {many inn item val : Nat → Int32} {T T' : Nat → Nd} {U U' : Nat → Prop} (hR : Rm many inn item val T U) (h : ∀ q, U' q → U q ∧ T' q = T q) : Rm many inn item val T' U' := fun q hq => by
  obtain ⟨h1, h2⟩ := h q hq
  rw [h2]
  exact hR q h1
theorem s_cutM {cc : C21} {ep ro bb sl th dp : Int32} {many inn item val wr met rst : Nat → Int32} {wds : Nat → Int64} {opd ope way tk : Nat → Int32} {tl : List mC} {W : Nat → Prop} {T : Nat → Nd} {rs : List Nat} (hM : MBt K W T rs many inn item val wr) {r n cur : Nat} (hf : frR K W T [r] n) (hWc : W cur) (h5 : nlen (T cur) = 5) : ∃ many' item' val', MBt K (addS W n) (upT (upT T n (nDrop (T cur) 3)) cur (nTake (T cur) 3)) rs many' (upd inn n (inn cur &&& 1)) item' val' (upd wr n (1 &&& 1)) ∧ EvS m_X4_moves [.ref 21, .int (nI cur), .int (nI 3), .int (nI n)] (dW cc ep ro bb sl th dp (upd many n 0) (upd inn n (inn cur &&& 1)) item val (upd wr n (1 &&& 1)) met rst wds opd ope way tk tl) (.inl none) (dW cc ep ro bb sl th dp many' (upd inn n (inn cur &&& 1)) item' val' (upd wr n (1 &&& 1)) met rst wds opd ope way tk tl) := by
  obtain ⟨hR, hw, hK, hD⟩ := hM
  obtain ⟨hn, hv, hl⟩ := hf.1
  have hu : K cur ∨ W cur := Or.inr hWc
  have hcn : cur ≠ n := fun h => hv (h ▸ hu)
  have h0 := Rm_many0 hR (x := 0) hv
  obtain ⟨nd, hnd, hkd⟩ : ∃ nd : Nd, ((inn cur &&& 1 = 0 ∧ nd = .inl []) ∨ (inn cur &&& 1 = 1 ∧ nd = .inr [])) ∧ (nLf (T cur) ↔ nLf nd) := by
    cases ht : T cur with
    | inl l =>
      have hi := (hR.leaf hu ht).2.1
      exact ⟨.inl [], Or.inl ⟨by rw [hi]; decide, rfl⟩, fun _ => ⟨[], rfl⟩, fun _ => ⟨l, rfl⟩⟩
    | inr l =>
      have hi := (hR.inner hu ht).2.1
      exact ⟨.inr [], Or.inr ⟨by rw [hi]; decide, rfl⟩, fun ⟨x, hx⟩ => (by cases hx), fun ⟨x, hx⟩ => (by cases hx)⟩
  have h1 := Rm_new h0 hn hnd pk_us
  have t1 : upT T n nd cur = T cur := upT_n hcn
  have t2 : upT T n nd n = nd := upT_s _ _ _
  have hnl : nlen nd = 0 := by rcases hnd with ⟨-, rfl⟩ | ⟨-, rfl⟩ <;> rfl
  obtain ⟨m1, i1, v1, hR1, e1⟩ := s_moves (cc := cc) (ep := ep) (ro := ro) (bb := bb) (sl := sl) (th := th) (dp := dp) (many := (upd many n 0)) (inn := (upd inn n (inn cur &&& 1))) (item := item) (val := val) (wr := (upd wr n (1 &&& 1))) (met := met) (rst := rst) (wds := wds) (opd := opd) (ope := ope) (way := way) (tk := tk) (tl := tl) h1 (p := cur) (q := n) (fr := 3) hcn (Or.inr hu) (Or.inl rfl) (by rw [t1, t2]; exact hkd) (by rw [t1, h5]; decide) (by rw [t1, t2, h5, hnl]; decide)
  rw [t1, t2, upT_upT] at hR1
  have hA : nApp nd (nDrop (T cur) 3) = nDrop (T cur) 3 := by
    rcases hnd with ⟨-, rfl⟩ | ⟨-, rfl⟩
    · obtain ⟨l, hl⟩ := hkd.mpr ⟨[], rfl⟩
      rw [hl]; rfl
    · cases hl : T cur with
      | inl l => exact absurd (hkd.mp ⟨l, hl⟩) (fun ⟨x, hx⟩ => by cases hx)
      | inr l => rfl
  rw [hA] at hR1
  refine ⟨m1, i1, v1, ⟨Rm_mono hR1 (fun q hq => ?_), MW_add hv hw, K_frame hK (fun q hq => ?_), fun q hq h => h.elim (fun h => hv (h ▸ Or.inl hq)) (hD q hq)⟩, e1⟩
  · rcases hq with h | h | h
    · exact Or.inr (Or.inl h)
    · exact Or.inl h
    · exact Or.inr (Or.inr h)
  · have g1 : q ≠ cur := fun h => hD q hq (by rw [h]; exact hWc)
    have g2 : q ≠ n := fun h => hv (Or.inl (by rw [← h]; exact hq))
    rw [upT_n g1, upT_n g2]
theorem MB_insI {rs : List Nat} {W : Nat → Prop} {T : Nat → Nd} {many inn item val wr : Nat → Int32} (hM : MBt K W T rs many inn item val wr) {p e x : Nat} {v : Int32} {l : List Nat} (hp : W p) (ht : T p = .inr l) (he : e ≤ l.length) (h4 : l.length ≤ 4) (hx : x < 720) : MBt K W (upT T p (.inr (l.take e ++ x :: l.drop e))) rs (upd many p (nI (l.length + 1))) inn (insF item (5 * p) e l.length (nI x)) (insF val (5 * p) e l.length v) wr := by
  obtain ⟨hR, hw, hK, hD⟩ := hM
  exact ⟨Rm_insI hR (Or.inr hp) ht he h4 hx, hw, K_frame hK (fun q hq => upT_n (fun h => hD q hq (h ▸ hp))), hD⟩
theorem l_splits {cc : C21} {ep ro bb sl th dp : Int32} {many inn item val wr met rst : Nat → Int32} {wds : Nat → Int64} {opd ope way tk : Nat → Int32} {tl : List mC} (hro : ro = nI c.2.1) {r r' : Nat} (hop : opC opd ope rd) (hSL : SLR wds so) {T' : Nat → Nd} {W' : Nat → Prop} : ∀ (rp : List (Nat × Nat)) (many inn item val wr met rst : Nat → Int32) {W : Nat → Prop} {T : Nat → Nd} (_ : MBt K W T (rts c so rd) many inn item val wr) {cur : Nat} (_ : upR K r rp cur T W T' W' r') (_ : rp.length ≤ 6) (_ : wyB way tk rp cur), ∃ met' rst' many' inn' item' val' wr', MBt K W' T' (rts c so rd) many' inn' item' val' wr' ∧ ∀ v2 v3 v4 : Value, EvF m_X4_splits (mQm m_X4_splits (.inl none) (dW cc ep ro (nI r') sl th dp many' inn' item' val' wr' met' rst' wds opd ope way tk tl)) 5 [.ref 21, .int (nI rp.length), v2, v3, v4] [] 0 0 (dW cc ep ro (nI r) sl th dp many inn item val wr met rst wds opd ope way tk tl) := by
  intro rp
  induction rp with
  | nil =>
    intro many inn item val wr met rst W T hM cur h _ hwy
    obtain ⟨hWc, h⟩ := h
    have hu : K cur ∨ W cur := Or.inr hWc
    obtain ⟨hp, hcp, hp5⟩ := hM.1.many hu
    rcases h with ⟨h4, rfl, rfl, rfl⟩ | ⟨h5, rfl, k3, k4, n, m, hn, hm, rfl, rfl, rfl⟩
    · refine ⟨met, rst, many, inn, item, val, wr, hM, fun v2 v3 v4 => ?_⟩
      have hne : nI (nlen (T' cur)) ≠ 5 := fun h => by
        have := nI_inj (a := nlen (T' cur)) (b := 5) (by omega) (by decide) h
        omega
      refine ev_iload_n (pc := 5) dX4_splits_5 rfl rfl ?_
      refine ev_if_lt (pc := 6) (tgt := 132) dX4_splits_6 (by decide) (fun c_6 => absurd c_6 (by decide)) (fun _ => ?_)
      refine ev_aload_n (pc := 9) dX4_splits_9 rfl rfl ?_
      refine ev_get (pc := 10) dX4_splits_10 fd_X4_7 rfl rfl ?_
      refine ev_aload_n (pc := 13) dX4_splits_13 rfl rfl ?_
      refine ev_get (pc := 14) dX4_splits_14 fd_X4_46 rfl rfl ?_
      refine ev_iload_n (pc := 17) dX4_splits_17 rfl rfl ?_
      refine ev_ialdN (pc := 18) dX4_splits_18 rfl ⟨rfl, by decide, by decide⟩ hwy ?_
      refine ev_ialdN (pc := 19) dX4_splits_19 rfl ⟨rfl, hp, by decide⟩ hcp ?_
      refine ev_iconst (pc := 20) (v := 5) dX4_splits_20 (by decide) ?_
      refine ev_ic_ne (pc := 21) (tgt := 132) dX4_splits_21 (by decide) (fun _ => ?_) (fun c_21 => absurd c_21 hne)
      exact ev_vretE (pc := 132) dX4_splits_132 rfl ⟨Nat.le_of_ble_eq_true rfl, Nat.le_of_ble_eq_true rfl⟩ rfl
    · obtain ⟨m1, q1, e1⟩ := s_takes1 (cc := cc) (ep := ep) (ro := ro) (bb := (nI cur)) (sl := sl) (th := th) (dp := dp) (many := many) (inn := inn) (item := item) (val := val) (wr := wr) (met := met) (rst := rst) (wds := wds) (opd := opd) (ope := ope) (way := way) (tk := tk) (tl := tl) hM hro rfl hop hSL hn
      obtain ⟨a2, i2, v2', hM2, e2⟩ := s_cutM (cc := cc) (ep := ep) (ro := ro) (bb := (nI cur)) (sl := sl) (th := th) (dp := dp) (many := many) (inn := inn) (item := item) (val := val) (wr := wr) (met := m1) (rst := q1) (wds := wds) (opd := opd) (ope := ope) (way := way) (tk := tk) (tl := tl) hM hn hWc h5
      obtain ⟨m3, q3, e3⟩ := s_takes2 (cc := cc) (ep := ep) (ro := ro) (bb := (nI cur)) (sl := sl) (th := th) (dp := dp) (many := a2) (inn := (upd inn n (inn cur &&& 1))) (item := i2) (val := v2') (wr := (upd wr n (1 &&& 1))) (met := m1) (rst := q1) (wds := wds) (opd := opd) (ope := ope) (way := way) (tk := tk) (tl := tl) hM2 hro rfl hop hSL hm
      have hn7 := hn.1.1
      have hm7 := hm.1.1
      obtain ⟨hR2, hw2, hK2, hD2⟩ := hM2
      have h3 : MBt K (addS (addS W n) r') (upT (upT (upT T n (nDrop (T cur) 3)) cur (nTake (T cur) 3)) r' (.inr [])) (rts c so rd) (upd a2 r' 0) (upd (upd inn n (inn cur &&& 1)) r' 1) i2 v2' (upd (upd wr n (1 &&& 1)) r' (1 &&& 1)) := by
        refine ⟨Rm_mono (Rm_new (v := 1) (Rm_many0 hR2 (x := 0) hm.1.2.1) hm7 (Or.inr ⟨rfl, rfl⟩) pk_us) (fun q hq => ?_), MW_add hm.1.2.1 hw2, K_frame hK2 (fun q hq => upT_n (fun h => hm.1.2.1 (h ▸ Or.inl hq))), fun q hq h => h.elim (fun h => hm.1.2.1 (h ▸ Or.inl hq)) (hD2 q hq)⟩
        rcases hq with h | h | h
        · exact Or.inr (Or.inl h)
        · exact Or.inl h
        · exact Or.inr (Or.inr h)
      have h4 := MB_insI h3 (p := r') (e := 0) (x := cur) (v := 0) (l := []) (Or.inl rfl) (upT_s _ _ _) (Nat.zero_le _) (by decide) hp
      have h5' := MB_insI h4 (p := r') (e := 1) (x := n) (v := 0) (l := [cur]) (Or.inl rfl) (upT_s _ _ _) (Nat.le_refl _) (by simp) hn7
      rw [upT_upT, upT_upT] at h5'
      refine ⟨m3, q3, _, _, _, _, _, h5', fun v2 v3 v4 => ?_⟩
      refine ev_iload_n (pc := 5) dX4_splits_5 rfl rfl ?_
      refine ev_if_lt (pc := 6) (tgt := 132) dX4_splits_6 (by decide) (fun c_6 => absurd c_6 (by decide)) (fun _ => ?_)
      refine ev_aload_n (pc := 9) dX4_splits_9 rfl rfl ?_
      refine ev_get (pc := 10) dX4_splits_10 fd_X4_7 rfl rfl ?_
      refine ev_aload_n (pc := 13) dX4_splits_13 rfl rfl ?_
      refine ev_get (pc := 14) dX4_splits_14 fd_X4_46 rfl rfl ?_
      refine ev_iload_n (pc := 17) dX4_splits_17 rfl rfl ?_
      refine ev_ialdN (pc := 18) dX4_splits_18 rfl ⟨rfl, by decide, by decide⟩ hwy ?_
      refine ev_ialdN (pc := 19) dX4_splits_19 rfl ⟨rfl, hp, by decide⟩ (by rw [hcp, h5]) ?_
      refine ev_iconst (pc := 20) (v := 5) dX4_splits_20 (by decide) ?_
      refine ev_ic_ne (pc := 21) (tgt := 132) dX4_splits_21 (by decide) (fun c_21 => absurd rfl c_21) (fun _ => ?_)
      refine ev_aload_n (pc := 24) dX4_splits_24 rfl rfl ?_
      refine ev_get (pc := 25) dX4_splits_25 fd_X4_46 rfl rfl ?_
      refine ev_iload_n (pc := 28) dX4_splits_28 rfl rfl ?_
      refine ev_ialdN (pc := 29) dX4_splits_29 rfl ⟨rfl, by decide, by decide⟩ hwy ?_
      refine ev_istore_n (pc := 30) dX4_splits_30 rfl rfl rfl ?_
      refine ev_aload_n (pc := 31) dX4_splits_31 rfl rfl ?_
      refine ev_iconst (pc := 32) (v := (-1)) dX4_splits_32 (by decide) ?_
      refine cV1 (pc := 33) lk_X4_splits_33 rfl rfl rfl (Nat.le_of_ble_eq_true rfl) ⟨Nat.le_of_ble_eq_true rfl, Nat.le_of_ble_eq_true rfl⟩ e1 ?_
      refine ev_istore_n (pc := 36) dX4_splits_36 rfl rfl rfl ?_
      refine ev_aload_n (pc := 37) dX4_splits_37 rfl rfl ?_
      refine ev_get (pc := 38) dX4_splits_38 fd_X4_13 rfl rfl ?_
      refine ev_iload_n (pc := 41) dX4_splits_41 rfl rfl ?_
      refine ev_aload_n (pc := 42) dX4_splits_42 rfl rfl ?_
      refine ev_get (pc := 43) dX4_splits_43 fd_X4_13 rfl rfl ?_
      refine ev_iload_n (pc := 46) dX4_splits_46 rfl rfl ?_
      refine ev_zaldN (pc := 47) dX4_splits_47 rfl ⟨rfl, hp, by decide⟩ rfl ?_
      refine ev_zastN (pc := 48) dX4_splits_48 rfl ⟨rfl, hn7, by decide⟩ rfl rfl ?_
      refine ev_aload_n (pc := 49) dX4_splits_49 rfl rfl ?_
      refine ev_iload_n (pc := 50) dX4_splits_50 rfl rfl ?_
      refine ev_iconst (pc := 51) (v := 3) dX4_splits_51 (by decide) ?_
      refine ev_iload_n (pc := 52) dX4_splits_52 rfl rfl ?_
      refine cV3 (pc := 53) lk_X4_splits_53 rfl rfl rfl (Nat.le_of_ble_eq_true rfl) ⟨Nat.le_of_ble_eq_true rfl, Nat.le_of_ble_eq_true rfl⟩ e2 ?_
      refine ev_iload_n (pc := 56) dX4_splits_56 rfl rfl ?_
      refine ev_if_le (pc := 57) (tgt := 87) dX4_splits_57 (by decide) (fun _ => ?_) (fun c_57 => absurd (by decide) c_57)
      refine ev_aload_n (pc := 87) dX4_splits_87 rfl rfl ?_
      refine ev_iload_n (pc := 88) dX4_splits_88 rfl rfl ?_
      refine cV1 (pc := 89) lk_X4_splits_89 rfl rfl rfl (Nat.le_of_ble_eq_true rfl) ⟨Nat.le_of_ble_eq_true rfl, Nat.le_of_ble_eq_true rfl⟩ e3 ?_
      refine ev_istore (pc := 92) dX4_splits_92 rfl rfl ?_
      refine ev_aload_n (pc := 94) dX4_splits_94 rfl rfl ?_
      refine ev_get (pc := 95) dX4_splits_95 fd_X4_13 rfl rfl ?_
      refine ev_iload (pc := 98) dX4_splits_98 rfl ?_
      refine ev_iconst (pc := 100) (v := 1) dX4_splits_100 (by decide) ?_
      refine ev_zastN (pc := 101) dX4_splits_101 rfl ⟨rfl, hm7, by decide⟩ rfl rfl ?_
      refine ev_aload_n (pc := 102) dX4_splits_102 rfl rfl ?_
      refine ev_iload (pc := 103) dX4_splits_103 rfl ?_
      refine ev_iconst (pc := 105) (v := 0) dX4_splits_105 (by decide) ?_
      refine ev_iload_n (pc := 106) dX4_splits_106 rfl rfl ?_
      refine ev_iconst (pc := 107) (v := 0) dX4_splits_107 (by decide) ?_
      refine cV4 (pc := 108) lk_X4_splits_108 rfl rfl rfl (Nat.le_of_ble_eq_true rfl) ⟨Nat.le_of_ble_eq_true rfl, Nat.le_of_ble_eq_true rfl⟩ (s_lays (e := 0) (c := 0) hm7 pk_us (Nat.le_refl _) (by decide)) ?_
      refine ev_aload_n (pc := 111) dX4_splits_111 rfl rfl ?_
      refine ev_iload (pc := 112) dX4_splits_112 rfl ?_
      refine ev_iconst (pc := 114) (v := 1) dX4_splits_114 (by decide) ?_
      refine ev_iload_n (pc := 115) dX4_splits_115 rfl rfl ?_
      refine ev_iconst (pc := 116) (v := 0) dX4_splits_116 (by decide) ?_
      refine cV4 (pc := 117) lk_X4_splits_117 rfl rfl rfl (Nat.le_of_ble_eq_true rfl) ⟨Nat.le_of_ble_eq_true rfl, Nat.le_of_ble_eq_true rfl⟩ (s_lays (e := 1) (c := 1) hm7 pk_us (Nat.le_refl _) (by decide)) ?_
      refine ev_aload_n (pc := 120) dX4_splits_120 rfl rfl ?_
      refine ev_iload (pc := 121) dX4_splits_121 rfl ?_
      refine ev_put (pc := 123) dX4_splits_123 fp_X4_32 rfl (Nat.le_of_ble_eq_true rfl) (fun _ _ => ⟨rfl, rfl⟩) rfl ?_
      refine ev_iinc (pc := 126) dX4_splits_126 rfl rfl rfl ?_
      refine ev_goto (pc := 129) (tgt := 5) dX4_splits_129 (by decide) ?_
      refine ev_iload_n (pc := 5) dX4_splits_5 rfl rfl ?_
      refine ev_if_lt (pc := 6) (tgt := 132) dX4_splits_6 (by decide) (fun _ => ?_) (fun c_6 => absurd (by decide) c_6)
      exact ev_vretE (pc := 132) dX4_splits_132 rfl ⟨Nat.le_of_ble_eq_true rfl, Nat.le_of_ble_eq_true rfl⟩ rfl
  | cons x rp ih =>
    intro many inn item val wr met rst W T hM cur h hlen hwy
    obtain ⟨q, e⟩ := x
    have hlen' : rp.length + 1 ≤ 6 := hlen
    obtain ⟨hw1, hw2, hw3⟩ := hwy
    obtain ⟨hWc, h⟩ := h
    have hu : K cur ∨ W cur := Or.inr hWc
    obtain ⟨hp, hcp, hp5⟩ := hM.1.many hu
    rcases h with ⟨h4, rfl, rfl, rfl⟩ | ⟨h5, k3, k4, n, l, hn, hl, hqc, hWq, hl4, hel, h⟩
    · refine ⟨met, rst, many, inn, item, val, wr, hM, fun v2 v3 v4 => ?_⟩
      have hne : nI (nlen (T' cur)) ≠ 5 := fun h => by
        have := nI_inj (a := nlen (T' cur)) (b := 5) (by omega) (by decide) h
        omega
      refine ev_iload_n (pc := 5) dX4_splits_5 rfl rfl ?_
      refine ev_if_lt (pc := 6) (tgt := 132) dX4_splits_6 (by decide) (fun c_6 => absurd c_6 (nI_pos (show rp.length + 1 < 2147483648 by omega))) (fun _ => ?_)
      refine ev_aload_n (pc := 9) dX4_splits_9 rfl rfl ?_
      refine ev_get (pc := 10) dX4_splits_10 fd_X4_7 rfl rfl ?_
      refine ev_aload_n (pc := 13) dX4_splits_13 rfl rfl ?_
      refine ev_get (pc := 14) dX4_splits_14 fd_X4_46 rfl rfl ?_
      refine ev_iload_n (pc := 17) dX4_splits_17 rfl rfl ?_
      refine ev_ialdN (pc := 18) dX4_splits_18 rfl ⟨rfl, show rp.length + 1 < 12 by omega, by decide⟩ hw1 ?_
      refine ev_ialdN (pc := 19) dX4_splits_19 rfl ⟨rfl, hp, by decide⟩ hcp ?_
      refine ev_iconst (pc := 20) (v := 5) dX4_splits_20 (by decide) ?_
      refine ev_ic_ne (pc := 21) (tgt := 132) dX4_splits_21 (by decide) (fun _ => ?_) (fun c_21 => absurd c_21 hne)
      exact ev_vretE (pc := 132) dX4_splits_132 rfl ⟨Nat.le_of_ble_eq_true rfl, Nat.le_of_ble_eq_true rfl⟩ rfl
    · obtain ⟨m1, q1, e1⟩ := s_takes1 (cc := cc) (ep := ep) (ro := ro) (bb := (nI r)) (sl := sl) (th := th) (dp := dp) (many := many) (inn := inn) (item := item) (val := val) (wr := wr) (met := met) (rst := rst) (wds := wds) (opd := opd) (ope := ope) (way := way) (tk := tk) (tl := tl) hM hro rfl hop hSL hn
      obtain ⟨a2, i2, v2', hM2, e2⟩ := s_cutM (cc := cc) (ep := ep) (ro := ro) (bb := (nI r)) (sl := sl) (th := th) (dp := dp) (many := many) (inn := inn) (item := item) (val := val) (wr := wr) (met := m1) (rst := q1) (wds := wds) (opd := opd) (ope := ope) (way := way) (tk := tk) (tl := tl) hM hn hWc h5
      have hn7 := hn.1.1
      have hqn : q ≠ n := fun h => hn.1.2.1 (h ▸ Or.inr hWq)
      have tq : upT (upT T n (nDrop (T cur) 3)) cur (nTake (T cur) 3) q = .inr l := by rw [upT_n hqc, upT_n hqn, hl]
      obtain ⟨hq7, hiq, -, hcq, -⟩ := hM2.1.inner (Or.inr (Or.inr hWq)) tq
      have h4 := MB_insI hM2 (p := q) (e := e + 1) (x := n) (v := 0) (l := l) (Or.inr hWq) tq hel hl4 hn7
      obtain ⟨m3, q3, a3, i3, t3, v3', w3, hM3, e3⟩ := ih _ _ _ _ _ m1 q1 h4 h (by omega) hw3
      refine ⟨m3, q3, a3, i3, t3, v3', w3, hM3, fun v2 v3 v4 => ?_⟩
      refine ev_iload_n (pc := 5) dX4_splits_5 rfl rfl ?_
      refine ev_if_lt (pc := 6) (tgt := 132) dX4_splits_6 (by decide) (fun c_6 => absurd c_6 (nI_pos (show rp.length + 1 < 2147483648 by omega))) (fun _ => ?_)
      refine ev_aload_n (pc := 9) dX4_splits_9 rfl rfl ?_
      refine ev_get (pc := 10) dX4_splits_10 fd_X4_7 rfl rfl ?_
      refine ev_aload_n (pc := 13) dX4_splits_13 rfl rfl ?_
      refine ev_get (pc := 14) dX4_splits_14 fd_X4_46 rfl rfl ?_
      refine ev_iload_n (pc := 17) dX4_splits_17 rfl rfl ?_
      refine ev_ialdN (pc := 18) dX4_splits_18 rfl ⟨rfl, show rp.length + 1 < 12 by omega, by decide⟩ hw1 ?_
      refine ev_ialdN (pc := 19) dX4_splits_19 rfl ⟨rfl, hp, by decide⟩ (by rw [hcp, h5]) ?_
      refine ev_iconst (pc := 20) (v := 5) dX4_splits_20 (by decide) ?_
      refine ev_ic_ne (pc := 21) (tgt := 132) dX4_splits_21 (by decide) (fun c_21 => absurd rfl c_21) (fun _ => ?_)
      refine ev_aload_n (pc := 24) dX4_splits_24 rfl rfl ?_
      refine ev_get (pc := 25) dX4_splits_25 fd_X4_46 rfl rfl ?_
      refine ev_iload_n (pc := 28) dX4_splits_28 rfl rfl ?_
      refine ev_ialdN (pc := 29) dX4_splits_29 rfl ⟨rfl, show rp.length + 1 < 12 by omega, by decide⟩ hw1 ?_
      refine ev_istore_n (pc := 30) dX4_splits_30 rfl rfl rfl ?_
      refine ev_aload_n (pc := 31) dX4_splits_31 rfl rfl ?_
      refine ev_iconst (pc := 32) (v := (-1)) dX4_splits_32 (by decide) ?_
      refine cV1 (pc := 33) lk_X4_splits_33 rfl rfl rfl (Nat.le_of_ble_eq_true rfl) ⟨Nat.le_of_ble_eq_true rfl, Nat.le_of_ble_eq_true rfl⟩ e1 ?_
      refine ev_istore_n (pc := 36) dX4_splits_36 rfl rfl rfl ?_
      refine ev_aload_n (pc := 37) dX4_splits_37 rfl rfl ?_
      refine ev_get (pc := 38) dX4_splits_38 fd_X4_13 rfl rfl ?_
      refine ev_iload_n (pc := 41) dX4_splits_41 rfl rfl ?_
      refine ev_aload_n (pc := 42) dX4_splits_42 rfl rfl ?_
      refine ev_get (pc := 43) dX4_splits_43 fd_X4_13 rfl rfl ?_
      refine ev_iload_n (pc := 46) dX4_splits_46 rfl rfl ?_
      refine ev_zaldN (pc := 47) dX4_splits_47 rfl ⟨rfl, hp, by decide⟩ rfl ?_
      refine ev_zastN (pc := 48) dX4_splits_48 rfl ⟨rfl, hn7, by decide⟩ rfl rfl ?_
      refine ev_aload_n (pc := 49) dX4_splits_49 rfl rfl ?_
      refine ev_iload_n (pc := 50) dX4_splits_50 rfl rfl ?_
      refine ev_iconst (pc := 51) (v := 3) dX4_splits_51 (by decide) ?_
      refine ev_iload_n (pc := 52) dX4_splits_52 rfl rfl ?_
      refine cV3 (pc := 53) lk_X4_splits_53 rfl rfl rfl (Nat.le_of_ble_eq_true rfl) ⟨Nat.le_of_ble_eq_true rfl, Nat.le_of_ble_eq_true rfl⟩ e2 ?_
      refine ev_iload_n (pc := 56) dX4_splits_56 rfl rfl ?_
      refine ev_if_le (pc := 57) (tgt := 87) dX4_splits_57 (by decide) (fun c_57 => absurd c_57 (by exact nI_nle (show 0 < rp.length + 1 by omega) (by omega))) (fun _ => ?_)
      refine ev_aload_n (pc := 60) dX4_splits_60 rfl rfl ?_
      refine ev_aload_n (pc := 61) dX4_splits_61 rfl rfl ?_
      refine ev_get (pc := 62) dX4_splits_62 fd_X4_46 rfl rfl ?_
      refine ev_iload_n (pc := 65) dX4_splits_65 rfl rfl ?_
      refine ev_iconst (pc := 66) (v := 1) dX4_splits_66 (by decide) ?_
      refine ev_isub (pc := 67) dX4_splits_67 ?_
      refine ev_ialdN (pc := 68) dX4_splits_68 rfl ⟨(nI_s1 (show 0 < rp.length + 1 by omega)), by exact (show rp.length < 12 by omega), by decide⟩ (wyB_cur hw3) ?_
      refine ev_aload_n (pc := 69) dX4_splits_69 rfl rfl ?_
      refine ev_get (pc := 70) dX4_splits_70 fd_X4_49 rfl rfl ?_
      refine ev_iload_n (pc := 73) dX4_splits_73 rfl rfl ?_
      refine ev_iconst (pc := 74) (v := 1) dX4_splits_74 (by decide) ?_
      refine ev_isub (pc := 75) dX4_splits_75 ?_
      refine ev_ialdN (pc := 76) dX4_splits_76 rfl ⟨(nI_s1 (show 0 < rp.length + 1 by omega)), by exact (show rp.length < 12 by omega), by decide⟩ hw2 ?_
      refine ev_iconst (pc := 77) (v := 1) dX4_splits_77 (by decide) ?_
      refine ev_iadd (pc := 78) dX4_splits_78 ?_
      rw [nI_a1]
      refine ev_iload_n (pc := 79) dX4_splits_79 rfl rfl ?_
      refine ev_iconst (pc := 80) (v := 0) dX4_splits_80 (by decide) ?_
      refine cV4 (pc := 81) lk_X4_splits_81 rfl rfl rfl (Nat.le_of_ble_eq_true rfl) ⟨Nat.le_of_ble_eq_true rfl, Nat.le_of_ble_eq_true rfl⟩ (s_lays hq7 hcq hel hl4) ?_
      refine ev_goto (pc := 84) (tgt := 126) dX4_splits_84 (by decide) ?_
      refine ev_iinc (pc := 126) dX4_splits_126 rfl rfl rfl ?_
      refine ev_goto (pc := 129) (tgt := 5) dX4_splits_129 (by decide) ?_
      rw [show nI ((q, e) :: rp).length + Int32.ofInt (-1) = nI rp.length from nI_im (show 0 < rp.length + 1 by omega)]
      exact e3 _ _ _
theorem s_goes {cc : C21} {ep ro bb sl th dp : Int32} {many inn item val wr met rst : Nat → Int32} {wds : Nat → Int64} {opd ope way tk : Nat → Int32} {tl : List mC} : EvS m_X4_goes [.ref 21, .int 1, .int 1, .int 1] (dW cc ep ro bb sl th dp many inn item val wr met rst wds opd ope way tk tl) (.inl (some (.int 1))) (dW cc ep ro bb sl 0 dp many inn item val wr met rst wds opd ope way tk tl) := by
  refine evs_of (by decide +kernel) (Nat.le_of_ble_eq_true rfl) (by decide) rfl rfl ?_
  refine ev_aload_n (pc := 0) dX4_goes_0 rfl rfl ?_
  refine ev_iload_n (pc := 1) dX4_goes_1 rfl rfl ?_
  refine ev_if_ne (pc := 2) (tgt := 9) dX4_goes_2 (by decide) (fun _ => ?_) (fun c_2 => absurd c_2 (by decide))
  refine ev_iload_n (pc := 9) dX4_goes_9 rfl rfl ?_
  refine ev_if_ne (pc := 10) (tgt := 17) dX4_goes_10 (by decide) (fun _ => ?_) (fun c_10 => absurd c_10 (by decide))
  refine ev_iload_n (pc := 17) dX4_goes_17 rfl rfl ?_
  refine ev_if_ne (pc := 18) (tgt := 25) dX4_goes_18 (by decide) (fun _ => ?_) (fun c_18 => absurd c_18 (by decide))
  refine ev_iconst (pc := 25) (v := 0) dX4_goes_25 (by decide) ?_
  refine ev_put (pc := 26) dX4_goes_26 fp_X4_55 rfl (Nat.le_of_ble_eq_true rfl) (fun _ _ => ⟨rfl, rfl⟩) rfl ?_
  refine ev_aload_n (pc := 29) dX4_goes_29 rfl rfl ?_
  refine ev_get (pc := 30) dX4_goes_30 fd_X4_55 rfl rfl ?_
  refine ev_if_ne (pc := 33) (tgt := 40) dX4_goes_33 (by decide) (fun c_33 => absurd rfl c_33) (fun _ => ?_)
  refine ev_iconst (pc := 36) (v := 1) dX4_goes_36 (by decide) ?_
  refine ev_goto (pc := 37) (tgt := 41) dX4_goes_37 (by decide) ?_
  exact ev_zretE (pc := 41) dX4_goes_41 rfl ⟨Nat.le_of_ble_eq_true rfl, Nat.le_of_ble_eq_true rfl⟩ (by first | exact Or.inl rfl | exact Or.inr rfl | assumption | exact i10_o) rfl rfl
theorem s_goesT1 {cc : C21} {ep ro bb sl th dp : Int32} {many inn item val wr met rst : Nat → Int32} {wds : Nat → Int64} {opd ope way tk : Nat → Int32} {tl : List mC} {x y : Int32} : EvS m_X4_goes [.ref 21, .int 0, .int x, .int y] (dW cc ep ro bb sl th dp many inn item val wr met rst wds opd ope way tk tl) (.inl (some (.int 0))) (dW cc ep ro bb sl 1 dp many inn item val wr met rst wds opd ope way tk tl) := by
  refine evs_of (by decide +kernel) (Nat.le_of_ble_eq_true rfl) (by decide) rfl rfl ?_
  refine ev_aload_n (pc := 0) dX4_goes_0 rfl rfl ?_
  refine ev_iload_n (pc := 1) dX4_goes_1 rfl rfl ?_
  refine ev_if_ne (pc := 2) (tgt := 9) dX4_goes_2 (by decide) (fun c_2 => absurd rfl c_2) (fun _ => ?_)
  refine ev_iconst (pc := 5) (v := 1) dX4_goes_5 (by decide) ?_
  refine ev_goto (pc := 6) (tgt := 26) dX4_goes_6 (by decide) ?_
  refine ev_put (pc := 26) dX4_goes_26 fp_X4_55 rfl (Nat.le_of_ble_eq_true rfl) (fun _ _ => ⟨rfl, rfl⟩) rfl ?_
  refine ev_aload_n (pc := 29) dX4_goes_29 rfl rfl ?_
  refine ev_get (pc := 30) dX4_goes_30 fd_X4_55 rfl rfl ?_
  refine ev_if_ne (pc := 33) (tgt := 40) dX4_goes_33 (by decide) (fun _ => ?_) (fun c_33 => absurd c_33 (by decide))
  refine ev_iconst (pc := 40) (v := 0) dX4_goes_40 (by decide) ?_
  exact ev_zretE (pc := 41) dX4_goes_41 rfl ⟨Nat.le_of_ble_eq_true rfl, Nat.le_of_ble_eq_true rfl⟩ (by first | exact Or.inl rfl | exact Or.inr rfl | assumption | exact i10_o) rfl rfl
theorem s_goesT2 {cc : C21} {ep ro bb sl th dp : Int32} {many inn item val wr met rst : Nat → Int32} {wds : Nat → Int64} {opd ope way tk : Nat → Int32} {tl : List mC} {y : Int32} : EvS m_X4_goes [.ref 21, .int 1, .int 0, .int y] (dW cc ep ro bb sl th dp many inn item val wr met rst wds opd ope way tk tl) (.inl (some (.int 0))) (dW cc ep ro bb sl 2 dp many inn item val wr met rst wds opd ope way tk tl) := by
  refine evs_of (by decide +kernel) (Nat.le_of_ble_eq_true rfl) (by decide) rfl rfl ?_
  refine ev_aload_n (pc := 0) dX4_goes_0 rfl rfl ?_
  refine ev_iload_n (pc := 1) dX4_goes_1 rfl rfl ?_
  refine ev_if_ne (pc := 2) (tgt := 9) dX4_goes_2 (by decide) (fun _ => ?_) (fun c_2 => absurd c_2 (by decide))
  refine ev_iload_n (pc := 9) dX4_goes_9 rfl rfl ?_
  refine ev_if_ne (pc := 10) (tgt := 17) dX4_goes_10 (by decide) (fun c_10 => absurd rfl c_10) (fun _ => ?_)
  refine ev_iconst (pc := 13) (v := 2) dX4_goes_13 (by decide) ?_
  refine ev_goto (pc := 14) (tgt := 26) dX4_goes_14 (by decide) ?_
  refine ev_put (pc := 26) dX4_goes_26 fp_X4_55 rfl (Nat.le_of_ble_eq_true rfl) (fun _ _ => ⟨rfl, rfl⟩) rfl ?_
  refine ev_aload_n (pc := 29) dX4_goes_29 rfl rfl ?_
  refine ev_get (pc := 30) dX4_goes_30 fd_X4_55 rfl rfl ?_
  refine ev_if_ne (pc := 33) (tgt := 40) dX4_goes_33 (by decide) (fun _ => ?_) (fun c_33 => absurd c_33 (by decide))
  refine ev_iconst (pc := 40) (v := 0) dX4_goes_40 (by decide) ?_
  exact ev_zretE (pc := 41) dX4_goes_41 rfl ⟨Nat.le_of_ble_eq_true rfl, Nat.le_of_ble_eq_true rfl⟩ (by first | exact Or.inl rfl | exact Or.inr rfl | assumption | exact i10_o) rfl rfl
theorem s_goesT3 {cc : C21} {ep ro bb sl th dp : Int32} {many inn item val wr met rst : Nat → Int32} {wds : Nat → Int64} {opd ope way tk : Nat → Int32} {tl : List mC} : EvS m_X4_goes [.ref 21, .int 1, .int 1, .int 0] (dW cc ep ro bb sl th dp many inn item val wr met rst wds opd ope way tk tl) (.inl (some (.int 0))) (dW cc ep ro bb sl 3 dp many inn item val wr met rst wds opd ope way tk tl) := by
  refine evs_of (by decide +kernel) (Nat.le_of_ble_eq_true rfl) (by decide) rfl rfl ?_
  refine ev_aload_n (pc := 0) dX4_goes_0 rfl rfl ?_
  refine ev_iload_n (pc := 1) dX4_goes_1 rfl rfl ?_
  refine ev_if_ne (pc := 2) (tgt := 9) dX4_goes_2 (by decide) (fun _ => ?_) (fun c_2 => absurd c_2 (by decide))
  refine ev_iload_n (pc := 9) dX4_goes_9 rfl rfl ?_
  refine ev_if_ne (pc := 10) (tgt := 17) dX4_goes_10 (by decide) (fun _ => ?_) (fun c_10 => absurd c_10 (by decide))
  refine ev_iload_n (pc := 17) dX4_goes_17 rfl rfl ?_
  refine ev_if_ne (pc := 18) (tgt := 25) dX4_goes_18 (by decide) (fun c_18 => absurd rfl c_18) (fun _ => ?_)
  refine ev_iconst (pc := 21) (v := 3) dX4_goes_21 (by decide) ?_
  refine ev_goto (pc := 22) (tgt := 26) dX4_goes_22 (by decide) ?_
  refine ev_put (pc := 26) dX4_goes_26 fp_X4_55 rfl (Nat.le_of_ble_eq_true rfl) (fun _ _ => ⟨rfl, rfl⟩) rfl ?_
  refine ev_aload_n (pc := 29) dX4_goes_29 rfl rfl ?_
  refine ev_get (pc := 30) dX4_goes_30 fd_X4_55 rfl rfl ?_
  refine ev_if_ne (pc := 33) (tgt := 40) dX4_goes_33 (by decide) (fun _ => ?_) (fun c_33 => absurd c_33 (by decide))
  refine ev_iconst (pc := 40) (v := 0) dX4_goes_40 (by decide) ?_
  exact ev_zretE (pc := 41) dX4_goes_41 rfl ⟨Nat.le_of_ble_eq_true rfl, Nat.le_of_ble_eq_true rfl⟩ (by first | exact Or.inl rfl | exact Or.inr rfl | assumption | exact i10_o) rfl rfl
end M7
