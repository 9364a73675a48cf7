/-! the model: joining -/
section M10
variable {K : Nat → Prop} {c : RS3} {so rd : Nat → Option RS3}
theorem MW_rm {wr : Nat → Int32} {W : Nat → Prop} {g : Nat} (hw : ∀ q, (K q ∨ W q) → (wr q ≠ 0 ↔ W q)) (hD : ∀ q, K q → ¬ W q) : ∀ q, (K q ∨ rmS W g q) → (wr q ≠ 0 ↔ rmS W g q) := fun q hq => by
  rcases hq with h | h
  · exact ⟨fun h1 => absurd ((hw q (Or.inl h)).mp h1) (hD q h), fun h1 => absurd h1.2 (hD q h)⟩
  · exact ⟨fun _ => h, fun _ => (hw q (Or.inr h.2)).mpr h.2⟩
/-- with the left neighbour -/
theorem s_mMendB1 {cc : C21} {ep ro bb sl th dp : Int32} {many inn item val wr met rst : Nat → Int32} {wds : Nat → Int64} {opd ope way tk : Nat → Int32} {tl : List mC} (hro : ro = nI c.2.1) {r : Nat} (hbb : bb = nI r) (hop : opC opd ope rd) (hSL : SLR wds so) {W W1 : Nat → Prop} {T T1 : Nat → Nd} (hM : MBt K W T (rts c so rd) many inn item val wr) {q e i cur b b' : Nat} {l : List Nat} (hi0 : i < 11) (hw1 : way (i + 1) = nI cur) (hw2 : way i = nI q) (hw3 : tk i = nI e) (hl : T q = .inr l) (hWq : W q) (hl4 : l.length ≤ 4) (hxe : l[e]? = some cur) (hWc : W cur) (h1 : nlen (T cur) = 1) (he : 0 < e) (hxb : l[e - 1]? = some b) (hub : K b ∨ W b) (hkd : nLf (T b) ↔ nLf (T cur)) (hbc : b ≠ cur) (hqb : q ≠ b) (hqc : q ≠ cur) (h2 : nlen (T b) = 2) (hw : wnR K T W r b b' T1 W1) : ∃ met' rst' many' inn' item' val' wr', MBt K (rmS W1 cur) (upT (upT (upT T1 q (.inr (l.set (e - 1) b'))) b' (nApp (T b) (T cur))) q (nRem (.inr (l.set (e - 1) b')) e)) (rts c so rd) many' inn' item' val' wr' ∧ EvS m_X4_mends [.ref 21, .int (nI (i + 1))] (dW cc ep ro bb sl th dp many inn item val wr met rst wds opd ope way tk tl) (.inl none) (dW cc ep ro bb sl th dp many' inn' item' val' wr' met' rst' wds opd ope way tk tl) := by
  obtain ⟨hq7, hiq, h5, hcq, hrow, hk7⟩ := hM.1.inner (Or.inr hWq) hl
  have he4 : e < l.length := (List.getElem?_eq_some_iff.mp hxe).1
  have hb7 : b < 720 := hk7 b (List.mem_of_getElem? hxb)
  have hbm := (hM.1.many hub).2.1
  obtain ⟨k1, k2, k3, k4, k5⟩ := wn_k hw
  obtain ⟨m1, r1, a1, i1, t1, v1, w1, hM1, e1⟩ := s_own (cc := cc) (ep := ep) (ro := ro) (bb := bb) (sl := sl) (th := th) (dp := dp) (many := many) (inn := inn) (item := item) (val := val) (wr := wr) (met := met) (rst := rst) (wds := wds) (opd := opd) (ope := ope) (way := way) (tk := tk) (tl := tl) hM hro hbb hop hSL hWq hl hxb hw
  have hbc' : b' ≠ cur := wn_ne hw (Or.inr hWc) hbc
  have hbq' : b' ≠ q := wn_ne hw (Or.inr hWq) (Ne.symm hqb)
  have tc : upT T1 q (.inr (l.set (e - 1) b')) cur = T cur := by rw [upT_n (Ne.symm hqc), k3 cur (Or.inr hWc)]
  have tb : upT T1 q (.inr (l.set (e - 1) b')) b' = T b := by rw [upT_n hbq', k2]
  have huc1 : K cur ∨ W1 cur := Or.inr (k4 cur hWc)
  have hub1 : K b' ∨ W1 b' := Or.inr k1
  have huq1 : K q ∨ W1 q := Or.inr (k4 q hWq)
  obtain ⟨a2, t2, v2, hR2, e2⟩ := s_moves (cc := cc) (ep := ep) (ro := ro) (bb := bb) (sl := sl) (th := th) (dp := dp) (many := a1) (inn := i1) (item := t1) (val := v1) (wr := w1) (met := m1) (rst := r1) (wds := wds) (opd := opd) (ope := ope) (way := way) (tk := tk) (tl := tl) hM1.1 (p := cur) (q := b') (fr := 0) (Ne.symm hbc') huc1 hub1 (by rw [tc, tb]; exact hkd.symm) (Nat.zero_le _) (by rw [tc, tb, h1, h2]; decide)
  rw [tc, tb, nDrop_0] at hR2
  have tq : upT (upT (upT T1 q (.inr (l.set (e - 1) b'))) b' (nApp (T b) (T cur))) cur (nTake (T cur) 0) q = .inr (l.set (e - 1) b') := by rw [upT_n hqc, upT_n (Ne.symm hbq'), upT_s]
  have hlen : nlen (.inr (l.set (e - 1) b') : Nd) = l.length := by simp [nlen]
  have hH := Rm_rm hR2 (p := q) (e := e) huq1 (by rw [tq, hlen]; exact he4)
  rw [tq] at hH
  obtain ⟨-, hqm, -⟩ := hR2.many huq1
  rw [tq] at hqm
  have hM3 : Rm (upd a2 q (nI (nlen (.inr (l.set (e - 1) b') : Nd) - 1))) i1 (shD t2 (5 * q) e (nlen (.inr (l.set (e - 1) b') : Nd) - 1)) (shD v2 (5 * q) e (nlen (.inr (l.set (e - 1) b') : Nd) - 1)) (upT (upT (upT T1 q (.inr (l.set (e - 1) b'))) b' (nApp (T b) (T cur))) q (nRem (.inr (l.set (e - 1) b')) e)) (fun x => K x ∨ rmS W1 cur x) := by
    refine Rm_cg hH (fun x hx => ⟨hx.imp id (fun h => h.2), ?_⟩)
    have hxc : x ≠ cur := hx.elim (fun h h2 => hM1.2.2.2 x h (by rw [h2]; exact k4 cur hWc)) (fun h => h.1)
    by_cases hxq : x = q
    · rw [hxq, upT_s, upT_s]
    · rw [upT_n hxq, upT_n hxq, upT_n hxc]
  refine ⟨m1, r1, _, _, _, _, _, ⟨hM3, MW_rm hM1.2.1 hM1.2.2.2, K_frame hM1.2.2.1 (fun x hx => ?_), fun x hx h => hM1.2.2.2 x hx h.2⟩, ?_⟩
  · have g1 : x ≠ b' := fun h => hM1.2.2.2 x hx (by rw [h]; exact k1)
    have g2 : x ≠ q := fun h => hM1.2.2.2 x hx (by rw [h]; exact k4 q hWq)
    rw [upT_n g2, upT_n g1]
  · refine evs_of (by decide +kernel) (Nat.le_of_ble_eq_true rfl) (by decide) rfl rfl ?_
    refine ev_aload_n (pc := 0) dX4_mends_0 rfl rfl ?_
    refine ev_get (pc := 1) dX4_mends_1 fd_X4_46 rfl rfl ?_
    refine ev_iload_n (pc := 4) dX4_mends_4 rfl rfl ?_
    refine ev_ialdN (pc := 5) dX4_mends_5 rfl ⟨rfl, by omega, by decide⟩ hw1 ?_
    refine ev_istore_n (pc := 6) dX4_mends_6 rfl rfl rfl ?_
    refine ev_aload_n (pc := 7) dX4_mends_7 rfl rfl ?_
    refine ev_get (pc := 8) dX4_mends_8 fd_X4_46 rfl rfl ?_
    refine ev_iload_n (pc := 11) dX4_mends_11 rfl rfl ?_
    refine ev_iconst (pc := 12) (v := 1) dX4_mends_12 (by decide) ?_
    refine ev_isub (pc := 13) dX4_mends_13 ?_
    refine ev_ialdN (pc := 14) dX4_mends_14 rfl ⟨(nI_s1 (show 0 < i + 1 by omega)), by exact (show i < 12 by omega), by decide⟩ hw2 ?_
    refine ev_istore_n (pc := 15) dX4_mends_15 rfl rfl rfl ?_
    refine ev_aload_n (pc := 16) dX4_mends_16 rfl rfl ?_
    refine ev_get (pc := 17) dX4_mends_17 fd_X4_49 rfl rfl ?_
    refine ev_iload_n (pc := 20) dX4_mends_20 rfl rfl ?_
    refine ev_iconst (pc := 21) (v := 1) dX4_mends_21 (by decide) ?_
    refine ev_isub (pc := 22) dX4_mends_22 ?_
    refine ev_ialdN (pc := 23) dX4_mends_23 rfl ⟨(nI_s1 (show 0 < i + 1 by omega)), by exact (show i < 12 by omega), by decide⟩ hw3 ?_
    refine ev_istore (pc := 24) dX4_mends_24 rfl rfl ?_
    refine ev_iload (pc := 26) dX4_mends_26 rfl ?_
    refine ev_if_le (pc := 28) (tgt := 38) dX4_mends_28 (by decide) (fun c_28 => absurd c_28 (by exact nI_nle he (by omega))) (fun _ => ?_)
    refine ev_iload (pc := 31) dX4_mends_31 rfl ?_
    refine ev_iconst (pc := 33) (v := 1) dX4_mends_33 (by decide) ?_
    refine ev_isub (pc := 34) dX4_mends_34 ?_
    refine ev_goto (pc := 35) (tgt := 39) dX4_mends_35 (by decide) ?_
    rw [nI_s1 he]
    refine ev_istore (pc := 39) dX4_mends_39 rfl rfl ?_
    refine ev_aload_n (pc := 41) dX4_mends_41 rfl rfl ?_
    refine ev_get (pc := 42) dX4_mends_42 fd_X4_7 rfl rfl ?_
    refine ev_aload_n (pc := 45) dX4_mends_45 rfl rfl ?_
    refine ev_get (pc := 46) dX4_mends_46 fd_X4_17 rfl rfl ?_
    refine ev_iconst (pc := 49) (v := 5) dX4_mends_49 (by decide) ?_
    refine ev_iload_n (pc := 50) dX4_mends_50 rfl rfl ?_
    refine ev_imul (pc := 51) dX4_mends_51 ?_
    refine ev_iload (pc := 52) dX4_mends_52 rfl ?_
    refine ev_iadd (pc := 54) dX4_mends_54 ?_
    refine ev_ialdN (pc := 55) dX4_mends_55 rfl ⟨(ix5m q (e - 1)), by omega, by decide⟩ (row_ch hrow hxb) ?_
    refine ev_ialdN (pc := 56) dX4_mends_56 rfl ⟨rfl, hb7, by decide⟩ (by rw [hbm, h2]) ?_
    refine ev_iconst (pc := 57) (v := 2) dX4_mends_57 (by decide) ?_
    refine ev_ic_le (pc := 58) (tgt := 140) dX4_mends_58 (by decide) (fun _ => ?_) (fun c_58 => absurd (by decide) c_58)
    refine ev_iload (pc := 140) dX4_mends_140 rfl ?_
    refine ev_if_le (pc := 142) (tgt := 172) dX4_mends_142 (by decide) (fun c_142 => absurd c_142 (by exact nI_nle he (by omega))) (fun _ => ?_)
    refine ev_aload_n (pc := 145) dX4_mends_145 rfl rfl ?_
    refine ev_iload_n (pc := 146) dX4_mends_146 rfl rfl ?_
    refine ev_iload (pc := 147) dX4_mends_147 rfl ?_
    refine cV2 (pc := 149) lk_X4_mends_149 rfl rfl rfl (Nat.le_of_ble_eq_true rfl) ⟨Nat.le_of_ble_eq_true rfl, Nat.le_of_ble_eq_true rfl⟩ e1 ?_
    refine ev_istore (pc := 152) dX4_mends_152 rfl rfl ?_
    refine ev_aload_n (pc := 154) dX4_mends_154 rfl rfl ?_
    refine ev_iload_n (pc := 155) dX4_mends_155 rfl rfl ?_
    refine ev_iconst (pc := 156) (v := 0) dX4_mends_156 (by decide) ?_
    refine ev_iload (pc := 157) dX4_mends_157 rfl ?_
    refine cV3 (pc := 159) lk_X4_mends_159 rfl rfl rfl (Nat.le_of_ble_eq_true rfl) ⟨Nat.le_of_ble_eq_true rfl, Nat.le_of_ble_eq_true rfl⟩ e2 ?_
    refine ev_aload_n (pc := 162) dX4_mends_162 rfl rfl ?_
    refine ev_iload_n (pc := 163) dX4_mends_163 rfl rfl ?_
    refine ev_iload (pc := 164) dX4_mends_164 rfl ?_
    refine cV2 (pc := 166) lk_X4_mends_166 rfl rfl rfl (Nat.le_of_ble_eq_true rfl) ⟨Nat.le_of_ble_eq_true rfl, Nat.le_of_ble_eq_true rfl⟩ (s_drops hq7 hqm (by rw [hlen]; exact he4) (by rw [hlen]; omega)) ?_
    refine ev_goto (pc := 169) (tgt := 246) dX4_mends_169 (by decide) ?_
    exact ev_vretE (pc := 246) dX4_mends_246 rfl ⟨Nat.le_of_ble_eq_true rfl, Nat.le_of_ble_eq_true rfl⟩ rfl
theorem nGet_end {n m : Nd} (h1 : nlen n = 1) (h2 : nlen m = 2) (hk : nLf m ↔ nLf n) : nGet (nGet n m 1 0) m 2 1 = nApp n m := by
  cases n with
  | inl l =>
    obtain ⟨r, rfl⟩ := hk.mpr ⟨l, rfl⟩
    match l, r, h1, h2 with
    | [a], [b, c], _, _ => rfl
  | inr l =>
    cases m with
    | inl r => exact absurd (hk.mp ⟨r, rfl⟩) (fun ⟨x, hx⟩ => by cases hx)
    | inr r =>
      match l, r, h1, h2 with
      | [a], [b, c], _, _ => rfl
/-- with the right neighbour -/
theorem s_mMendB2 {cc : C21} {ep ro bb sl th dp : Int32} {many inn item val wr met rst : Nat → Int32} {wds : Nat → Int64} {opd ope way tk : Nat → Int32} {tl : List mC} {W : Nat → Prop} {T : Nat → Nd} {rs : List Nat} (hM : MBt K W T rs many inn item val wr) {q i cur b : Nat} {l : List Nat} (hi0 : i < 11) (hw1 : way (i + 1) = nI cur) (hw2 : way i = nI q) (hw3 : tk i = nI 0) (hl : T q = .inr l) (hWq : W q) (hl4 : l.length ≤ 4) (hxe : l[0]? = some cur) (hWc : W cur) (h1 : nlen (T cur) = 1) (hxb : l[1]? = some b) (hub : K b ∨ W b) (hkd : nLf (T b) ↔ nLf (T cur)) (hbc : b ≠ cur) (hqb : q ≠ b) (hqc : q ≠ cur) (h2 : nlen (T b) = 2) : ∃ many' inn' item' val' wr', MBt K (rmS W b) (upT (upT T cur (nApp (T cur) (T b))) q (nRem (.inr l) 1)) rs many' inn' item' val' wr' ∧ EvS m_X4_mends [.ref 21, .int (nI (i + 1))] (dW cc ep ro bb sl th dp many inn item val wr met rst wds opd ope way tk tl) (.inl none) (dW cc ep ro bb sl th dp many' inn' item' val' wr' met rst wds opd ope way tk tl) := by
  obtain ⟨hq7, hiq, h5, hcq, hrow, hk7⟩ := hM.1.inner (Or.inr hWq) hl
  have he4 : 1 < l.length := (List.getElem?_eq_some_iff.mp hxb).1
  have huc : K cur ∨ W cur := Or.inr hWc
  obtain ⟨hb7, hbm, -⟩ := hM.1.many hub
  obtain ⟨hc7, hcm, -⟩ := hM.1.many huc
  rw [h2] at hbm
  rw [h1] at hcm
  have g1 := Rm_get hM.1 (p := cur) (b := b) (e := 0) (pl := 1) huc hub hkd (by rw [h2]; decide) (by rw [h1]; decide) (by rw [h1]; decide)
  rw [h1] at g1
  have tb1 : upT T cur (nGet (T cur) (T b) 1 0) b = T b := upT_n hbc
  have tc1 : upT T cur (nGet (T cur) (T b) 1 0) cur = nGet (T cur) (T b) 1 0 := upT_s _ _ _
  have hlc : nlen (nGet (T cur) (T b) 1 0) = 2 := by rw [nlen_Get hkd.symm (by rw [h2]; decide) (by rw [h1]; decide), h1]
  have g2 := Rm_get g1 (p := cur) (b := b) (e := 1) (pl := 2) huc hub (by rw [tb1, tc1, nLf_Get hkd.symm]; exact hkd) (by rw [tb1, h2]; decide) (by rw [tc1, hlc]; decide) (by rw [tc1, hlc]; decide)
  rw [tc1, tb1, hlc, upT_upT, nGet_end h1 h2 hkd] at g2
  have tq : upT T cur (nApp (T cur) (T b)) q = .inr l := by rw [upT_n hqc, hl]
  have g3 := Rm_rm g2 (p := q) (e := 1) (Or.inr hWq) (by rw [tq]; exact he4)
  rw [tq] at g3
  obtain ⟨-, hqm, -⟩ := g2.many (Or.inr hWq)
  rw [tq] at hqm
  refine ⟨_, _, _, _, _, ⟨Rm_mono g3 (fun x hx => hx.imp id (fun h => h.2)), MW_rm hM.2.1 hM.2.2.2, K_frame hM.2.2.1 (fun x hx => ?_), fun x hx h => hM.2.2.2 x hx h.2⟩, ?_⟩
  · have y1 : x ≠ cur := fun h => hM.2.2.2 x hx (by rw [h]; exact hWc)
    have y2 : x ≠ q := fun h => hM.2.2.2 x hx (by rw [h]; exact hWq)
    rw [upT_n y2, upT_n y1]
  · have z1 : upd many cur (nI (1 + 1)) b = nI 2 := by rw [upd_o hbc, hbm]
    have z2 : upd (upd many cur (nI (1 + 1))) cur (nI (2 + 1)) b = nI 2 := by rw [upd_o hbc, upd_o hbc, hbm]
    refine evs_of (by decide +kernel) (Nat.le_of_ble_eq_true rfl) (by decide) rfl rfl ?_
    refine ev_aload_n (pc := 0) dX4_mends_0 rfl rfl ?_
    refine ev_get (pc := 1) dX4_mends_1 fd_X4_46 rfl rfl ?_
    refine ev_iload_n (pc := 4) dX4_mends_4 rfl rfl ?_
    refine ev_ialdN (pc := 5) dX4_mends_5 rfl ⟨rfl, by omega, by decide⟩ hw1 ?_
    refine ev_istore_n (pc := 6) dX4_mends_6 rfl rfl rfl ?_
    refine ev_aload_n (pc := 7) dX4_mends_7 rfl rfl ?_
    refine ev_get (pc := 8) dX4_mends_8 fd_X4_46 rfl rfl ?_
    refine ev_iload_n (pc := 11) dX4_mends_11 rfl rfl ?_
    refine ev_iconst (pc := 12) (v := 1) dX4_mends_12 (by decide) ?_
    refine ev_isub (pc := 13) dX4_mends_13 ?_
    refine ev_ialdN (pc := 14) dX4_mends_14 rfl ⟨(nI_s1 (show 0 < i + 1 by omega)), by exact (show i < 12 by omega), by decide⟩ hw2 ?_
    refine ev_istore_n (pc := 15) dX4_mends_15 rfl rfl rfl ?_
    refine ev_aload_n (pc := 16) dX4_mends_16 rfl rfl ?_
    refine ev_get (pc := 17) dX4_mends_17 fd_X4_49 rfl rfl ?_
    refine ev_iload_n (pc := 20) dX4_mends_20 rfl rfl ?_
    refine ev_iconst (pc := 21) (v := 1) dX4_mends_21 (by decide) ?_
    refine ev_isub (pc := 22) dX4_mends_22 ?_
    refine ev_ialdN (pc := 23) dX4_mends_23 rfl ⟨(nI_s1 (show 0 < i + 1 by omega)), by exact (show i < 12 by omega), by decide⟩ hw3 ?_
    refine ev_istore (pc := 24) dX4_mends_24 rfl rfl ?_
    refine ev_iload (pc := 26) dX4_mends_26 rfl ?_
    refine ev_if_le (pc := 28) (tgt := 38) dX4_mends_28 (by decide) (fun _ => ?_) (fun c_28 => absurd (by decide) c_28)
    refine ev_iconst (pc := 38) (v := 1) dX4_mends_38 (by decide) ?_
    refine ev_istore (pc := 39) dX4_mends_39 rfl rfl ?_
    refine ev_aload_n (pc := 41) dX4_mends_41 rfl rfl ?_
    refine ev_get (pc := 42) dX4_mends_42 fd_X4_7 rfl rfl ?_
    refine ev_aload_n (pc := 45) dX4_mends_45 rfl rfl ?_
    refine ev_get (pc := 46) dX4_mends_46 fd_X4_17 rfl rfl ?_
    refine ev_iconst (pc := 49) (v := 5) dX4_mends_49 (by decide) ?_
    refine ev_iload_n (pc := 50) dX4_mends_50 rfl rfl ?_
    refine ev_imul (pc := 51) dX4_mends_51 ?_
    refine ev_iload (pc := 52) dX4_mends_52 rfl ?_
    refine ev_iadd (pc := 54) dX4_mends_54 ?_
    refine ev_ialdN (pc := 55) dX4_mends_55 rfl ⟨(ix5m q 1), by omega, by decide⟩ (row_ch hrow hxb) ?_
    refine ev_ialdN (pc := 56) dX4_mends_56 rfl ⟨rfl, hb7, by decide⟩ hbm ?_
    refine ev_iconst (pc := 57) (v := 2) dX4_mends_57 (by decide) ?_
    refine ev_ic_le (pc := 58) (tgt := 140) dX4_mends_58 (by decide) (fun _ => ?_) (fun c_58 => absurd (by decide) c_58)
    refine ev_iload (pc := 140) dX4_mends_140 rfl ?_
    refine ev_if_le (pc := 142) (tgt := 172) dX4_mends_142 (by decide) (fun _ => ?_) (fun c_142 => absurd (by decide) c_142)
    refine ev_aload_n (pc := 172) dX4_mends_172 rfl rfl ?_
    refine ev_get (pc := 173) dX4_mends_173 fd_X4_17 rfl rfl ?_
    refine ev_iconst (pc := 176) (v := 5) dX4_mends_176 (by decide) ?_
    refine ev_iload_n (pc := 177) dX4_mends_177 rfl rfl ?_
    refine ev_imul (pc := 178) dX4_mends_178 ?_
    refine ev_iconst (pc := 179) (v := 1) dX4_mends_179 (by decide) ?_
    refine ev_iadd (pc := 180) dX4_mends_180 ?_
    refine ev_ialdN (pc := 181) dX4_mends_181 rfl ⟨(ix5m q 1), by omega, by decide⟩ (row_ch hrow hxb) ?_
    refine ev_istore (pc := 182) dX4_mends_182 rfl rfl ?_
    refine ev_iconst (pc := 184) (v := 0) dX4_mends_184 (by decide) ?_
    refine ev_istore (pc := 185) dX4_mends_185 rfl rfl ?_
    refine ev_iload (pc := 187) dX4_mends_187 rfl ?_
    refine ev_aload_n (pc := 189) dX4_mends_189 rfl rfl ?_
    refine ev_get (pc := 190) dX4_mends_190 fd_X4_7 rfl rfl ?_
    refine ev_iload (pc := 193) dX4_mends_193 rfl ?_
    refine ev_ialdN (pc := 195) dX4_mends_195 rfl ⟨rfl, hb7, by decide⟩ hbm ?_
    refine ev_ic_ge (pc := 196) (tgt := 240) dX4_mends_196 (by decide) (fun c_196 => absurd c_196 (by decide)) (fun _ => ?_)
    refine ev_aload_n (pc := 199) dX4_mends_199 rfl rfl ?_
    refine ev_iload_n (pc := 200) dX4_mends_200 rfl rfl ?_
    refine ev_aload_n (pc := 201) dX4_mends_201 rfl rfl ?_
    refine ev_get (pc := 202) dX4_mends_202 fd_X4_7 rfl rfl ?_
    refine ev_iload_n (pc := 205) dX4_mends_205 rfl rfl ?_
    refine ev_ialdN (pc := 206) dX4_mends_206 rfl ⟨rfl, hc7, by decide⟩ hcm ?_
    refine ev_aload_n (pc := 207) dX4_mends_207 rfl rfl ?_
    refine ev_get (pc := 208) dX4_mends_208 fd_X4_17 rfl rfl ?_
    refine ev_iconst (pc := 211) (v := 5) dX4_mends_211 (by decide) ?_
    refine ev_iload (pc := 212) dX4_mends_212 rfl ?_
    refine ev_imul (pc := 214) dX4_mends_214 ?_
    refine ev_iload (pc := 215) dX4_mends_215 rfl ?_
    refine ev_iadd (pc := 217) dX4_mends_217 ?_
    refine ev_ialdN (pc := 218) dX4_mends_218 rfl ⟨(ix5m b 0), by omega, by decide⟩ rfl ?_
    refine ev_aload_n (pc := 219) dX4_mends_219 rfl rfl ?_
    refine ev_get (pc := 220) dX4_mends_220 fd_X4_20 rfl rfl ?_
    refine ev_iconst (pc := 223) (v := 5) dX4_mends_223 (by decide) ?_
    refine ev_iload (pc := 224) dX4_mends_224 rfl ?_
    refine ev_imul (pc := 226) dX4_mends_226 ?_
    refine ev_iload (pc := 227) dX4_mends_227 rfl ?_
    refine ev_iadd (pc := 229) dX4_mends_229 ?_
    refine ev_ialdN (pc := 230) dX4_mends_230 rfl ⟨(ix5m b 0), by omega, by decide⟩ rfl ?_
    refine cV4 (pc := 231) lk_X4_mends_231 rfl rfl rfl (Nat.le_of_ble_eq_true rfl) ⟨Nat.le_of_ble_eq_true rfl, Nat.le_of_ble_eq_true rfl⟩ (s_lays (e := 1) (c := 1) hc7 hcm (by decide) (by decide)) ?_
    refine ev_iinc (pc := 234) dX4_mends_234 rfl rfl rfl ?_
    refine ev_goto (pc := 237) (tgt := 187) dX4_mends_237 (by decide) ?_
    refine ev_iload (pc := 187) dX4_mends_187 rfl ?_
    refine ev_aload_n (pc := 189) dX4_mends_189 rfl rfl ?_
    refine ev_get (pc := 190) dX4_mends_190 fd_X4_7 rfl rfl ?_
    refine ev_iload (pc := 193) dX4_mends_193 rfl ?_
    refine ev_ialdN (pc := 195) dX4_mends_195 rfl ⟨rfl, hb7, by decide⟩ z1 ?_
    refine ev_ic_ge (pc := 196) (tgt := 240) dX4_mends_196 (by decide) (fun c_196 => absurd c_196 (by decide)) (fun _ => ?_)
    refine ev_aload_n (pc := 199) dX4_mends_199 rfl rfl ?_
    refine ev_iload_n (pc := 200) dX4_mends_200 rfl rfl ?_
    refine ev_aload_n (pc := 201) dX4_mends_201 rfl rfl ?_
    refine ev_get (pc := 202) dX4_mends_202 fd_X4_7 rfl rfl ?_
    refine ev_iload_n (pc := 205) dX4_mends_205 rfl rfl ?_
    refine ev_ialdN (pc := 206) dX4_mends_206 rfl ⟨rfl, hc7, by decide⟩ pk_us ?_
    refine ev_aload_n (pc := 207) dX4_mends_207 rfl rfl ?_
    refine ev_get (pc := 208) dX4_mends_208 fd_X4_17 rfl rfl ?_
    refine ev_iconst (pc := 211) (v := 5) dX4_mends_211 (by decide) ?_
    refine ev_iload (pc := 212) dX4_mends_212 rfl ?_
    refine ev_imul (pc := 214) dX4_mends_214 ?_
    refine ev_iload (pc := 215) dX4_mends_215 rfl ?_
    refine ev_iadd (pc := 217) dX4_mends_217 ?_
    refine ev_ialdN (pc := 218) dX4_mends_218 rfl ⟨(ix5m b 1), by omega, by decide⟩ rfl ?_
    refine ev_aload_n (pc := 219) dX4_mends_219 rfl rfl ?_
    refine ev_get (pc := 220) dX4_mends_220 fd_X4_20 rfl rfl ?_
    refine ev_iconst (pc := 223) (v := 5) dX4_mends_223 (by decide) ?_
    refine ev_iload (pc := 224) dX4_mends_224 rfl ?_
    refine ev_imul (pc := 226) dX4_mends_226 ?_
    refine ev_iload (pc := 227) dX4_mends_227 rfl ?_
    refine ev_iadd (pc := 229) dX4_mends_229 ?_
    refine ev_ialdN (pc := 230) dX4_mends_230 rfl ⟨(ix5m b 1), by omega, by decide⟩ rfl ?_
    refine cV4 (pc := 231) lk_X4_mends_231 rfl rfl rfl (Nat.le_of_ble_eq_true rfl) ⟨Nat.le_of_ble_eq_true rfl, Nat.le_of_ble_eq_true rfl⟩ (s_lays (e := 2) (c := 2) hc7 pk_us (by decide) (by decide)) ?_
    refine ev_iinc (pc := 234) dX4_mends_234 rfl rfl rfl ?_
    refine ev_goto (pc := 237) (tgt := 187) dX4_mends_237 (by decide) ?_
    refine ev_iload (pc := 187) dX4_mends_187 rfl ?_
    refine ev_aload_n (pc := 189) dX4_mends_189 rfl rfl ?_
    refine ev_get (pc := 190) dX4_mends_190 fd_X4_7 rfl rfl ?_
    refine ev_iload (pc := 193) dX4_mends_193 rfl ?_
    refine ev_ialdN (pc := 195) dX4_mends_195 rfl ⟨rfl, hb7, by decide⟩ z2 ?_
    refine ev_ic_ge (pc := 196) (tgt := 240) dX4_mends_196 (by decide) (fun _ => ?_) (fun c_196 => absurd (by decide) c_196)
    refine ev_aload_n (pc := 240) dX4_mends_240 rfl rfl ?_
    refine ev_iload_n (pc := 241) dX4_mends_241 rfl rfl ?_
    refine ev_iconst (pc := 242) (v := 1) dX4_mends_242 (by decide) ?_
    refine cV2 (pc := 243) lk_X4_mends_243 rfl rfl rfl (Nat.le_of_ble_eq_true rfl) ⟨Nat.le_of_ble_eq_true rfl, Nat.le_of_ble_eq_true rfl⟩ (s_drops (e := 1) hq7 hqm he4 h5) ?_
    exact ev_vretE (pc := 246) dX4_mends_246 rfl ⟨Nat.le_of_ble_eq_true rfl, Nat.le_of_ble_eq_true rfl⟩ rfl
end M10
