/-! the model: mending -/
section M9
variable {K : Nat → Prop} {c : RS3} {so rd : Nat → Option RS3}
theorem nDrop_0 (n : Nd) : nDrop n 0 = n := by cases n <;> rfl
/-- an entry laid into another page -/
theorem Rm_get {many inn item val : Nat → Int32} {T : Nat → Nd} {U : Nat → Prop} (hR : Rm many inn item val T U) {p b e pl : Nat} (hu : U p) (hub : U b) (hk : nLf (T b) ↔ nLf (T p)) (he : e < nlen (T b)) (hpl : pl ≤ nlen (T p)) (h4 : nlen (T p) ≤ 4) : Rm (upd many p (nI (nlen (T p) + 1))) inn (insF item (5 * p) pl (nlen (T p)) (item (5 * b + e))) (insF val (5 * p) pl (nlen (T p)) (val (5 * b + e))) (upT T p (nGet (T p) (T b) pl e)) U := by
  cases hb : T b with
  | inl l =>
    obtain ⟨r, hr⟩ := hk.mp ⟨l, hb⟩
    rw [hb] at he
    rw [hr] at hpl h4 ⊢
    simp only [nlen] at he hpl h4 ⊢
    obtain ⟨hb7, hi, h5, hc, hrow, hv, hky⟩ := hR.leaf hub hb
    have hx : l[e]? = some l[e] := List.getElem?_eq_getElem he
    have h1 := Rm_insL hR hu hr hpl h4 (x := l[e]) (hky _ (List.mem_of_getElem? hx))
    have hG : nGet (.inl r) (.inl l) pl e = .inl (r.take pl ++ l[e] :: r.drop pl) := by
      simp only [nGet, nTake, nDrop, nApp]
      rw [List.take_one, List.head?_drop, hx]
      simp
    rw [hG, row_ky hrow hx, row_va hv hx]
    exact h1
  | inr l =>
    obtain ⟨r, hr⟩ : ∃ r, T p = .inr r := by
      cases hq2 : T p with
      | inl r => exact absurd (hk.mpr ⟨r, hq2⟩) (fun ⟨x, hx⟩ => by rw [hb] at hx; cases hx)
      | inr r => exact ⟨r, rfl⟩
    rw [hb] at he
    rw [hr] at hpl h4 ⊢
    simp only [nlen] at he hpl h4 ⊢
    obtain ⟨hb7, hi, h5, hc, hrow, hky⟩ := hR.inner hub hb
    have hx : l[e]? = some l[e] := List.getElem?_eq_getElem he
    have h1 := Rm_insI hR hu hr hpl h4 (c := l[e]) (v := val (5 * b + e)) (hky _ (List.mem_of_getElem? hx))
    have hG : nGet (.inr r) (.inr l) pl e = .inr (r.take pl ++ l[e] :: r.drop pl) := by
      simp only [nGet, nTake, nDrop, nApp]
      rw [List.take_one, List.head?_drop, hx]
      simp
    rw [hG, row_ch hrow hx]
    exact h1
theorem s_mMendA {cc : C21} {ep ro bb sl th dp : Int32} {many inn item val wr met rst : Nat → Int32} {wds : Nat → Int64} {opd ope way tk : Nat → Int32} {tl : List mC} (hro : ro = nI c.2.1) {r : Nat} (hbb : bb = nI r) (hop : opC opd ope rd) (hSL : SLR wds so) {W W' : Nat → Prop} {T T1 : Nat → Nd} (hM : MBt K W T (rts c so rd) many inn item val wr) {q e i cur b b' : Nat} {l : List Nat} (hi0 : i < 11) (hw1 : way (i + 1) = nI cur) (hw2 : way i = nI q) (hw3 : tk i = nI e) (hl : T q = .inr l) (hWq : W q) (hl4 : l.length ≤ 4) (hxe : l[e]? = some cur) (hWc : W cur) (h1 : nlen (T cur) = 1) (hxb : l[if 0 < e then e - 1 else e + 1]? = some b) (hub : K b ∨ W b) (hkd : nLf (T b) ↔ nLf (T cur)) (hbc : b ≠ cur) (hqb : q ≠ b) (hqc : q ≠ cur) (hb4 : nlen (T b) ≤ 4) (h2 : 2 < nlen (T b)) (hw : wnR K T W r b b' T1 W') : ∃ met' rst' many' inn' item' val' wr', MBt K W' (upT (upT (upT T1 q (.inr (l.set (if 0 < e then e - 1 else e + 1) b'))) cur (nGet (T cur) (T b) (if 0 < e then 0 else 1) (if 0 < e then nlen (T b) - 1 else 0))) b' (nRem (T b) (if 0 < e then nlen (T b) - 1 else 0))) (rts c so rd) many' inn' item' val' wr' ∧ EvS m_X4_mends [.ref 21, .int (nI (i + 1))] (dW cc ep ro bb sl th dp many inn item val wr met rst wds opd ope way tk tl) (.inl none) (dW cc ep ro bb sl th dp many' inn' item' val' wr' met' rst' wds opd ope way tk tl) := by
  obtain ⟨hq7, hiq, h5, hcq, hrow, hk7⟩ := hM.1.inner (Or.inr hWq) hl
  have he4 : e < 4 := by have := (List.getElem?_eq_some_iff.mp hxe).1; omega
  have hbi : (if 0 < e then e - 1 else e + 1) < 4 := by have := (List.getElem?_eq_some_iff.mp hxb).1; omega
  have hb7 : b < 720 := hk7 b (List.mem_of_getElem? hxb)
  have hbm := (hM.1.many hub).2.1
  obtain ⟨k1, k2, k3, k4, k5⟩ := wn_k hw
  obtain ⟨m1, r1, a1, i1, t1, v1, w1, hM1, e1⟩ := s_own (cc := cc) (ep := ep) (ro := ro) (bb := bb) (sl := sl) (th := th) (dp := dp) (many := many) (inn := inn) (item := item) (val := val) (wr := wr) (met := met) (rst := rst) (wds := wds) (opd := opd) (ope := ope) (way := way) (tk := tk) (tl := tl) hM hro hbb hop hSL hWq hl hxb hw
  have hbc' : b' ≠ cur := wn_ne hw (Or.inr hWc) hbc
  have hbq' : b' ≠ q := wn_ne hw (Or.inr hWq) (Ne.symm hqb)
  have tc : upT T1 q (.inr (l.set (if 0 < e then e - 1 else e + 1) b')) cur = T cur := by rw [upT_n (Ne.symm hqc), k3 cur (Or.inr hWc)]
  have tb : upT T1 q (.inr (l.set (if 0 < e then e - 1 else e + 1) b')) b' = T b := by rw [upT_n hbq', k2]
  have huc1 : K cur ∨ W' cur := Or.inr (k4 cur hWc)
  have hub1 : K b' ∨ W' b' := Or.inr k1
  obtain ⟨hb17, hbm1, -⟩ := hM1.1.many hub1
  obtain ⟨hc17, hcm1, -⟩ := hM1.1.many huc1
  rw [tb] at hbm1
  rw [tc, h1] at hcm1
  have hG := Rm_get hM1.1 (p := cur) (b := b') (e := if 0 < e then nlen (T b) - 1 else 0) (pl := if 0 < e then 0 else 1) huc1 hub1 (by rw [tb, tc]; exact hkd) (by rw [tb]; split <;> omega) (by rw [tc, h1]; split <;> omega) (by rw [tc, h1]; decide)
  rw [tc, tb, h1] at hG
  have tb2 : upT (upT T1 q (.inr (l.set (if 0 < e then e - 1 else e + 1) b'))) cur (nGet (T cur) (T b) (if 0 < e then 0 else 1) (if 0 < e then nlen (T b) - 1 else 0)) b' = T b := by rw [upT_n hbc', tb]
  have hH := Rm_rm hG (p := b') (e := if 0 < e then nlen (T b) - 1 else 0) hub1 (by rw [tb2]; split <;> omega)
  rw [tb2] at hH
  refine ⟨m1, r1, _, _, _, _, _, ⟨hH, hM1.2.1, K_frame hM1.2.2.1 (fun x hx => ?_), hM1.2.2.2⟩, ?_⟩
  · have g1 : x ≠ b' := fun h => hM1.2.2.2 x hx (by rw [h]; exact k1)
    have g2 : x ≠ cur := fun h => hM1.2.2.2 x hx (by rw [h]; exact k4 cur hWc)
    rw [upT_n g1, upT_n g2]
  · have hm2 : upd a1 cur (nI (1 + 1)) b' = nI (nlen (T b)) := by rw [upd_o hbc', hbm1]
    by_cases he : 0 < e
    · rw [if_pos he] at e1 hxb hbi
      simp only [if_pos he]
      refine evs_of (by decide +kernel) (Nat.le_of_ble_eq_true rfl) (by decide) rfl rfl ?_
      refine ev_aload_n (pc := 0) dX4_mends_0 rfl rfl ?_
      refine ev_get (pc := 1) dX4_mends_1 fd_X4_46 rfl rfl ?_
      refine ev_iload_n (pc := 4) dX4_mends_4 rfl rfl ?_
      refine ev_ialdN (pc := 5) dX4_mends_5 rfl ⟨rfl, by omega, by decide⟩ hw1 ?_
      refine ev_istore_n (pc := 6) dX4_mends_6 rfl rfl rfl ?_
      refine ev_aload_n (pc := 7) dX4_mends_7 rfl rfl ?_
      refine ev_get (pc := 8) dX4_mends_8 fd_X4_46 rfl rfl ?_
      refine ev_iload_n (pc := 11) dX4_mends_11 rfl rfl ?_
      refine ev_iconst (pc := 12) (v := 1) dX4_mends_12 (by decide) ?_
      refine ev_isub (pc := 13) dX4_mends_13 ?_
      refine ev_ialdN (pc := 14) dX4_mends_14 rfl ⟨(nI_s1 (show 0 < i + 1 by omega)), by exact (show i < 12 by omega), by decide⟩ hw2 ?_
      refine ev_istore_n (pc := 15) dX4_mends_15 rfl rfl rfl ?_
      refine ev_aload_n (pc := 16) dX4_mends_16 rfl rfl ?_
      refine ev_get (pc := 17) dX4_mends_17 fd_X4_49 rfl rfl ?_
      refine ev_iload_n (pc := 20) dX4_mends_20 rfl rfl ?_
      refine ev_iconst (pc := 21) (v := 1) dX4_mends_21 (by decide) ?_
      refine ev_isub (pc := 22) dX4_mends_22 ?_
      refine ev_ialdN (pc := 23) dX4_mends_23 rfl ⟨(nI_s1 (show 0 < i + 1 by omega)), by exact (show i < 12 by omega), by decide⟩ hw3 ?_
      refine ev_istore (pc := 24) dX4_mends_24 rfl rfl ?_
      refine ev_iload (pc := 26) dX4_mends_26 rfl ?_
      refine ev_if_le (pc := 28) (tgt := 38) dX4_mends_28 (by decide) (fun c_28 => absurd c_28 (by exact nI_nle he (by omega))) (fun _ => ?_)
      refine ev_iload (pc := 31) dX4_mends_31 rfl ?_
      refine ev_iconst (pc := 33) (v := 1) dX4_mends_33 (by decide) ?_
      refine ev_isub (pc := 34) dX4_mends_34 ?_
      refine ev_goto (pc := 35) (tgt := 39) dX4_mends_35 (by decide) ?_
      rw [nI_s1 he]
      refine ev_istore (pc := 39) dX4_mends_39 rfl rfl ?_
      refine ev_aload_n (pc := 41) dX4_mends_41 rfl rfl ?_
      refine ev_get (pc := 42) dX4_mends_42 fd_X4_7 rfl rfl ?_
      refine ev_aload_n (pc := 45) dX4_mends_45 rfl rfl ?_
      refine ev_get (pc := 46) dX4_mends_46 fd_X4_17 rfl rfl ?_
      refine ev_iconst (pc := 49) (v := 5) dX4_mends_49 (by decide) ?_
      refine ev_iload_n (pc := 50) dX4_mends_50 rfl rfl ?_
      refine ev_imul (pc := 51) dX4_mends_51 ?_
      refine ev_iload (pc := 52) dX4_mends_52 rfl ?_
      refine ev_iadd (pc := 54) dX4_mends_54 ?_
      refine ev_ialdN (pc := 55) dX4_mends_55 rfl ⟨(ix5m q (e - 1)), by omega, by decide⟩ (row_ch hrow hxb) ?_
      refine ev_ialdN (pc := 56) dX4_mends_56 rfl ⟨rfl, hb7, by decide⟩ hbm ?_
      refine ev_iconst (pc := 57) (v := 2) dX4_mends_57 (by decide) ?_
      refine ev_ic_le (pc := 58) (tgt := 140) dX4_mends_58 (by decide) (fun c_58 => absurd c_58 (by exact nI_ge h2 (by omega))) (fun _ => ?_)
      refine ev_aload_n (pc := 61) dX4_mends_61 rfl rfl ?_
      refine ev_iload_n (pc := 62) dX4_mends_62 rfl rfl ?_
      refine ev_iload (pc := 63) dX4_mends_63 rfl ?_
      refine cV2 (pc := 65) lk_X4_mends_65 rfl rfl rfl (Nat.le_of_ble_eq_true rfl) ⟨Nat.le_of_ble_eq_true rfl, Nat.le_of_ble_eq_true rfl⟩ e1 ?_
      refine ev_istore (pc := 68) dX4_mends_68 rfl rfl ?_
      refine ev_iload (pc := 70) dX4_mends_70 rfl ?_
      refine ev_if_le (pc := 72) (tgt := 87) dX4_mends_72 (by decide) (fun c_72 => absurd c_72 (by exact nI_nle he (by omega))) (fun _ => ?_)
      refine ev_aload_n (pc := 75) dX4_mends_75 rfl rfl ?_
      refine ev_get (pc := 76) dX4_mends_76 fd_X4_7 rfl rfl ?_
      refine ev_iload (pc := 79) dX4_mends_79 rfl ?_
      refine ev_ialdN (pc := 81) dX4_mends_81 rfl ⟨rfl, hb17, by decide⟩ hbm1 ?_
      refine ev_iconst (pc := 82) (v := 1) dX4_mends_82 (by decide) ?_
      refine ev_isub (pc := 83) dX4_mends_83 ?_
      refine ev_goto (pc := 84) (tgt := 88) dX4_mends_84 (by decide) ?_
      rw [nI_s1 (show 0 < nlen (T b) by omega)]
      refine ev_istore (pc := 88) dX4_mends_88 rfl rfl ?_
      refine ev_aload_n (pc := 90) dX4_mends_90 rfl rfl ?_
      refine ev_iload_n (pc := 91) dX4_mends_91 rfl rfl ?_
      refine ev_iload (pc := 92) dX4_mends_92 rfl ?_
      refine ev_if_le (pc := 94) (tgt := 101) dX4_mends_94 (by decide) (fun c_94 => absurd c_94 (by exact nI_nle he (by omega))) (fun _ => ?_)
      refine ev_iconst (pc := 97) (v := 0) dX4_mends_97 (by decide) ?_
      refine ev_goto (pc := 98) (tgt := 102) dX4_mends_98 (by decide) ?_
      refine ev_aload_n (pc := 102) dX4_mends_102 rfl rfl ?_
      refine ev_get (pc := 103) dX4_mends_103 fd_X4_17 rfl rfl ?_
      refine ev_iconst (pc := 106) (v := 5) dX4_mends_106 (by decide) ?_
      refine ev_iload (pc := 107) dX4_mends_107 rfl ?_
      refine ev_imul (pc := 109) dX4_mends_109 ?_
      refine ev_iload (pc := 110) dX4_mends_110 rfl ?_
      refine ev_iadd (pc := 112) dX4_mends_112 ?_
      refine ev_ialdN (pc := 113) dX4_mends_113 rfl ⟨(ix5m b' (nlen (T b) - 1)), by omega, by decide⟩ rfl ?_
      refine ev_aload_n (pc := 114) dX4_mends_114 rfl rfl ?_
      refine ev_get (pc := 115) dX4_mends_115 fd_X4_20 rfl rfl ?_
      refine ev_iconst (pc := 118) (v := 5) dX4_mends_118 (by decide) ?_
      refine ev_iload (pc := 119) dX4_mends_119 rfl ?_
      refine ev_imul (pc := 121) dX4_mends_121 ?_
      refine ev_iload (pc := 122) dX4_mends_122 rfl ?_
      refine ev_iadd (pc := 124) dX4_mends_124 ?_
      refine ev_ialdN (pc := 125) dX4_mends_125 rfl ⟨(ix5m b' (nlen (T b) - 1)), by omega, by decide⟩ rfl ?_
      refine cV4 (pc := 126) lk_X4_mends_126 rfl rfl rfl (Nat.le_of_ble_eq_true rfl) ⟨Nat.le_of_ble_eq_true rfl, Nat.le_of_ble_eq_true rfl⟩ (s_lays (e := 0) (c := 1) hc17 hcm1 (by decide) (by decide)) ?_
      refine ev_aload_n (pc := 129) dX4_mends_129 rfl rfl ?_
      refine ev_iload (pc := 130) dX4_mends_130 rfl ?_
      refine ev_iload (pc := 132) dX4_mends_132 rfl ?_
      refine cV2 (pc := 134) lk_X4_mends_134 rfl rfl rfl (Nat.le_of_ble_eq_true rfl) ⟨Nat.le_of_ble_eq_true rfl, Nat.le_of_ble_eq_true rfl⟩ (s_drops (c := nlen (T b)) hb17 hm2 (by omega) (by omega)) ?_
      refine ev_goto (pc := 137) (tgt := 246) dX4_mends_137 (by decide) ?_
      exact ev_vretE (pc := 246) dX4_mends_246 rfl ⟨Nat.le_of_ble_eq_true rfl, Nat.le_of_ble_eq_true rfl⟩ rfl
    · have he0 : e = 0 := by omega
      subst he0
      refine evs_of (by decide +kernel) (Nat.le_of_ble_eq_true rfl) (by decide) rfl rfl ?_
      refine ev_aload_n (pc := 0) dX4_mends_0 rfl rfl ?_
      refine ev_get (pc := 1) dX4_mends_1 fd_X4_46 rfl rfl ?_
      refine ev_iload_n (pc := 4) dX4_mends_4 rfl rfl ?_
      refine ev_ialdN (pc := 5) dX4_mends_5 rfl ⟨rfl, by omega, by decide⟩ hw1 ?_
      refine ev_istore_n (pc := 6) dX4_mends_6 rfl rfl rfl ?_
      refine ev_aload_n (pc := 7) dX4_mends_7 rfl rfl ?_
      refine ev_get (pc := 8) dX4_mends_8 fd_X4_46 rfl rfl ?_
      refine ev_iload_n (pc := 11) dX4_mends_11 rfl rfl ?_
      refine ev_iconst (pc := 12) (v := 1) dX4_mends_12 (by decide) ?_
      refine ev_isub (pc := 13) dX4_mends_13 ?_
      refine ev_ialdN (pc := 14) dX4_mends_14 rfl ⟨(nI_s1 (show 0 < i + 1 by omega)), by exact (show i < 12 by omega), by decide⟩ hw2 ?_
      refine ev_istore_n (pc := 15) dX4_mends_15 rfl rfl rfl ?_
      refine ev_aload_n (pc := 16) dX4_mends_16 rfl rfl ?_
      refine ev_get (pc := 17) dX4_mends_17 fd_X4_49 rfl rfl ?_
      refine ev_iload_n (pc := 20) dX4_mends_20 rfl rfl ?_
      refine ev_iconst (pc := 21) (v := 1) dX4_mends_21 (by decide) ?_
      refine ev_isub (pc := 22) dX4_mends_22 ?_
      refine ev_ialdN (pc := 23) dX4_mends_23 rfl ⟨(nI_s1 (show 0 < i + 1 by omega)), by exact (show i < 12 by omega), by decide⟩ hw3 ?_
      refine ev_istore (pc := 24) dX4_mends_24 rfl rfl ?_
      refine ev_iload (pc := 26) dX4_mends_26 rfl ?_
      refine ev_if_le (pc := 28) (tgt := 38) dX4_mends_28 (by decide) (fun _ => ?_) (fun c_28 => absurd (by decide) c_28)
      refine ev_iconst (pc := 38) (v := 1) dX4_mends_38 (by decide) ?_
      refine ev_istore (pc := 39) dX4_mends_39 rfl rfl ?_
      refine ev_aload_n (pc := 41) dX4_mends_41 rfl rfl ?_
      refine ev_get (pc := 42) dX4_mends_42 fd_X4_7 rfl rfl ?_
      refine ev_aload_n (pc := 45) dX4_mends_45 rfl rfl ?_
      refine ev_get (pc := 46) dX4_mends_46 fd_X4_17 rfl rfl ?_
      refine ev_iconst (pc := 49) (v := 5) dX4_mends_49 (by decide) ?_
      refine ev_iload_n (pc := 50) dX4_mends_50 rfl rfl ?_
      refine ev_imul (pc := 51) dX4_mends_51 ?_
      refine ev_iload (pc := 52) dX4_mends_52 rfl ?_
      refine ev_iadd (pc := 54) dX4_mends_54 ?_
      refine ev_ialdN (pc := 55) dX4_mends_55 rfl ⟨(ix5m q 1), by omega, by decide⟩ (row_ch hrow hxb) ?_
      refine ev_ialdN (pc := 56) dX4_mends_56 rfl ⟨rfl, hb7, by decide⟩ hbm ?_
      refine ev_iconst (pc := 57) (v := 2) dX4_mends_57 (by decide) ?_
      refine ev_ic_le (pc := 58) (tgt := 140) dX4_mends_58 (by decide) (fun c_58 => absurd c_58 (by exact nI_ge h2 (by omega))) (fun _ => ?_)
      refine ev_aload_n (pc := 61) dX4_mends_61 rfl rfl ?_
      refine ev_iload_n (pc := 62) dX4_mends_62 rfl rfl ?_
      refine ev_iload (pc := 63) dX4_mends_63 rfl ?_
      refine cV2 (pc := 65) lk_X4_mends_65 rfl rfl rfl (Nat.le_of_ble_eq_true rfl) ⟨Nat.le_of_ble_eq_true rfl, Nat.le_of_ble_eq_true rfl⟩ e1 ?_
      refine ev_istore (pc := 68) dX4_mends_68 rfl rfl ?_
      refine ev_iload (pc := 70) dX4_mends_70 rfl ?_
      refine ev_if_le (pc := 72) (tgt := 87) dX4_mends_72 (by decide) (fun _ => ?_) (fun c_72 => absurd (by decide) c_72)
      refine ev_iconst (pc := 87) (v := 0) dX4_mends_87 (by decide) ?_
      refine ev_istore (pc := 88) dX4_mends_88 rfl rfl ?_
      refine ev_aload_n (pc := 90) dX4_mends_90 rfl rfl ?_
      refine ev_iload_n (pc := 91) dX4_mends_91 rfl rfl ?_
      refine ev_iload (pc := 92) dX4_mends_92 rfl ?_
      refine ev_if_le (pc := 94) (tgt := 101) dX4_mends_94 (by decide) (fun _ => ?_) (fun c_94 => absurd (by decide) c_94)
      refine ev_iconst (pc := 101) (v := 1) dX4_mends_101 (by decide) ?_
      refine ev_aload_n (pc := 102) dX4_mends_102 rfl rfl ?_
      refine ev_get (pc := 103) dX4_mends_103 fd_X4_17 rfl rfl ?_
      refine ev_iconst (pc := 106) (v := 5) dX4_mends_106 (by decide) ?_
      refine ev_iload (pc := 107) dX4_mends_107 rfl ?_
      refine ev_imul (pc := 109) dX4_mends_109 ?_
      refine ev_iload (pc := 110) dX4_mends_110 rfl ?_
      refine ev_iadd (pc := 112) dX4_mends_112 ?_
      refine ev_ialdN (pc := 113) dX4_mends_113 rfl ⟨(ix5m b' 0), by omega, by decide⟩ rfl ?_
      refine ev_aload_n (pc := 114) dX4_mends_114 rfl rfl ?_
      refine ev_get (pc := 115) dX4_mends_115 fd_X4_20 rfl rfl ?_
      refine ev_iconst (pc := 118) (v := 5) dX4_mends_118 (by decide) ?_
      refine ev_iload (pc := 119) dX4_mends_119 rfl ?_
      refine ev_imul (pc := 121) dX4_mends_121 ?_
      refine ev_iload (pc := 122) dX4_mends_122 rfl ?_
      refine ev_iadd (pc := 124) dX4_mends_124 ?_
      refine ev_ialdN (pc := 125) dX4_mends_125 rfl ⟨(ix5m b' 0), by omega, by decide⟩ rfl ?_
      refine cV4 (pc := 126) lk_X4_mends_126 rfl rfl rfl (Nat.le_of_ble_eq_true rfl) ⟨Nat.le_of_ble_eq_true rfl, Nat.le_of_ble_eq_true rfl⟩ (s_lays (e := 1) (c := 1) hc17 hcm1 (by decide) (by decide)) ?_
      refine ev_aload_n (pc := 129) dX4_mends_129 rfl rfl ?_
      refine ev_iload (pc := 130) dX4_mends_130 rfl ?_
      refine ev_iload (pc := 132) dX4_mends_132 rfl ?_
      refine cV2 (pc := 134) lk_X4_mends_134 rfl rfl rfl (Nat.le_of_ble_eq_true rfl) ⟨Nat.le_of_ble_eq_true rfl, Nat.le_of_ble_eq_true rfl⟩ (s_drops (e := 0) (c := nlen (T b)) hb17 hm2 (by omega) (by omega)) ?_
      refine ev_goto (pc := 137) (tgt := 246) dX4_mends_137 (by decide) ?_
      exact ev_vretE (pc := 246) dX4_mends_246 rfl ⟨Nat.le_of_ble_eq_true rfl, Nat.le_of_ble_eq_true rfl⟩ rfl
end M9
