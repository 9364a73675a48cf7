/-! the model: views and what is asked of them -/
def bdR (c : RS3) (b : Option RS3) (rd : Nat → Option RS3) : Prop := c.2.1 < 720 ∧ (∀ x, b = some x → x.2.1 < 720) ∧ ∀ j x, j < 4 → rd j = some x → x.2.1 < 720
section M13
variable {U : Nat → Prop} {T : Nat → Nd} {c : RS3} {b : Option RS3} {so rd : Nat → Option RS3}
theorem vw_bd {i : Int32} {x : RS3} (hbd : bdR c b rd) (hv : vwF c b rd i = some x) : x.2.1 < 720 := by
  rcases vw_some hv with ⟨-, ⟨-, rfl⟩ | h⟩ | ⟨-, j, hj, -, h⟩
  · exact hbd.1
  · exact hbd.2.1 x h
  · exact hbd.2.2 j x hj h
theorem s_isRd1 {cc : C21} {ep ro bb sl th dp : Int32} {many inn item val wr met rst : Nat → Int32} {wds : Nat → Int64} {opd ope way tk : Nat → Int32} {tl : List mC} (hop : opC opd ope rd) {j : Nat} {x : RS3} (hj : j < 4) (hx : rd j = some x) (h7 : x.2.1 < 720) : EvS m_X4_isReader [.ref 21, .int (nI j)] (dW cc ep ro bb sl th dp many inn item val wr met rst wds opd ope way tk tl) (.inl (some (.int 1))) (dW cc ep ro bb sl th dp many inn item val wr met rst wds opd ope way tk tl) := by
  have h9 := hop j hj
  rw [hx] at h9
  refine evs_of (by decide +kernel) (Nat.le_of_ble_eq_true rfl) (by decide) rfl rfl ?_
  refine ev_iload_n (pc := 0) dX4_isReader_0 rfl rfl ?_
  refine ev_iconst (pc := 1) (v := 0) dX4_isReader_1 (by decide) ?_
  refine ev_iconst (pc := 2) (v := 3) dX4_isReader_2 (by decide) ?_
  refine cS3 (pc := 3) lk_X4_isReader_3 (Nat.le_of_ble_eq_true rfl) ⟨Nat.le_of_ble_eq_true rfl, Nat.le_of_ble_eq_true rfl⟩ (s_in1 (nI_pos' (show j < 2147483648 by omega)) (by exact nI_le (show j ≤ 3 by omega) (by decide))) ?_
  refine ev_if_eq (pc := 6) (tgt := 23) dX4_isReader_6 (by decide) (fun c_6 => absurd c_6 (by decide)) (fun _ => ?_)
  refine ev_aload_n (pc := 9) dX4_isReader_9 rfl rfl ?_
  refine ev_get (pc := 10) dX4_isReader_10 fd_X4_40 rfl rfl ?_
  refine ev_iload_n (pc := 13) dX4_isReader_13 rfl rfl ?_
  refine ev_ialdN (pc := 14) dX4_isReader_14 rfl ⟨rfl, hj, by decide⟩ h9.1 ?_
  refine ev_iconst (pc := 15) (v := (-1)) dX4_isReader_15 (by decide) ?_
  refine ev_ic_eq (pc := 16) (tgt := 23) dX4_isReader_16 (by decide) (fun c_16 => absurd c_16 (fun h => nI_m1 (by omega) h)) (fun _ => ?_)
  refine ev_iconst (pc := 19) (v := 1) dX4_isReader_19 (by decide) ?_
  refine ev_goto (pc := 20) (tgt := 24) dX4_isReader_20 (by decide) ?_
  exact ev_zretE (pc := 24) dX4_isReader_24 rfl ⟨Nat.le_of_ble_eq_true rfl, Nat.le_of_ble_eq_true rfl⟩ (by first | exact Or.inl rfl | exact Or.inr rfl | assumption | exact i10_o) rfl rfl
theorem s_isRd0 {cc : C21} {ep ro bb sl th dp : Int32} {many inn item val wr met rst : Nat → Int32} {wds : Nat → Int64} {opd ope way tk : Nat → Int32} {tl : List mC} (hop : opC opd ope rd) {i : Int32} (hx : ∀ j, j < 4 → i = nI j → rd j = none) : EvS m_X4_isReader [.ref 21, .int i] (dW cc ep ro bb sl th dp many inn item val wr met rst wds opd ope way tk tl) (.inl (some (.int 0))) (dW cc ep ro bb sl th dp many inn item val wr met rst wds opd ope way tk tl) := by
  by_cases hlt : i < 0
  · refine evs_of (by decide +kernel) (Nat.le_of_ble_eq_true rfl) (by decide) rfl rfl ?_
    refine ev_iload_n (pc := 0) dX4_isReader_0 rfl rfl ?_
    refine ev_iconst (pc := 1) (v := 0) dX4_isReader_1 (by decide) ?_
    refine ev_iconst (pc := 2) (v := 3) dX4_isReader_2 (by decide) ?_
    refine cS3 (pc := 3) lk_X4_isReader_3 (Nat.le_of_ble_eq_true rfl) ⟨Nat.le_of_ble_eq_true rfl, Nat.le_of_ble_eq_true rfl⟩ (s_in0 (Or.inl hlt)) ?_
    refine ev_if_eq (pc := 6) (tgt := 23) dX4_isReader_6 (by decide) (fun _ => ?_) (fun c_6 => absurd rfl c_6)
    refine ev_iconst (pc := 23) (v := 0) dX4_isReader_23 (by decide) ?_
    exact ev_zretE (pc := 24) dX4_isReader_24 rfl ⟨Nat.le_of_ble_eq_true rfl, Nat.le_of_ble_eq_true rfl⟩ (by first | exact Or.inl rfl | exact Or.inr rfl | assumption | exact i10_o) rfl rfl
  · by_cases hge : (4 : Int32) ≤ i
    · have h3 : (3 : Int32) < i := Int32.lt_iff_toInt_lt.mpr (by have := Int32.le_iff_toInt_le.mp hge; have e : (4 : Int32).toInt = 4 := rfl; have e3 : (3 : Int32).toInt = 3 := rfl; omega)
      refine evs_of (by decide +kernel) (Nat.le_of_ble_eq_true rfl) (by decide) rfl rfl ?_
      refine ev_iload_n (pc := 0) dX4_isReader_0 rfl rfl ?_
      refine ev_iconst (pc := 1) (v := 0) dX4_isReader_1 (by decide) ?_
      refine ev_iconst (pc := 2) (v := 3) dX4_isReader_2 (by decide) ?_
      refine cS3 (pc := 3) lk_X4_isReader_3 (Nat.le_of_ble_eq_true rfl) ⟨Nat.le_of_ble_eq_true rfl, Nat.le_of_ble_eq_true rfl⟩ (s_in0 (Or.inr h3)) ?_
      refine ev_if_eq (pc := 6) (tgt := 23) dX4_isReader_6 (by decide) (fun _ => ?_) (fun c_6 => absurd rfl c_6)
      refine ev_iconst (pc := 23) (v := 0) dX4_isReader_23 (by decide) ?_
      exact ev_zretE (pc := 24) dX4_isReader_24 rfl ⟨Nat.le_of_ble_eq_true rfl, Nat.le_of_ble_eq_true rfl⟩ (by first | exact Or.inl rfl | exact Or.inr rfl | assumption | exact i10_o) rfl rfl
    · have hj : ∃ j, j < 4 ∧ i = nI j := by
        rcases i4_cases i hlt hge with h | h | h | h
        · exact ⟨0, by decide, h⟩
        · exact ⟨1, by decide, h⟩
        · exact ⟨2, by decide, h⟩
        · exact ⟨3, by decide, h⟩
      obtain ⟨j, hj, rfl⟩ := hj
      have h9 := hop j hj
      rw [hx j hj rfl] at h9
      refine evs_of (by decide +kernel) (Nat.le_of_ble_eq_true rfl) (by decide) rfl rfl ?_
      refine ev_iload_n (pc := 0) dX4_isReader_0 rfl rfl ?_
      refine ev_iconst (pc := 1) (v := 0) dX4_isReader_1 (by decide) ?_
      refine ev_iconst (pc := 2) (v := 3) dX4_isReader_2 (by decide) ?_
      refine cS3 (pc := 3) lk_X4_isReader_3 (Nat.le_of_ble_eq_true rfl) ⟨Nat.le_of_ble_eq_true rfl, Nat.le_of_ble_eq_true rfl⟩ (s_in1 (nI_pos' (show j < 2147483648 by omega)) (by exact nI_le (show j ≤ 3 by omega) (by decide))) ?_
      refine ev_if_eq (pc := 6) (tgt := 23) dX4_isReader_6 (by decide) (fun c_6 => absurd c_6 (by decide)) (fun _ => ?_)
      refine ev_aload_n (pc := 9) dX4_isReader_9 rfl rfl ?_
      refine ev_get (pc := 10) dX4_isReader_10 fd_X4_40 rfl rfl ?_
      refine ev_iload_n (pc := 13) dX4_isReader_13 rfl rfl ?_
      refine ev_ialdN (pc := 14) dX4_isReader_14 rfl ⟨rfl, hj, by decide⟩ h9 ?_
      refine ev_iconst (pc := 15) (v := (-1)) dX4_isReader_15 (by decide) ?_
      refine ev_ic_eq (pc := 16) (tgt := 23) dX4_isReader_16 (by decide) (fun _ => ?_) (fun c_16 => absurd rfl c_16)
      refine ev_iconst (pc := 23) (v := 0) dX4_isReader_23 (by decide) ?_
      exact ev_zretE (pc := 24) dX4_isReader_24 rfl ⟨Nat.le_of_ble_eq_true rfl, Nat.le_of_ble_eq_true rfl⟩ (by first | exact Or.inl rfl | exact Or.inr rfl | assumption | exact i10_o) rfl rfl
theorem s_isVw1 {cc : C21} {ep ro bb sl th dp : Int32} {many inn item val wr met rst : Nat → Int32} {wds : Nat → Int64} {opd ope way tk : Nat → Int32} {tl : List mC} (hop : opC opd ope rd) (hbd : bdR c b rd) {i : Int32} {x : RS3} (hv : vwF c b rd i = some x) : EvS m_X4_isView [.ref 21, .int i] (dW cc ep ro bb sl th dp many inn item val wr met rst wds opd ope way tk tl) (.inl (some (.int 1))) (dW cc ep ro bb sl th dp many inn item val wr met rst wds opd ope way tk tl) := by
  rcases vw_some hv with ⟨rfl, -⟩ | ⟨hi, j, hj, rfl, h⟩
  · refine evs_of (by decide +kernel) (Nat.le_of_ble_eq_true rfl) (by decide) rfl rfl ?_
    refine ev_iload_n (pc := 0) dX4_isView_0 rfl rfl ?_
    refine ev_iconst (pc := 1) (v := (-1)) dX4_isView_1 (by decide) ?_
    refine ev_ic_eq (pc := 2) (tgt := 13) dX4_isView_2 (by decide) (fun _ => ?_) (fun c_2 => absurd rfl c_2)
    refine ev_iconst (pc := 13) (v := 1) dX4_isView_13 (by decide) ?_
    refine ev_goto (pc := 14) (tgt := 18) dX4_isView_14 (by decide) ?_
    exact ev_zretE (pc := 18) dX4_isView_18 rfl ⟨Nat.le_of_ble_eq_true rfl, Nat.le_of_ble_eq_true rfl⟩ (by first | exact Or.inl rfl | exact Or.inr rfl | assumption | exact i10_o) rfl rfl
  · refine evs_of (by decide +kernel) (Nat.le_of_ble_eq_true rfl) (by decide) rfl rfl ?_
    refine ev_iload_n (pc := 0) dX4_isView_0 rfl rfl ?_
    refine ev_iconst (pc := 1) (v := (-1)) dX4_isView_1 (by decide) ?_
    refine ev_ic_eq (pc := 2) (tgt := 13) dX4_isView_2 (by decide) (fun c_2 => absurd c_2 hi) (fun _ => ?_)
    refine ev_aload_n (pc := 5) dX4_isView_5 rfl rfl ?_
    refine ev_iload_n (pc := 6) dX4_isView_6 rfl rfl ?_
    refine cV1 (pc := 7) lk_X4_isView_7 rfl rfl rfl (Nat.le_of_ble_eq_true rfl) ⟨Nat.le_of_ble_eq_true rfl, Nat.le_of_ble_eq_true rfl⟩ (s_isRd1 hop hj h (hbd.2.2 j x hj h)) ?_
    refine ev_if_eq (pc := 10) (tgt := 17) dX4_isView_10 (by decide) (fun c_10 => absurd c_10 (by decide)) (fun _ => ?_)
    refine ev_iconst (pc := 13) (v := 1) dX4_isView_13 (by decide) ?_
    refine ev_goto (pc := 14) (tgt := 18) dX4_isView_14 (by decide) ?_
    exact ev_zretE (pc := 18) dX4_isView_18 rfl ⟨Nat.le_of_ble_eq_true rfl, Nat.le_of_ble_eq_true rfl⟩ (by first | exact Or.inl rfl | exact Or.inr rfl | assumption | exact i10_o) rfl rfl
theorem s_isVw0 {cc : C21} {ep ro bb sl th dp : Int32} {many inn item val wr met rst : Nat → Int32} {wds : Nat → Int64} {opd ope way tk : Nat → Int32} {tl : List mC} (hop : opC opd ope rd) {i : Int32} (hv : vwF c b rd i = none) : EvS m_X4_isView [.ref 21, .int i] (dW cc ep ro bb sl th dp many inn item val wr met rst wds opd ope way tk tl) (.inl (some (.int 0))) (dW cc ep ro bb sl th dp many inn item val wr met rst wds opd ope way tk tl) := by
  obtain ⟨hi, hx⟩ := vw_none hv
  refine evs_of (by decide +kernel) (Nat.le_of_ble_eq_true rfl) (by decide) rfl rfl ?_
  refine ev_iload_n (pc := 0) dX4_isView_0 rfl rfl ?_
  refine ev_iconst (pc := 1) (v := (-1)) dX4_isView_1 (by decide) ?_
  refine ev_ic_eq (pc := 2) (tgt := 13) dX4_isView_2 (by decide) (fun c_2 => absurd c_2 hi) (fun _ => ?_)
  refine ev_aload_n (pc := 5) dX4_isView_5 rfl rfl ?_
  refine ev_iload_n (pc := 6) dX4_isView_6 rfl rfl ?_
  refine cV1 (pc := 7) lk_X4_isView_7 rfl rfl rfl (Nat.le_of_ble_eq_true rfl) ⟨Nat.le_of_ble_eq_true rfl, Nat.le_of_ble_eq_true rfl⟩ (s_isRd0 hop hx) ?_
  refine ev_if_eq (pc := 10) (tgt := 17) dX4_isView_10 (by decide) (fun _ => ?_) (fun c_10 => absurd rfl c_10)
  refine ev_iconst (pc := 17) (v := 0) dX4_isView_17 (by decide) ?_
  exact ev_zretE (pc := 18) dX4_isView_18 rfl ⟨Nat.le_of_ble_eq_true rfl, Nat.le_of_ble_eq_true rfl⟩ (by first | exact Or.inl rfl | exact Or.inr rfl | assumption | exact i10_o) rfl rfl
theorem s_top {cc : C21} {ep ro bb sl th dp : Int32} {many inn item val wr met rst : Nat → Int32} {wds : Nat → Int64} {opd ope way tk : Nat → Int32} {tl : List mC} (hop : opC opd ope rd) (hbd : bdR c b rd) (hro : ro = nI c.2.1) (hbb : bb = bbC b) {i : Int32} {x : RS3} (hv : vwF c b rd i = some x) : EvS m_X4_top [.ref 21, .int i] (dW cc ep ro bb sl th dp many inn item val wr met rst wds opd ope way tk tl) (.inl (some (.int (nI x.2.1)))) (dW cc ep ro bb sl th dp many inn item val wr met rst wds opd ope way tk tl) := by
  subst hro
  subst hbb
  rcases vw_some hv with ⟨rfl, ⟨rfl, rfl⟩ | h⟩ | ⟨hi, j, hj, rfl, h⟩
  · refine evs_of (by decide +kernel) (Nat.le_of_ble_eq_true rfl) (by decide) rfl rfl ?_
    refine ev_iload_n (pc := 0) dX4_top_0 rfl rfl ?_
    refine ev_if_lt (pc := 1) (tgt := 13) dX4_top_1 (by decide) (fun _ => ?_) (fun c_1 => absurd (by decide) c_1)
    refine ev_aload_n (pc := 13) dX4_top_13 rfl rfl ?_
    refine ev_get (pc := 14) dX4_top_14 fd_X4_32 rfl rfl ?_
    refine ev_iconst (pc := 17) (v := (-1)) dX4_top_17 (by decide) ?_
    refine ev_ic_eq (pc := 18) (tgt := 28) dX4_top_18 (by decide) (fun _ => ?_) (fun c_18 => absurd rfl c_18)
    refine ev_aload_n (pc := 28) dX4_top_28 rfl rfl ?_
    refine ev_get (pc := 29) dX4_top_29 fd_X4_61 rfl rfl ?_
    exact ev_iretE (pc := 32) dX4_top_32 rfl ⟨Nat.le_of_ble_eq_true rfl, Nat.le_of_ble_eq_true rfl⟩ rfl rfl
  · subst h
    have h7 := hbd.2.1 x rfl
    refine evs_of (by decide +kernel) (Nat.le_of_ble_eq_true rfl) (by decide) rfl rfl ?_
    refine ev_iload_n (pc := 0) dX4_top_0 rfl rfl ?_
    refine ev_if_lt (pc := 1) (tgt := 13) dX4_top_1 (by decide) (fun _ => ?_) (fun c_1 => absurd (by decide) c_1)
    refine ev_aload_n (pc := 13) dX4_top_13 rfl rfl ?_
    refine ev_get (pc := 14) dX4_top_14 fd_X4_32 rfl rfl ?_
    refine ev_iconst (pc := 17) (v := (-1)) dX4_top_17 (by decide) ?_
    refine ev_ic_eq (pc := 18) (tgt := 28) dX4_top_18 (by decide) (fun c_18 => absurd c_18 (fun h => nI_m1 (show x.2.1 < 2147483648 by omega) h)) (fun _ => ?_)
    refine ev_aload_n (pc := 21) dX4_top_21 rfl rfl ?_
    refine ev_get (pc := 22) dX4_top_22 fd_X4_32 rfl rfl ?_
    refine ev_goto (pc := 25) (tgt := 32) dX4_top_25 (by decide) ?_
    exact ev_iretE (pc := 32) dX4_top_32 rfl ⟨Nat.le_of_ble_eq_true rfl, Nat.le_of_ble_eq_true rfl⟩ rfl rfl
  · have h9 := hop j hj
    rw [h] at h9
    refine evs_of (by decide +kernel) (Nat.le_of_ble_eq_true rfl) (by decide) rfl rfl ?_
    refine ev_iload_n (pc := 0) dX4_top_0 rfl rfl ?_
    refine ev_if_lt (pc := 1) (tgt := 13) dX4_top_1 (by decide) (fun c_1 => absurd c_1 (nI_pos (show j < 2147483648 by omega))) (fun _ => ?_)
    refine ev_aload_n (pc := 4) dX4_top_4 rfl rfl ?_
    refine ev_get (pc := 5) dX4_top_5 fd_X4_40 rfl rfl ?_
    refine ev_iload_n (pc := 8) dX4_top_8 rfl rfl ?_
    refine ev_ialdN (pc := 9) dX4_top_9 rfl ⟨rfl, hj, by decide⟩ h9.1 ?_
    refine ev_goto (pc := 10) (tgt := 32) dX4_top_10 (by decide) ?_
    exact ev_iretE (pc := 32) dX4_top_32 rfl ⟨Nat.le_of_ble_eq_true rfl, Nat.le_of_ble_eq_true rfl⟩ rfl rfl
theorem s_mEpochOf {cc : C21} {ep ro bb sl th dp : Int32} {many inn item val wr met rst : Nat → Int32} {wds : Nat → Int64} {opd ope way tk : Nat → Int32} {tl : List mC} (hop : opC opd ope rd) (hbd : bdR c b rd) (hep : ep = nI c.1) (hbb : bb = bbC b) (hbe : ∀ x, b = some x → x.1 = c.1 + 1) {i : Int32} {x : RS3} (hv : vwF c b rd i = some x) : EvS m_X4_epochOf [.ref 21, .int i] (dW cc ep ro bb sl th dp many inn item val wr met rst wds opd ope way tk tl) (.inl (some (.int (nI x.1)))) (dW cc ep ro bb sl 0 dp many inn item val wr met rst wds opd ope way tk tl) := by
  subst hep
  subst hbb
  have e1 := s_isVw1 (cc := cc) (ep := (nI c.1)) (ro := ro) (bb := (bbC b)) (sl := sl) (th := th) (dp := dp) (many := many) (inn := inn) (item := item) (val := val) (wr := wr) (met := met) (rst := rst) (wds := wds) (opd := opd) (ope := ope) (way := way) (tk := tk) (tl := tl) hop hbd hv
  rcases vw_some hv with ⟨rfl, ⟨rfl, rfl⟩ | h⟩ | ⟨hi, j, hj, rfl, h⟩
  · refine evs_of (by decide +kernel) (Nat.le_of_ble_eq_true rfl) (by decide) rfl rfl ?_
    refine ev_aload_n (pc := 0) dX4_epochOf_0 rfl rfl ?_
    refine ev_aload_n (pc := 1) dX4_epochOf_1 rfl rfl ?_
    refine ev_iload_n (pc := 2) dX4_epochOf_2 rfl rfl ?_
    refine cV1 (pc := 3) lk_X4_epochOf_3 rfl rfl rfl (Nat.le_of_ble_eq_true rfl) ⟨Nat.le_of_ble_eq_true rfl, Nat.le_of_ble_eq_true rfl⟩ e1 ?_
    refine ev_iconst (pc := 6) (v := 1) dX4_epochOf_6 (by decide) ?_
    refine ev_iconst (pc := 7) (v := 1) dX4_epochOf_7 (by decide) ?_
    refine cV3 (pc := 8) lk_X4_epochOf_8 rfl rfl rfl (Nat.le_of_ble_eq_true rfl) ⟨Nat.le_of_ble_eq_true rfl, Nat.le_of_ble_eq_true rfl⟩ (s_goes (cc := cc) (ep := (nI x.1)) (ro := ro) (bb := (bbC none)) (sl := sl) (th := th) (dp := dp) (many := many) (inn := inn) (item := item) (val := val) (wr := wr) (met := met) (rst := rst) (wds := wds) (opd := opd) (ope := ope) (way := way) (tk := tk) (tl := tl)) ?_
    refine ev_if_ne (pc := 11) (tgt := 16) dX4_epochOf_11 (by decide) (fun _ => ?_) (fun c_11 => absurd c_11 (by decide))
    refine ev_iload_n (pc := 16) dX4_epochOf_16 rfl rfl ?_
    refine ev_if_lt (pc := 17) (tgt := 29) dX4_epochOf_17 (by decide) (fun _ => ?_) (fun c_17 => absurd (by decide) c_17)
    refine ev_aload_n (pc := 29) dX4_epochOf_29 rfl rfl ?_
    refine ev_get (pc := 30) dX4_epochOf_30 fd_X4_32 rfl rfl ?_
    refine ev_iconst (pc := 33) (v := (-1)) dX4_epochOf_33 (by decide) ?_
    refine ev_ic_eq (pc := 34) (tgt := 46) dX4_epochOf_34 (by decide) (fun _ => ?_) (fun c_34 => absurd rfl c_34)
    refine ev_aload_n (pc := 46) dX4_epochOf_46 rfl rfl ?_
    refine ev_get (pc := 47) dX4_epochOf_47 fd_X4_122 rfl rfl ?_
    exact ev_iretE (pc := 50) dX4_epochOf_50 rfl ⟨Nat.le_of_ble_eq_true rfl, Nat.le_of_ble_eq_true rfl⟩ rfl rfl
  · subst h
    have h7 := hbd.2.1 x rfl
    have h8 := hbe x rfl
    refine evs_of (by decide +kernel) (Nat.le_of_ble_eq_true rfl) (by decide) rfl rfl ?_
    refine ev_aload_n (pc := 0) dX4_epochOf_0 rfl rfl ?_
    refine ev_aload_n (pc := 1) dX4_epochOf_1 rfl rfl ?_
    refine ev_iload_n (pc := 2) dX4_epochOf_2 rfl rfl ?_
    refine cV1 (pc := 3) lk_X4_epochOf_3 rfl rfl rfl (Nat.le_of_ble_eq_true rfl) ⟨Nat.le_of_ble_eq_true rfl, Nat.le_of_ble_eq_true rfl⟩ e1 ?_
    refine ev_iconst (pc := 6) (v := 1) dX4_epochOf_6 (by decide) ?_
    refine ev_iconst (pc := 7) (v := 1) dX4_epochOf_7 (by decide) ?_
    refine cV3 (pc := 8) lk_X4_epochOf_8 rfl rfl rfl (Nat.le_of_ble_eq_true rfl) ⟨Nat.le_of_ble_eq_true rfl, Nat.le_of_ble_eq_true rfl⟩ (s_goes (cc := cc) (ep := (nI c.1)) (ro := ro) (bb := (bbC (some x))) (sl := sl) (th := th) (dp := dp) (many := many) (inn := inn) (item := item) (val := val) (wr := wr) (met := met) (rst := rst) (wds := wds) (opd := opd) (ope := ope) (way := way) (tk := tk) (tl := tl)) ?_
    refine ev_if_ne (pc := 11) (tgt := 16) dX4_epochOf_11 (by decide) (fun _ => ?_) (fun c_11 => absurd c_11 (by decide))
    refine ev_iload_n (pc := 16) dX4_epochOf_16 rfl rfl ?_
    refine ev_if_lt (pc := 17) (tgt := 29) dX4_epochOf_17 (by decide) (fun _ => ?_) (fun c_17 => absurd (by decide) c_17)
    refine ev_aload_n (pc := 29) dX4_epochOf_29 rfl rfl ?_
    refine ev_get (pc := 30) dX4_epochOf_30 fd_X4_32 rfl rfl ?_
    refine ev_iconst (pc := 33) (v := (-1)) dX4_epochOf_33 (by decide) ?_
    refine ev_ic_eq (pc := 34) (tgt := 46) dX4_epochOf_34 (by decide) (fun c_34 => absurd c_34 (fun h => nI_m1 (show x.2.1 < 2147483648 by omega) h)) (fun _ => ?_)
    refine ev_aload_n (pc := 37) dX4_epochOf_37 rfl rfl ?_
    refine ev_get (pc := 38) dX4_epochOf_38 fd_X4_122 rfl rfl ?_
    refine ev_iconst (pc := 41) (v := 1) dX4_epochOf_41 (by decide) ?_
    refine ev_iadd (pc := 42) dX4_epochOf_42 ?_
    refine ev_goto (pc := 43) (tgt := 50) dX4_epochOf_43 (by decide) ?_
    exact ev_iretE (pc := 50) dX4_epochOf_50 rfl ⟨Nat.le_of_ble_eq_true rfl, Nat.le_of_ble_eq_true rfl⟩ (by rw [h8]; exact nI_a1 c.1) rfl
  · have h9 := hop j hj
    rw [h] at h9
    refine evs_of (by decide +kernel) (Nat.le_of_ble_eq_true rfl) (by decide) rfl rfl ?_
    refine ev_aload_n (pc := 0) dX4_epochOf_0 rfl rfl ?_
    refine ev_aload_n (pc := 1) dX4_epochOf_1 rfl rfl ?_
    refine ev_iload_n (pc := 2) dX4_epochOf_2 rfl rfl ?_
    refine cV1 (pc := 3) lk_X4_epochOf_3 rfl rfl rfl (Nat.le_of_ble_eq_true rfl) ⟨Nat.le_of_ble_eq_true rfl, Nat.le_of_ble_eq_true rfl⟩ e1 ?_
    refine ev_iconst (pc := 6) (v := 1) dX4_epochOf_6 (by decide) ?_
    refine ev_iconst (pc := 7) (v := 1) dX4_epochOf_7 (by decide) ?_
    refine cV3 (pc := 8) lk_X4_epochOf_8 rfl rfl rfl (Nat.le_of_ble_eq_true rfl) ⟨Nat.le_of_ble_eq_true rfl, Nat.le_of_ble_eq_true rfl⟩ (s_goes (cc := cc) (ep := (nI c.1)) (ro := ro) (bb := (bbC b)) (sl := sl) (th := th) (dp := dp) (many := many) (inn := inn) (item := item) (val := val) (wr := wr) (met := met) (rst := rst) (wds := wds) (opd := opd) (ope := ope) (way := way) (tk := tk) (tl := tl)) ?_
    refine ev_if_ne (pc := 11) (tgt := 16) dX4_epochOf_11 (by decide) (fun _ => ?_) (fun c_11 => absurd c_11 (by decide))
    refine ev_iload_n (pc := 16) dX4_epochOf_16 rfl rfl ?_
    refine ev_if_lt (pc := 17) (tgt := 29) dX4_epochOf_17 (by decide) (fun c_17 => absurd c_17 (nI_pos (show j < 2147483648 by omega))) (fun _ => ?_)
    refine ev_aload_n (pc := 20) dX4_epochOf_20 rfl rfl ?_
    refine ev_get (pc := 21) dX4_epochOf_21 fd_X4_43 rfl rfl ?_
    refine ev_iload_n (pc := 24) dX4_epochOf_24 rfl rfl ?_
    refine ev_ialdN (pc := 25) dX4_epochOf_25 rfl ⟨rfl, hj, by decide⟩ h9.2 ?_
    refine ev_goto (pc := 26) (tgt := 50) dX4_epochOf_26 (by decide) ?_
    exact ev_iretE (pc := 50) dX4_epochOf_50 rfl ⟨Nat.le_of_ble_eq_true rfl, Nat.le_of_ble_eq_true rfl⟩ rfl rfl
theorem s_mEpochOfT {cc : C21} {ep ro bb sl th dp : Int32} {many inn item val wr met rst : Nat → Int32} {wds : Nat → Int64} {opd ope way tk : Nat → Int32} {tl : List mC} (hop : opC opd ope rd) {i : Int32} (hv : vwF c b rd i = none) : EvS m_X4_epochOf [.ref 21, .int i] (dW cc ep ro bb sl th dp many inn item val wr met rst wds opd ope way tk tl) (.inl (some (.int 0))) (dW cc ep ro bb sl 1 dp many inn item val wr met rst wds opd ope way tk tl) := by
  refine evs_of (by decide +kernel) (Nat.le_of_ble_eq_true rfl) (by decide) rfl rfl ?_
  refine ev_aload_n (pc := 0) dX4_epochOf_0 rfl rfl ?_
  refine ev_aload_n (pc := 1) dX4_epochOf_1 rfl rfl ?_
  refine ev_iload_n (pc := 2) dX4_epochOf_2 rfl rfl ?_
  refine cV1 (pc := 3) lk_X4_epochOf_3 rfl rfl rfl (Nat.le_of_ble_eq_true rfl) ⟨Nat.le_of_ble_eq_true rfl, Nat.le_of_ble_eq_true rfl⟩ (s_isVw0 hop hv) ?_
  refine ev_iconst (pc := 6) (v := 1) dX4_epochOf_6 (by decide) ?_
  refine ev_iconst (pc := 7) (v := 1) dX4_epochOf_7 (by decide) ?_
  refine cV3 (pc := 8) lk_X4_epochOf_8 rfl rfl rfl (Nat.le_of_ble_eq_true rfl) ⟨Nat.le_of_ble_eq_true rfl, Nat.le_of_ble_eq_true rfl⟩ (s_goesT1 (cc := cc) (ep := ep) (ro := ro) (bb := bb) (sl := sl) (th := th) (dp := dp) (many := many) (inn := inn) (item := item) (val := val) (wr := wr) (met := met) (rst := rst) (wds := wds) (opd := opd) (ope := ope) (way := way) (tk := tk) (tl := tl)) ?_
  refine ev_if_ne (pc := 11) (tgt := 16) dX4_epochOf_11 (by decide) (fun c_11 => absurd (by decide) c_11) (fun _ => ?_)
  refine ev_iconst (pc := 14) (v := 0) dX4_epochOf_14 (by decide) ?_
  exact ev_iretE (pc := 15) dX4_epochOf_15 rfl ⟨Nat.le_of_ble_eq_true rfl, Nat.le_of_ble_eq_true rfl⟩ rfl rfl
theorem s_mRank {cc : C21} {ep ro bb sl th dp : Int32} {many inn item val wr met rst : Nat → Int32} {wds : Nat → Int64} {opd ope way tk : Nat → Int32} {tl : List mC} (hR : Rm many inn item val T U) (hop : opC opd ope rd) (hbd : bdR c b rd) (hro : ro = nI c.2.1) (hbb : bb = bbC b) {i a : Int32} {x : RS3} (hv : vwF c b rd i = some x) {d : Nat} (hf : rt T U d x.2.1) (hn : wsm T one1 d x.2.1 ≤ 700) : ∃ rst', EvS m_X4_rank [.ref 21, .int i, .int a] (dW cc ep ro bb sl th dp many inn item val wr met rst wds opd ope way tk tl) (.inl (some (.int (nI (wsm T (lfW T a) d x.2.1))))) (dW cc ep ro bb sl 0 dp many inn item val wr met rst' wds opd ope way tk tl) := by
  obtain ⟨r1, e1⟩ := s_below (cc := cc) (ep := ep) (ro := ro) (bb := bb) (sl := sl) (th := 0) (dp := dp) (many := many) (inn := inn) (item := item) (val := val) (wr := wr) (met := met) (rst := rst) (wds := wds) (opd := opd) (ope := ope) (way := way) (tk := tk) (tl := tl) hR hf hn a
  refine ⟨r1, ?_⟩
  refine evs_of (by decide +kernel) (Nat.le_of_ble_eq_true rfl) (by decide) rfl rfl ?_
  refine ev_aload_n (pc := 0) dX4_rank_0 rfl rfl ?_
  refine ev_aload_n (pc := 1) dX4_rank_1 rfl rfl ?_
  refine ev_iload_n (pc := 2) dX4_rank_2 rfl rfl ?_
  refine cV1 (pc := 3) lk_X4_rank_3 rfl rfl rfl (Nat.le_of_ble_eq_true rfl) ⟨Nat.le_of_ble_eq_true rfl, Nat.le_of_ble_eq_true rfl⟩ (s_isVw1 hop hbd hv) ?_
  refine ev_iconst (pc := 6) (v := 1) dX4_rank_6 (by decide) ?_
  refine ev_iconst (pc := 7) (v := 1) dX4_rank_7 (by decide) ?_
  refine cV3 (pc := 8) lk_X4_rank_8 rfl rfl rfl (Nat.le_of_ble_eq_true rfl) ⟨Nat.le_of_ble_eq_true rfl, Nat.le_of_ble_eq_true rfl⟩ (s_goes (cc := cc) (ep := ep) (ro := ro) (bb := bb) (sl := sl) (th := th) (dp := dp) (many := many) (inn := inn) (item := item) (val := val) (wr := wr) (met := met) (rst := rst) (wds := wds) (opd := opd) (ope := ope) (way := way) (tk := tk) (tl := tl)) ?_
  refine ev_if_eq (pc := 11) (tgt := 27) dX4_rank_11 (by decide) (fun c_11 => absurd c_11 (by decide)) (fun _ => ?_)
  refine ev_aload_n (pc := 14) dX4_rank_14 rfl rfl ?_
  refine ev_aload_n (pc := 15) dX4_rank_15 rfl rfl ?_
  refine ev_iload_n (pc := 16) dX4_rank_16 rfl rfl ?_
  refine cV1 (pc := 17) lk_X4_rank_17 rfl rfl rfl (Nat.le_of_ble_eq_true rfl) ⟨Nat.le_of_ble_eq_true rfl, Nat.le_of_ble_eq_true rfl⟩ (s_top hop hbd hro hbb hv) ?_
  refine ev_iload_n (pc := 20) dX4_rank_20 rfl rfl ?_
  refine cV2 (pc := 21) lk_X4_rank_21 rfl rfl rfl (Nat.le_of_ble_eq_true rfl) ⟨Nat.le_of_ble_eq_true rfl, Nat.le_of_ble_eq_true rfl⟩ e1 ?_
  refine ev_goto (pc := 24) (tgt := 28) dX4_rank_24 (by decide) ?_
  exact ev_iretE (pc := 28) dX4_rank_28 rfl ⟨Nat.le_of_ble_eq_true rfl, Nat.le_of_ble_eq_true rfl⟩ rfl rfl
theorem s_mRankT {cc : C21} {ep ro bb sl th dp : Int32} {many inn item val wr met rst : Nat → Int32} {wds : Nat → Int64} {opd ope way tk : Nat → Int32} {tl : List mC} (hop : opC opd ope rd) {i a : Int32} (hv : vwF c b rd i = none) : EvS m_X4_rank [.ref 21, .int i, .int a] (dW cc ep ro bb sl th dp many inn item val wr met rst wds opd ope way tk tl) (.inl (some (.int 0))) (dW cc ep ro bb sl 1 dp many inn item val wr met rst wds opd ope way tk tl) := by
  refine evs_of (by decide +kernel) (Nat.le_of_ble_eq_true rfl) (by decide) rfl rfl ?_
  refine ev_aload_n (pc := 0) dX4_rank_0 rfl rfl ?_
  refine ev_aload_n (pc := 1) dX4_rank_1 rfl rfl ?_
  refine ev_iload_n (pc := 2) dX4_rank_2 rfl rfl ?_
  refine cV1 (pc := 3) lk_X4_rank_3 rfl rfl rfl (Nat.le_of_ble_eq_true rfl) ⟨Nat.le_of_ble_eq_true rfl, Nat.le_of_ble_eq_true rfl⟩ (s_isVw0 hop hv) ?_
  refine ev_iconst (pc := 6) (v := 1) dX4_rank_6 (by decide) ?_
  refine ev_iconst (pc := 7) (v := 1) dX4_rank_7 (by decide) ?_
  refine cV3 (pc := 8) lk_X4_rank_8 rfl rfl rfl (Nat.le_of_ble_eq_true rfl) ⟨Nat.le_of_ble_eq_true rfl, Nat.le_of_ble_eq_true rfl⟩ (s_goesT1 (cc := cc) (ep := ep) (ro := ro) (bb := bb) (sl := sl) (th := th) (dp := dp) (many := many) (inn := inn) (item := item) (val := val) (wr := wr) (met := met) (rst := rst) (wds := wds) (opd := opd) (ope := ope) (way := way) (tk := tk) (tl := tl)) ?_
  refine ev_if_eq (pc := 11) (tgt := 27) dX4_rank_11 (by decide) (fun _ => ?_) (fun c_11 => absurd rfl c_11)
  refine ev_iconst (pc := 27) (v := 0) dX4_rank_27 (by decide) ?_
  exact ev_iretE (pc := 28) dX4_rank_28 rfl ⟨Nat.le_of_ble_eq_true rfl, Nat.le_of_ble_eq_true rfl⟩ rfl rfl
theorem s_mSize {cc : C21} {ep ro bb sl th dp : Int32} {many inn item val wr met rst : Nat → Int32} {wds : Nat → Int64} {opd ope way tk : Nat → Int32} {tl : List mC} (hR : Rm many inn item val T U) (hop : opC opd ope rd) (hbd : bdR c b rd) (hro : ro = nI c.2.1) (hbb : bb = bbC b) {i : Int32} {x : RS3} (hv : vwF c b rd i = some x) {d : Nat} (hf : rt T U d x.2.1) (hn : wsm T one1 d x.2.1 ≤ 700) : ∃ rst', EvS m_X4_size [.ref 21, .int i] (dW cc ep ro bb sl th dp many inn item val wr met rst wds opd ope way tk tl) (.inl (some (.int (nI (wsm T (lfW T 100) d x.2.1))))) (dW cc ep ro bb sl 0 dp many inn item val wr met rst' wds opd ope way tk tl) := by
  obtain ⟨r1, e1⟩ := s_keys (cc := cc) (ep := ep) (ro := ro) (bb := bb) (sl := sl) (th := 0) (dp := dp) (many := many) (inn := inn) (item := item) (val := val) (wr := wr) (met := met) (rst := rst) (wds := wds) (opd := opd) (ope := ope) (way := way) (tk := tk) (tl := tl) hR hf hn
  refine ⟨r1, ?_⟩
  refine evs_of (by decide +kernel) (Nat.le_of_ble_eq_true rfl) (by decide) rfl rfl ?_
  refine ev_aload_n (pc := 0) dX4_size_0 rfl rfl ?_
  refine ev_aload_n (pc := 1) dX4_size_1 rfl rfl ?_
  refine ev_iload_n (pc := 2) dX4_size_2 rfl rfl ?_
  refine cV1 (pc := 3) lk_X4_size_3 rfl rfl rfl (Nat.le_of_ble_eq_true rfl) ⟨Nat.le_of_ble_eq_true rfl, Nat.le_of_ble_eq_true rfl⟩ (s_isVw1 hop hbd hv) ?_
  refine ev_iconst (pc := 6) (v := 1) dX4_size_6 (by decide) ?_
  refine ev_iconst (pc := 7) (v := 1) dX4_size_7 (by decide) ?_
  refine cV3 (pc := 8) lk_X4_size_8 rfl rfl rfl (Nat.le_of_ble_eq_true rfl) ⟨Nat.le_of_ble_eq_true rfl, Nat.le_of_ble_eq_true rfl⟩ (s_goes (cc := cc) (ep := ep) (ro := ro) (bb := bb) (sl := sl) (th := th) (dp := dp) (many := many) (inn := inn) (item := item) (val := val) (wr := wr) (met := met) (rst := rst) (wds := wds) (opd := opd) (ope := ope) (way := way) (tk := tk) (tl := tl)) ?_
  refine ev_if_eq (pc := 11) (tgt := 26) dX4_size_11 (by decide) (fun c_11 => absurd c_11 (by decide)) (fun _ => ?_)
  refine ev_aload_n (pc := 14) dX4_size_14 rfl rfl ?_
  refine ev_aload_n (pc := 15) dX4_size_15 rfl rfl ?_
  refine ev_iload_n (pc := 16) dX4_size_16 rfl rfl ?_
  refine cV1 (pc := 17) lk_X4_size_17 rfl rfl rfl (Nat.le_of_ble_eq_true rfl) ⟨Nat.le_of_ble_eq_true rfl, Nat.le_of_ble_eq_true rfl⟩ (s_top hop hbd hro hbb hv) ?_
  refine cV1 (pc := 20) lk_X4_size_20 rfl rfl rfl (Nat.le_of_ble_eq_true rfl) ⟨Nat.le_of_ble_eq_true rfl, Nat.le_of_ble_eq_true rfl⟩ e1 ?_
  refine ev_goto (pc := 23) (tgt := 27) dX4_size_23 (by decide) ?_
  exact ev_iretE (pc := 27) dX4_size_27 rfl ⟨Nat.le_of_ble_eq_true rfl, Nat.le_of_ble_eq_true rfl⟩ rfl rfl
theorem s_mSizeT {cc : C21} {ep ro bb sl th dp : Int32} {many inn item val wr met rst : Nat → Int32} {wds : Nat → Int64} {opd ope way tk : Nat → Int32} {tl : List mC} (hop : opC opd ope rd) {i : Int32} (hv : vwF c b rd i = none) : EvS m_X4_size [.ref 21, .int i] (dW cc ep ro bb sl th dp many inn item val wr met rst wds opd ope way tk tl) (.inl (some (.int 0))) (dW cc ep ro bb sl 1 dp many inn item val wr met rst wds opd ope way tk tl) := by
  refine evs_of (by decide +kernel) (Nat.le_of_ble_eq_true rfl) (by decide) rfl rfl ?_
  refine ev_aload_n (pc := 0) dX4_size_0 rfl rfl ?_
  refine ev_aload_n (pc := 1) dX4_size_1 rfl rfl ?_
  refine ev_iload_n (pc := 2) dX4_size_2 rfl rfl ?_
  refine cV1 (pc := 3) lk_X4_size_3 rfl rfl rfl (Nat.le_of_ble_eq_true rfl) ⟨Nat.le_of_ble_eq_true rfl, Nat.le_of_ble_eq_true rfl⟩ (s_isVw0 hop hv) ?_
  refine ev_iconst (pc := 6) (v := 1) dX4_size_6 (by decide) ?_
  refine ev_iconst (pc := 7) (v := 1) dX4_size_7 (by decide) ?_
  refine cV3 (pc := 8) lk_X4_size_8 rfl rfl rfl (Nat.le_of_ble_eq_true rfl) ⟨Nat.le_of_ble_eq_true rfl, Nat.le_of_ble_eq_true rfl⟩ (s_goesT1 (cc := cc) (ep := ep) (ro := ro) (bb := bb) (sl := sl) (th := th) (dp := dp) (many := many) (inn := inn) (item := item) (val := val) (wr := wr) (met := met) (rst := rst) (wds := wds) (opd := opd) (ope := ope) (way := way) (tk := tk) (tl := tl)) ?_
  refine ev_if_eq (pc := 11) (tgt := 26) dX4_size_11 (by decide) (fun _ => ?_) (fun c_11 => absurd rfl c_11)
  refine ev_iconst (pc := 26) (v := 0) dX4_size_26 (by decide) ?_
  exact ev_iretE (pc := 27) dX4_size_27 rfl ⟨Nat.le_of_ble_eq_true rfl, Nat.le_of_ble_eq_true rfl⟩ rfl rfl
theorem s_mRootOf {cc : C21} {ep ro bb sl th dp : Int32} {many inn item val wr met rst : Nat → Int32} {wds : Nat → Int64} {opd ope way tk : Nat → Int32} {tl : List mC} (hop : opC opd ope rd) (hbd : bdR c b rd) (hro : ro = nI c.2.1) (hbb : bb = bbC b) {i : Int32} {x : RS3} (hv : vwF c b rd i = some x) : EvS m_X4_rootOf [.ref 21, .int i] (dW cc ep ro bb sl th dp many inn item val wr met rst wds opd ope way tk tl) (.inl (some (.int (nI x.2.1)))) (dW cc ep ro bb sl 0 dp many inn item val wr met rst wds opd ope way tk tl) := by
  refine evs_of (by decide +kernel) (Nat.le_of_ble_eq_true rfl) (by decide) rfl rfl ?_
  refine ev_aload_n (pc := 0) dX4_rootOf_0 rfl rfl ?_
  refine ev_aload_n (pc := 1) dX4_rootOf_1 rfl rfl ?_
  refine ev_iload_n (pc := 2) dX4_rootOf_2 rfl rfl ?_
  refine cV1 (pc := 3) lk_X4_rootOf_3 rfl rfl rfl (Nat.le_of_ble_eq_true rfl) ⟨Nat.le_of_ble_eq_true rfl, Nat.le_of_ble_eq_true rfl⟩ (s_isVw1 hop hbd hv) ?_
  refine ev_iconst (pc := 6) (v := 1) dX4_rootOf_6 (by decide) ?_
  refine ev_iconst (pc := 7) (v := 1) dX4_rootOf_7 (by decide) ?_
  refine cV3 (pc := 8) lk_X4_rootOf_8 rfl rfl rfl (Nat.le_of_ble_eq_true rfl) ⟨Nat.le_of_ble_eq_true rfl, Nat.le_of_ble_eq_true rfl⟩ (s_goes (cc := cc) (ep := ep) (ro := ro) (bb := bb) (sl := sl) (th := th) (dp := dp) (many := many) (inn := inn) (item := item) (val := val) (wr := wr) (met := met) (rst := rst) (wds := wds) (opd := opd) (ope := ope) (way := way) (tk := tk) (tl := tl)) ?_
  refine ev_if_eq (pc := 11) (tgt := 22) dX4_rootOf_11 (by decide) (fun c_11 => absurd c_11 (by decide)) (fun _ => ?_)
  refine ev_aload_n (pc := 14) dX4_rootOf_14 rfl rfl ?_
  refine ev_iload_n (pc := 15) dX4_rootOf_15 rfl rfl ?_
  refine cV1 (pc := 16) lk_X4_rootOf_16 rfl rfl rfl (Nat.le_of_ble_eq_true rfl) ⟨Nat.le_of_ble_eq_true rfl, Nat.le_of_ble_eq_true rfl⟩ (s_top hop hbd hro hbb hv) ?_
  refine ev_goto (pc := 19) (tgt := 23) dX4_rootOf_19 (by decide) ?_
  exact ev_iretE (pc := 23) dX4_rootOf_23 rfl ⟨Nat.le_of_ble_eq_true rfl, Nat.le_of_ble_eq_true rfl⟩ rfl rfl
theorem s_mRootOfT {cc : C21} {ep ro bb sl th dp : Int32} {many inn item val wr met rst : Nat → Int32} {wds : Nat → Int64} {opd ope way tk : Nat → Int32} {tl : List mC} (hop : opC opd ope rd) {i : Int32} (hv : vwF c b rd i = none) : EvS m_X4_rootOf [.ref 21, .int i] (dW cc ep ro bb sl th dp many inn item val wr met rst wds opd ope way tk tl) (.inl (some (.int 0))) (dW cc ep ro bb sl 1 dp many inn item val wr met rst wds opd ope way tk tl) := by
  refine evs_of (by decide +kernel) (Nat.le_of_ble_eq_true rfl) (by decide) rfl rfl ?_
  refine ev_aload_n (pc := 0) dX4_rootOf_0 rfl rfl ?_
  refine ev_aload_n (pc := 1) dX4_rootOf_1 rfl rfl ?_
  refine ev_iload_n (pc := 2) dX4_rootOf_2 rfl rfl ?_
  refine cV1 (pc := 3) lk_X4_rootOf_3 rfl rfl rfl (Nat.le_of_ble_eq_true rfl) ⟨Nat.le_of_ble_eq_true rfl, Nat.le_of_ble_eq_true rfl⟩ (s_isVw0 hop hv) ?_
  refine ev_iconst (pc := 6) (v := 1) dX4_rootOf_6 (by decide) ?_
  refine ev_iconst (pc := 7) (v := 1) dX4_rootOf_7 (by decide) ?_
  refine cV3 (pc := 8) lk_X4_rootOf_8 rfl rfl rfl (Nat.le_of_ble_eq_true rfl) ⟨Nat.le_of_ble_eq_true rfl, Nat.le_of_ble_eq_true rfl⟩ (s_goesT1 (cc := cc) (ep := ep) (ro := ro) (bb := bb) (sl := sl) (th := th) (dp := dp) (many := many) (inn := inn) (item := item) (val := val) (wr := wr) (met := met) (rst := rst) (wds := wds) (opd := opd) (ope := ope) (way := way) (tk := tk) (tl := tl)) ?_
  refine ev_if_eq (pc := 11) (tgt := 22) dX4_rootOf_11 (by decide) (fun _ => ?_) (fun c_11 => absurd rfl c_11)
  refine ev_iconst (pc := 22) (v := 0) dX4_rootOf_22 (by decide) ?_
  exact ev_iretE (pc := 23) dX4_rootOf_23 rfl ⟨Nat.le_of_ble_eq_true rfl, Nat.le_of_ble_eq_true rfl⟩ rfl rfl
theorem s_mDepth {cc : C21} {ep ro bb sl th dp : Int32} {many inn item val wr met rst : Nat → Int32} {wds : Nat → Int64} {opd ope way tk : Nat → Int32} {tl : List mC} (hR : Rm many inn item val T U) (hop : opC opd ope rd) (hbd : bdR c b rd) (hro : ro = nI c.2.1) (hbb : bb = bbC b) {i : Int32} {x : RS3} (hv : vwF c b rd i = some x) {d lf : Nat} {P : List (Nat × Nat)} (hd : d ≤ 6) (hf : fdR T U 0 d x.2.1 P lf) : ∃ way' tk', EvS m_X4_depth [.ref 21, .int i] (dW cc ep ro bb sl th dp many inn item val wr met rst wds opd ope way tk tl) (.inl (some (.int (nI (d + 1))))) (dW cc ep ro bb sl 0 (nI d) many inn item val wr met rst wds opd ope way' tk' tl) := by
  obtain ⟨y1, k1, -, e1⟩ := s_finds (cc := cc) (ep := ep) (ro := ro) (bb := bb) (sl := sl) (th := 0) (dp := dp) (many := many) (inn := inn) (item := item) (val := val) (wr := wr) (met := met) (rst := rst) (wds := wds) (opd := opd) (ope := ope) (way := way) (tk := tk) (tl := tl) hR hf hd
  refine ⟨y1, k1, ?_⟩
  refine evs_of (by decide +kernel) (Nat.le_of_ble_eq_true rfl) (by decide) rfl rfl ?_
  refine ev_aload_n (pc := 0) dX4_depth_0 rfl rfl ?_
  refine ev_aload_n (pc := 1) dX4_depth_1 rfl rfl ?_
  refine ev_iload_n (pc := 2) dX4_depth_2 rfl rfl ?_
  refine cV1 (pc := 3) lk_X4_depth_3 rfl rfl rfl (Nat.le_of_ble_eq_true rfl) ⟨Nat.le_of_ble_eq_true rfl, Nat.le_of_ble_eq_true rfl⟩ (s_isVw1 hop hbd hv) ?_
  refine ev_iconst (pc := 6) (v := 1) dX4_depth_6 (by decide) ?_
  refine ev_iconst (pc := 7) (v := 1) dX4_depth_7 (by decide) ?_
  refine cV3 (pc := 8) lk_X4_depth_8 rfl rfl rfl (Nat.le_of_ble_eq_true rfl) ⟨Nat.le_of_ble_eq_true rfl, Nat.le_of_ble_eq_true rfl⟩ (s_goes (cc := cc) (ep := ep) (ro := ro) (bb := bb) (sl := sl) (th := th) (dp := dp) (many := many) (inn := inn) (item := item) (val := val) (wr := wr) (met := met) (rst := rst) (wds := wds) (opd := opd) (ope := ope) (way := way) (tk := tk) (tl := tl)) ?_
  refine ev_if_ne (pc := 11) (tgt := 16) dX4_depth_11 (by decide) (fun _ => ?_) (fun c_11 => absurd c_11 (by decide))
  refine ev_aload_n (pc := 16) dX4_depth_16 rfl rfl ?_
  refine ev_aload_n (pc := 17) dX4_depth_17 rfl rfl ?_
  refine ev_iload_n (pc := 18) dX4_depth_18 rfl rfl ?_
  refine cV1 (pc := 19) lk_X4_depth_19 rfl rfl rfl (Nat.le_of_ble_eq_true rfl) ⟨Nat.le_of_ble_eq_true rfl, Nat.le_of_ble_eq_true rfl⟩ (s_top hop hbd hro hbb hv) ?_
  refine ev_iconst (pc := 22) (v := 0) dX4_depth_22 (by decide) ?_
  refine cV2 (pc := 23) lk_X4_depth_23 rfl rfl rfl (Nat.le_of_ble_eq_true rfl) ⟨Nat.le_of_ble_eq_true rfl, Nat.le_of_ble_eq_true rfl⟩ e1 ?_
  refine ev_aload_n (pc := 26) dX4_depth_26 rfl rfl ?_
  refine ev_get (pc := 27) dX4_depth_27 fd_X4_91 rfl rfl ?_
  refine ev_iconst (pc := 30) (v := 1) dX4_depth_30 (by decide) ?_
  refine ev_iadd (pc := 31) dX4_depth_31 ?_
  exact ev_iretE (pc := 32) dX4_depth_32 rfl ⟨Nat.le_of_ble_eq_true rfl, Nat.le_of_ble_eq_true rfl⟩ (nI_a1 d) rfl
theorem s_mDepthT {cc : C21} {ep ro bb sl th dp : Int32} {many inn item val wr met rst : Nat → Int32} {wds : Nat → Int64} {opd ope way tk : Nat → Int32} {tl : List mC} (hop : opC opd ope rd) {i : Int32} (hv : vwF c b rd i = none) : EvS m_X4_depth [.ref 21, .int i] (dW cc ep ro bb sl th dp many inn item val wr met rst wds opd ope way tk tl) (.inl (some (.int 0))) (dW cc ep ro bb sl 1 dp many inn item val wr met rst wds opd ope way tk tl) := by
  refine evs_of (by decide +kernel) (Nat.le_of_ble_eq_true rfl) (by decide) rfl rfl ?_
  refine ev_aload_n (pc := 0) dX4_depth_0 rfl rfl ?_
  refine ev_aload_n (pc := 1) dX4_depth_1 rfl rfl ?_
  refine ev_iload_n (pc := 2) dX4_depth_2 rfl rfl ?_
  refine cV1 (pc := 3) lk_X4_depth_3 rfl rfl rfl (Nat.le_of_ble_eq_true rfl) ⟨Nat.le_of_ble_eq_true rfl, Nat.le_of_ble_eq_true rfl⟩ (s_isVw0 hop hv) ?_
  refine ev_iconst (pc := 6) (v := 1) dX4_depth_6 (by decide) ?_
  refine ev_iconst (pc := 7) (v := 1) dX4_depth_7 (by decide) ?_
  refine cV3 (pc := 8) lk_X4_depth_8 rfl rfl rfl (Nat.le_of_ble_eq_true rfl) ⟨Nat.le_of_ble_eq_true rfl, Nat.le_of_ble_eq_true rfl⟩ (s_goesT1 (cc := cc) (ep := ep) (ro := ro) (bb := bb) (sl := sl) (th := th) (dp := dp) (many := many) (inn := inn) (item := item) (val := val) (wr := wr) (met := met) (rst := rst) (wds := wds) (opd := opd) (ope := ope) (way := way) (tk := tk) (tl := tl)) ?_
  refine ev_if_ne (pc := 11) (tgt := 16) dX4_depth_11 (by decide) (fun c_11 => absurd (by decide) c_11) (fun _ => ?_)
  refine ev_iconst (pc := 14) (v := 0) dX4_depth_14 (by decide) ?_
  exact ev_iretE (pc := 15) dX4_depth_15 rfl ⟨Nat.le_of_ble_eq_true rfl, Nat.le_of_ble_eq_true rfl⟩ rfl rfl
theorem s_mGet {cc : C21} {ep ro bb sl th dp : Int32} {many inn item val wr met rst : Nat → Int32} {wds : Nat → Int64} {opd ope way tk : Nat → Int32} {tl : List mC} (hR : Rm many inn item val T U) (hop : opC opd ope rd) (hbd : bdR c b rd) (hro : ro = nI c.2.1) (hbb : bb = bbC b) {i : Int32} {x : RS3} (hv : vwF c b rd i = some x) {d k lf n : Nat} {v : Int32} {P : List (Nat × Nat)} {l : List (Nat × Int32)} (hk : k < 100) (hd : d ≤ 6) (hf : fdR T U (nI k) d x.2.1 P lf) (hl : T lf = .inl l) (hx : l[plc l (nI k)]? = some (n, v)) (hn : nI n = nI k) : ∃ way' tk', EvS m_X4_get [.ref 21, .int i, .int (nI k)] (dW cc ep ro bb sl th dp many inn item val wr met rst wds opd ope way tk tl) (.inl (some (.int v))) (dW cc ep ro bb sl 0 (nI d) many inn item val wr met rst wds opd ope way' tk' tl) := by
  obtain ⟨hu, hPd, -⟩ := fdR_U hf
  obtain ⟨y1, k1, hwy, e1⟩ := s_finds (cc := cc) (ep := ep) (ro := ro) (bb := bb) (sl := sl) (th := th) (dp := dp) (many := many) (inn := inn) (item := item) (val := val) (wr := wr) (met := met) (rst := rst) (wds := wds) (opd := opd) (ope := ope) (way := way) (tk := tk) (tl := tl) hR hf hd
  have hyd : y1 d = nI lf := by
    have h9 := hwy.2
    rw [Nat.zero_add, hPd] at h9
    exact h9
  obtain ⟨hl7, hi, h5, hc, hrow, hva, hk1⟩ := hR.leaf hu hl
  have e2 := s_mPlace (cc := cc) (ep := ep) (ro := ro) (bb := bb) (sl := sl) (th := th) (dp := (nI d)) (many := many) (inn := inn) (item := item) (val := val) (wr := wr) (met := met) (rst := rst) (wds := wds) (opd := opd) (ope := ope) (way := y1) (tk := k1) (tl := tl) hR hu hl (nI k)
  have e3 := s_has1 (cc := cc) (ep := ep) (ro := ro) (bb := bb) (sl := sl) (th := th) (dp := (nI d)) (many := many) (inn := inn) (item := item) (val := val) (wr := wr) (met := met) (rst := rst) (wds := wds) (opd := opd) (ope := ope) (way := y1) (tk := k1) (tl := tl) hR hu hl ⟨_, hx, hn⟩
  have hkk : nI k ≤ 99 := by exact nI_le (show k ≤ 99 by omega) (by decide)
  have hpl : plc l (nI k) < l.length := (List.getElem?_eq_some_iff.mp hx).1
  refine ⟨y1, k1, ?_⟩
  refine evs_of (by decide +kernel) (Nat.le_of_ble_eq_true rfl) (by decide) rfl rfl ?_
  refine ev_aload_n (pc := 0) dX4_get_0 rfl rfl ?_
  refine ev_iload_n (pc := 1) dX4_get_1 rfl rfl ?_
  refine cV1 (pc := 2) lk_X4_get_2 rfl rfl rfl (Nat.le_of_ble_eq_true rfl) ⟨Nat.le_of_ble_eq_true rfl, Nat.le_of_ble_eq_true rfl⟩ (s_isVw1 hop hbd hv) ?_
  refine ev_if_eq (pc := 5) (tgt := 22) dX4_get_5 (by decide) (fun c_5 => absurd c_5 (by decide)) (fun _ => ?_)
  refine ev_iload_n (pc := 8) dX4_get_8 rfl rfl ?_
  refine ev_iconst (pc := 9) (v := 0) dX4_get_9 (by decide) ?_
  refine ev_bipush (pc := 10) (v := 99) dX4_get_10 (by decide) ?_
  refine cS3 (pc := 12) lk_X4_get_12 (Nat.le_of_ble_eq_true rfl) ⟨Nat.le_of_ble_eq_true rfl, Nat.le_of_ble_eq_true rfl⟩ (s_in1 (nI_pos' (show k < 2147483648 by omega)) hkk) ?_
  refine ev_if_eq (pc := 15) (tgt := 22) dX4_get_15 (by decide) (fun c_15 => absurd c_15 (by decide)) (fun _ => ?_)
  refine ev_iconst (pc := 18) (v := 1) dX4_get_18 (by decide) ?_
  refine ev_goto (pc := 19) (tgt := 23) dX4_get_19 (by decide) ?_
  refine ev_istore_n (pc := 23) dX4_get_23 rfl rfl rfl ?_
  refine ev_iconst (pc := 24) (v := 0) dX4_get_24 (by decide) ?_
  refine ev_istore (pc := 25) dX4_get_25 rfl rfl ?_
  refine ev_iload_n (pc := 27) dX4_get_27 rfl rfl ?_
  refine ev_if_eq (pc := 28) (tgt := 57) dX4_get_28 (by decide) (fun c_28 => absurd c_28 (by decide)) (fun _ => ?_)
  refine ev_aload_n (pc := 31) dX4_get_31 rfl rfl ?_
  refine ev_aload_n (pc := 32) dX4_get_32 rfl rfl ?_
  refine ev_iload_n (pc := 33) dX4_get_33 rfl rfl ?_
  refine cV1 (pc := 34) lk_X4_get_34 rfl rfl rfl (Nat.le_of_ble_eq_true rfl) ⟨Nat.le_of_ble_eq_true rfl, Nat.le_of_ble_eq_true rfl⟩ (s_top hop hbd hro hbb hv) ?_
  refine ev_iload_n (pc := 37) dX4_get_37 rfl rfl ?_
  refine cV2 (pc := 38) lk_X4_get_38 rfl rfl rfl (Nat.le_of_ble_eq_true rfl) ⟨Nat.le_of_ble_eq_true rfl, Nat.le_of_ble_eq_true rfl⟩ e1 ?_
  refine ev_aload_n (pc := 41) dX4_get_41 rfl rfl ?_
  refine ev_aload_n (pc := 42) dX4_get_42 rfl rfl ?_
  refine ev_get (pc := 43) dX4_get_43 fd_X4_46 rfl rfl ?_
  refine ev_aload_n (pc := 46) dX4_get_46 rfl rfl ?_
  refine ev_get (pc := 47) dX4_get_47 fd_X4_91 rfl rfl ?_
  refine ev_ialdN (pc := 50) dX4_get_50 rfl ⟨rfl, by omega, by decide⟩ hyd ?_
  refine ev_iload_n (pc := 51) dX4_get_51 rfl rfl ?_
  refine cV2 (pc := 52) lk_X4_get_52 rfl rfl rfl (Nat.le_of_ble_eq_true rfl) ⟨Nat.le_of_ble_eq_true rfl, Nat.le_of_ble_eq_true rfl⟩ e2 ?_
  refine ev_istore (pc := 55) dX4_get_55 rfl rfl ?_
  refine ev_aload_n (pc := 57) dX4_get_57 rfl rfl ?_
  refine ev_aload_n (pc := 58) dX4_get_58 rfl rfl ?_
  refine ev_iload_n (pc := 59) dX4_get_59 rfl rfl ?_
  refine cV1 (pc := 60) lk_X4_get_60 rfl rfl rfl (Nat.le_of_ble_eq_true rfl) ⟨Nat.le_of_ble_eq_true rfl, Nat.le_of_ble_eq_true rfl⟩ (s_isVw1 hop hbd hv) ?_
  refine ev_iload_n (pc := 63) dX4_get_63 rfl rfl ?_
  refine ev_iconst (pc := 64) (v := 0) dX4_get_64 (by decide) ?_
  refine ev_bipush (pc := 65) (v := 99) dX4_get_65 (by decide) ?_
  refine cS3 (pc := 67) lk_X4_get_67 (Nat.le_of_ble_eq_true rfl) ⟨Nat.le_of_ble_eq_true rfl, Nat.le_of_ble_eq_true rfl⟩ (s_in1 (nI_pos' (show k < 2147483648 by omega)) hkk) ?_
  refine ev_iload_n (pc := 70) dX4_get_70 rfl rfl ?_
  refine ev_if_eq (pc := 71) (tgt := 97) dX4_get_71 (by decide) (fun c_71 => absurd c_71 (by decide)) (fun _ => ?_)
  refine ev_aload_n (pc := 74) dX4_get_74 rfl rfl ?_
  refine ev_aload_n (pc := 75) dX4_get_75 rfl rfl ?_
  refine ev_get (pc := 76) dX4_get_76 fd_X4_46 rfl rfl ?_
  refine ev_aload_n (pc := 79) dX4_get_79 rfl rfl ?_
  refine ev_get (pc := 80) dX4_get_80 fd_X4_91 rfl rfl ?_
  refine ev_ialdN (pc := 83) dX4_get_83 rfl ⟨rfl, by omega, by decide⟩ hyd ?_
  refine ev_iload (pc := 84) dX4_get_84 rfl ?_
  refine ev_iload_n (pc := 86) dX4_get_86 rfl rfl ?_
  refine cV3 (pc := 87) lk_X4_get_87 rfl rfl rfl (Nat.le_of_ble_eq_true rfl) ⟨Nat.le_of_ble_eq_true rfl, Nat.le_of_ble_eq_true rfl⟩ e3 ?_
  refine ev_if_eq (pc := 90) (tgt := 97) dX4_get_90 (by decide) (fun c_90 => absurd c_90 (by decide)) (fun _ => ?_)
  refine ev_iconst (pc := 93) (v := 1) dX4_get_93 (by decide) ?_
  refine ev_goto (pc := 94) (tgt := 98) dX4_get_94 (by decide) ?_
  refine cV3 (pc := 98) lk_X4_get_98 rfl rfl rfl (Nat.le_of_ble_eq_true rfl) ⟨Nat.le_of_ble_eq_true rfl, Nat.le_of_ble_eq_true rfl⟩ (s_goes (cc := cc) (ep := ep) (ro := ro) (bb := bb) (sl := sl) (th := th) (dp := (nI d)) (many := many) (inn := inn) (item := item) (val := val) (wr := wr) (met := met) (rst := rst) (wds := wds) (opd := opd) (ope := ope) (way := y1) (tk := k1) (tl := tl)) ?_
  refine ev_istore (pc := 101) dX4_get_101 rfl rfl ?_
  refine ev_iload (pc := 103) dX4_get_103 rfl ?_
  refine ev_if_eq (pc := 105) (tgt := 130) dX4_get_105 (by decide) (fun c_105 => absurd c_105 (by decide)) (fun _ => ?_)
  refine ev_aload_n (pc := 108) dX4_get_108 rfl rfl ?_
  refine ev_get (pc := 109) dX4_get_109 fd_X4_20 rfl rfl ?_
  refine ev_iconst (pc := 112) (v := 5) dX4_get_112 (by decide) ?_
  refine ev_aload_n (pc := 113) dX4_get_113 rfl rfl ?_
  refine ev_get (pc := 114) dX4_get_114 fd_X4_46 rfl rfl ?_
  refine ev_aload_n (pc := 117) dX4_get_117 rfl rfl ?_
  refine ev_get (pc := 118) dX4_get_118 fd_X4_91 rfl rfl ?_
  refine ev_ialdN (pc := 121) dX4_get_121 rfl ⟨rfl, by omega, by decide⟩ hyd ?_
  refine ev_imul (pc := 122) dX4_get_122 ?_
  refine ev_iload (pc := 123) dX4_get_123 rfl ?_
  refine ev_iadd (pc := 125) dX4_get_125 ?_
  refine ev_ialdN (pc := 126) dX4_get_126 rfl ⟨(ix5m lf (plc l (nI k))), by omega, by decide⟩ (row_va hva hx) ?_
  refine ev_goto (pc := 127) (tgt := 131) dX4_get_127 (by decide) ?_
  exact ev_iretE (pc := 131) dX4_get_131 rfl ⟨Nat.le_of_ble_eq_true rfl, Nat.le_of_ble_eq_true rfl⟩ rfl rfl
theorem s_mGetT3 {cc : C21} {ep ro bb sl th dp : Int32} {many inn item val wr met rst : Nat → Int32} {wds : Nat → Int64} {opd ope way tk : Nat → Int32} {tl : List mC} (hR : Rm many inn item val T U) (hop : opC opd ope rd) (hbd : bdR c b rd) (hro : ro = nI c.2.1) (hbb : bb = bbC b) {i : Int32} {x : RS3} (hv : vwF c b rd i = some x) {d k lf : Nat} {P : List (Nat × Nat)} {l : List (Nat × Int32)} (hk : k < 100) (hd : d ≤ 6) (hf : fdR T U (nI k) d x.2.1 P lf) (hl : T lf = .inl l) (hx : ¬ hld l (plc l (nI k)) (nI k)) : ∃ way' tk', EvS m_X4_get [.ref 21, .int i, .int (nI k)] (dW cc ep ro bb sl th dp many inn item val wr met rst wds opd ope way tk tl) (.inl (some (.int 0))) (dW cc ep ro bb sl 3 (nI d) many inn item val wr met rst wds opd ope way' tk' tl) := by
  obtain ⟨hu, hPd, -⟩ := fdR_U hf
  obtain ⟨y1, k1, hwy, e1⟩ := s_finds (cc := cc) (ep := ep) (ro := ro) (bb := bb) (sl := sl) (th := th) (dp := dp) (many := many) (inn := inn) (item := item) (val := val) (wr := wr) (met := met) (rst := rst) (wds := wds) (opd := opd) (ope := ope) (way := way) (tk := tk) (tl := tl) hR hf hd
  have hyd : y1 d = nI lf := by
    have h9 := hwy.2
    rw [Nat.zero_add, hPd] at h9
    exact h9
  obtain ⟨hl7, hi, h5, hc, hrow, hva, hk1⟩ := hR.leaf hu hl
  have e2 := s_mPlace (cc := cc) (ep := ep) (ro := ro) (bb := bb) (sl := sl) (th := th) (dp := (nI d)) (many := many) (inn := inn) (item := item) (val := val) (wr := wr) (met := met) (rst := rst) (wds := wds) (opd := opd) (ope := ope) (way := y1) (tk := k1) (tl := tl) hR hu hl (nI k)
  have hpl := plc_le l (nI k)
  have e3 := s_has0 (cc := cc) (ep := ep) (ro := ro) (bb := bb) (sl := sl) (th := th) (dp := (nI d)) (many := many) (inn := inn) (item := item) (val := val) (wr := wr) (met := met) (rst := rst) (wds := wds) (opd := opd) (ope := ope) (way := y1) (tk := k1) (tl := tl) hR hu hl (by omega) hx
  have hkk : nI k ≤ 99 := by exact nI_le (show k ≤ 99 by omega) (by decide)
  refine ⟨y1, k1, ?_⟩
  refine evs_of (by decide +kernel) (Nat.le_of_ble_eq_true rfl) (by decide) rfl rfl ?_
  refine ev_aload_n (pc := 0) dX4_get_0 rfl rfl ?_
  refine ev_iload_n (pc := 1) dX4_get_1 rfl rfl ?_
  refine cV1 (pc := 2) lk_X4_get_2 rfl rfl rfl (Nat.le_of_ble_eq_true rfl) ⟨Nat.le_of_ble_eq_true rfl, Nat.le_of_ble_eq_true rfl⟩ (s_isVw1 hop hbd hv) ?_
  refine ev_if_eq (pc := 5) (tgt := 22) dX4_get_5 (by decide) (fun c_5 => absurd c_5 (by decide)) (fun _ => ?_)
  refine ev_iload_n (pc := 8) dX4_get_8 rfl rfl ?_
  refine ev_iconst (pc := 9) (v := 0) dX4_get_9 (by decide) ?_
  refine ev_bipush (pc := 10) (v := 99) dX4_get_10 (by decide) ?_
  refine cS3 (pc := 12) lk_X4_get_12 (Nat.le_of_ble_eq_true rfl) ⟨Nat.le_of_ble_eq_true rfl, Nat.le_of_ble_eq_true rfl⟩ (s_in1 (nI_pos' (show k < 2147483648 by omega)) hkk) ?_
  refine ev_if_eq (pc := 15) (tgt := 22) dX4_get_15 (by decide) (fun c_15 => absurd c_15 (by decide)) (fun _ => ?_)
  refine ev_iconst (pc := 18) (v := 1) dX4_get_18 (by decide) ?_
  refine ev_goto (pc := 19) (tgt := 23) dX4_get_19 (by decide) ?_
  refine ev_istore_n (pc := 23) dX4_get_23 rfl rfl rfl ?_
  refine ev_iconst (pc := 24) (v := 0) dX4_get_24 (by decide) ?_
  refine ev_istore (pc := 25) dX4_get_25 rfl rfl ?_
  refine ev_iload_n (pc := 27) dX4_get_27 rfl rfl ?_
  refine ev_if_eq (pc := 28) (tgt := 57) dX4_get_28 (by decide) (fun c_28 => absurd c_28 (by decide)) (fun _ => ?_)
  refine ev_aload_n (pc := 31) dX4_get_31 rfl rfl ?_
  refine ev_aload_n (pc := 32) dX4_get_32 rfl rfl ?_
  refine ev_iload_n (pc := 33) dX4_get_33 rfl rfl ?_
  refine cV1 (pc := 34) lk_X4_get_34 rfl rfl rfl (Nat.le_of_ble_eq_true rfl) ⟨Nat.le_of_ble_eq_true rfl, Nat.le_of_ble_eq_true rfl⟩ (s_top hop hbd hro hbb hv) ?_
  refine ev_iload_n (pc := 37) dX4_get_37 rfl rfl ?_
  refine cV2 (pc := 38) lk_X4_get_38 rfl rfl rfl (Nat.le_of_ble_eq_true rfl) ⟨Nat.le_of_ble_eq_true rfl, Nat.le_of_ble_eq_true rfl⟩ e1 ?_
  refine ev_aload_n (pc := 41) dX4_get_41 rfl rfl ?_
  refine ev_aload_n (pc := 42) dX4_get_42 rfl rfl ?_
  refine ev_get (pc := 43) dX4_get_43 fd_X4_46 rfl rfl ?_
  refine ev_aload_n (pc := 46) dX4_get_46 rfl rfl ?_
  refine ev_get (pc := 47) dX4_get_47 fd_X4_91 rfl rfl ?_
  refine ev_ialdN (pc := 50) dX4_get_50 rfl ⟨rfl, by omega, by decide⟩ hyd ?_
  refine ev_iload_n (pc := 51) dX4_get_51 rfl rfl ?_
  refine cV2 (pc := 52) lk_X4_get_52 rfl rfl rfl (Nat.le_of_ble_eq_true rfl) ⟨Nat.le_of_ble_eq_true rfl, Nat.le_of_ble_eq_true rfl⟩ e2 ?_
  refine ev_istore (pc := 55) dX4_get_55 rfl rfl ?_
  refine ev_aload_n (pc := 57) dX4_get_57 rfl rfl ?_
  refine ev_aload_n (pc := 58) dX4_get_58 rfl rfl ?_
  refine ev_iload_n (pc := 59) dX4_get_59 rfl rfl ?_
  refine cV1 (pc := 60) lk_X4_get_60 rfl rfl rfl (Nat.le_of_ble_eq_true rfl) ⟨Nat.le_of_ble_eq_true rfl, Nat.le_of_ble_eq_true rfl⟩ (s_isVw1 hop hbd hv) ?_
  refine ev_iload_n (pc := 63) dX4_get_63 rfl rfl ?_
  refine ev_iconst (pc := 64) (v := 0) dX4_get_64 (by decide) ?_
  refine ev_bipush (pc := 65) (v := 99) dX4_get_65 (by decide) ?_
  refine cS3 (pc := 67) lk_X4_get_67 (Nat.le_of_ble_eq_true rfl) ⟨Nat.le_of_ble_eq_true rfl, Nat.le_of_ble_eq_true rfl⟩ (s_in1 (nI_pos' (show k < 2147483648 by omega)) hkk) ?_
  refine ev_iload_n (pc := 70) dX4_get_70 rfl rfl ?_
  refine ev_if_eq (pc := 71) (tgt := 97) dX4_get_71 (by decide) (fun c_71 => absurd c_71 (by decide)) (fun _ => ?_)
  refine ev_aload_n (pc := 74) dX4_get_74 rfl rfl ?_
  refine ev_aload_n (pc := 75) dX4_get_75 rfl rfl ?_
  refine ev_get (pc := 76) dX4_get_76 fd_X4_46 rfl rfl ?_
  refine ev_aload_n (pc := 79) dX4_get_79 rfl rfl ?_
  refine ev_get (pc := 80) dX4_get_80 fd_X4_91 rfl rfl ?_
  refine ev_ialdN (pc := 83) dX4_get_83 rfl ⟨rfl, by omega, by decide⟩ hyd ?_
  refine ev_iload (pc := 84) dX4_get_84 rfl ?_
  refine ev_iload_n (pc := 86) dX4_get_86 rfl rfl ?_
  refine cV3 (pc := 87) lk_X4_get_87 rfl rfl rfl (Nat.le_of_ble_eq_true rfl) ⟨Nat.le_of_ble_eq_true rfl, Nat.le_of_ble_eq_true rfl⟩ e3 ?_
  refine ev_if_eq (pc := 90) (tgt := 97) dX4_get_90 (by decide) (fun _ => ?_) (fun c_90 => absurd rfl c_90)
  refine ev_iconst (pc := 97) (v := 0) dX4_get_97 (by decide) ?_
  refine cV3 (pc := 98) lk_X4_get_98 rfl rfl rfl (Nat.le_of_ble_eq_true rfl) ⟨Nat.le_of_ble_eq_true rfl, Nat.le_of_ble_eq_true rfl⟩ (s_goesT3 (cc := cc) (ep := ep) (ro := ro) (bb := bb) (sl := sl) (th := th) (dp := (nI d)) (many := many) (inn := inn) (item := item) (val := val) (wr := wr) (met := met) (rst := rst) (wds := wds) (opd := opd) (ope := ope) (way := y1) (tk := k1) (tl := tl)) ?_
  refine ev_istore (pc := 101) dX4_get_101 rfl rfl ?_
  refine ev_iload (pc := 103) dX4_get_103 rfl ?_
  refine ev_if_eq (pc := 105) (tgt := 130) dX4_get_105 (by decide) (fun _ => ?_) (fun c_105 => absurd rfl c_105)
  refine ev_iconst (pc := 130) (v := 0) dX4_get_130 (by decide) ?_
  exact ev_iretE (pc := 131) dX4_get_131 rfl ⟨Nat.le_of_ble_eq_true rfl, Nat.le_of_ble_eq_true rfl⟩ rfl rfl
theorem s_mGetT2 {cc : C21} {ep ro bb sl th dp : Int32} {many inn item val wr met rst : Nat → Int32} {wds : Nat → Int64} {opd ope way tk : Nat → Int32} {tl : List mC} (hop : opC opd ope rd) (hbd : bdR c b rd) {i k : Int32} {x : RS3} (hv : vwF c b rd i = some x) (hk : k < 0 ∨ (99 : Int32) < k) : EvS m_X4_get [.ref 21, .int i, .int k] (dW cc ep ro bb sl th dp many inn item val wr met rst wds opd ope way tk tl) (.inl (some (.int 0))) (dW cc ep ro bb sl 2 dp many inn item val wr met rst wds opd ope way tk tl) := by
  refine evs_of (by decide +kernel) (Nat.le_of_ble_eq_true rfl) (by decide) rfl rfl ?_
  refine ev_aload_n (pc := 0) dX4_get_0 rfl rfl ?_
  refine ev_iload_n (pc := 1) dX4_get_1 rfl rfl ?_
  refine cV1 (pc := 2) lk_X4_get_2 rfl rfl rfl (Nat.le_of_ble_eq_true rfl) ⟨Nat.le_of_ble_eq_true rfl, Nat.le_of_ble_eq_true rfl⟩ (s_isVw1 hop hbd hv) ?_
  refine ev_if_eq (pc := 5) (tgt := 22) dX4_get_5 (by decide) (fun c_5 => absurd c_5 (by decide)) (fun _ => ?_)
  refine ev_iload_n (pc := 8) dX4_get_8 rfl rfl ?_
  refine ev_iconst (pc := 9) (v := 0) dX4_get_9 (by decide) ?_
  refine ev_bipush (pc := 10) (v := 99) dX4_get_10 (by decide) ?_
  refine cS3 (pc := 12) lk_X4_get_12 (Nat.le_of_ble_eq_true rfl) ⟨Nat.le_of_ble_eq_true rfl, Nat.le_of_ble_eq_true rfl⟩ (s_in0 hk) ?_
  refine ev_if_eq (pc := 15) (tgt := 22) dX4_get_15 (by decide) (fun _ => ?_) (fun c_15 => absurd rfl c_15)
  refine ev_iconst (pc := 22) (v := 0) dX4_get_22 (by decide) ?_
  refine ev_istore_n (pc := 23) dX4_get_23 rfl rfl rfl ?_
  refine ev_iconst (pc := 24) (v := 0) dX4_get_24 (by decide) ?_
  refine ev_istore (pc := 25) dX4_get_25 rfl rfl ?_
  refine ev_iload_n (pc := 27) dX4_get_27 rfl rfl ?_
  refine ev_if_eq (pc := 28) (tgt := 57) dX4_get_28 (by decide) (fun _ => ?_) (fun c_28 => absurd rfl c_28)
  refine ev_aload_n (pc := 57) dX4_get_57 rfl rfl ?_
  refine ev_aload_n (pc := 58) dX4_get_58 rfl rfl ?_
  refine ev_iload_n (pc := 59) dX4_get_59 rfl rfl ?_
  refine cV1 (pc := 60) lk_X4_get_60 rfl rfl rfl (Nat.le_of_ble_eq_true rfl) ⟨Nat.le_of_ble_eq_true rfl, Nat.le_of_ble_eq_true rfl⟩ (s_isVw1 hop hbd hv) ?_
  refine ev_iload_n (pc := 63) dX4_get_63 rfl rfl ?_
  refine ev_iconst (pc := 64) (v := 0) dX4_get_64 (by decide) ?_
  refine ev_bipush (pc := 65) (v := 99) dX4_get_65 (by decide) ?_
  refine cS3 (pc := 67) lk_X4_get_67 (Nat.le_of_ble_eq_true rfl) ⟨Nat.le_of_ble_eq_true rfl, Nat.le_of_ble_eq_true rfl⟩ (s_in0 hk) ?_
  refine ev_iload_n (pc := 70) dX4_get_70 rfl rfl ?_
  refine ev_if_eq (pc := 71) (tgt := 97) dX4_get_71 (by decide) (fun _ => ?_) (fun c_71 => absurd rfl c_71)
  refine ev_iconst (pc := 97) (v := 0) dX4_get_97 (by decide) ?_
  refine cV3 (pc := 98) lk_X4_get_98 rfl rfl rfl (Nat.le_of_ble_eq_true rfl) ⟨Nat.le_of_ble_eq_true rfl, Nat.le_of_ble_eq_true rfl⟩ (s_goesT2 (cc := cc) (ep := ep) (ro := ro) (bb := bb) (sl := sl) (th := th) (dp := dp) (many := many) (inn := inn) (item := item) (val := val) (wr := wr) (met := met) (rst := rst) (wds := wds) (opd := opd) (ope := ope) (way := way) (tk := tk) (tl := tl)) ?_
  refine ev_istore (pc := 101) dX4_get_101 rfl rfl ?_
  refine ev_iload (pc := 103) dX4_get_103 rfl ?_
  refine ev_if_eq (pc := 105) (tgt := 130) dX4_get_105 (by decide) (fun _ => ?_) (fun c_105 => absurd rfl c_105)
  refine ev_iconst (pc := 130) (v := 0) dX4_get_130 (by decide) ?_
  exact ev_iretE (pc := 131) dX4_get_131 rfl ⟨Nat.le_of_ble_eq_true rfl, Nat.le_of_ble_eq_true rfl⟩ rfl rfl
theorem s_mGetT1 {cc : C21} {ep ro bb sl th dp : Int32} {many inn item val wr met rst : Nat → Int32} {wds : Nat → Int64} {opd ope way tk : Nat → Int32} {tl : List mC} (hop : opC opd ope rd) {i k : Int32} (hv : vwF c b rd i = none) : EvS m_X4_get [.ref 21, .int i, .int k] (dW cc ep ro bb sl th dp many inn item val wr met rst wds opd ope way tk tl) (.inl (some (.int 0))) (dW cc ep ro bb sl 1 dp many inn item val wr met rst wds opd ope way tk tl) := by
  obtain ⟨v, ei⟩ : ∃ v : Int32, EvS m_X4_in [.int k, .int 0, .int 99] (dW cc ep ro bb sl th dp many inn item val wr met rst wds opd ope way tk tl) (.inl (some (.int v))) (dW cc ep ro bb sl th dp many inn item val wr met rst wds opd ope way tk tl) := by
    by_cases h : k < 0 ∨ (99 : Int32) < k
    · exact ⟨0, s_in0 h⟩
    · exact ⟨1, s_in1 (Int32.not_lt.mp (fun h1 => h (Or.inl h1))) (Int32.not_lt.mp (fun h1 => h (Or.inr h1)))⟩
  refine evs_of (by decide +kernel) (Nat.le_of_ble_eq_true rfl) (by decide) rfl rfl ?_
  refine ev_aload_n (pc := 0) dX4_get_0 rfl rfl ?_
  refine ev_iload_n (pc := 1) dX4_get_1 rfl rfl ?_
  refine cV1 (pc := 2) lk_X4_get_2 rfl rfl rfl (Nat.le_of_ble_eq_true rfl) ⟨Nat.le_of_ble_eq_true rfl, Nat.le_of_ble_eq_true rfl⟩ (s_isVw0 hop hv) ?_
  refine ev_if_eq (pc := 5) (tgt := 22) dX4_get_5 (by decide) (fun _ => ?_) (fun c_5 => absurd rfl c_5)
  refine ev_iconst (pc := 22) (v := 0) dX4_get_22 (by decide) ?_
  refine ev_istore_n (pc := 23) dX4_get_23 rfl rfl rfl ?_
  refine ev_iconst (pc := 24) (v := 0) dX4_get_24 (by decide) ?_
  refine ev_istore (pc := 25) dX4_get_25 rfl rfl ?_
  refine ev_iload_n (pc := 27) dX4_get_27 rfl rfl ?_
  refine ev_if_eq (pc := 28) (tgt := 57) dX4_get_28 (by decide) (fun _ => ?_) (fun c_28 => absurd rfl c_28)
  refine ev_aload_n (pc := 57) dX4_get_57 rfl rfl ?_
  refine ev_aload_n (pc := 58) dX4_get_58 rfl rfl ?_
  refine ev_iload_n (pc := 59) dX4_get_59 rfl rfl ?_
  refine cV1 (pc := 60) lk_X4_get_60 rfl rfl rfl (Nat.le_of_ble_eq_true rfl) ⟨Nat.le_of_ble_eq_true rfl, Nat.le_of_ble_eq_true rfl⟩ (s_isVw0 hop hv) ?_
  refine ev_iload_n (pc := 63) dX4_get_63 rfl rfl ?_
  refine ev_iconst (pc := 64) (v := 0) dX4_get_64 (by decide) ?_
  refine ev_bipush (pc := 65) (v := 99) dX4_get_65 (by decide) ?_
  refine cS3 (pc := 67) lk_X4_get_67 (Nat.le_of_ble_eq_true rfl) ⟨Nat.le_of_ble_eq_true rfl, Nat.le_of_ble_eq_true rfl⟩ ei ?_
  refine ev_iload_n (pc := 70) dX4_get_70 rfl rfl ?_
  refine ev_if_eq (pc := 71) (tgt := 97) dX4_get_71 (by decide) (fun _ => ?_) (fun c_71 => absurd rfl c_71)
  refine ev_iconst (pc := 97) (v := 0) dX4_get_97 (by decide) ?_
  refine cV3 (pc := 98) lk_X4_get_98 rfl rfl rfl (Nat.le_of_ble_eq_true rfl) ⟨Nat.le_of_ble_eq_true rfl, Nat.le_of_ble_eq_true rfl⟩ (s_goesT1 (cc := cc) (ep := ep) (ro := ro) (bb := bb) (sl := sl) (th := th) (dp := dp) (many := many) (inn := inn) (item := item) (val := val) (wr := wr) (met := met) (rst := rst) (wds := wds) (opd := opd) (ope := ope) (way := way) (tk := tk) (tl := tl)) ?_
  refine ev_istore (pc := 101) dX4_get_101 rfl rfl ?_
  refine ev_iload (pc := 103) dX4_get_103 rfl ?_
  refine ev_if_eq (pc := 105) (tgt := 130) dX4_get_105 (by decide) (fun _ => ?_) (fun c_105 => absurd rfl c_105)
  refine ev_iconst (pc := 130) (v := 0) dX4_get_130 (by decide) ?_
  exact ev_iretE (pc := 131) dX4_get_131 rfl ⟨Nat.le_of_ble_eq_true rfl, Nat.le_of_ble_eq_true rfl⟩ rfl rfl
/-- the model's search for the next key: what it finds at each number -/
def nxR (T : Nat → Nd) (U : Nat → Prop) (d p : Nat) (H : Nat → Prop) : Prop := ∀ j, j < 100 → ∃ P lf l, fdR T U (nI j) d p P lf ∧ T lf = .inl l ∧ (hld l (plc l (nI j)) (nI j) ↔ H j)
theorem l_mNext {cc : C21} {ep ro bb sl th dp : Int32} {many inn item val wr met rst : Nat → Int32} {wds : Nat → Int64} {opd ope way tk : Nat → Int32} {tl : List mC} (hR : Rm many inn item val T U) (hop : opC opd ope rd) (hbd : bdR c b rd) (hro : ro = nI c.2.1) (hbb : bb = bbC b) {i a : Int32} {x : RS3} (hv : vwF c b rd i = some x) {d : Nat} (hd : d ≤ 6) {H : Nat → Prop} (hH : nxR T U d x.2.1 H) {k : Nat} (hk : k ≤ 100) (hk1 : k < 100 → H k) {res : Int32} (hres : res = if k < 100 then nI k else -1) : ∀ (m j : Nat) (dp : Int32) (way tk : Nat → Int32), k = j + m → (∀ q, j ≤ q → q < k → ¬ H q) → ∃ dp' way' tk', EvF m_X4_next (mQm m_X4_next (.inl (some (.int res))) (dW cc ep ro bb sl th dp' many inn item val wr met rst wds opd ope way' tk' tl)) 26 [.ref 21, .int i, .int a, .int (nI j)] [] 0 0 (dW cc ep ro bb sl th dp many inn item val wr met rst wds opd ope way tk tl) := by
  intro m
  induction m with
  | zero =>
    intro j dp way tk hj hno
    have : j = k := by omega
    subst this
    by_cases h1 : j < 100
    · obtain ⟨P, lf, l, hf, hl, hh⟩ := hH j h1
      obtain ⟨hu, hPd, -⟩ := fdR_U hf
      obtain ⟨y1, k1, hwy, e1⟩ := s_finds (cc := cc) (ep := ep) (ro := ro) (bb := bb) (sl := sl) (th := th) (dp := dp) (many := many) (inn := inn) (item := item) (val := val) (wr := wr) (met := met) (rst := rst) (wds := wds) (opd := opd) (ope := ope) (way := way) (tk := tk) (tl := tl) hR hf hd
      have hyd : y1 d = nI lf := by
        have h9 := hwy.2
        rw [Nat.zero_add, hPd] at h9
        exact h9
      have e2 := s_mPlace (cc := cc) (ep := ep) (ro := ro) (bb := bb) (sl := sl) (th := th) (dp := (nI d)) (many := many) (inn := inn) (item := item) (val := val) (wr := wr) (met := met) (rst := rst) (wds := wds) (opd := opd) (ope := ope) (way := y1) (tk := k1) (tl := tl) hR hu hl (nI j)
      have e3 := s_has1 (cc := cc) (ep := ep) (ro := ro) (bb := bb) (sl := sl) (th := th) (dp := (nI d)) (many := many) (inn := inn) (item := item) (val := val) (wr := wr) (met := met) (rst := rst) (wds := wds) (opd := opd) (ope := ope) (way := y1) (tk := k1) (tl := tl) hR hu hl (hh.mpr (hk1 h1))
      rw [if_pos h1] at hres
      subst hres
      refine ⟨nI d, y1, k1, ?_⟩
      refine ev_iload_n (pc := 26) dX4_next_26 rfl rfl ?_
      refine ev_bipush (pc := 27) (v := 100) dX4_next_27 (by decide) ?_
      refine ev_ic_ge (pc := 29) (tgt := 81) dX4_next_29 (by decide) (fun c_29 => absurd c_29 (nI_ge h1 (by decide))) (fun _ => ?_)
      refine ev_aload_n (pc := 32) dX4_next_32 rfl rfl ?_
      refine ev_aload_n (pc := 33) dX4_next_33 rfl rfl ?_
      refine ev_iload_n (pc := 34) dX4_next_34 rfl rfl ?_
      refine cV1 (pc := 35) lk_X4_next_35 rfl rfl rfl (Nat.le_of_ble_eq_true rfl) ⟨Nat.le_of_ble_eq_true rfl, Nat.le_of_ble_eq_true rfl⟩ (s_top hop hbd hro hbb hv) ?_
      refine ev_iload_n (pc := 38) dX4_next_38 rfl rfl ?_
      refine cV2 (pc := 39) lk_X4_next_39 rfl rfl rfl (Nat.le_of_ble_eq_true rfl) ⟨Nat.le_of_ble_eq_true rfl, Nat.le_of_ble_eq_true rfl⟩ e1 ?_
      refine ev_aload_n (pc := 42) dX4_next_42 rfl rfl ?_
      refine ev_aload_n (pc := 43) dX4_next_43 rfl rfl ?_
      refine ev_get (pc := 44) dX4_next_44 fd_X4_46 rfl rfl ?_
      refine ev_aload_n (pc := 47) dX4_next_47 rfl rfl ?_
      refine ev_get (pc := 48) dX4_next_48 fd_X4_91 rfl rfl ?_
      refine ev_ialdN (pc := 51) dX4_next_51 rfl ⟨rfl, by omega, by decide⟩ hyd ?_
      refine ev_aload_n (pc := 52) dX4_next_52 rfl rfl ?_
      refine ev_aload_n (pc := 53) dX4_next_53 rfl rfl ?_
      refine ev_get (pc := 54) dX4_next_54 fd_X4_46 rfl rfl ?_
      refine ev_aload_n (pc := 57) dX4_next_57 rfl rfl ?_
      refine ev_get (pc := 58) dX4_next_58 fd_X4_91 rfl rfl ?_
      refine ev_ialdN (pc := 61) dX4_next_61 rfl ⟨rfl, by omega, by decide⟩ hyd ?_
      refine ev_iload_n (pc := 62) dX4_next_62 rfl rfl ?_
      refine cV2 (pc := 63) lk_X4_next_63 rfl rfl rfl (Nat.le_of_ble_eq_true rfl) ⟨Nat.le_of_ble_eq_true rfl, Nat.le_of_ble_eq_true rfl⟩ e2 ?_
      refine ev_iload_n (pc := 66) dX4_next_66 rfl rfl ?_
      refine cV3 (pc := 67) lk_X4_next_67 rfl rfl rfl (Nat.le_of_ble_eq_true rfl) ⟨Nat.le_of_ble_eq_true rfl, Nat.le_of_ble_eq_true rfl⟩ e3 ?_
      refine ev_if_eq (pc := 70) (tgt := 75) dX4_next_70 (by decide) (fun c_70 => absurd c_70 (by decide)) (fun _ => ?_)
      refine ev_iload_n (pc := 73) dX4_next_73 rfl rfl ?_
      exact ev_iretE (pc := 74) dX4_next_74 rfl ⟨Nat.le_of_ble_eq_true rfl, Nat.le_of_ble_eq_true rfl⟩ rfl rfl
    · have h100 : j = 100 := by omega
      subst h100
      rw [if_neg h1] at hres
      subst hres
      refine ⟨dp, way, tk, ?_⟩
      refine ev_iload_n (pc := 26) dX4_next_26 rfl rfl ?_
      refine ev_bipush (pc := 27) (v := 100) dX4_next_27 (by decide) ?_
      refine ev_ic_ge (pc := 29) (tgt := 81) dX4_next_29 (by decide) (fun _ => ?_) (fun c_29 => absurd (by decide) c_29)
      refine ev_iconst (pc := 81) (v := (-1)) dX4_next_81 (by decide) ?_
      exact ev_iretE (pc := 82) dX4_next_82 rfl ⟨Nat.le_of_ble_eq_true rfl, Nat.le_of_ble_eq_true rfl⟩ rfl rfl
  | succ m ih =>
    intro j dp way tk hj hno
    have h1 : j < 100 := by omega
    obtain ⟨P, lf, l, hf, hl, hh⟩ := hH j h1
    obtain ⟨hu, hPd, -⟩ := fdR_U hf
    obtain ⟨y1, k1, hwy, e1⟩ := s_finds (cc := cc) (ep := ep) (ro := ro) (bb := bb) (sl := sl) (th := th) (dp := dp) (many := many) (inn := inn) (item := item) (val := val) (wr := wr) (met := met) (rst := rst) (wds := wds) (opd := opd) (ope := ope) (way := way) (tk := tk) (tl := tl) hR hf hd
    have hyd : y1 d = nI lf := by
      have h9 := hwy.2
      rw [Nat.zero_add, hPd] at h9
      exact h9
    have hpl := plc_le l (nI j)
    have h5 := (hR.leaf hu hl).2.2.1
    have e2 := s_mPlace (cc := cc) (ep := ep) (ro := ro) (bb := bb) (sl := sl) (th := th) (dp := (nI d)) (many := many) (inn := inn) (item := item) (val := val) (wr := wr) (met := met) (rst := rst) (wds := wds) (opd := opd) (ope := ope) (way := y1) (tk := k1) (tl := tl) hR hu hl (nI j)
    have e3 := s_has0 (cc := cc) (ep := ep) (ro := ro) (bb := bb) (sl := sl) (th := th) (dp := (nI d)) (many := many) (inn := inn) (item := item) (val := val) (wr := wr) (met := met) (rst := rst) (wds := wds) (opd := opd) (ope := ope) (way := y1) (tk := k1) (tl := tl) hR hu hl (by omega) (fun h => hno j (Nat.le_refl _) (by omega) (hh.mp h))
    obtain ⟨d2, y2, k2, e4⟩ := ih (j + 1) (nI d) y1 k1 (by omega) (fun q h1 h2 => hno q (by omega) h2)
    refine ⟨d2, y2, k2, ?_⟩
    refine ev_iload_n (pc := 26) dX4_next_26 rfl rfl ?_
    refine ev_bipush (pc := 27) (v := 100) dX4_next_27 (by decide) ?_
    refine ev_ic_ge (pc := 29) (tgt := 81) dX4_next_29 (by decide) (fun c_29 => absurd c_29 (nI_ge h1 (by decide))) (fun _ => ?_)
    refine ev_aload_n (pc := 32) dX4_next_32 rfl rfl ?_
    refine ev_aload_n (pc := 33) dX4_next_33 rfl rfl ?_
    refine ev_iload_n (pc := 34) dX4_next_34 rfl rfl ?_
    refine cV1 (pc := 35) lk_X4_next_35 rfl rfl rfl (Nat.le_of_ble_eq_true rfl) ⟨Nat.le_of_ble_eq_true rfl, Nat.le_of_ble_eq_true rfl⟩ (s_top hop hbd hro hbb hv) ?_
    refine ev_iload_n (pc := 38) dX4_next_38 rfl rfl ?_
    refine cV2 (pc := 39) lk_X4_next_39 rfl rfl rfl (Nat.le_of_ble_eq_true rfl) ⟨Nat.le_of_ble_eq_true rfl, Nat.le_of_ble_eq_true rfl⟩ e1 ?_
    refine ev_aload_n (pc := 42) dX4_next_42 rfl rfl ?_
    refine ev_aload_n (pc := 43) dX4_next_43 rfl rfl ?_
    refine ev_get (pc := 44) dX4_next_44 fd_X4_46 rfl rfl ?_
    refine ev_aload_n (pc := 47) dX4_next_47 rfl rfl ?_
    refine ev_get (pc := 48) dX4_next_48 fd_X4_91 rfl rfl ?_
    refine ev_ialdN (pc := 51) dX4_next_51 rfl ⟨rfl, by omega, by decide⟩ hyd ?_
    refine ev_aload_n (pc := 52) dX4_next_52 rfl rfl ?_
    refine ev_aload_n (pc := 53) dX4_next_53 rfl rfl ?_
    refine ev_get (pc := 54) dX4_next_54 fd_X4_46 rfl rfl ?_
    refine ev_aload_n (pc := 57) dX4_next_57 rfl rfl ?_
    refine ev_get (pc := 58) dX4_next_58 fd_X4_91 rfl rfl ?_
    refine ev_ialdN (pc := 61) dX4_next_61 rfl ⟨rfl, by omega, by decide⟩ hyd ?_
    refine ev_iload_n (pc := 62) dX4_next_62 rfl rfl ?_
    refine cV2 (pc := 63) lk_X4_next_63 rfl rfl rfl (Nat.le_of_ble_eq_true rfl) ⟨Nat.le_of_ble_eq_true rfl, Nat.le_of_ble_eq_true rfl⟩ e2 ?_
    refine ev_iload_n (pc := 66) dX4_next_66 rfl rfl ?_
    refine cV3 (pc := 67) lk_X4_next_67 rfl rfl rfl (Nat.le_of_ble_eq_true rfl) ⟨Nat.le_of_ble_eq_true rfl, Nat.le_of_ble_eq_true rfl⟩ e3 ?_
    refine ev_if_eq (pc := 70) (tgt := 75) dX4_next_70 (by decide) (fun _ => ?_) (fun c_70 => absurd rfl c_70)
    refine ev_iinc (pc := 75) dX4_next_75 rfl rfl rfl ?_
    refine ev_goto (pc := 78) (tgt := 26) dX4_next_78 (by decide) ?_
    rw [nI_i1]
    exact e4
theorem s_mNext {cc : C21} {ep ro bb sl th dp : Int32} {many inn item val wr met rst : Nat → Int32} {wds : Nat → Int64} {opd ope way tk : Nat → Int32} {tl : List mC} (hR : Rm many inn item val T U) (hop : opC opd ope rd) (hbd : bdR c b rd) (hro : ro = nI c.2.1) (hbb : bb = bbC b) {i a : Int32} {x : RS3} (hv : vwF c b rd i = some x) {d : Nat} (hd : d ≤ 6) {H : Nat → Prop} (hH : nxR T U d x.2.1 H) {k : Nat} (hk : k ≤ 100) (hk1 : k < 100 → H k ∧ a ≤ nI k) (hmin : ∀ q, q < k → a ≤ nI q → ¬ H q) {res : Int32} (hres : res = if k < 100 then nI k else -1) : ∃ dp' way' tk', EvS m_X4_next [.ref 21, .int i, .int a] (dW cc ep ro bb sl th dp many inn item val wr met rst wds opd ope way tk tl) (.inl (some (.int res))) (dW cc ep ro bb sl 0 dp' many inn item val wr met rst wds opd ope way' tk' tl) := by
  by_cases h0 : (0 : Int32) ≤ a
  · obtain ⟨j, hj, ha⟩ := nI_of (Int32.not_lt.mpr h0)
    subst ha
    by_cases hjk : j ≤ k
    · obtain ⟨d2, y2, k2, e4⟩ := l_mNext (cc := cc) (ep := ep) (ro := ro) (bb := bb) (sl := sl) (th := 0) (dp := dp) (many := many) (inn := inn) (item := item) (val := val) (wr := wr) (met := met) (rst := rst) (wds := wds) (opd := opd) (ope := ope) (way := way) (tk := tk) (tl := tl) hR hop hbd hro hbb hv (a := nI j) hd hH hk (fun h => (hk1 h).1) hres (k - j) j dp way tk (by omega) (fun q h1 h2 => hmin q h2 (by exact nI_le h1 (by omega)))
      refine ⟨d2, y2, k2, ?_⟩
      refine evs_of (by decide +kernel) (Nat.le_of_ble_eq_true rfl) (by decide) rfl rfl ?_
      refine ev_aload_n (pc := 0) dX4_next_0 rfl rfl ?_
      refine ev_aload_n (pc := 1) dX4_next_1 rfl rfl ?_
      refine ev_iload_n (pc := 2) dX4_next_2 rfl rfl ?_
      refine cV1 (pc := 3) lk_X4_next_3 rfl rfl rfl (Nat.le_of_ble_eq_true rfl) ⟨Nat.le_of_ble_eq_true rfl, Nat.le_of_ble_eq_true rfl⟩ (s_isVw1 hop hbd hv) ?_
      refine ev_iconst (pc := 6) (v := 1) dX4_next_6 (by decide) ?_
      refine ev_iconst (pc := 7) (v := 1) dX4_next_7 (by decide) ?_
      refine cV3 (pc := 8) lk_X4_next_8 rfl rfl rfl (Nat.le_of_ble_eq_true rfl) ⟨Nat.le_of_ble_eq_true rfl, Nat.le_of_ble_eq_true rfl⟩ (s_goes (cc := cc) (ep := ep) (ro := ro) (bb := bb) (sl := sl) (th := th) (dp := dp) (many := many) (inn := inn) (item := item) (val := val) (wr := wr) (met := met) (rst := rst) (wds := wds) (opd := opd) (ope := ope) (way := way) (tk := tk) (tl := tl)) ?_
      refine ev_if_ne (pc := 11) (tgt := 16) dX4_next_11 (by decide) (fun _ => ?_) (fun c_11 => absurd c_11 (by decide))
      refine ev_iload_n (pc := 16) dX4_next_16 rfl rfl ?_
      refine ev_if_ge (pc := 17) (tgt := 24) dX4_next_17 (by decide) (fun _ => ?_) (fun c_17 => absurd h0 c_17)
      refine ev_iload_n (pc := 24) dX4_next_24 rfl rfl ?_
      refine ev_istore_n (pc := 25) dX4_next_25 rfl rfl rfl ?_
      exact e4
    · have hk9 : ¬ k < 100 := fun h => by
        have h2 := (hk1 h).2
        exact absurd ((nI_leI hj (by omega)).mp h2) (by omega)
      rw [if_neg hk9] at hres
      subst hres
      refine ⟨dp, way, tk, ?_⟩
      refine evs_of (by decide +kernel) (Nat.le_of_ble_eq_true rfl) (by decide) rfl rfl ?_
      refine ev_aload_n (pc := 0) dX4_next_0 rfl rfl ?_
      refine ev_aload_n (pc := 1) dX4_next_1 rfl rfl ?_
      refine ev_iload_n (pc := 2) dX4_next_2 rfl rfl ?_
      refine cV1 (pc := 3) lk_X4_next_3 rfl rfl rfl (Nat.le_of_ble_eq_true rfl) ⟨Nat.le_of_ble_eq_true rfl, Nat.le_of_ble_eq_true rfl⟩ (s_isVw1 hop hbd hv) ?_
      refine ev_iconst (pc := 6) (v := 1) dX4_next_6 (by decide) ?_
      refine ev_iconst (pc := 7) (v := 1) dX4_next_7 (by decide) ?_
      refine cV3 (pc := 8) lk_X4_next_8 rfl rfl rfl (Nat.le_of_ble_eq_true rfl) ⟨Nat.le_of_ble_eq_true rfl, Nat.le_of_ble_eq_true rfl⟩ (s_goes (cc := cc) (ep := ep) (ro := ro) (bb := bb) (sl := sl) (th := th) (dp := dp) (many := many) (inn := inn) (item := item) (val := val) (wr := wr) (met := met) (rst := rst) (wds := wds) (opd := opd) (ope := ope) (way := way) (tk := tk) (tl := tl)) ?_
      refine ev_if_ne (pc := 11) (tgt := 16) dX4_next_11 (by decide) (fun _ => ?_) (fun c_11 => absurd c_11 (by decide))
      refine ev_iload_n (pc := 16) dX4_next_16 rfl rfl ?_
      refine ev_if_ge (pc := 17) (tgt := 24) dX4_next_17 (by decide) (fun _ => ?_) (fun c_17 => absurd h0 c_17)
      refine ev_iload_n (pc := 24) dX4_next_24 rfl rfl ?_
      refine ev_istore_n (pc := 25) dX4_next_25 rfl rfl rfl ?_
      refine ev_iload_n (pc := 26) dX4_next_26 rfl rfl ?_
      refine ev_bipush (pc := 27) (v := 100) dX4_next_27 (by decide) ?_
      refine ev_ic_ge (pc := 29) (tgt := 81) dX4_next_29 (by decide) (fun _ => ?_) (fun c_29 => absurd (by exact nI_le (show 100 ≤ j by omega) hj) c_29)
      refine ev_iconst (pc := 81) (v := (-1)) dX4_next_81 (by decide) ?_
      exact ev_iretE (pc := 82) dX4_next_82 rfl ⟨Nat.le_of_ble_eq_true rfl, Nat.le_of_ble_eq_true rfl⟩ rfl rfl
  · have ha : a < 0 := Int32.not_le.mp h0
    obtain ⟨d2, y2, k2, e4⟩ := l_mNext (cc := cc) (ep := ep) (ro := ro) (bb := bb) (sl := sl) (th := 0) (dp := dp) (many := many) (inn := inn) (item := item) (val := val) (wr := wr) (met := met) (rst := rst) (wds := wds) (opd := opd) (ope := ope) (way := way) (tk := tk) (tl := tl) hR hop hbd hro hbb hv (a := a) hd hH hk (fun h => (hk1 h).1) hres k 0 dp way tk (by omega) (fun q h1 h2 => hmin q h2 (Int32.le_trans (Int32.le_of_lt ha) (nI_pos' (show q < 2147483648 by omega))))
    refine ⟨d2, y2, k2, ?_⟩
    refine evs_of (by decide +kernel) (Nat.le_of_ble_eq_true rfl) (by decide) rfl rfl ?_
    refine ev_aload_n (pc := 0) dX4_next_0 rfl rfl ?_
    refine ev_aload_n (pc := 1) dX4_next_1 rfl rfl ?_
    refine ev_iload_n (pc := 2) dX4_next_2 rfl rfl ?_
    refine cV1 (pc := 3) lk_X4_next_3 rfl rfl rfl (Nat.le_of_ble_eq_true rfl) ⟨Nat.le_of_ble_eq_true rfl, Nat.le_of_ble_eq_true rfl⟩ (s_isVw1 hop hbd hv) ?_
    refine ev_iconst (pc := 6) (v := 1) dX4_next_6 (by decide) ?_
    refine ev_iconst (pc := 7) (v := 1) dX4_next_7 (by decide) ?_
    refine cV3 (pc := 8) lk_X4_next_8 rfl rfl rfl (Nat.le_of_ble_eq_true rfl) ⟨Nat.le_of_ble_eq_true rfl, Nat.le_of_ble_eq_true rfl⟩ (s_goes (cc := cc) (ep := ep) (ro := ro) (bb := bb) (sl := sl) (th := th) (dp := dp) (many := many) (inn := inn) (item := item) (val := val) (wr := wr) (met := met) (rst := rst) (wds := wds) (opd := opd) (ope := ope) (way := way) (tk := tk) (tl := tl)) ?_
    refine ev_if_ne (pc := 11) (tgt := 16) dX4_next_11 (by decide) (fun _ => ?_) (fun c_11 => absurd c_11 (by decide))
    refine ev_iload_n (pc := 16) dX4_next_16 rfl rfl ?_
    refine ev_if_ge (pc := 17) (tgt := 24) dX4_next_17 (by decide) (fun c_17 => absurd c_17 h0) (fun _ => ?_)
    refine ev_iconst (pc := 20) (v := 0) dX4_next_20 (by decide) ?_
    refine ev_goto (pc := 21) (tgt := 25) dX4_next_21 (by decide) ?_
    refine ev_istore_n (pc := 25) dX4_next_25 rfl rfl rfl ?_
    exact e4
theorem s_mNextT {cc : C21} {ep ro bb sl th dp : Int32} {many inn item val wr met rst : Nat → Int32} {wds : Nat → Int64} {opd ope way tk : Nat → Int32} {tl : List mC} (hop : opC opd ope rd) {i a : Int32} (hv : vwF c b rd i = none) : EvS m_X4_next [.ref 21, .int i, .int a] (dW cc ep ro bb sl th dp many inn item val wr met rst wds opd ope way tk tl) (.inl (some (.int 0))) (dW cc ep ro bb sl 1 dp many inn item val wr met rst wds opd ope way tk tl) := by
  refine evs_of (by decide +kernel) (Nat.le_of_ble_eq_true rfl) (by decide) rfl rfl ?_
  refine ev_aload_n (pc := 0) dX4_next_0 rfl rfl ?_
  refine ev_aload_n (pc := 1) dX4_next_1 rfl rfl ?_
  refine ev_iload_n (pc := 2) dX4_next_2 rfl rfl ?_
  refine cV1 (pc := 3) lk_X4_next_3 rfl rfl rfl (Nat.le_of_ble_eq_true rfl) ⟨Nat.le_of_ble_eq_true rfl, Nat.le_of_ble_eq_true rfl⟩ (s_isVw0 hop hv) ?_
  refine ev_iconst (pc := 6) (v := 1) dX4_next_6 (by decide) ?_
  refine ev_iconst (pc := 7) (v := 1) dX4_next_7 (by decide) ?_
  refine cV3 (pc := 8) lk_X4_next_8 rfl rfl rfl (Nat.le_of_ble_eq_true rfl) ⟨Nat.le_of_ble_eq_true rfl, Nat.le_of_ble_eq_true rfl⟩ (s_goesT1 (cc := cc) (ep := ep) (ro := ro) (bb := bb) (sl := sl) (th := th) (dp := dp) (many := many) (inn := inn) (item := item) (val := val) (wr := wr) (met := met) (rst := rst) (wds := wds) (opd := opd) (ope := ope) (way := way) (tk := tk) (tl := tl)) ?_
  refine ev_if_ne (pc := 11) (tgt := 16) dX4_next_11 (by decide) (fun c_11 => absurd (by decide) c_11) (fun _ => ?_)
  refine ev_iconst (pc := 14) (v := 0) dX4_next_14 (by decide) ?_
  exact ev_iretE (pc := 15) dX4_next_15 rfl ⟨Nat.le_of_ble_eq_true rfl, Nat.le_of_ble_eq_true rfl⟩ rfl rfl
theorem s_mSharedP {cc : C21} {ep ro bb sl th dp : Int32} {many inn item val wr met rst : Nat → Int32} {wds : Nat → Int64} {opd ope way tk : Nat → Int32} {tl : List mC} (hR : Rm many inn item val T U) (hU : ∀ q, U q → ∀ c ∈ kids (T q), U c) (hop : opC opd ope rd) (hbd : bdR c b rd) (hro : ro = nI c.2.1) (hbb : bb = bbC b) {i j : Int32} {x y : RS3} (hv : vwF c b rd i = some x) (hv2 : vwF c b rd j = some y) {d : Nat} (hux : U x.2.1) (hf : rt T U d y.2.1) (hn : wsm T one1 d y.2.1 ≤ 700) : ∃ met' rst', MS met' (fun q => Rch T x.2.1 q) ∧ EvS m_X4_sharedPages [.ref 21, .int i, .int j] (dW cc ep ro bb sl th dp many inn item val wr met rst wds opd ope way tk tl) (.inl (some (.int (nI (wsm T (mkW met') d y.2.1))))) (dW cc ep ro bb sl 0 dp many inn item val wr met' rst' wds opd ope way tk tl) := by
  obtain ⟨m1, r1, hM1, e1⟩ := s_meets (cc := cc) (ep := ep) (ro := ro) (bb := bb) (sl := sl) (th := 0) (dp := dp) (many := many) (inn := inn) (item := item) (val := val) (wr := wr) (met := (zr met 720)) (rst := rst) (wds := wds) (opd := opd) (ope := ope) (way := way) (tk := tk) (tl := tl) hR hU (M0 := fun _ => False) (fun q hq => hq.elim) MS_zr hux
  obtain ⟨r2, e2⟩ := s_mShared (cc := cc) (ep := ep) (ro := ro) (bb := bb) (sl := sl) (th := 0) (dp := dp) (many := many) (inn := inn) (item := item) (val := val) (wr := wr) (met := m1) (rst := r1) (wds := wds) (opd := opd) (ope := ope) (way := way) (tk := tk) (tl := tl) hR hf hn
  refine ⟨m1, r2, fun q hq => (hM1 q hq).trans ⟨fun h => h.resolve_left id, Or.inr⟩, ?_⟩
  refine evs_of (by decide +kernel) (Nat.le_of_ble_eq_true rfl) (by decide) rfl rfl ?_
  refine ev_aload_n (pc := 0) dX4_sharedPages_0 rfl rfl ?_
  refine ev_aload_n (pc := 1) dX4_sharedPages_1 rfl rfl ?_
  refine ev_iload_n (pc := 2) dX4_sharedPages_2 rfl rfl ?_
  refine cV1 (pc := 3) lk_X4_sharedPages_3 rfl rfl rfl (Nat.le_of_ble_eq_true rfl) ⟨Nat.le_of_ble_eq_true rfl, Nat.le_of_ble_eq_true rfl⟩ (s_isVw1 hop hbd hv) ?_
  refine ev_if_eq (pc := 6) (tgt := 21) dX4_sharedPages_6 (by decide) (fun c_6 => absurd c_6 (by decide)) (fun _ => ?_)
  refine ev_aload_n (pc := 9) dX4_sharedPages_9 rfl rfl ?_
  refine ev_iload_n (pc := 10) dX4_sharedPages_10 rfl rfl ?_
  refine cV1 (pc := 11) lk_X4_sharedPages_11 rfl rfl rfl (Nat.le_of_ble_eq_true rfl) ⟨Nat.le_of_ble_eq_true rfl, Nat.le_of_ble_eq_true rfl⟩ (s_isVw1 hop hbd hv2) ?_
  refine ev_if_eq (pc := 14) (tgt := 21) dX4_sharedPages_14 (by decide) (fun c_14 => absurd c_14 (by decide)) (fun _ => ?_)
  refine ev_iconst (pc := 17) (v := 1) dX4_sharedPages_17 (by decide) ?_
  refine ev_goto (pc := 18) (tgt := 22) dX4_sharedPages_18 (by decide) ?_
  refine ev_iconst (pc := 22) (v := 1) dX4_sharedPages_22 (by decide) ?_
  refine ev_iconst (pc := 23) (v := 1) dX4_sharedPages_23 (by decide) ?_
  refine cV3 (pc := 24) lk_X4_sharedPages_24 rfl rfl rfl (Nat.le_of_ble_eq_true rfl) ⟨Nat.le_of_ble_eq_true rfl, Nat.le_of_ble_eq_true rfl⟩ (s_goes (cc := cc) (ep := ep) (ro := ro) (bb := bb) (sl := sl) (th := th) (dp := dp) (many := many) (inn := inn) (item := item) (val := val) (wr := wr) (met := met) (rst := rst) (wds := wds) (opd := opd) (ope := ope) (way := way) (tk := tk) (tl := tl)) ?_
  refine ev_if_ne (pc := 27) (tgt := 32) dX4_sharedPages_27 (by decide) (fun _ => ?_) (fun c_27 => absurd c_27 (by decide))
  refine ev_aload_n (pc := 32) dX4_sharedPages_32 rfl rfl ?_
  refine cV0 (pc := 33) lk_X4_sharedPages_33 rfl rfl rfl (Nat.le_of_ble_eq_true rfl) ⟨Nat.le_of_ble_eq_true rfl, Nat.le_of_ble_eq_true rfl⟩ (s_forgets (cc := cc) (ep := ep) (ro := ro) (bb := bb) (sl := sl) (th := 0) (dp := dp) (many := many) (inn := inn) (item := item) (val := val) (wr := wr) (met := met) (rst := rst) (wds := wds) (opd := opd) (ope := ope) (way := way) (tk := tk) (tl := tl)) ?_
  refine ev_aload_n (pc := 36) dX4_sharedPages_36 rfl rfl ?_
  refine ev_aload_n (pc := 37) dX4_sharedPages_37 rfl rfl ?_
  refine ev_iload_n (pc := 38) dX4_sharedPages_38 rfl rfl ?_
  refine cV1 (pc := 39) lk_X4_sharedPages_39 rfl rfl rfl (Nat.le_of_ble_eq_true rfl) ⟨Nat.le_of_ble_eq_true rfl, Nat.le_of_ble_eq_true rfl⟩ (s_top hop hbd hro hbb hv) ?_
  refine cV1 (pc := 42) lk_X4_sharedPages_42 rfl rfl rfl (Nat.le_of_ble_eq_true rfl) ⟨Nat.le_of_ble_eq_true rfl, Nat.le_of_ble_eq_true rfl⟩ e1 ?_
  refine ev_aload_n (pc := 45) dX4_sharedPages_45 rfl rfl ?_
  refine ev_aload_n (pc := 46) dX4_sharedPages_46 rfl rfl ?_
  refine ev_iload_n (pc := 47) dX4_sharedPages_47 rfl rfl ?_
  refine cV1 (pc := 48) lk_X4_sharedPages_48 rfl rfl rfl (Nat.le_of_ble_eq_true rfl) ⟨Nat.le_of_ble_eq_true rfl, Nat.le_of_ble_eq_true rfl⟩ (s_top hop hbd hro hbb hv2) ?_
  refine cV1 (pc := 51) lk_X4_sharedPages_51 rfl rfl rfl (Nat.le_of_ble_eq_true rfl) ⟨Nat.le_of_ble_eq_true rfl, Nat.le_of_ble_eq_true rfl⟩ e2 ?_
  exact ev_iretE (pc := 54) dX4_sharedPages_54 rfl ⟨Nat.le_of_ble_eq_true rfl, Nat.le_of_ble_eq_true rfl⟩ rfl rfl
theorem s_mSharedT {cc : C21} {ep ro bb sl th dp : Int32} {many inn item val wr met rst : Nat → Int32} {wds : Nat → Int64} {opd ope way tk : Nat → Int32} {tl : List mC} (hop : opC opd ope rd) (hbd : bdR c b rd) {i j : Int32} (h : vwF c b rd i = none ∨ (∃ x, vwF c b rd i = some x) ∧ vwF c b rd j = none) : EvS m_X4_sharedPages [.ref 21, .int i, .int j] (dW cc ep ro bb sl th dp many inn item val wr met rst wds opd ope way tk tl) (.inl (some (.int 0))) (dW cc ep ro bb sl 1 dp many inn item val wr met rst wds opd ope way tk tl) := by
  rcases h with h | ⟨⟨x, hx⟩, h⟩
  · refine evs_of (by decide +kernel) (Nat.le_of_ble_eq_true rfl) (by decide) rfl rfl ?_
    refine ev_aload_n (pc := 0) dX4_sharedPages_0 rfl rfl ?_
    refine ev_aload_n (pc := 1) dX4_sharedPages_1 rfl rfl ?_
    refine ev_iload_n (pc := 2) dX4_sharedPages_2 rfl rfl ?_
    refine cV1 (pc := 3) lk_X4_sharedPages_3 rfl rfl rfl (Nat.le_of_ble_eq_true rfl) ⟨Nat.le_of_ble_eq_true rfl, Nat.le_of_ble_eq_true rfl⟩ (s_isVw0 hop h) ?_
    refine ev_if_eq (pc := 6) (tgt := 21) dX4_sharedPages_6 (by decide) (fun _ => ?_) (fun c_6 => absurd rfl c_6)
    refine ev_iconst (pc := 21) (v := 0) dX4_sharedPages_21 (by decide) ?_
    refine ev_iconst (pc := 22) (v := 1) dX4_sharedPages_22 (by decide) ?_
    refine ev_iconst (pc := 23) (v := 1) dX4_sharedPages_23 (by decide) ?_
    refine cV3 (pc := 24) lk_X4_sharedPages_24 rfl rfl rfl (Nat.le_of_ble_eq_true rfl) ⟨Nat.le_of_ble_eq_true rfl, Nat.le_of_ble_eq_true rfl⟩ (s_goesT1 (cc := cc) (ep := ep) (ro := ro) (bb := bb) (sl := sl) (th := th) (dp := dp) (many := many) (inn := inn) (item := item) (val := val) (wr := wr) (met := met) (rst := rst) (wds := wds) (opd := opd) (ope := ope) (way := way) (tk := tk) (tl := tl)) ?_
    refine ev_if_ne (pc := 27) (tgt := 32) dX4_sharedPages_27 (by decide) (fun c_27 => absurd (by decide) c_27) (fun _ => ?_)
    refine ev_iconst (pc := 30) (v := 0) dX4_sharedPages_30 (by decide) ?_
    exact ev_iretE (pc := 31) dX4_sharedPages_31 rfl ⟨Nat.le_of_ble_eq_true rfl, Nat.le_of_ble_eq_true rfl⟩ rfl rfl
  · refine evs_of (by decide +kernel) (Nat.le_of_ble_eq_true rfl) (by decide) rfl rfl ?_
    refine ev_aload_n (pc := 0) dX4_sharedPages_0 rfl rfl ?_
    refine ev_aload_n (pc := 1) dX4_sharedPages_1 rfl rfl ?_
    refine ev_iload_n (pc := 2) dX4_sharedPages_2 rfl rfl ?_
    refine cV1 (pc := 3) lk_X4_sharedPages_3 rfl rfl rfl (Nat.le_of_ble_eq_true rfl) ⟨Nat.le_of_ble_eq_true rfl, Nat.le_of_ble_eq_true rfl⟩ (s_isVw1 hop hbd hx) ?_
    refine ev_if_eq (pc := 6) (tgt := 21) dX4_sharedPages_6 (by decide) (fun c_6 => absurd c_6 (by decide)) (fun _ => ?_)
    refine ev_aload_n (pc := 9) dX4_sharedPages_9 rfl rfl ?_
    refine ev_iload_n (pc := 10) dX4_sharedPages_10 rfl rfl ?_
    refine cV1 (pc := 11) lk_X4_sharedPages_11 rfl rfl rfl (Nat.le_of_ble_eq_true rfl) ⟨Nat.le_of_ble_eq_true rfl, Nat.le_of_ble_eq_true rfl⟩ (s_isVw0 hop h) ?_
    refine ev_if_eq (pc := 14) (tgt := 21) dX4_sharedPages_14 (by decide) (fun _ => ?_) (fun c_14 => absurd rfl c_14)
    refine ev_iconst (pc := 21) (v := 0) dX4_sharedPages_21 (by decide) ?_
    refine ev_iconst (pc := 22) (v := 1) dX4_sharedPages_22 (by decide) ?_
    refine ev_iconst (pc := 23) (v := 1) dX4_sharedPages_23 (by decide) ?_
    refine cV3 (pc := 24) lk_X4_sharedPages_24 rfl rfl rfl (Nat.le_of_ble_eq_true rfl) ⟨Nat.le_of_ble_eq_true rfl, Nat.le_of_ble_eq_true rfl⟩ (s_goesT1 (cc := cc) (ep := ep) (ro := ro) (bb := bb) (sl := sl) (th := th) (dp := dp) (many := many) (inn := inn) (item := item) (val := val) (wr := wr) (met := met) (rst := rst) (wds := wds) (opd := opd) (ope := ope) (way := way) (tk := tk) (tl := tl)) ?_
    refine ev_if_ne (pc := 27) (tgt := 32) dX4_sharedPages_27 (by decide) (fun c_27 => absurd (by decide) c_27) (fun _ => ?_)
    refine ev_iconst (pc := 30) (v := 0) dX4_sharedPages_30 (by decide) ?_
    exact ev_iretE (pc := 31) dX4_sharedPages_31 rfl ⟨Nat.le_of_ble_eq_true rfl, Nat.le_of_ble_eq_true rfl⟩ rfl rfl
end M13
