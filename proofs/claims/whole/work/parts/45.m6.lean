/-! the model: moving, splitting, put -/
section M6
variable {K U : Nat → Prop} {c : RS3} {so rd : Nat → Option RS3}
theorem l_movesL {cc : C21} {ep ro bb sl th dp : Int32} {many inn item val wr met rst : Nat → Int32} {wds : Nat → Int64} {opd ope way tk : Nat → Int32} {tl : List mC} {p q fr : Nat} {l : List (Nat × Int32)} (hpq : p ≠ q) (hu : U p) (huq : U q) (hfr : fr ≤ l.length) : ∀ (rem done r : List (Nat × Int32)) (many item val : Nat → Int32) (T : Nat → Nd), Rm many inn item val T U → T p = .inl l → T q = .inl r → l = done ++ rem → r.length + rem.length ≤ 5 → ∃ many' item' val', Rm many' inn item' val' (upT (upT T q (.inl (r ++ rem))) p (.inl (l.take fr))) U ∧ EvF m_X4_moves (mQm m_X4_moves (.inl none) (dW cc ep ro bb sl th dp many' inn item' val' wr met rst wds opd ope way tk tl)) 3 [.ref 21, .int (nI p), .int (nI fr), .int (nI q), .int (nI done.length)] [] 0 0 (dW cc ep ro bb sl th dp many inn item val wr met rst wds opd ope way tk tl) := by
  intro rem
  induction rem with
  | nil =>
    intro done r many item val T hR hp hq hl h5
    rw [List.append_nil] at hl
    subst hl
    obtain ⟨hp7, hi, hl5, hc, -⟩ := hR.leaf hu hp
    have h1 := Rm_cut hR hu (k := fr) (by rw [hp]; exact hfr)
    rw [hp] at h1
    refine ⟨upd many p (nI fr), item, val, ?_, ?_⟩
    · rw [List.append_nil, upT_same hq]
      exact h1
    · refine ev_iload (pc := 3) dX4_moves_3 rfl ?_
      refine ev_aload_n (pc := 5) dX4_moves_5 rfl rfl ?_
      refine ev_get (pc := 6) dX4_moves_6 fd_X4_7 rfl rfl ?_
      refine ev_iload_n (pc := 9) dX4_moves_9 rfl rfl ?_
      refine ev_ialdN (pc := 10) dX4_moves_10 rfl ⟨rfl, hp7, by decide⟩ hc ?_
      refine ev_ic_ge (pc := 11) (tgt := 53) dX4_moves_11 (by decide) (fun _ => ?_) (fun c_11 => absurd (by exact nI_le (Nat.le_refl _) (by omega)) c_11)
      refine ev_aload_n (pc := 53) dX4_moves_53 rfl rfl ?_
      refine ev_get (pc := 54) dX4_moves_54 fd_X4_7 rfl rfl ?_
      refine ev_iload_n (pc := 57) dX4_moves_57 rfl rfl ?_
      refine ev_iload_n (pc := 58) dX4_moves_58 rfl rfl ?_
      refine ev_iastN (pc := 59) dX4_moves_59 rfl ⟨rfl, hp7, by decide⟩ rfl rfl ?_
      exact ev_vretE (pc := 60) dX4_moves_60 rfl ⟨Nat.le_of_ble_eq_true rfl, Nat.le_of_ble_eq_true rfl⟩ rfl
  | cons x rem ih =>
    intro done r many item val T hR hp hq hl h5
    obtain ⟨hp7, hi, hl5, hc, hr, hv, hk⟩ := hR.leaf hu hp
    obtain ⟨hq7, hiq, -, hcq, -⟩ := hR.leaf huq hq
    have hlt : done.length < l.length := by rw [hl]; simp
    have hx : l[done.length]? = some x := by rw [hl, List.getElem?_append_right (Nat.le_refl _), Nat.sub_self]; rfl
    have hr5 : r.length + (rem.length + 1) ≤ 5 := h5
    have h1 := Rm_insL hR huq hq (Nat.le_refl r.length) (by omega) (x := x) (hk x (List.mem_of_getElem? hx))
    rw [List.take_length, List.drop_length] at h1
    obtain ⟨m1, i1, v1, hR1, e1⟩ := ih (done ++ [x]) (r ++ [x]) _ _ _ _ h1 (by rw [upT_n hpq, hp]) (upT_s _ _ _) (by rw [hl]; simp) (by simp; omega)
    rw [upT_upT] at hR1
    rw [List.append_assoc, List.singleton_append] at hR1
    rw [List.length_append, List.length_singleton] at e1
    refine ⟨m1, i1, v1, hR1, ?_⟩
    refine ev_iload (pc := 3) dX4_moves_3 rfl ?_
    refine ev_aload_n (pc := 5) dX4_moves_5 rfl rfl ?_
    refine ev_get (pc := 6) dX4_moves_6 fd_X4_7 rfl rfl ?_
    refine ev_iload_n (pc := 9) dX4_moves_9 rfl rfl ?_
    refine ev_ialdN (pc := 10) dX4_moves_10 rfl ⟨rfl, hp7, by decide⟩ hc ?_
    refine ev_ic_ge (pc := 11) (tgt := 53) dX4_moves_11 (by decide) (fun c_11 => absurd c_11 (nI_ge hlt (by omega))) (fun _ => ?_)
    refine ev_aload_n (pc := 14) dX4_moves_14 rfl rfl ?_
    refine ev_iload_n (pc := 15) dX4_moves_15 rfl rfl ?_
    refine ev_aload_n (pc := 16) dX4_moves_16 rfl rfl ?_
    refine ev_get (pc := 17) dX4_moves_17 fd_X4_7 rfl rfl ?_
    refine ev_iload_n (pc := 20) dX4_moves_20 rfl rfl ?_
    refine ev_ialdN (pc := 21) dX4_moves_21 rfl ⟨rfl, hq7, by decide⟩ hcq ?_
    refine ev_aload_n (pc := 22) dX4_moves_22 rfl rfl ?_
    refine ev_get (pc := 23) dX4_moves_23 fd_X4_17 rfl rfl ?_
    refine ev_iconst (pc := 26) (v := 5) dX4_moves_26 (by decide) ?_
    refine ev_iload_n (pc := 27) dX4_moves_27 rfl rfl ?_
    refine ev_imul (pc := 28) dX4_moves_28 ?_
    refine ev_iload (pc := 29) dX4_moves_29 rfl ?_
    refine ev_iadd (pc := 31) dX4_moves_31 ?_
    refine ev_ialdN (pc := 32) dX4_moves_32 rfl ⟨(ix5m p done.length), by omega, by decide⟩ (row_ky hr hx) ?_
    refine ev_aload_n (pc := 33) dX4_moves_33 rfl rfl ?_
    refine ev_get (pc := 34) dX4_moves_34 fd_X4_20 rfl rfl ?_
    refine ev_iconst (pc := 37) (v := 5) dX4_moves_37 (by decide) ?_
    refine ev_iload_n (pc := 38) dX4_moves_38 rfl rfl ?_
    refine ev_imul (pc := 39) dX4_moves_39 ?_
    refine ev_iload (pc := 40) dX4_moves_40 rfl ?_
    refine ev_iadd (pc := 42) dX4_moves_42 ?_
    refine ev_ialdN (pc := 43) dX4_moves_43 rfl ⟨(ix5m p done.length), by omega, by decide⟩ (row_va hv hx) ?_
    refine cV4 (pc := 44) lk_X4_moves_44 rfl rfl rfl (Nat.le_of_ble_eq_true rfl) ⟨Nat.le_of_ble_eq_true rfl, Nat.le_of_ble_eq_true rfl⟩ (s_lays hq7 hcq (Nat.le_refl _) (by omega)) ?_
    refine ev_iinc (pc := 47) dX4_moves_47 rfl rfl rfl ?_
    refine ev_goto (pc := 50) (tgt := 3) dX4_moves_50 (by decide) ?_
    rw [nI_i1]
    exact e1
theorem l_movesI {cc : C21} {ep ro bb sl th dp : Int32} {many inn item val wr met rst : Nat → Int32} {wds : Nat → Int64} {opd ope way tk : Nat → Int32} {tl : List mC} {p q fr : Nat} {l : List Nat} (hpq : p ≠ q) (hu : U p) (huq : U q) (hfr : fr ≤ l.length) : ∀ (rem done r : List Nat) (many item val : Nat → Int32) (T : Nat → Nd), Rm many inn item val T U → T p = .inr l → T q = .inr r → l = done ++ rem → r.length + rem.length ≤ 5 → ∃ many' item' val', Rm many' inn item' val' (upT (upT T q (.inr (r ++ rem))) p (.inr (l.take fr))) U ∧ EvF m_X4_moves (mQm m_X4_moves (.inl none) (dW cc ep ro bb sl th dp many' inn item' val' wr met rst wds opd ope way tk tl)) 3 [.ref 21, .int (nI p), .int (nI fr), .int (nI q), .int (nI done.length)] [] 0 0 (dW cc ep ro bb sl th dp many inn item val wr met rst wds opd ope way tk tl) := by
  intro rem
  induction rem with
  | nil =>
    intro done r many item val T hR hp hq hl h5
    rw [List.append_nil] at hl
    subst hl
    obtain ⟨hp7, hi, hl5, hc, -⟩ := hR.inner hu hp
    have h1 := Rm_cut hR hu (k := fr) (by rw [hp]; exact hfr)
    rw [hp] at h1
    refine ⟨upd many p (nI fr), item, val, ?_, ?_⟩
    · rw [List.append_nil, upT_same hq]
      exact h1
    · refine ev_iload (pc := 3) dX4_moves_3 rfl ?_
      refine ev_aload_n (pc := 5) dX4_moves_5 rfl rfl ?_
      refine ev_get (pc := 6) dX4_moves_6 fd_X4_7 rfl rfl ?_
      refine ev_iload_n (pc := 9) dX4_moves_9 rfl rfl ?_
      refine ev_ialdN (pc := 10) dX4_moves_10 rfl ⟨rfl, hp7, by decide⟩ hc ?_
      refine ev_ic_ge (pc := 11) (tgt := 53) dX4_moves_11 (by decide) (fun _ => ?_) (fun c_11 => absurd (by exact nI_le (Nat.le_refl _) (by omega)) c_11)
      refine ev_aload_n (pc := 53) dX4_moves_53 rfl rfl ?_
      refine ev_get (pc := 54) dX4_moves_54 fd_X4_7 rfl rfl ?_
      refine ev_iload_n (pc := 57) dX4_moves_57 rfl rfl ?_
      refine ev_iload_n (pc := 58) dX4_moves_58 rfl rfl ?_
      refine ev_iastN (pc := 59) dX4_moves_59 rfl ⟨rfl, hp7, by decide⟩ rfl rfl ?_
      exact ev_vretE (pc := 60) dX4_moves_60 rfl ⟨Nat.le_of_ble_eq_true rfl, Nat.le_of_ble_eq_true rfl⟩ rfl
  | cons x rem ih =>
    intro done r many item val T hR hp hq hl h5
    obtain ⟨hp7, hi, hl5, hc, hr, hk⟩ := hR.inner hu hp
    obtain ⟨hq7, hiq, -, hcq, -⟩ := hR.inner huq hq
    have hlt : done.length < l.length := by rw [hl]; simp
    have hx : l[done.length]? = some x := by rw [hl, List.getElem?_append_right (Nat.le_refl _), Nat.sub_self]; rfl
    have hr5 : r.length + (rem.length + 1) ≤ 5 := h5
    have h1 := Rm_insI hR huq hq (Nat.le_refl r.length) (by omega) (v := val (5 * p + done.length)) (hk x (List.mem_of_getElem? hx))
    rw [List.take_length, List.drop_length] at h1
    obtain ⟨m1, i1, v1, hR1, e1⟩ := ih (done ++ [x]) (r ++ [x]) _ _ _ _ h1 (by rw [upT_n hpq, hp]) (upT_s _ _ _) (by rw [hl]; simp) (by simp; omega)
    rw [upT_upT] at hR1
    rw [List.append_assoc, List.singleton_append] at hR1
    rw [List.length_append, List.length_singleton] at e1
    refine ⟨m1, i1, v1, hR1, ?_⟩
    refine ev_iload (pc := 3) dX4_moves_3 rfl ?_
    refine ev_aload_n (pc := 5) dX4_moves_5 rfl rfl ?_
    refine ev_get (pc := 6) dX4_moves_6 fd_X4_7 rfl rfl ?_
    refine ev_iload_n (pc := 9) dX4_moves_9 rfl rfl ?_
    refine ev_ialdN (pc := 10) dX4_moves_10 rfl ⟨rfl, hp7, by decide⟩ hc ?_
    refine ev_ic_ge (pc := 11) (tgt := 53) dX4_moves_11 (by decide) (fun c_11 => absurd c_11 (nI_ge hlt (by omega))) (fun _ => ?_)
    refine ev_aload_n (pc := 14) dX4_moves_14 rfl rfl ?_
    refine ev_iload_n (pc := 15) dX4_moves_15 rfl rfl ?_
    refine ev_aload_n (pc := 16) dX4_moves_16 rfl rfl ?_
    refine ev_get (pc := 17) dX4_moves_17 fd_X4_7 rfl rfl ?_
    refine ev_iload_n (pc := 20) dX4_moves_20 rfl rfl ?_
    refine ev_ialdN (pc := 21) dX4_moves_21 rfl ⟨rfl, hq7, by decide⟩ hcq ?_
    refine ev_aload_n (pc := 22) dX4_moves_22 rfl rfl ?_
    refine ev_get (pc := 23) dX4_moves_23 fd_X4_17 rfl rfl ?_
    refine ev_iconst (pc := 26) (v := 5) dX4_moves_26 (by decide) ?_
    refine ev_iload_n (pc := 27) dX4_moves_27 rfl rfl ?_
    refine ev_imul (pc := 28) dX4_moves_28 ?_
    refine ev_iload (pc := 29) dX4_moves_29 rfl ?_
    refine ev_iadd (pc := 31) dX4_moves_31 ?_
    refine ev_ialdN (pc := 32) dX4_moves_32 rfl ⟨(ix5m p done.length), by omega, by decide⟩ (row_ch hr hx) ?_
    refine ev_aload_n (pc := 33) dX4_moves_33 rfl rfl ?_
    refine ev_get (pc := 34) dX4_moves_34 fd_X4_20 rfl rfl ?_
    refine ev_iconst (pc := 37) (v := 5) dX4_moves_37 (by decide) ?_
    refine ev_iload_n (pc := 38) dX4_moves_38 rfl rfl ?_
    refine ev_imul (pc := 39) dX4_moves_39 ?_
    refine ev_iload (pc := 40) dX4_moves_40 rfl ?_
    refine ev_iadd (pc := 42) dX4_moves_42 ?_
    refine ev_ialdN (pc := 43) dX4_moves_43 rfl ⟨(ix5m p done.length), by omega, by decide⟩ rfl ?_
    refine cV4 (pc := 44) lk_X4_moves_44 rfl rfl rfl (Nat.le_of_ble_eq_true rfl) ⟨Nat.le_of_ble_eq_true rfl, Nat.le_of_ble_eq_true rfl⟩ (s_lays hq7 hcq (Nat.le_refl _) (by omega)) ?_
    refine ev_iinc (pc := 47) dX4_moves_47 rfl rfl rfl ?_
    refine ev_goto (pc := 50) (tgt := 3) dX4_moves_50 (by decide) ?_
    rw [nI_i1]
    exact e1
theorem s_moves {cc : C21} {ep ro bb sl th dp : Int32} {many inn item val wr met rst : Nat → Int32} {wds : Nat → Int64} {opd ope way tk : Nat → Int32} {tl : List mC} {T : Nat → Nd} (hR : Rm many inn item val T U) {p q fr : Nat} (hpq : p ≠ q) (hu : U p) (huq : U q) (hk : nLf (T p) ↔ nLf (T q)) (hfr : fr ≤ nlen (T p)) (h5 : nlen (T q) + (nlen (T p) - fr) ≤ 5) : ∃ many' item' val', Rm many' inn item' val' (upT (upT T q (nApp (T q) (nDrop (T p) fr))) p (nTake (T p) fr)) U ∧ EvS m_X4_moves [.ref 21, .int (nI p), .int (nI fr), .int (nI q)] (dW cc ep ro bb sl th dp many inn item val wr met rst wds opd ope way tk tl) (.inl none) (dW cc ep ro bb sl th dp many' inn item' val' wr met rst wds opd ope way tk tl) := by
  cases hp : T p with
  | inl l =>
    obtain ⟨r, hr⟩ := hk.mp ⟨l, hp⟩
    rw [hp] at hfr h5
    rw [hr] at h5
    simp only [nlen] at hfr h5
    obtain ⟨m1, i1, v1, hR1, e1⟩ := l_movesL (cc := cc) (ep := ep) (ro := ro) (bb := bb) (sl := sl) (th := th) (dp := dp) (many := many) (inn := inn) (item := item) (val := val) (wr := wr) (met := met) (rst := rst) (wds := wds) (opd := opd) (ope := ope) (way := way) (tk := tk) (tl := tl) hpq hu huq hfr (l.drop fr) (l.take fr) r many item val T hR hp hr (List.take_append_drop fr l).symm (by rw [List.length_drop]; exact h5)
    rw [List.length_take, Nat.min_eq_left hfr] at e1
    rw [hr]
    refine ⟨m1, i1, v1, hR1, ?_⟩
    refine evs_of (by decide +kernel) (Nat.le_of_ble_eq_true rfl) (by decide) rfl rfl ?_
    refine ev_iload_n (pc := 0) dX4_moves_0 rfl rfl ?_
    refine ev_istore (pc := 1) dX4_moves_1 rfl rfl ?_
    exact e1
  | inr l =>
    obtain ⟨r, hr⟩ : ∃ r, T q = .inr r := by
      cases hq2 : T q with
      | inl r => exact absurd (hk.mpr ⟨r, hq2⟩) (fun ⟨x, hx⟩ => by rw [hp] at hx; cases hx)
      | inr r => exact ⟨r, rfl⟩
    rw [hp] at hfr h5
    rw [hr] at h5
    simp only [nlen] at hfr h5
    obtain ⟨m1, i1, v1, hR1, e1⟩ := l_movesI (cc := cc) (ep := ep) (ro := ro) (bb := bb) (sl := sl) (th := th) (dp := dp) (many := many) (inn := inn) (item := item) (val := val) (wr := wr) (met := met) (rst := rst) (wds := wds) (opd := opd) (ope := ope) (way := way) (tk := tk) (tl := tl) hpq hu huq hfr (l.drop fr) (l.take fr) r many item val T hR hp hr (List.take_append_drop fr l).symm (by rw [List.length_drop]; exact h5)
    rw [List.length_take, Nat.min_eq_left hfr] at e1
    rw [hr]
    refine ⟨m1, i1, v1, hR1, ?_⟩
    refine evs_of (by decide +kernel) (Nat.le_of_ble_eq_true rfl) (by decide) rfl rfl ?_
    refine ev_iload_n (pc := 0) dX4_moves_0 rfl rfl ?_
    refine ev_istore (pc := 1) dX4_moves_1 rfl rfl ?_
    exact e1
end M6
