/-! the model: finding -/
section M4
variable {K W U : Nat → Prop} {T : Nat → Nd}
theorem l_leastKey {cc : C21} {ep ro bb sl th dp : Int32} {many inn item val wr met rst : Nat → Int32} {wds : Nat → Int64} {opd ope way tk : Nat → Int32} {tl : List mC} (hR : Rm many inn item val T U) (a : Int32) : ∀ (d : Nat) {p : Nat}, fl T U d p → EvF m_X4_leastKey (mQm m_X4_leastKey (.inl (some (.int (nI (mkT T d p))))) (dW cc ep ro bb sl th dp many inn item val wr met rst wds opd ope way tk tl)) 2 [.ref 21, .int a, .int (nI p)] [] 0 0 (dW cc ep ro bb sl th dp many inn item val wr met rst wds opd ope way tk tl) := by
  intro d
  induction d with
  | zero =>
    intro p hf
    obtain ⟨hu, l, hl, h2, h4⟩ := hf
    obtain ⟨hp, hi, h5, hc, hr, hv, hk⟩ := hR.leaf hu hl
    cases l with
    | nil => exact absurd h2 (by decide)
    | cons x l =>
      have hm : mkT T 0 p = x.1 := by simp [mkT, hl]
      have hx : item (5 * p) = nI x.1 := row_ky (e := 0) hr rfl
      refine ev_aload_n (pc := 2) dX4_leastKey_2 rfl rfl ?_
      refine ev_get (pc := 3) dX4_leastKey_3 fd_X4_13 rfl rfl ?_
      refine ev_iload_n (pc := 6) dX4_leastKey_6 rfl rfl ?_
      refine ev_zaldN (pc := 7) dX4_leastKey_7 rfl ⟨rfl, hp, by decide⟩ hi ?_
      refine ev_if_eq (pc := 8) (tgt := 23) dX4_leastKey_8 (by decide) (fun _ => ?_) (fun c_8 => absurd rfl c_8)
      refine ev_aload_n (pc := 23) dX4_leastKey_23 rfl rfl ?_
      refine ev_get (pc := 24) dX4_leastKey_24 fd_X4_17 rfl rfl ?_
      refine ev_iconst (pc := 27) (v := 5) dX4_leastKey_27 (by decide) ?_
      refine ev_iload_n (pc := 28) dX4_leastKey_28 rfl rfl ?_
      refine ev_imul (pc := 29) dX4_leastKey_29 ?_
      refine ev_ialdN (pc := 30) dX4_leastKey_30 rfl ⟨(ix5n p), by omega, by decide⟩ hx ?_
      exact ev_iretE (pc := 31) dX4_leastKey_31 rfl ⟨Nat.le_of_ble_eq_true rfl, Nat.le_of_ble_eq_true rfl⟩ (by rw [hm]) rfl
  | succ d ih =>
    intro p hf
    obtain ⟨hu, l, hl, h2, h4, hk⟩ := hf
    obtain ⟨hp, hi, h5, hc, hr, hk7⟩ := hR.inner hu hl
    cases l with
    | nil => exact absurd h2 (by decide)
    | cons c l =>
      have hm : mkT T (d + 1) p = mkT T d c := by simp [mkT, hl]
      have hx : item (5 * p) = nI c := row_ch (e := 0) hr rfl
      have h9 := ih (hk c List.mem_cons_self)
      rw [← hm] at h9
      refine ev_aload_n (pc := 2) dX4_leastKey_2 rfl rfl ?_
      refine ev_get (pc := 3) dX4_leastKey_3 fd_X4_13 rfl rfl ?_
      refine ev_iload_n (pc := 6) dX4_leastKey_6 rfl rfl ?_
      refine ev_zaldN (pc := 7) dX4_leastKey_7 rfl ⟨rfl, hp, by decide⟩ hi ?_
      refine ev_if_eq (pc := 8) (tgt := 23) dX4_leastKey_8 (by decide) (fun c_8 => absurd c_8 (by decide)) (fun _ => ?_)
      refine ev_aload_n (pc := 11) dX4_leastKey_11 rfl rfl ?_
      refine ev_get (pc := 12) dX4_leastKey_12 fd_X4_17 rfl rfl ?_
      refine ev_iconst (pc := 15) (v := 5) dX4_leastKey_15 (by decide) ?_
      refine ev_iload_n (pc := 16) dX4_leastKey_16 rfl rfl ?_
      refine ev_imul (pc := 17) dX4_leastKey_17 ?_
      refine ev_ialdN (pc := 18) dX4_leastKey_18 rfl ⟨(ix5n p), by omega, by decide⟩ hx ?_
      refine ev_istore_n (pc := 19) dX4_leastKey_19 rfl rfl rfl ?_
      refine ev_goto (pc := 20) (tgt := 2) dX4_leastKey_20 (by decide) ?_
      exact h9
theorem s_leastKey {cc : C21} {ep ro bb sl th dp : Int32} {many inn item val wr met rst : Nat → Int32} {wds : Nat → Int64} {opd ope way tk : Nat → Int32} {tl : List mC} (hR : Rm many inn item val T U) {d p : Nat} (hf : fl T U d p) : EvS m_X4_leastKey [.ref 21, .int (nI p)] (dW cc ep ro bb sl th dp many inn item val wr met rst wds opd ope way tk tl) (.inl (some (.int (nI (mkT T d p))))) (dW cc ep ro bb sl th dp many inn item val wr met rst wds opd ope way tk tl) := by
  have h9 := l_leastKey (cc := cc) (ep := ep) (ro := ro) (bb := bb) (sl := sl) (th := th) (dp := dp) (many := many) (inn := inn) (item := item) (val := val) (wr := wr) (met := met) (rst := rst) (wds := wds) (opd := opd) (ope := ope) (way := way) (tk := tk) (tl := tl) hR (nI p) d hf
  refine evs_of (by decide +kernel) (Nat.le_of_ble_eq_true rfl) (by decide) rfl rfl ?_
  refine ev_iload_n (pc := 0) dX4_leastKey_0 rfl rfl ?_
  refine ev_istore_n (pc := 1) dX4_leastKey_1 rfl rfl rfl ?_
  exact h9
theorem s_mKeyOf {cc : C21} {ep ro bb sl th dp : Int32} {many inn item val wr met rst : Nat → Int32} {wds : Nat → Int64} {opd ope way tk : Nat → Int32} {tl : List mC} (hR : Rm many inn item val T U) {p e k : Nat} (hu : U p) (hk : kyR T U p e k) : EvS m_X4_keyOf [.ref 21, .int (nI p), .int (nI e)] (dW cc ep ro bb sl th dp many inn item val wr met rst wds opd ope way tk tl) (.inl (some (.int (nI k)))) (dW cc ep ro bb sl th dp many inn item val wr met rst wds opd ope way tk tl) := by
  rcases hk with ⟨l, x, h1, h2, rfl⟩ | ⟨l, c, d, h1, h2, h3, h4, rfl⟩
  · obtain ⟨hp, hi, h5, hc, hr, hv, hk⟩ := hR.leaf hu h1
    have he := (List.getElem?_eq_some_iff.mp h2).1
    refine evs_of (by decide +kernel) (Nat.le_of_ble_eq_true rfl) (by decide) rfl rfl ?_
    refine ev_aload_n (pc := 0) dX4_keyOf_0 rfl rfl ?_
    refine ev_get (pc := 1) dX4_keyOf_1 fd_X4_13 rfl rfl ?_
    refine ev_iload_n (pc := 4) dX4_keyOf_4 rfl rfl ?_
    refine ev_zaldN (pc := 5) dX4_keyOf_5 rfl ⟨rfl, hp, by decide⟩ hi ?_
    refine ev_if_eq (pc := 6) (tgt := 26) dX4_keyOf_6 (by decide) (fun _ => ?_) (fun c_6 => absurd rfl c_6)
    refine ev_aload_n (pc := 26) dX4_keyOf_26 rfl rfl ?_
    refine ev_get (pc := 27) dX4_keyOf_27 fd_X4_17 rfl rfl ?_
    refine ev_iconst (pc := 30) (v := 5) dX4_keyOf_30 (by decide) ?_
    refine ev_iload_n (pc := 31) dX4_keyOf_31 rfl rfl ?_
    refine ev_imul (pc := 32) dX4_keyOf_32 ?_
    refine ev_iload_n (pc := 33) dX4_keyOf_33 rfl rfl ?_
    refine ev_iadd (pc := 34) dX4_keyOf_34 ?_
    refine ev_ialdN (pc := 35) dX4_keyOf_35 rfl ⟨(ix5m p e), by omega, by decide⟩ (row_ky hr h2) ?_
    exact ev_iretE (pc := 36) dX4_keyOf_36 rfl ⟨Nat.le_of_ble_eq_true rfl, Nat.le_of_ble_eq_true rfl⟩ rfl rfl
  · obtain ⟨hp, hi, h5, hc, hr, hk⟩ := hR.inner hu h1
    have he := (List.getElem?_eq_some_iff.mp h2).1
    refine evs_of (by decide +kernel) (Nat.le_of_ble_eq_true rfl) (by decide) rfl rfl ?_
    refine ev_aload_n (pc := 0) dX4_keyOf_0 rfl rfl ?_
    refine ev_get (pc := 1) dX4_keyOf_1 fd_X4_13 rfl rfl ?_
    refine ev_iload_n (pc := 4) dX4_keyOf_4 rfl rfl ?_
    refine ev_zaldN (pc := 5) dX4_keyOf_5 rfl ⟨rfl, hp, by decide⟩ hi ?_
    refine ev_if_eq (pc := 6) (tgt := 26) dX4_keyOf_6 (by decide) (fun c_6 => absurd c_6 (by decide)) (fun _ => ?_)
    refine ev_aload_n (pc := 9) dX4_keyOf_9 rfl rfl ?_
    refine ev_aload_n (pc := 10) dX4_keyOf_10 rfl rfl ?_
    refine ev_get (pc := 11) dX4_keyOf_11 fd_X4_17 rfl rfl ?_
    refine ev_iconst (pc := 14) (v := 5) dX4_keyOf_14 (by decide) ?_
    refine ev_iload_n (pc := 15) dX4_keyOf_15 rfl rfl ?_
    refine ev_imul (pc := 16) dX4_keyOf_16 ?_
    refine ev_iload_n (pc := 17) dX4_keyOf_17 rfl rfl ?_
    refine ev_iadd (pc := 18) dX4_keyOf_18 ?_
    refine ev_ialdN (pc := 19) dX4_keyOf_19 rfl ⟨(ix5m p e), by omega, by decide⟩ (row_ch hr h2) ?_
    refine cV1 (pc := 20) lk_X4_keyOf_20 rfl rfl rfl (Nat.le_of_ble_eq_true rfl) ⟨Nat.le_of_ble_eq_true rfl, Nat.le_of_ble_eq_true rfl⟩ (s_leastKey hR h3) ?_
    refine ev_goto (pc := 23) (tgt := 36) dX4_keyOf_23 (by decide) ?_
    exact ev_iretE (pc := 36) dX4_keyOf_36 rfl ⟨Nat.le_of_ble_eq_true rfl, Nat.le_of_ble_eq_true rfl⟩ rfl rfl
theorem l_mPlace {cc : C21} {ep ro bb sl th dp : Int32} {many inn item val wr met rst : Nat → Int32} {wds : Nat → Int64} {opd ope way tk : Nat → Int32} {tl : List mC} (hR : Rm many inn item val T U) {p : Nat} {l : List (Nat × Int32)} (hu : U p) (ht : T p = .inl l) (key : Int32) : ∀ (r b : List (Nat × Int32)), l = b ++ r → EvF m_X4_place (mQm m_X4_place (.inl (some (.int (nI (b.length + plc r key))))) (dW cc ep ro bb sl th dp many inn item val wr met rst wds opd ope way tk tl)) 2 [.ref 21, .int (nI p), .int key, .int (nI b.length)] [] 0 0 (dW cc ep ro bb sl th dp many inn item val wr met rst wds opd ope way tk tl) := by
  obtain ⟨hp, hi, h5, hc, hr, hv, hk⟩ := hR.leaf hu ht
  intro r
  induction r with
  | nil =>
    intro b hb
    rw [List.append_nil] at hb
    subst hb
    have e9 : plc [] key = 0 := rfl
    rw [e9, Nat.add_zero]
    refine ev_iload_n (pc := 2) dX4_place_2 rfl rfl ?_
    refine ev_aload_n (pc := 3) dX4_place_3 rfl rfl ?_
    refine ev_get (pc := 4) dX4_place_4 fd_X4_7 rfl rfl ?_
    refine ev_iload_n (pc := 7) dX4_place_7 rfl rfl ?_
    refine ev_ialdN (pc := 8) dX4_place_8 rfl ⟨rfl, hp, by decide⟩ hc ?_
    refine ev_ic_ge (pc := 9) (tgt := 32) dX4_place_9 (by decide) (fun _ => ?_) (fun c_9 => absurd (by exact nI_le (Nat.le_refl _) (by omega)) c_9)
    refine ev_iload_n (pc := 32) dX4_place_32 rfl rfl ?_
    exact ev_iretE (pc := 33) dX4_place_33 rfl ⟨Nat.le_of_ble_eq_true rfl, Nat.le_of_ble_eq_true rfl⟩ rfl rfl
  | cons x r ih =>
    intro b hb
    have hlt : b.length < l.length := by rw [hb]; simp
    have hx : l[b.length]? = some x := by rw [hb, List.getElem?_append_right (Nat.le_refl _), Nat.sub_self]; rfl
    have h9 := ih (b ++ [x]) (by rw [hb]; simp)
    rw [List.length_append, List.length_singleton] at h9
    refine ev_iload_n (pc := 2) dX4_place_2 rfl rfl ?_
    refine ev_aload_n (pc := 3) dX4_place_3 rfl rfl ?_
    refine ev_get (pc := 4) dX4_place_4 fd_X4_7 rfl rfl ?_
    refine ev_iload_n (pc := 7) dX4_place_7 rfl rfl ?_
    refine ev_ialdN (pc := 8) dX4_place_8 rfl ⟨rfl, hp, by decide⟩ hc ?_
    refine ev_ic_ge (pc := 9) (tgt := 32) dX4_place_9 (by decide) (fun c_9 => absurd c_9 (nI_ge hlt (by omega))) (fun _ => ?_)
    refine ev_aload_n (pc := 12) dX4_place_12 rfl rfl ?_
    refine ev_get (pc := 13) dX4_place_13 fd_X4_17 rfl rfl ?_
    refine ev_iconst (pc := 16) (v := 5) dX4_place_16 (by decide) ?_
    refine ev_iload_n (pc := 17) dX4_place_17 rfl rfl ?_
    refine ev_imul (pc := 18) dX4_place_18 ?_
    refine ev_iload_n (pc := 19) dX4_place_19 rfl rfl ?_
    refine ev_iadd (pc := 20) dX4_place_20 ?_
    refine ev_ialdN (pc := 21) dX4_place_21 rfl ⟨(ix5m p b.length), by omega, by decide⟩ (row_ky hr hx) ?_
    refine ev_iload_n (pc := 22) dX4_place_22 rfl rfl ?_
    refine ev_ic_ge (pc := 23) (tgt := 32) dX4_place_23 (by decide) (fun c_23 => ?_) (fun c_23 => ?_)
    · refine ev_iload_n (pc := 32) dX4_place_32 rfl rfl ?_
      exact ev_iretE (pc := 33) dX4_place_33 rfl ⟨Nat.le_of_ble_eq_true rfl, Nat.le_of_ble_eq_true rfl⟩ (by rw [show plc (x :: r) key = 0 from by simp only [plc]; exact if_neg (Int32.not_lt.mpr c_23)]; rfl) rfl
    · refine ev_iinc (pc := 26) dX4_place_26 rfl rfl rfl ?_
      refine ev_goto (pc := 29) (tgt := 2) dX4_place_29 (by decide) ?_
      rw [nI_i1]
      have e9 : plc (x :: r) key = plc r key + 1 := by simp only [plc]; exact if_pos (Int32.not_le.mp c_23)
      rw [e9, Nat.add_comm (plc r key) 1, ← Nat.add_assoc]
      exact h9
theorem s_mPlace {cc : C21} {ep ro bb sl th dp : Int32} {many inn item val wr met rst : Nat → Int32} {wds : Nat → Int64} {opd ope way tk : Nat → Int32} {tl : List mC} (hR : Rm many inn item val T U) {p : Nat} {l : List (Nat × Int32)} (hu : U p) (ht : T p = .inl l) (key : Int32) : EvS m_X4_place [.ref 21, .int (nI p), .int key] (dW cc ep ro bb sl th dp many inn item val wr met rst wds opd ope way tk tl) (.inl (some (.int (nI (plc l key))))) (dW cc ep ro bb sl th dp many inn item val wr met rst wds opd ope way tk tl) := by
  have h9 := l_mPlace (cc := cc) (ep := ep) (ro := ro) (bb := bb) (sl := sl) (th := th) (dp := dp) (many := many) (inn := inn) (item := item) (val := val) (wr := wr) (met := met) (rst := rst) (wds := wds) (opd := opd) (ope := ope) (way := way) (tk := tk) (tl := tl) hR hu ht key l [] rfl
  rw [List.length_nil, Nat.zero_add] at h9
  refine evs_of (by decide +kernel) (Nat.le_of_ble_eq_true rfl) (by decide) rfl rfl ?_
  refine ev_iconst (pc := 0) (v := 0) dX4_place_0 (by decide) ?_
  refine ev_istore_n (pc := 1) dX4_place_1 rfl rfl rfl ?_
  exact h9
theorem s_has1 {cc : C21} {ep ro bb sl th dp : Int32} {many inn item val wr met rst : Nat → Int32} {wds : Nat → Int64} {opd ope way tk : Nat → Int32} {tl : List mC} (hR : Rm many inn item val T U) {p e : Nat} {l : List (Nat × Int32)} (hu : U p) (ht : T p = .inl l) {key : Int32} (h : hld l e key) : EvS m_X4_has [.ref 21, .int (nI p), .int (nI e), .int key] (dW cc ep ro bb sl th dp many inn item val wr met rst wds opd ope way tk tl) (.inl (some (.int 1))) (dW cc ep ro bb sl th dp many inn item val wr met rst wds opd ope way tk tl) := by
  obtain ⟨hp, hi, h5, hc, hr, hv, hk⟩ := hR.leaf hu ht
  obtain ⟨x, hx, hk⟩ := h
  have he := (List.getElem?_eq_some_iff.mp hx).1
  refine evs_of (by decide +kernel) (Nat.le_of_ble_eq_true rfl) (by decide) rfl rfl ?_
  refine ev_iload_n (pc := 0) dX4_has_0 rfl rfl ?_
  refine ev_aload_n (pc := 1) dX4_has_1 rfl rfl ?_
  refine ev_get (pc := 2) dX4_has_2 fd_X4_7 rfl rfl ?_
  refine ev_iload_n (pc := 5) dX4_has_5 rfl rfl ?_
  refine ev_ialdN (pc := 6) dX4_has_6 rfl ⟨rfl, hp, by decide⟩ hc ?_
  refine ev_ic_ge (pc := 7) (tgt := 28) dX4_has_7 (by decide) (fun c_7 => absurd c_7 (nI_ge he (by omega))) (fun _ => ?_)
  refine ev_aload_n (pc := 10) dX4_has_10 rfl rfl ?_
  refine ev_get (pc := 11) dX4_has_11 fd_X4_17 rfl rfl ?_
  refine ev_iconst (pc := 14) (v := 5) dX4_has_14 (by decide) ?_
  refine ev_iload_n (pc := 15) dX4_has_15 rfl rfl ?_
  refine ev_imul (pc := 16) dX4_has_16 ?_
  refine ev_iload_n (pc := 17) dX4_has_17 rfl rfl ?_
  refine ev_iadd (pc := 18) dX4_has_18 ?_
  refine ev_ialdN (pc := 19) dX4_has_19 rfl ⟨(ix5m p e), by omega, by decide⟩ (row_ky hr hx) ?_
  refine ev_iload_n (pc := 20) dX4_has_20 rfl rfl ?_
  refine ev_ic_ne (pc := 21) (tgt := 28) dX4_has_21 (by decide) (fun c_21 => absurd hk c_21) (fun _ => ?_)
  refine ev_iconst (pc := 24) (v := 1) dX4_has_24 (by decide) ?_
  refine ev_goto (pc := 25) (tgt := 29) dX4_has_25 (by decide) ?_
  exact ev_zretE (pc := 29) dX4_has_29 rfl ⟨Nat.le_of_ble_eq_true rfl, Nat.le_of_ble_eq_true rfl⟩ (by first | exact Or.inl rfl | exact Or.inr rfl | assumption | exact i10_o) rfl rfl
theorem s_has0 {cc : C21} {ep ro bb sl th dp : Int32} {many inn item val wr met rst : Nat → Int32} {wds : Nat → Int64} {opd ope way tk : Nat → Int32} {tl : List mC} (hR : Rm many inn item val T U) {p e : Nat} {l : List (Nat × Int32)} (hu : U p) (ht : T p = .inl l) (he : e ≤ 5) {key : Int32} (h : ¬ hld l e key) : EvS m_X4_has [.ref 21, .int (nI p), .int (nI e), .int key] (dW cc ep ro bb sl th dp many inn item val wr met rst wds opd ope way tk tl) (.inl (some (.int 0))) (dW cc ep ro bb sl th dp many inn item val wr met rst wds opd ope way tk tl) := by
  obtain ⟨hp, hi, h5, hc, hr, hv, hk⟩ := hR.leaf hu ht
  rcases Nat.lt_or_ge e l.length with hlt | hge
  · have hx : l[e]? = some l[e] := List.getElem?_eq_getElem hlt
    refine evs_of (by decide +kernel) (Nat.le_of_ble_eq_true rfl) (by decide) rfl rfl ?_
    refine ev_iload_n (pc := 0) dX4_has_0 rfl rfl ?_
    refine ev_aload_n (pc := 1) dX4_has_1 rfl rfl ?_
    refine ev_get (pc := 2) dX4_has_2 fd_X4_7 rfl rfl ?_
    refine ev_iload_n (pc := 5) dX4_has_5 rfl rfl ?_
    refine ev_ialdN (pc := 6) dX4_has_6 rfl ⟨rfl, hp, by decide⟩ hc ?_
    refine ev_ic_ge (pc := 7) (tgt := 28) dX4_has_7 (by decide) (fun c_7 => absurd c_7 (nI_ge hlt (by omega))) (fun _ => ?_)
    refine ev_aload_n (pc := 10) dX4_has_10 rfl rfl ?_
    refine ev_get (pc := 11) dX4_has_11 fd_X4_17 rfl rfl ?_
    refine ev_iconst (pc := 14) (v := 5) dX4_has_14 (by decide) ?_
    refine ev_iload_n (pc := 15) dX4_has_15 rfl rfl ?_
    refine ev_imul (pc := 16) dX4_has_16 ?_
    refine ev_iload_n (pc := 17) dX4_has_17 rfl rfl ?_
    refine ev_iadd (pc := 18) dX4_has_18 ?_
    refine ev_ialdN (pc := 19) dX4_has_19 rfl ⟨(ix5m p e), by omega, by decide⟩ (row_ky hr hx) ?_
    refine ev_iload_n (pc := 20) dX4_has_20 rfl rfl ?_
    refine ev_ic_ne (pc := 21) (tgt := 28) dX4_has_21 (by decide) (fun _ => ?_) (fun c_21 => absurd c_21 (fun h9 => h ⟨l[e], hx, h9⟩))
    refine ev_iconst (pc := 28) (v := 0) dX4_has_28 (by decide) ?_
    exact ev_zretE (pc := 29) dX4_has_29 rfl ⟨Nat.le_of_ble_eq_true rfl, Nat.le_of_ble_eq_true rfl⟩ (by first | exact Or.inl rfl | exact Or.inr rfl | assumption | exact i10_o) rfl rfl
  · refine evs_of (by decide +kernel) (Nat.le_of_ble_eq_true rfl) (by decide) rfl rfl ?_
    refine ev_iload_n (pc := 0) dX4_has_0 rfl rfl ?_
    refine ev_aload_n (pc := 1) dX4_has_1 rfl rfl ?_
    refine ev_get (pc := 2) dX4_has_2 fd_X4_7 rfl rfl ?_
    refine ev_iload_n (pc := 5) dX4_has_5 rfl rfl ?_
    refine ev_ialdN (pc := 6) dX4_has_6 rfl ⟨rfl, hp, by decide⟩ hc ?_
    refine ev_ic_ge (pc := 7) (tgt := 28) dX4_has_7 (by decide) (fun _ => ?_) (fun c_7 => absurd (by exact nI_le hge (by omega)) c_7)
    refine ev_iconst (pc := 28) (v := 0) dX4_has_28 (by decide) ?_
    exact ev_zretE (pc := 29) dX4_has_29 rfl ⟨Nat.le_of_ble_eq_true rfl, Nat.le_of_ble_eq_true rfl⟩ (by first | exact Or.inl rfl | exact Or.inr rfl | assumption | exact i10_o) rfl rfl
/-- from the right to the entry that leads to the key -/
theorem l_findsE {cc : C21} {ep ro bb sl th dp : Int32} {many inn item val wr met rst : Nat → Int32} {wds : Nat → Int64} {opd ope way tk : Nat → Int32} {tl : List mC} (hR : Rm many inn item val T U) {p e d : Nat} {l : List Nat} (hu : U p) (ht : T p = .inr l) (hd : d ≤ 6) (hfl : ∀ x ∈ l, fl T U d x) {key : Int32} (he : e < l.length) (h1 : ∀ (j x : Nat), e < j → l[j]? = some x → key < nI (mkT T d x)) (h2 : e = 0 ∨ ∃ c, l[e]? = some c ∧ nI (mkT T d c) ≤ key) (a : Int32) : ∀ (m i : Nat), i = e + m → i < l.length → ∀ Qf : mQ, (EvF m_X4_finds Qf 71 [.ref 21, .int a, .int key, .int (nI p), .int (nI e)] [] 0 0 (dW cc ep ro bb sl th dp many inn item val wr met rst wds opd ope way tk tl)) → EvF m_X4_finds Qf 49 [.ref 21, .int a, .int key, .int (nI p), .int (nI i)] [] 0 0 (dW cc ep ro bb sl th dp many inn item val wr met rst wds opd ope way tk tl) := by
  have hl5 := (hR.inner hu ht).2.2.1
  intro m
  induction m with
  | zero =>
    intro i hi hil Qf k
    rw [Nat.add_zero] at hi
    subst hi
    rcases h2 with rfl | ⟨c, hc, h2⟩
    · refine ev_iload (pc := 49) dX4_finds_49 rfl ?_
      refine ev_if_le (pc := 51) (tgt := 71) dX4_finds_51 (by decide) (fun _ => ?_) (fun c_51 => absurd (by decide) c_51)
      exact k
    · by_cases h0 : 0 < i
      · refine ev_iload (pc := 49) dX4_finds_49 rfl ?_
        refine ev_if_le (pc := 51) (tgt := 71) dX4_finds_51 (by decide) (fun c_51 => absurd c_51 (by exact nI_nle h0 (by omega))) (fun _ => ?_)
        refine ev_aload_n (pc := 54) dX4_finds_54 rfl rfl ?_
        refine ev_iload_n (pc := 55) dX4_finds_55 rfl rfl ?_
        refine ev_iload (pc := 56) dX4_finds_56 rfl ?_
        refine cV2 (pc := 58) lk_X4_finds_58 rfl rfl rfl (Nat.le_of_ble_eq_true rfl) ⟨Nat.le_of_ble_eq_true rfl, Nat.le_of_ble_eq_true rfl⟩ (s_mKeyOf hR hu (Or.inr ⟨l, c, d, ht, hc, hfl c (List.mem_of_getElem? hc), hd, rfl⟩)) ?_
        refine ev_iload_n (pc := 61) dX4_finds_61 rfl rfl ?_
        refine ev_ic_le (pc := 62) (tgt := 71) dX4_finds_62 (by decide) (fun _ => ?_) (fun c_62 => absurd h2 c_62)
        exact k
      · have : i = 0 := by omega
        subst this
        refine ev_iload (pc := 49) dX4_finds_49 rfl ?_
        refine ev_if_le (pc := 51) (tgt := 71) dX4_finds_51 (by decide) (fun _ => ?_) (fun c_51 => absurd (by decide) c_51)
        exact k
  | succ m ih =>
    intro i hi hil Qf k
    have hx : l[i]? = some l[i] := List.getElem?_eq_getElem hil
    have h9 := h1 i l[i] (by omega) hx
    refine ev_iload (pc := 49) dX4_finds_49 rfl ?_
    refine ev_if_le (pc := 51) (tgt := 71) dX4_finds_51 (by decide) (fun c_51 => absurd c_51 (by exact nI_nle (show 0 < i by omega) (by omega))) (fun _ => ?_)
    refine ev_aload_n (pc := 54) dX4_finds_54 rfl rfl ?_
    refine ev_iload_n (pc := 55) dX4_finds_55 rfl rfl ?_
    refine ev_iload (pc := 56) dX4_finds_56 rfl ?_
    refine cV2 (pc := 58) lk_X4_finds_58 rfl rfl rfl (Nat.le_of_ble_eq_true rfl) ⟨Nat.le_of_ble_eq_true rfl, Nat.le_of_ble_eq_true rfl⟩ (s_mKeyOf hR hu (Or.inr ⟨l, l[i], d, ht, hx, hfl _ (List.mem_of_getElem? hx), hd, rfl⟩)) ?_
    refine ev_iload_n (pc := 61) dX4_finds_61 rfl rfl ?_
    refine ev_ic_le (pc := 62) (tgt := 71) dX4_finds_62 (by decide) (fun c_62 => absurd c_62 (Int32.not_le.mpr h9)) (fun _ => ?_)
    refine ev_iinc (pc := 65) dX4_finds_65 rfl rfl rfl ?_
    refine ev_goto (pc := 68) (tgt := 49) dX4_finds_68 (by decide) ?_
    rw [nI_im (by omega)]
    exact ih (i - 1) (by omega) (by omega) Qf k
theorem l_finds {cc : C21} {ep ro bb sl th dp : Int32} {many inn item val wr met rst : Nat → Int32} {wds : Nat → Int64} {opd ope way tk : Nat → Int32} {tl : List mC} (hR : Rm many inn item val T U) (a key : Int32) {lf : Nat} : ∀ (d : Nat) {p lv : Nat} {P : List (Nat × Nat)} (way tk : Nat → Int32) (v3 v4 : Value), fdR T U key d p P lf → d ≤ 6 → lv + d ≤ 10 → way lv = nI p → ∃ way' tk', wyA way' tk' lv P lf ∧ (∀ j, j < lv → way' j = way j ∧ tk' j = tk j) ∧ way' lv = nI p ∧ EvF m_X4_finds (mQm m_X4_finds (.inl none) (dW cc ep ro bb sl th (nI (lv + d)) many inn item val wr met rst wds opd ope way' tk' tl)) 12 [.ref 21, .int a, .int key, v3, v4] [] 0 0 (dW cc ep ro bb sl th (nI lv) many inn item val wr met rst wds opd ope way tk tl) := by
  intro d
  induction d with
  | zero =>
    intro p lv P way tk v3 v4 h _ hlv hw
    obtain ⟨rfl, rfl, hu, l, hl⟩ := h
    obtain ⟨hp, hi, -⟩ := hR.leaf hu hl
    refine ⟨way, tk, ⟨fun j x hx => by simp at hx, hw⟩, fun j hj => ⟨rfl, rfl⟩, hw, ?_⟩
    refine ev_aload_n (pc := 12) dX4_finds_12 rfl rfl ?_
    refine ev_get (pc := 13) dX4_finds_13 fd_X4_13 rfl rfl ?_
    refine ev_aload_n (pc := 16) dX4_finds_16 rfl rfl ?_
    refine ev_get (pc := 17) dX4_finds_17 fd_X4_46 rfl rfl ?_
    refine ev_aload_n (pc := 20) dX4_finds_20 rfl rfl ?_
    refine ev_get (pc := 21) dX4_finds_21 fd_X4_91 rfl rfl ?_
    refine ev_ialdN (pc := 24) dX4_finds_24 rfl ⟨rfl, by omega, by decide⟩ hw ?_
    refine ev_zaldN (pc := 25) dX4_finds_25 rfl ⟨rfl, hp, by decide⟩ hi ?_
    refine ev_if_eq (pc := 26) (tgt := 115) dX4_finds_26 (by decide) (fun _ => ?_) (fun c_26 => absurd rfl c_26)
    exact ev_vretE (pc := 115) dX4_finds_115 rfl ⟨Nat.le_of_ble_eq_true rfl, Nat.le_of_ble_eq_true rfl⟩ rfl
  | succ d ih =>
    intro p lv P way tk v3 v4 h hd hlv hw
    obtain ⟨hu, l, e, c, P', hl, hfl, hx, h1, h2, rfl, hf⟩ := h
    obtain ⟨hp, hi, h5, hc, hr, hk7⟩ := hR.inner hu hl
    have he := (List.getElem?_eq_some_iff.mp hx).1
    obtain ⟨w2, t2, hwy, hold, hnow, e3⟩ := ih (lv := lv + 1) (upd way (lv + 1) (nI c)) (upd tk lv (nI e)) (.int (nI p)) (.int (nI e)) hf (by omega) (by omega) pk_us
    have hlv1 : w2 lv = nI p := by rw [(hold lv (by omega)).1, upd_o (by omega), hw]
    have hlv2 : t2 lv = nI e := by rw [(hold lv (by omega)).2]; exact pk_us
    have g71 : EvF m_X4_finds (mQm m_X4_finds (.inl none) (dW cc ep ro bb sl th (nI (lv + (d + 1))) many inn item val wr met rst wds opd ope w2 t2 tl)) 71 [.ref 21, .int a, .int key, .int (nI p), .int (nI e)] [] 0 0 (dW cc ep ro bb sl th (nI lv) many inn item val wr met rst wds opd ope way tk tl) := by
      rw [show lv + 1 + d = lv + (d + 1) by omega] at e3
      refine ev_aload_n (pc := 71) dX4_finds_71 rfl rfl ?_
      refine ev_get (pc := 72) dX4_finds_72 fd_X4_49 rfl rfl ?_
      refine ev_aload_n (pc := 75) dX4_finds_75 rfl rfl ?_
      refine ev_get (pc := 76) dX4_finds_76 fd_X4_91 rfl rfl ?_
      refine ev_iload (pc := 79) dX4_finds_79 rfl ?_
      refine ev_iastN (pc := 81) dX4_finds_81 rfl ⟨rfl, by omega, by decide⟩ rfl rfl ?_
      refine ev_aload_n (pc := 82) dX4_finds_82 rfl rfl ?_
      refine ev_dup (pc := 83) dX4_finds_83 rfl ?_
      refine ev_get (pc := 84) dX4_finds_84 fd_X4_91 rfl rfl ?_
      refine ev_iconst (pc := 87) (v := 1) dX4_finds_87 (by decide) ?_
      refine ev_iadd (pc := 88) dX4_finds_88 ?_
      rw [nI_a1]
      refine ev_put (pc := 89) dX4_finds_89 fp_X4_91 rfl (Nat.le_of_ble_eq_true rfl) (fun _ _ => ⟨rfl, rfl⟩) rfl ?_
      refine ev_aload_n (pc := 92) dX4_finds_92 rfl rfl ?_
      refine ev_get (pc := 93) dX4_finds_93 fd_X4_46 rfl rfl ?_
      refine ev_aload_n (pc := 96) dX4_finds_96 rfl rfl ?_
      refine ev_get (pc := 97) dX4_finds_97 fd_X4_91 rfl rfl ?_
      refine ev_aload_n (pc := 100) dX4_finds_100 rfl rfl ?_
      refine ev_get (pc := 101) dX4_finds_101 fd_X4_17 rfl rfl ?_
      refine ev_iconst (pc := 104) (v := 5) dX4_finds_104 (by decide) ?_
      refine ev_iload_n (pc := 105) dX4_finds_105 rfl rfl ?_
      refine ev_imul (pc := 106) dX4_finds_106 ?_
      refine ev_iload (pc := 107) dX4_finds_107 rfl ?_
      refine ev_iadd (pc := 109) dX4_finds_109 ?_
      refine ev_ialdN (pc := 110) dX4_finds_110 rfl ⟨(ix5m p e), by omega, by decide⟩ (row_ch hr hx) ?_
      refine ev_iastN (pc := 111) dX4_finds_111 rfl ⟨rfl, by omega, by decide⟩ rfl rfl ?_
      refine ev_goto (pc := 112) (tgt := 12) dX4_finds_112 (by decide) ?_
      exact e3
    have g49 := l_findsE (cc := cc) (ep := ep) (ro := ro) (bb := bb) (sl := sl) (th := th) (dp := (nI lv)) (many := many) (inn := inn) (item := item) (val := val) (wr := wr) (met := met) (rst := rst) (wds := wds) (opd := opd) (ope := ope) (way := way) (tk := tk) (tl := tl) hR hu hl (by omega) hfl he h1 (h2.imp id (fun h => ⟨c, hx, h⟩)) a (l.length - 1 - e) (l.length - 1) (by omega) (by omega) _ g71
    refine ⟨w2, t2, ⟨?_, ?_⟩, fun j hj => ?_, hlv1, ?_⟩
    · intro j x hj
      cases j with
      | zero =>
        rw [List.getElem?_cons_zero, Option.some.injEq] at hj
        subst hj
        exact ⟨hlv1, hlv2⟩
      | succ j =>
        rw [List.getElem?_cons_succ] at hj
        have h9 := hwy.1 j x hj
        rw [show lv + 1 + j = lv + (j + 1) by omega] at h9
        exact h9
    · have h9 := hwy.2
      rw [show lv + 1 + P'.length = lv + ((p, e) :: P').length by simp; omega] at h9
      exact h9
    · obtain ⟨a, b⟩ := hold j (by omega)
      exact ⟨by rw [a, upd_o (by omega)], by rw [b, upd_o (by omega)]⟩
    · refine ev_aload_n (pc := 12) dX4_finds_12 rfl rfl ?_
      refine ev_get (pc := 13) dX4_finds_13 fd_X4_13 rfl rfl ?_
      refine ev_aload_n (pc := 16) dX4_finds_16 rfl rfl ?_
      refine ev_get (pc := 17) dX4_finds_17 fd_X4_46 rfl rfl ?_
      refine ev_aload_n (pc := 20) dX4_finds_20 rfl rfl ?_
      refine ev_get (pc := 21) dX4_finds_21 fd_X4_91 rfl rfl ?_
      refine ev_ialdN (pc := 24) dX4_finds_24 rfl ⟨rfl, by omega, by decide⟩ hw ?_
      refine ev_zaldN (pc := 25) dX4_finds_25 rfl ⟨rfl, hp, by decide⟩ hi ?_
      refine ev_if_eq (pc := 26) (tgt := 115) dX4_finds_26 (by decide) (fun c_26 => absurd c_26 (by decide)) (fun _ => ?_)
      refine ev_aload_n (pc := 29) dX4_finds_29 rfl rfl ?_
      refine ev_get (pc := 30) dX4_finds_30 fd_X4_46 rfl rfl ?_
      refine ev_aload_n (pc := 33) dX4_finds_33 rfl rfl ?_
      refine ev_get (pc := 34) dX4_finds_34 fd_X4_91 rfl rfl ?_
      refine ev_ialdN (pc := 37) dX4_finds_37 rfl ⟨rfl, by omega, by decide⟩ hw ?_
      refine ev_istore_n (pc := 38) dX4_finds_38 rfl rfl rfl ?_
      refine ev_aload_n (pc := 39) dX4_finds_39 rfl rfl ?_
      refine ev_get (pc := 40) dX4_finds_40 fd_X4_7 rfl rfl ?_
      refine ev_iload_n (pc := 43) dX4_finds_43 rfl rfl ?_
      refine ev_ialdN (pc := 44) dX4_finds_44 rfl ⟨rfl, hp, by decide⟩ hc ?_
      refine ev_iconst (pc := 45) (v := 1) dX4_finds_45 (by decide) ?_
      refine ev_isub (pc := 46) dX4_finds_46 ?_
      rw [nI_s1 (by omega)]
      refine ev_istore (pc := 47) dX4_finds_47 rfl rfl ?_
      exact g49
theorem s_finds {cc : C21} {ep ro bb sl th dp : Int32} {many inn item val wr met rst : Nat → Int32} {wds : Nat → Int64} {opd ope way tk : Nat → Int32} {tl : List mC} (hR : Rm many inn item val T U) {key : Int32} {lf d p : Nat} {P : List (Nat × Nat)} (h : fdR T U key d p P lf) (hd : d ≤ 6) : ∃ way' tk', wyA way' tk' 0 P lf ∧ EvS m_X4_finds [.ref 21, .int (nI p), .int key] (dW cc ep ro bb sl th dp many inn item val wr met rst wds opd ope way tk tl) (.inl none) (dW cc ep ro bb sl th (nI d) many inn item val wr met rst wds opd ope way' tk' tl) := by
  obtain ⟨w2, t2, hwy, -, -, e1⟩ := l_finds (cc := cc) (ep := ep) (ro := ro) (bb := bb) (sl := sl) (th := th) (dp := (nI 0)) (many := many) (inn := inn) (item := item) (val := val) (wr := wr) (met := met) (rst := rst) (wds := wds) (opd := opd) (ope := ope) (way := way) (tk := tk) (tl := tl) hR (nI p) key d (lv := 0) (upd way 0 (nI p)) tk hole hole h hd (by omega) pk_us
  rw [Nat.zero_add] at e1
  refine ⟨w2, t2, hwy, ?_⟩
  refine evs_of (by decide +kernel) (Nat.le_of_ble_eq_true rfl) (by decide) rfl rfl ?_
  refine ev_aload_n (pc := 0) dX4_finds_0 rfl rfl ?_
  refine ev_iconst (pc := 1) (v := 0) dX4_finds_1 (by decide) ?_
  refine ev_put (pc := 2) dX4_finds_2 fp_X4_91 rfl (Nat.le_of_ble_eq_true rfl) (fun _ _ => ⟨rfl, rfl⟩) rfl ?_
  refine ev_aload_n (pc := 5) dX4_finds_5 rfl rfl ?_
  refine ev_get (pc := 6) dX4_finds_6 fd_X4_46 rfl rfl ?_
  refine ev_iconst (pc := 9) (v := 0) dX4_finds_9 (by decide) ?_
  refine ev_iload_n (pc := 10) dX4_finds_10 rfl rfl ?_
  refine ev_iastN (pc := 11) dX4_finds_11 rfl ⟨rfl, by decide, by decide⟩ rfl rfl ?_
  exact e1
end M4
