/-! the model: batches, slots, crashes -/
section M15
variable {U : Nat → Prop} {T : Nat → Nd} {c : RS3} {b : Option RS3} {so rd : Nat → Option RS3}
theorem l_mBegin {cc : C21} {ep ro bb sl th dp : Int32} {many inn item val wr met rst : Nat → Int32} {wds : Nat → Int64} {opd ope way tk : Nat → Int32} {tl : List mC} : ∀ (m i : Nat), 720 = i + m → EvF m_X4_beginBatch (mQm m_X4_beginBatch (.inl (some (.int (ep + 1)))) (dW cc ep ro ro sl th dp many inn item val (zr wr 720) met rst wds opd ope way tk tl)) 26 [.ref 21, .int (nI i)] [] 0 0 (dW cc ep ro bb sl th dp many inn item val (zr wr i) met rst wds opd ope way tk tl) := by
  intro m
  induction m with
  | zero =>
    intro i hi
    have : i = 720 := by omega
    subst this
    refine ev_iload_n (pc := 26) dX4_beginBatch_26 rfl rfl ?_
    refine ev_sipush (pc := 27) (v := 720) dX4_beginBatch_27 (by decide) ?_
    refine ev_ic_ge (pc := 30) (tgt := 46) dX4_beginBatch_30 (by decide) (fun _ => ?_) (fun c_30 => absurd (by decide) c_30)
    refine ev_aload_n (pc := 46) dX4_beginBatch_46 rfl rfl ?_
    refine ev_aload_n (pc := 47) dX4_beginBatch_47 rfl rfl ?_
    refine ev_get (pc := 48) dX4_beginBatch_48 fd_X4_61 rfl rfl ?_
    refine ev_put (pc := 51) dX4_beginBatch_51 fp_X4_32 rfl (Nat.le_of_ble_eq_true rfl) (fun _ _ => ⟨rfl, rfl⟩) rfl ?_
    refine ev_aload_n (pc := 54) dX4_beginBatch_54 rfl rfl ?_
    refine ev_get (pc := 55) dX4_beginBatch_55 fd_X4_122 rfl rfl ?_
    refine ev_iconst (pc := 58) (v := 1) dX4_beginBatch_58 (by decide) ?_
    refine ev_iadd (pc := 59) dX4_beginBatch_59 ?_
    exact ev_iretE (pc := 60) dX4_beginBatch_60 rfl ⟨Nat.le_of_ble_eq_true rfl, Nat.le_of_ble_eq_true rfl⟩ rfl rfl
  | succ m ih =>
    intro i hi
    have hi7 : i < 720 := by omega
    refine ev_iload_n (pc := 26) dX4_beginBatch_26 rfl rfl ?_
    refine ev_sipush (pc := 27) (v := 720) dX4_beginBatch_27 (by decide) ?_
    refine ev_ic_ge (pc := 30) (tgt := 46) dX4_beginBatch_30 (by decide) (fun c_30 => absurd c_30 (nI_ge hi7 (by decide))) (fun _ => ?_)
    refine ev_aload_n (pc := 33) dX4_beginBatch_33 rfl rfl ?_
    refine ev_get (pc := 34) dX4_beginBatch_34 fd_X4_23 rfl rfl ?_
    refine ev_iload_n (pc := 37) dX4_beginBatch_37 rfl rfl ?_
    refine ev_iconst (pc := 38) (v := 0) dX4_beginBatch_38 (by decide) ?_
    refine ev_zastN (pc := 39) dX4_beginBatch_39 rfl ⟨rfl, hi7, by decide⟩ (zr_up wr i) rfl ?_
    refine ev_iinc (pc := 40) dX4_beginBatch_40 rfl rfl rfl ?_
    refine ev_goto (pc := 43) (tgt := 26) dX4_beginBatch_43 (by decide) ?_
    rw [nI_i1]
    exact ih (i + 1) (by omega)
theorem s_mBegin {cc : C21} {ep ro bb sl th dp : Int32} {many inn item val wr met rst : Nat → Int32} {wds : Nat → Int64} {opd ope way tk : Nat → Int32} {tl : List mC} : EvS m_X4_beginBatch [.ref 21] (dW cc ep ro (-1) sl th dp many inn item val wr met rst wds opd ope way tk tl) (.inl (some (.int (ep + 1)))) (dW cc ep ro ro sl 0 dp many inn item val (zr wr 720) met rst wds opd ope way tk tl) := by
  have e1 := l_mBegin (cc := cc) (ep := ep) (ro := ro) (bb := (-1)) (sl := sl) (th := 0) (dp := dp) (many := many) (inn := inn) (item := item) (val := val) (wr := wr) (met := met) (rst := rst) (wds := wds) (opd := opd) (ope := ope) (way := way) (tk := tk) (tl := tl) 720 0 rfl
  rw [zr_0] at e1
  refine evs_of (by decide +kernel) (Nat.le_of_ble_eq_true rfl) (by decide) rfl rfl ?_
  refine ev_aload_n (pc := 0) dX4_beginBatch_0 rfl rfl ?_
  refine ev_aload_n (pc := 1) dX4_beginBatch_1 rfl rfl ?_
  refine ev_get (pc := 2) dX4_beginBatch_2 fd_X4_32 rfl rfl ?_
  refine ev_iconst (pc := 5) (v := (-1)) dX4_beginBatch_5 (by decide) ?_
  refine ev_ic_ne (pc := 6) (tgt := 13) dX4_beginBatch_6 (by decide) (fun c_6 => absurd rfl c_6) (fun _ => ?_)
  refine ev_iconst (pc := 9) (v := 1) dX4_beginBatch_9 (by decide) ?_
  refine ev_goto (pc := 10) (tgt := 14) dX4_beginBatch_10 (by decide) ?_
  refine ev_iconst (pc := 14) (v := 1) dX4_beginBatch_14 (by decide) ?_
  refine ev_iconst (pc := 15) (v := 1) dX4_beginBatch_15 (by decide) ?_
  refine cV3 (pc := 16) lk_X4_beginBatch_16 rfl rfl rfl (Nat.le_of_ble_eq_true rfl) ⟨Nat.le_of_ble_eq_true rfl, Nat.le_of_ble_eq_true rfl⟩ (s_goes (cc := cc) (ep := ep) (ro := ro) (bb := (-1)) (sl := sl) (th := th) (dp := dp) (many := many) (inn := inn) (item := item) (val := val) (wr := wr) (met := met) (rst := rst) (wds := wds) (opd := opd) (ope := ope) (way := way) (tk := tk) (tl := tl)) ?_
  refine ev_if_ne (pc := 19) (tgt := 24) dX4_beginBatch_19 (by decide) (fun _ => ?_) (fun c_19 => absurd c_19 (by decide))
  refine ev_iconst (pc := 24) (v := 0) dX4_beginBatch_24 (by decide) ?_
  refine ev_istore_n (pc := 25) dX4_beginBatch_25 rfl rfl rfl ?_
  exact e1
theorem s_mBeginT {cc : C21} {ep ro bb sl th dp : Int32} {many inn item val wr met rst : Nat → Int32} {wds : Nat → Int64} {opd ope way tk : Nat → Int32} {tl : List mC} {r : Nat} (hr : r < 720) : EvS m_X4_beginBatch [.ref 21] (dW cc ep ro (nI r) sl th dp many inn item val wr met rst wds opd ope way tk tl) (.inl (some (.int 0))) (dW cc ep ro (nI r) sl 1 dp many inn item val wr met rst wds opd ope way tk tl) := by
  refine evs_of (by decide +kernel) (Nat.le_of_ble_eq_true rfl) (by decide) rfl rfl ?_
  refine ev_aload_n (pc := 0) dX4_beginBatch_0 rfl rfl ?_
  refine ev_aload_n (pc := 1) dX4_beginBatch_1 rfl rfl ?_
  refine ev_get (pc := 2) dX4_beginBatch_2 fd_X4_32 rfl rfl ?_
  refine ev_iconst (pc := 5) (v := (-1)) dX4_beginBatch_5 (by decide) ?_
  refine ev_ic_ne (pc := 6) (tgt := 13) dX4_beginBatch_6 (by decide) (fun _ => ?_) (fun c_6 => absurd c_6 (nI_m1 (show r < 2147483648 by omega)))
  refine ev_iconst (pc := 13) (v := 0) dX4_beginBatch_13 (by decide) ?_
  refine ev_iconst (pc := 14) (v := 1) dX4_beginBatch_14 (by decide) ?_
  refine ev_iconst (pc := 15) (v := 1) dX4_beginBatch_15 (by decide) ?_
  refine cV3 (pc := 16) lk_X4_beginBatch_16 rfl rfl rfl (Nat.le_of_ble_eq_true rfl) ⟨Nat.le_of_ble_eq_true rfl, Nat.le_of_ble_eq_true rfl⟩ (s_goesT1 (cc := cc) (ep := ep) (ro := ro) (bb := (nI r)) (sl := sl) (th := th) (dp := dp) (many := many) (inn := inn) (item := item) (val := val) (wr := wr) (met := met) (rst := rst) (wds := wds) (opd := opd) (ope := ope) (way := way) (tk := tk) (tl := tl)) ?_
  refine ev_if_ne (pc := 19) (tgt := 24) dX4_beginBatch_19 (by decide) (fun c_19 => absurd (by decide) c_19) (fun _ => ?_)
  refine ev_iconst (pc := 22) (v := 0) dX4_beginBatch_22 (by decide) ?_
  exact ev_iretE (pc := 23) dX4_beginBatch_23 rfl ⟨Nat.le_of_ble_eq_true rfl, Nat.le_of_ble_eq_true rfl⟩ rfl rfl
theorem s_mHas1 {cc : C21} {ep ro bb sl th dp : Int32} {many inn item val wr met rst : Nat → Int32} {wds : Nat → Int64} {opd ope way tk : Nat → Int32} {tl : List mC} {r : Nat} (hr : r < 720) : EvS m_X4_hasBatch [.ref 21] (dW cc ep ro (nI r) sl th dp many inn item val wr met rst wds opd ope way tk tl) (.inl (some (.int 1))) (dW cc ep ro (nI r) sl 0 dp many inn item val wr met rst wds opd ope way tk tl) := by
  refine evs_of (by decide +kernel) (Nat.le_of_ble_eq_true rfl) (by decide) rfl rfl ?_
  refine ev_aload_n (pc := 0) dX4_hasBatch_0 rfl rfl ?_
  refine ev_iconst (pc := 1) (v := 0) dX4_hasBatch_1 (by decide) ?_
  refine ev_put (pc := 2) dX4_hasBatch_2 fp_X4_55 rfl (Nat.le_of_ble_eq_true rfl) (fun _ _ => ⟨rfl, rfl⟩) rfl ?_
  refine ev_aload_n (pc := 5) dX4_hasBatch_5 rfl rfl ?_
  refine ev_get (pc := 6) dX4_hasBatch_6 fd_X4_32 rfl rfl ?_
  refine ev_iconst (pc := 9) (v := (-1)) dX4_hasBatch_9 (by decide) ?_
  refine ev_ic_eq (pc := 10) (tgt := 17) dX4_hasBatch_10 (by decide) (fun c_10 => absurd c_10 (nI_m1 (show r < 2147483648 by omega))) (fun _ => ?_)
  refine ev_iconst (pc := 13) (v := 1) dX4_hasBatch_13 (by decide) ?_
  refine ev_goto (pc := 14) (tgt := 18) dX4_hasBatch_14 (by decide) ?_
  exact ev_zretE (pc := 18) dX4_hasBatch_18 rfl ⟨Nat.le_of_ble_eq_true rfl, Nat.le_of_ble_eq_true rfl⟩ (by first | exact Or.inl rfl | exact Or.inr rfl | assumption | exact i10_o) rfl rfl
theorem s_mHas0 {cc : C21} {ep ro bb sl th dp : Int32} {many inn item val wr met rst : Nat → Int32} {wds : Nat → Int64} {opd ope way tk : Nat → Int32} {tl : List mC} : EvS m_X4_hasBatch [.ref 21] (dW cc ep ro (-1) sl th dp many inn item val wr met rst wds opd ope way tk tl) (.inl (some (.int 0))) (dW cc ep ro (-1) sl 0 dp many inn item val wr met rst wds opd ope way tk tl) := by
  refine evs_of (by decide +kernel) (Nat.le_of_ble_eq_true rfl) (by decide) rfl rfl ?_
  refine ev_aload_n (pc := 0) dX4_hasBatch_0 rfl rfl ?_
  refine ev_iconst (pc := 1) (v := 0) dX4_hasBatch_1 (by decide) ?_
  refine ev_put (pc := 2) dX4_hasBatch_2 fp_X4_55 rfl (Nat.le_of_ble_eq_true rfl) (fun _ _ => ⟨rfl, rfl⟩) rfl ?_
  refine ev_aload_n (pc := 5) dX4_hasBatch_5 rfl rfl ?_
  refine ev_get (pc := 6) dX4_hasBatch_6 fd_X4_32 rfl rfl ?_
  refine ev_iconst (pc := 9) (v := (-1)) dX4_hasBatch_9 (by decide) ?_
  refine ev_ic_eq (pc := 10) (tgt := 17) dX4_hasBatch_10 (by decide) (fun _ => ?_) (fun c_10 => absurd rfl c_10)
  refine ev_iconst (pc := 17) (v := 0) dX4_hasBatch_17 (by decide) ?_
  exact ev_zretE (pc := 18) dX4_hasBatch_18 rfl ⟨Nat.le_of_ble_eq_true rfl, Nat.le_of_ble_eq_true rfl⟩ (by first | exact Or.inl rfl | exact Or.inr rfl | assumption | exact i10_o) rfl rfl
theorem s_word {cc : C21} {ep ro bb sl th dp : Int32} {many inn item val wr met rst : Nat → Int32} {wds : Nat → Int64} {opd ope way tk : Nat → Int32} {tl : List mC} (hR : Rm many inn item val T U) {x : RS3} {d j : Nat} (hf : rt T U d x.2.1) (hn : wsm T one1 d x.2.1 ≤ 700) (hk : wsm T (lfW T 100) d x.2.1 = x.2.2) (hx1 : x.1 = c.1 + 1) (hj : j < 4) : ∃ rst', EvS m_X4_word [.ref 21, .int (nI j)] (dW cc (nI c.1) ro (nI x.2.1) sl th dp many inn item val wr met rst wds opd ope way tk tl) (.inl (some (.long (wdB x j)))) (dW cc (nI c.1) ro (nI x.2.1) sl th dp many inn item val wr met rst' wds opd ope way tk tl) := by
  obtain ⟨r1, e1⟩ := s_keys (cc := cc) (ep := (nI c.1)) (ro := ro) (bb := (nI x.2.1)) (sl := sl) (th := th) (dp := dp) (many := many) (inn := inn) (item := item) (val := val) (wr := wr) (met := met) (rst := rst) (wds := wds) (opd := opd) (ope := ope) (way := way) (tk := tk) (tl := tl) hR hf hn
  obtain ⟨r2, e2⟩ := s_keys (cc := cc) (ep := (nI c.1)) (ro := ro) (bb := (nI x.2.1)) (sl := sl) (th := th) (dp := dp) (many := many) (inn := inn) (item := item) (val := val) (wr := wr) (met := met) (rst := r1) (wds := wds) (opd := opd) (ope := ope) (way := way) (tk := tk) (tl := tl) hR hf hn
  rw [hk] at e1 e2
  rcases lt4 hj with rfl | rfl | rfl | rfl
  · refine ⟨r1, ?_⟩
    refine evs_of (by decide +kernel) (Nat.le_of_ble_eq_true rfl) (by decide) rfl rfl ?_
    refine ev_aload_n (pc := 0) dX4_word_0 rfl rfl ?_
    refine ev_get (pc := 1) dX4_word_1 fd_X4_32 rfl rfl ?_
    refine ev_i2l (pc := 4) dX4_word_4 ?_
    refine ev_lstore_n (pc := 5) dX4_word_5 rfl rfl rfl ?_
    refine ev_ldc2 (pc := 6) dX4_word_6 kl_X4_143 ?_
    refine ev_aload_n (pc := 9) dX4_word_9 rfl rfl ?_
    refine ev_get (pc := 10) dX4_word_10 fd_X4_122 rfl rfl ?_
    refine ev_iconst (pc := 13) (v := 1) dX4_word_13 (by decide) ?_
    refine ev_iadd (pc := 14) dX4_word_14 ?_
    rw [nI_a1, ← hx1]
    refine ev_i2l (pc := 15) dX4_word_15 ?_
    refine ev_lmul (pc := 16) dX4_word_16 ?_
    refine ev_ldc2 (pc := 17) dX4_word_17 kl_X4_145 ?_
    refine ev_lload_n (pc := 20) dX4_word_20 rfl rfl ?_
    refine ev_lmul (pc := 21) dX4_word_21 ?_
    refine ev_ladd (pc := 22) dX4_word_22 ?_
    refine ev_aload_n (pc := 23) dX4_word_23 rfl rfl ?_
    refine ev_aload_n (pc := 24) dX4_word_24 rfl rfl ?_
    refine ev_get (pc := 25) dX4_word_25 fd_X4_32 rfl rfl ?_
    refine cV1 (pc := 28) lk_X4_word_28 rfl rfl rfl (Nat.le_of_ble_eq_true rfl) ⟨Nat.le_of_ble_eq_true rfl, Nat.le_of_ble_eq_true rfl⟩ e1 ?_
    refine ev_i2l (pc := 31) dX4_word_31 ?_
    refine ev_ladd (pc := 32) dX4_word_32 ?_
    refine ev_lstore (pc := 33) dX4_word_33 rfl rfl ?_
    refine ev_iload_n (pc := 35) dX4_word_35 rfl rfl ?_
    refine ev_if_ne (pc := 36) (tgt := 49) dX4_word_36 (by decide) (fun c_36 => absurd rfl c_36) (fun _ => ?_)
    refine ev_aload_n (pc := 39) dX4_word_39 rfl rfl ?_
    refine ev_get (pc := 40) dX4_word_40 fd_X4_122 rfl rfl ?_
    refine ev_iconst (pc := 43) (v := 1) dX4_word_43 (by decide) ?_
    refine ev_iadd (pc := 44) dX4_word_44 ?_
    rw [nI_a1, ← hx1]
    refine ev_i2l (pc := 45) dX4_word_45 ?_
    refine ev_goto (pc := 46) (tgt := 77) dX4_word_46 (by decide) ?_
    exact ev_lretE (pc := 77) dX4_word_77 rfl ⟨Nat.le_of_ble_eq_true rfl, Nat.le_of_ble_eq_true rfl⟩ rfl rfl
  · refine ⟨r1, ?_⟩
    refine evs_of (by decide +kernel) (Nat.le_of_ble_eq_true rfl) (by decide) rfl rfl ?_
    refine ev_aload_n (pc := 0) dX4_word_0 rfl rfl ?_
    refine ev_get (pc := 1) dX4_word_1 fd_X4_32 rfl rfl ?_
    refine ev_i2l (pc := 4) dX4_word_4 ?_
    refine ev_lstore_n (pc := 5) dX4_word_5 rfl rfl rfl ?_
    refine ev_ldc2 (pc := 6) dX4_word_6 kl_X4_143 ?_
    refine ev_aload_n (pc := 9) dX4_word_9 rfl rfl ?_
    refine ev_get (pc := 10) dX4_word_10 fd_X4_122 rfl rfl ?_
    refine ev_iconst (pc := 13) (v := 1) dX4_word_13 (by decide) ?_
    refine ev_iadd (pc := 14) dX4_word_14 ?_
    rw [nI_a1, ← hx1]
    refine ev_i2l (pc := 15) dX4_word_15 ?_
    refine ev_lmul (pc := 16) dX4_word_16 ?_
    refine ev_ldc2 (pc := 17) dX4_word_17 kl_X4_145 ?_
    refine ev_lload_n (pc := 20) dX4_word_20 rfl rfl ?_
    refine ev_lmul (pc := 21) dX4_word_21 ?_
    refine ev_ladd (pc := 22) dX4_word_22 ?_
    refine ev_aload_n (pc := 23) dX4_word_23 rfl rfl ?_
    refine ev_aload_n (pc := 24) dX4_word_24 rfl rfl ?_
    refine ev_get (pc := 25) dX4_word_25 fd_X4_32 rfl rfl ?_
    refine cV1 (pc := 28) lk_X4_word_28 rfl rfl rfl (Nat.le_of_ble_eq_true rfl) ⟨Nat.le_of_ble_eq_true rfl, Nat.le_of_ble_eq_true rfl⟩ e1 ?_
    refine ev_i2l (pc := 31) dX4_word_31 ?_
    refine ev_ladd (pc := 32) dX4_word_32 ?_
    refine ev_lstore (pc := 33) dX4_word_33 rfl rfl ?_
    refine ev_iload_n (pc := 35) dX4_word_35 rfl rfl ?_
    refine ev_if_ne (pc := 36) (tgt := 49) dX4_word_36 (by decide) (fun _ => ?_) (fun c_36 => absurd c_36 (by decide))
    refine ev_iload_n (pc := 49) dX4_word_49 rfl rfl ?_
    refine ev_iconst (pc := 50) (v := 1) dX4_word_50 (by decide) ?_
    refine ev_ic_ne (pc := 51) (tgt := 58) dX4_word_51 (by decide) (fun c_51 => absurd rfl c_51) (fun _ => ?_)
    refine ev_lload_n (pc := 54) dX4_word_54 rfl rfl ?_
    refine ev_goto (pc := 55) (tgt := 77) dX4_word_55 (by decide) ?_
    exact ev_lretE (pc := 77) dX4_word_77 rfl ⟨Nat.le_of_ble_eq_true rfl, Nat.le_of_ble_eq_true rfl⟩ rfl rfl
  · refine ⟨r2, ?_⟩
    refine evs_of (by decide +kernel) (Nat.le_of_ble_eq_true rfl) (by decide) rfl rfl ?_
    refine ev_aload_n (pc := 0) dX4_word_0 rfl rfl ?_
    refine ev_get (pc := 1) dX4_word_1 fd_X4_32 rfl rfl ?_
    refine ev_i2l (pc := 4) dX4_word_4 ?_
    refine ev_lstore_n (pc := 5) dX4_word_5 rfl rfl rfl ?_
    refine ev_ldc2 (pc := 6) dX4_word_6 kl_X4_143 ?_
    refine ev_aload_n (pc := 9) dX4_word_9 rfl rfl ?_
    refine ev_get (pc := 10) dX4_word_10 fd_X4_122 rfl rfl ?_
    refine ev_iconst (pc := 13) (v := 1) dX4_word_13 (by decide) ?_
    refine ev_iadd (pc := 14) dX4_word_14 ?_
    rw [nI_a1, ← hx1]
    refine ev_i2l (pc := 15) dX4_word_15 ?_
    refine ev_lmul (pc := 16) dX4_word_16 ?_
    refine ev_ldc2 (pc := 17) dX4_word_17 kl_X4_145 ?_
    refine ev_lload_n (pc := 20) dX4_word_20 rfl rfl ?_
    refine ev_lmul (pc := 21) dX4_word_21 ?_
    refine ev_ladd (pc := 22) dX4_word_22 ?_
    refine ev_aload_n (pc := 23) dX4_word_23 rfl rfl ?_
    refine ev_aload_n (pc := 24) dX4_word_24 rfl rfl ?_
    refine ev_get (pc := 25) dX4_word_25 fd_X4_32 rfl rfl ?_
    refine cV1 (pc := 28) lk_X4_word_28 rfl rfl rfl (Nat.le_of_ble_eq_true rfl) ⟨Nat.le_of_ble_eq_true rfl, Nat.le_of_ble_eq_true rfl⟩ e1 ?_
    refine ev_i2l (pc := 31) dX4_word_31 ?_
    refine ev_ladd (pc := 32) dX4_word_32 ?_
    refine ev_lstore (pc := 33) dX4_word_33 rfl rfl ?_
    refine ev_iload_n (pc := 35) dX4_word_35 rfl rfl ?_
    refine ev_if_ne (pc := 36) (tgt := 49) dX4_word_36 (by decide) (fun _ => ?_) (fun c_36 => absurd c_36 (by decide))
    refine ev_iload_n (pc := 49) dX4_word_49 rfl rfl ?_
    refine ev_iconst (pc := 50) (v := 1) dX4_word_50 (by decide) ?_
    refine ev_ic_ne (pc := 51) (tgt := 58) dX4_word_51 (by decide) (fun _ => ?_) (fun c_51 => absurd c_51 (by decide))
    refine ev_iload_n (pc := 58) dX4_word_58 rfl rfl ?_
    refine ev_iconst (pc := 59) (v := 2) dX4_word_59 (by decide) ?_
    refine ev_ic_ne (pc := 60) (tgt := 75) dX4_word_60 (by decide) (fun c_60 => absurd rfl c_60) (fun _ => ?_)
    refine ev_aload_n (pc := 63) dX4_word_63 rfl rfl ?_
    refine ev_aload_n (pc := 64) dX4_word_64 rfl rfl ?_
    refine ev_get (pc := 65) dX4_word_65 fd_X4_32 rfl rfl ?_
    refine cV1 (pc := 68) lk_X4_word_68 rfl rfl rfl (Nat.le_of_ble_eq_true rfl) ⟨Nat.le_of_ble_eq_true rfl, Nat.le_of_ble_eq_true rfl⟩ e2 ?_
    refine ev_i2l (pc := 71) dX4_word_71 ?_
    refine ev_goto (pc := 72) (tgt := 77) dX4_word_72 (by decide) ?_
    exact ev_lretE (pc := 77) dX4_word_77 rfl ⟨Nat.le_of_ble_eq_true rfl, Nat.le_of_ble_eq_true rfl⟩ rfl rfl
  · refine ⟨r1, ?_⟩
    refine evs_of (by decide +kernel) (Nat.le_of_ble_eq_true rfl) (by decide) rfl rfl ?_
    refine ev_aload_n (pc := 0) dX4_word_0 rfl rfl ?_
    refine ev_get (pc := 1) dX4_word_1 fd_X4_32 rfl rfl ?_
    refine ev_i2l (pc := 4) dX4_word_4 ?_
    refine ev_lstore_n (pc := 5) dX4_word_5 rfl rfl rfl ?_
    refine ev_ldc2 (pc := 6) dX4_word_6 kl_X4_143 ?_
    refine ev_aload_n (pc := 9) dX4_word_9 rfl rfl ?_
    refine ev_get (pc := 10) dX4_word_10 fd_X4_122 rfl rfl ?_
    refine ev_iconst (pc := 13) (v := 1) dX4_word_13 (by decide) ?_
    refine ev_iadd (pc := 14) dX4_word_14 ?_
    rw [nI_a1, ← hx1]
    refine ev_i2l (pc := 15) dX4_word_15 ?_
    refine ev_lmul (pc := 16) dX4_word_16 ?_
    refine ev_ldc2 (pc := 17) dX4_word_17 kl_X4_145 ?_
    refine ev_lload_n (pc := 20) dX4_word_20 rfl rfl ?_
    refine ev_lmul (pc := 21) dX4_word_21 ?_
    refine ev_ladd (pc := 22) dX4_word_22 ?_
    refine ev_aload_n (pc := 23) dX4_word_23 rfl rfl ?_
    refine ev_aload_n (pc := 24) dX4_word_24 rfl rfl ?_
    refine ev_get (pc := 25) dX4_word_25 fd_X4_32 rfl rfl ?_
    refine cV1 (pc := 28) lk_X4_word_28 rfl rfl rfl (Nat.le_of_ble_eq_true rfl) ⟨Nat.le_of_ble_eq_true rfl, Nat.le_of_ble_eq_true rfl⟩ e1 ?_
    refine ev_i2l (pc := 31) dX4_word_31 ?_
    refine ev_ladd (pc := 32) dX4_word_32 ?_
    refine ev_lstore (pc := 33) dX4_word_33 rfl rfl ?_
    refine ev_iload_n (pc := 35) dX4_word_35 rfl rfl ?_
    refine ev_if_ne (pc := 36) (tgt := 49) dX4_word_36 (by decide) (fun _ => ?_) (fun c_36 => absurd c_36 (by decide))
    refine ev_iload_n (pc := 49) dX4_word_49 rfl rfl ?_
    refine ev_iconst (pc := 50) (v := 1) dX4_word_50 (by decide) ?_
    refine ev_ic_ne (pc := 51) (tgt := 58) dX4_word_51 (by decide) (fun _ => ?_) (fun c_51 => absurd c_51 (by decide))
    refine ev_iload_n (pc := 58) dX4_word_58 rfl rfl ?_
    refine ev_iconst (pc := 59) (v := 2) dX4_word_59 (by decide) ?_
    refine ev_ic_ne (pc := 60) (tgt := 75) dX4_word_60 (by decide) (fun _ => ?_) (fun c_60 => absurd c_60 (by decide))
    refine ev_lload (pc := 75) dX4_word_75 rfl ?_
    exact ev_lretE (pc := 77) dX4_word_77 rfl ⟨Nat.le_of_ble_eq_true rfl, Nat.le_of_ble_eq_true rfl⟩ rfl rfl
theorem sub1s {s : Nat} (hs : s < 2) : 1 - nI s = nI (1 - s) := by
  have : s = 0 ∨ s = 1 := by omega
  rcases this with rfl | rfl <;> decide
theorem ix41 {s : Nat} (hs : s < 2) (k : Nat) : 4 * (1 - nI s) + nI k = nI (4 * (1 - s) + k) := by
  rw [sub1s hs]
  exact ix4m (1 - s) k
theorem l_writes {cc : C21} {ep ro bb sl th dp : Int32} {many inn item val wr met rst : Nat → Int32} {wds : Nat → Int64} {opd ope way tk : Nat → Int32} {tl : List mC} (hR : Rm many inn item val T U) {x : RS3} {d s n : Nat} (hs : s < 2) (hn4 : n ≤ 4) (hf : rt T U d x.2.1) (hn : wsm T one1 d x.2.1 ≤ 700) (hk : wsm T (lfW T 100) d x.2.1 = x.2.2) (hx1 : x.1 = c.1 + 1) : ∀ (m k : Nat) (rst : Nat → Int32), n = k + m → ∃ rst', EvF m_X4_writes (mQm m_X4_writes (.inl none) (dW cc (nI c.1) ro (nI x.2.1) (nI s) th dp many inn item val wr met rst' (wrS wds (1 - s) x n) opd ope way tk tl)) 2 [.ref 21, .int (nI n), .int (nI k)] [] 0 0 (dW cc (nI c.1) ro (nI x.2.1) (nI s) th dp many inn item val wr met rst (wrS wds (1 - s) x k) opd ope way tk tl) := by
  intro m
  induction m with
  | zero =>
    intro k rst hk2
    have : k = n := by omega
    subst this
    refine ⟨rst, ?_⟩
    refine ev_iload_n (pc := 2) dX4_writes_2 rfl rfl ?_
    refine ev_iload_n (pc := 3) dX4_writes_3 rfl rfl ?_
    refine ev_ic_ge (pc := 4) (tgt := 33) dX4_writes_4 (by decide) (fun _ => ?_) (fun c_4 => absurd (by exact nI_le (Nat.le_refl _) (by omega)) c_4)
    exact ev_vretE (pc := 33) dX4_writes_33 rfl ⟨Nat.le_of_ble_eq_true rfl, Nat.le_of_ble_eq_true rfl⟩ rfl
  | succ m ih =>
    intro k rst hk2
    obtain ⟨r1, e1⟩ := s_word (cc := cc) (ep := ep) (ro := ro) (bb := bb) (sl := (nI s)) (th := th) (dp := dp) (many := many) (inn := inn) (item := item) (val := val) (wr := wr) (met := met) (rst := rst) (wds := (wrS wds (1 - s) x k)) (opd := opd) (ope := ope) (way := way) (tk := tk) (tl := tl) hR hf hn hk hx1 (j := k) (by omega)
    obtain ⟨r2, e2⟩ := ih (k + 1) r1 (by omega)
    refine ⟨r2, ?_⟩
    refine ev_iload_n (pc := 2) dX4_writes_2 rfl rfl ?_
    refine ev_iload_n (pc := 3) dX4_writes_3 rfl rfl ?_
    refine ev_ic_ge (pc := 4) (tgt := 33) dX4_writes_4 (by decide) (fun c_4 => absurd c_4 (nI_ge (show k < n by omega) (by omega))) (fun _ => ?_)
    refine ev_aload_n (pc := 7) dX4_writes_7 rfl rfl ?_
    refine ev_get (pc := 8) dX4_writes_8 fd_X4_36 rfl rfl ?_
    refine ev_iconst (pc := 11) (v := 4) dX4_writes_11 (by decide) ?_
    refine ev_iconst (pc := 12) (v := 1) dX4_writes_12 (by decide) ?_
    refine ev_aload_n (pc := 13) dX4_writes_13 rfl rfl ?_
    refine ev_get (pc := 14) dX4_writes_14 fd_X4_150 rfl rfl ?_
    refine ev_isub (pc := 17) dX4_writes_17 ?_
    refine ev_imul (pc := 18) dX4_writes_18 ?_
    refine ev_iload_n (pc := 19) dX4_writes_19 rfl rfl ?_
    refine ev_iadd (pc := 20) dX4_writes_20 ?_
    refine ev_aload_n (pc := 21) dX4_writes_21 rfl rfl ?_
    refine ev_iload_n (pc := 22) dX4_writes_22 rfl rfl ?_
    refine cV1 (pc := 23) lk_X4_writes_23 rfl rfl rfl (Nat.le_of_ble_eq_true rfl) ⟨Nat.le_of_ble_eq_true rfl, Nat.le_of_ble_eq_true rfl⟩ e1 ?_
    refine ev_lastN (pc := 26) dX4_writes_26 rfl ⟨(ix41 hs k), by omega, by decide⟩ (wrS_up wds (1 - s) x k) rfl ?_
    refine ev_iinc (pc := 27) dX4_writes_27 rfl rfl rfl ?_
    refine ev_goto (pc := 30) (tgt := 2) dX4_writes_30 (by decide) ?_
    rw [nI_i1]
    exact e2
theorem s_writes {cc : C21} {ep ro bb sl th dp : Int32} {many inn item val wr met rst : Nat → Int32} {wds : Nat → Int64} {opd ope way tk : Nat → Int32} {tl : List mC} (hR : Rm many inn item val T U) {x : RS3} {d s n : Nat} (hs : s < 2) (hn4 : n ≤ 4) (hf : rt T U d x.2.1) (hn : wsm T one1 d x.2.1 ≤ 700) (hk : wsm T (lfW T 100) d x.2.1 = x.2.2) (hx1 : x.1 = c.1 + 1) : ∃ rst', EvS m_X4_writes [.ref 21, .int (nI n)] (dW cc (nI c.1) ro (nI x.2.1) (nI s) th dp many inn item val wr met rst wds opd ope way tk tl) (.inl none) (dW cc (nI c.1) ro (nI x.2.1) (nI s) th dp many inn item val wr met rst' (wrS wds (1 - s) x n) opd ope way tk tl) := by
  obtain ⟨r1, e1⟩ := l_writes (cc := cc) (ep := ep) (ro := ro) (bb := bb) (sl := sl) (th := th) (dp := dp) (many := many) (inn := inn) (item := item) (val := val) (wr := wr) (met := met) (rst := rst) (wds := wds) (opd := opd) (ope := ope) (way := way) (tk := tk) (tl := tl) hR hs hn4 hf hn hk hx1 n 0 rst (by omega)
  rw [wrS_0] at e1
  refine ⟨r1, ?_⟩
  refine evs_of (by decide +kernel) (Nat.le_of_ble_eq_true rfl) (by decide) rfl rfl ?_
  refine ev_iconst (pc := 0) (v := 0) dX4_writes_0 (by decide) ?_
  refine ev_istore_n (pc := 1) dX4_writes_1 rfl rfl rfl ?_
  exact e1
theorem s_reads {cc : C21} {ep ro bb sl th dp : Int32} {many inn item val wr met rst : Nat → Int32} {wds : Nat → Int64} {opd ope way tk : Nat → Int32} {tl : List mC} (hSL : SLR wds so) {s : Nat} {x : RS3} (hs : s < 2) (hx : so s = some x) : EvS m_X4_reads [.ref 21, .int (nI s)] (dW cc ep ro bb sl th dp many inn item val wr met rst wds opd ope way tk tl) (.inl (some (.int (nI x.1)))) (dW cc (nI x.1) (nI x.2.1) bb (nI s) th dp many inn item val wr met rst wds opd ope way tk tl) := by
  have g := hSL s hs
  rw [hx] at g
  obtain ⟨g0, g1, g2, g3⟩ := g
  refine evs_of (by decide +kernel) (Nat.le_of_ble_eq_true rfl) (by decide) rfl rfl ?_
  refine ev_aload_n (pc := 0) dX4_reads_0 rfl rfl ?_
  refine ev_iload_n (pc := 1) dX4_reads_1 rfl rfl ?_
  refine ev_put (pc := 2) dX4_reads_2 fp_X4_150 rfl (Nat.le_of_ble_eq_true rfl) (fun _ _ => ⟨rfl, rfl⟩) rfl ?_
  refine ev_aload_n (pc := 5) dX4_reads_5 rfl rfl ?_
  refine ev_aload_n (pc := 6) dX4_reads_6 rfl rfl ?_
  refine ev_get (pc := 7) dX4_reads_7 fd_X4_36 rfl rfl ?_
  refine ev_iconst (pc := 10) (v := 4) dX4_reads_10 (by decide) ?_
  refine ev_iload_n (pc := 11) dX4_reads_11 rfl rfl ?_
  refine ev_imul (pc := 12) dX4_reads_12 ?_
  refine ev_laldN (pc := 13) dX4_reads_13 rfl ⟨(ix4n s), by omega, by decide⟩ g1 ?_
  refine ev_l2i (pc := 14) dX4_reads_14 ?_
  rw [Int32.toInt32_toInt64]
  refine ev_put (pc := 15) dX4_reads_15 fp_X4_122 rfl (Nat.le_of_ble_eq_true rfl) (fun _ _ => ⟨rfl, rfl⟩) rfl ?_
  refine ev_aload_n (pc := 18) dX4_reads_18 rfl rfl ?_
  refine ev_aload_n (pc := 19) dX4_reads_19 rfl rfl ?_
  refine ev_get (pc := 20) dX4_reads_20 fd_X4_36 rfl rfl ?_
  refine ev_iconst (pc := 23) (v := 4) dX4_reads_23 (by decide) ?_
  refine ev_iload_n (pc := 24) dX4_reads_24 rfl rfl ?_
  refine ev_imul (pc := 25) dX4_reads_25 ?_
  refine ev_iconst (pc := 26) (v := 1) dX4_reads_26 (by decide) ?_
  refine ev_iadd (pc := 27) dX4_reads_27 ?_
  refine ev_laldN (pc := 28) dX4_reads_28 rfl ⟨(ix4m s 1), by omega, by decide⟩ g2 ?_
  refine ev_l2i (pc := 29) dX4_reads_29 ?_
  rw [Int32.toInt32_toInt64]
  refine ev_put (pc := 30) dX4_reads_30 fp_X4_61 rfl (Nat.le_of_ble_eq_true rfl) (fun _ _ => ⟨rfl, rfl⟩) rfl ?_
  refine ev_aload_n (pc := 33) dX4_reads_33 rfl rfl ?_
  refine ev_get (pc := 34) dX4_reads_34 fd_X4_122 rfl rfl ?_
  exact ev_iretE (pc := 37) dX4_reads_37 rfl ⟨Nat.le_of_ble_eq_true rfl, Nat.le_of_ble_eq_true rfl⟩ rfl rfl
theorem s_mCommitT {cc : C21} {ep ro bb sl th dp : Int32} {many inn item val wr met rst : Nat → Int32} {wds : Nat → Int64} {opd ope way tk : Nat → Int32} {tl : List mC} : EvS m_X4_commit [.ref 21] (dW cc ep ro (-1) sl th dp many inn item val wr met rst wds opd ope way tk tl) (.inl (some (.int 0))) (dW cc ep ro (-1) sl 1 dp many inn item val wr met rst wds opd ope way tk tl) := by
  refine evs_of (by decide +kernel) (Nat.le_of_ble_eq_true rfl) (by decide) rfl rfl ?_
  refine ev_aload_n (pc := 0) dX4_commit_0 rfl rfl ?_
  refine ev_aload_n (pc := 1) dX4_commit_1 rfl rfl ?_
  refine ev_get (pc := 2) dX4_commit_2 fd_X4_32 rfl rfl ?_
  refine ev_iconst (pc := 5) (v := (-1)) dX4_commit_5 (by decide) ?_
  refine ev_ic_eq (pc := 6) (tgt := 13) dX4_commit_6 (by decide) (fun _ => ?_) (fun c_6 => absurd rfl c_6)
  refine ev_iconst (pc := 13) (v := 0) dX4_commit_13 (by decide) ?_
  refine ev_iconst (pc := 14) (v := 1) dX4_commit_14 (by decide) ?_
  refine ev_iconst (pc := 15) (v := 1) dX4_commit_15 (by decide) ?_
  refine cV3 (pc := 16) lk_X4_commit_16 rfl rfl rfl (Nat.le_of_ble_eq_true rfl) ⟨Nat.le_of_ble_eq_true rfl, Nat.le_of_ble_eq_true rfl⟩ (s_goesT1 (cc := cc) (ep := ep) (ro := ro) (bb := (-1)) (sl := sl) (th := th) (dp := dp) (many := many) (inn := inn) (item := item) (val := val) (wr := wr) (met := met) (rst := rst) (wds := wds) (opd := opd) (ope := ope) (way := way) (tk := tk) (tl := tl)) ?_
  refine ev_if_ne (pc := 19) (tgt := 24) dX4_commit_19 (by decide) (fun c_19 => absurd (by decide) c_19) (fun _ => ?_)
  refine ev_iconst (pc := 22) (v := 0) dX4_commit_22 (by decide) ?_
  exact ev_iretE (pc := 23) dX4_commit_23 rfl ⟨Nat.le_of_ble_eq_true rfl, Nat.le_of_ble_eq_true rfl⟩ rfl rfl
theorem s_mCommit {cc : C21} {ep ro bb sl th dp : Int32} {many inn item val wr met rst : Nat → Int32} {wds : Nat → Int64} {opd ope way tk : Nat → Int32} {tl : List mC} (hR : Rm many inn item val T U) {x : RS3} {d s : Nat} (hs : s < 2) (hf : rt T U d x.2.1) (hx7 : x.2.1 < 720) (hn : wsm T one1 d x.2.1 ≤ 700) (hk : wsm T (lfW T 100) d x.2.1 = x.2.2) (hx1 : x.1 = c.1 + 1) (hSL : SLR (wrS wds (1 - s) x 4) so) (hx : so (1 - s) = some x) : ∃ rst', EvS m_X4_commit [.ref 21] (dW cc (nI c.1) ro (nI x.2.1) (nI s) th dp many inn item val wr met rst wds opd ope way tk tl) (.inl (some (.int (nI x.1)))) (dW cc (nI x.1) (nI x.2.1) (-1) (nI (1 - s)) 0 dp many inn item val wr met rst' (wrS wds (1 - s) x 4) opd ope way tk tl) := by
  obtain ⟨r1, e1⟩ := s_writes (cc := cc) (ep := ep) (ro := ro) (bb := bb) (sl := sl) (th := 0) (dp := dp) (many := many) (inn := inn) (item := item) (val := val) (wr := wr) (met := met) (rst := rst) (wds := wds) (opd := opd) (ope := ope) (way := way) (tk := tk) (tl := tl) hR hs (n := 4) (by decide) hf hn hk hx1
  refine ⟨r1, ?_⟩
  refine evs_of (by decide +kernel) (Nat.le_of_ble_eq_true rfl) (by decide) rfl rfl ?_
  refine ev_aload_n (pc := 0) dX4_commit_0 rfl rfl ?_
  refine ev_aload_n (pc := 1) dX4_commit_1 rfl rfl ?_
  refine ev_get (pc := 2) dX4_commit_2 fd_X4_32 rfl rfl ?_
  refine ev_iconst (pc := 5) (v := (-1)) dX4_commit_5 (by decide) ?_
  refine ev_ic_eq (pc := 6) (tgt := 13) dX4_commit_6 (by decide) (fun c_6 => absurd c_6 (nI_m1 (show x.2.1 < 2147483648 by omega))) (fun _ => ?_)
  refine ev_iconst (pc := 9) (v := 1) dX4_commit_9 (by decide) ?_
  refine ev_goto (pc := 10) (tgt := 14) dX4_commit_10 (by decide) ?_
  refine ev_iconst (pc := 14) (v := 1) dX4_commit_14 (by decide) ?_
  refine ev_iconst (pc := 15) (v := 1) dX4_commit_15 (by decide) ?_
  refine cV3 (pc := 16) lk_X4_commit_16 rfl rfl rfl (Nat.le_of_ble_eq_true rfl) ⟨Nat.le_of_ble_eq_true rfl, Nat.le_of_ble_eq_true rfl⟩ (s_goes (cc := cc) (ep := (nI c.1)) (ro := ro) (bb := (nI x.2.1)) (sl := (nI s)) (th := th) (dp := dp) (many := many) (inn := inn) (item := item) (val := val) (wr := wr) (met := met) (rst := rst) (wds := wds) (opd := opd) (ope := ope) (way := way) (tk := tk) (tl := tl)) ?_
  refine ev_if_ne (pc := 19) (tgt := 24) dX4_commit_19 (by decide) (fun _ => ?_) (fun c_19 => absurd c_19 (by decide))
  refine ev_aload_n (pc := 24) dX4_commit_24 rfl rfl ?_
  refine ev_iconst (pc := 25) (v := 4) dX4_commit_25 (by decide) ?_
  refine cV1 (pc := 26) lk_X4_commit_26 rfl rfl rfl (Nat.le_of_ble_eq_true rfl) ⟨Nat.le_of_ble_eq_true rfl, Nat.le_of_ble_eq_true rfl⟩ e1 ?_
  refine ev_aload_n (pc := 29) dX4_commit_29 rfl rfl ?_
  refine ev_iconst (pc := 30) (v := (-1)) dX4_commit_30 (by decide) ?_
  refine ev_put (pc := 31) dX4_commit_31 fp_X4_32 rfl (Nat.le_of_ble_eq_true rfl) (fun _ _ => ⟨rfl, rfl⟩) rfl ?_
  refine ev_aload_n (pc := 34) dX4_commit_34 rfl rfl ?_
  refine ev_iconst (pc := 35) (v := 1) dX4_commit_35 (by decide) ?_
  refine ev_aload_n (pc := 36) dX4_commit_36 rfl rfl ?_
  refine ev_get (pc := 37) dX4_commit_37 fd_X4_150 rfl rfl ?_
  refine ev_isub (pc := 40) dX4_commit_40 ?_
  rw [sub1s hs]
  refine cV1 (pc := 41) lk_X4_commit_41 rfl rfl rfl (Nat.le_of_ble_eq_true rfl) ⟨Nat.le_of_ble_eq_true rfl, Nat.le_of_ble_eq_true rfl⟩ (s_reads hSL (by omega) hx) ?_
  exact ev_iretE (pc := 44) dX4_commit_44 rfl ⟨Nat.le_of_ble_eq_true rfl, Nat.le_of_ble_eq_true rfl⟩ rfl rfl
theorem s_mAbandonT {cc : C21} {ep ro bb sl th dp : Int32} {many inn item val wr met rst : Nat → Int32} {wds : Nat → Int64} {opd ope way tk : Nat → Int32} {tl : List mC} : EvS m_X4_abandon [.ref 21] (dW cc ep ro (-1) sl th dp many inn item val wr met rst wds opd ope way tk tl) (.inl (some (.int 0))) (dW cc ep ro (-1) sl 1 dp many inn item val wr met rst wds opd ope way tk tl) := by
  refine evs_of (by decide +kernel) (Nat.le_of_ble_eq_true rfl) (by decide) rfl rfl ?_
  refine ev_aload_n (pc := 0) dX4_abandon_0 rfl rfl ?_
  refine ev_aload_n (pc := 1) dX4_abandon_1 rfl rfl ?_
  refine ev_get (pc := 2) dX4_abandon_2 fd_X4_32 rfl rfl ?_
  refine ev_iconst (pc := 5) (v := (-1)) dX4_abandon_5 (by decide) ?_
  refine ev_ic_eq (pc := 6) (tgt := 13) dX4_abandon_6 (by decide) (fun _ => ?_) (fun c_6 => absurd rfl c_6)
  refine ev_iconst (pc := 13) (v := 0) dX4_abandon_13 (by decide) ?_
  refine ev_iconst (pc := 14) (v := 1) dX4_abandon_14 (by decide) ?_
  refine ev_iconst (pc := 15) (v := 1) dX4_abandon_15 (by decide) ?_
  refine cV3 (pc := 16) lk_X4_abandon_16 rfl rfl rfl (Nat.le_of_ble_eq_true rfl) ⟨Nat.le_of_ble_eq_true rfl, Nat.le_of_ble_eq_true rfl⟩ (s_goesT1 (cc := cc) (ep := ep) (ro := ro) (bb := (-1)) (sl := sl) (th := th) (dp := dp) (many := many) (inn := inn) (item := item) (val := val) (wr := wr) (met := met) (rst := rst) (wds := wds) (opd := opd) (ope := ope) (way := way) (tk := tk) (tl := tl)) ?_
  refine ev_if_ne (pc := 19) (tgt := 24) dX4_abandon_19 (by decide) (fun c_19 => absurd (by decide) c_19) (fun _ => ?_)
  refine ev_iconst (pc := 22) (v := 0) dX4_abandon_22 (by decide) ?_
  exact ev_iretE (pc := 23) dX4_abandon_23 rfl ⟨Nat.le_of_ble_eq_true rfl, Nat.le_of_ble_eq_true rfl⟩ rfl rfl
theorem mmR_nb {ro : Int32} {x : RS3} {many inn item val : Nat → Int32} {wds : Nat → Int64} {opd ope : Nat → Int32} (h : mmR U T c (some x) so rd ro (nI x.2.1) many inn item val wds opd ope) : mmR U T c none so rd ro (-1) many inn item val wds opd ope := ⟨h.1, h.2.1, h.2.2.1, h.2.2.2.1, h.2.2.2.2.1, rfl, h.2.2.2.2.2.2.1, fun r hr => absurd hr List.not_mem_nil⟩
theorem s_mAbandon {cc : C21} {ep ro bb sl th dp : Int32} {many inn item val wr met rst : Nat → Int32} {wds : Nat → Int64} {opd ope way tk : Nat → Int32} {tl : List mC} {x : RS3} (h : mmR U T c (some x) so rd ro (nI x.2.1) many inn item val wds opd ope) {n1 n2 : Nat} (h1 : cntR (mUse T c (some x) so rd) 720 n1) (h2 : cntR (mUse T c none so rd) 720 n2) : ∃ met' rst', EvS m_X4_abandon [.ref 21] (dW cc ep ro (nI x.2.1) sl th dp many inn item val wr met rst wds opd ope way tk tl) (.inl (some (.int (nI n1 - nI n2)))) (dW cc ep ro (-1) sl 0 dp many inn item val wr met' rst' wds opd ope way tk tl) := by
  have hx7 := (h.1 _ (h.2.2.2.2.2.2.2 x.2.1 List.mem_cons_self)).1
  obtain ⟨m1, r1, -, e1⟩ := s_mA (cc := cc) (ep := ep) (ro := ro) (bb := (nI x.2.1)) (sl := sl) (th := 0) (dp := dp) (many := many) (inn := inn) (item := item) (val := val) (wr := wr) (met := met) (rst := rst) (wds := wds) (opd := opd) (ope := ope) (way := way) (tk := tk) (tl := tl) h h1
  obtain ⟨m2, r2, -, e2⟩ := s_mA (cc := cc) (ep := ep) (ro := ro) (bb := (-1)) (sl := sl) (th := 0) (dp := dp) (many := many) (inn := inn) (item := item) (val := val) (wr := wr) (met := m1) (rst := r1) (wds := wds) (opd := opd) (ope := ope) (way := way) (tk := tk) (tl := tl) (mmR_nb h) h2
  refine ⟨m2, r2, ?_⟩
  refine evs_of (by decide +kernel) (Nat.le_of_ble_eq_true rfl) (by decide) rfl rfl ?_
  refine ev_aload_n (pc := 0) dX4_abandon_0 rfl rfl ?_
  refine ev_aload_n (pc := 1) dX4_abandon_1 rfl rfl ?_
  refine ev_get (pc := 2) dX4_abandon_2 fd_X4_32 rfl rfl ?_
  refine ev_iconst (pc := 5) (v := (-1)) dX4_abandon_5 (by decide) ?_
  refine ev_ic_eq (pc := 6) (tgt := 13) dX4_abandon_6 (by decide) (fun c_6 => absurd c_6 (nI_m1 (show x.2.1 < 2147483648 by omega))) (fun _ => ?_)
  refine ev_iconst (pc := 9) (v := 1) dX4_abandon_9 (by decide) ?_
  refine ev_goto (pc := 10) (tgt := 14) dX4_abandon_10 (by decide) ?_
  refine ev_iconst (pc := 14) (v := 1) dX4_abandon_14 (by decide) ?_
  refine ev_iconst (pc := 15) (v := 1) dX4_abandon_15 (by decide) ?_
  refine cV3 (pc := 16) lk_X4_abandon_16 rfl rfl rfl (Nat.le_of_ble_eq_true rfl) ⟨Nat.le_of_ble_eq_true rfl, Nat.le_of_ble_eq_true rfl⟩ (s_goes (cc := cc) (ep := ep) (ro := ro) (bb := (nI x.2.1)) (sl := sl) (th := th) (dp := dp) (many := many) (inn := inn) (item := item) (val := val) (wr := wr) (met := met) (rst := rst) (wds := wds) (opd := opd) (ope := ope) (way := way) (tk := tk) (tl := tl)) ?_
  refine ev_if_ne (pc := 19) (tgt := 24) dX4_abandon_19 (by decide) (fun _ => ?_) (fun c_19 => absurd c_19 (by decide))
  refine ev_aload_n (pc := 24) dX4_abandon_24 rfl rfl ?_
  refine ev_iconst (pc := 25) (v := (-1)) dX4_abandon_25 (by decide) ?_
  refine cV1 (pc := 26) lk_X4_abandon_26 rfl rfl rfl (Nat.le_of_ble_eq_true rfl) ⟨Nat.le_of_ble_eq_true rfl, Nat.le_of_ble_eq_true rfl⟩ e1 ?_
  refine ev_istore_n (pc := 29) dX4_abandon_29 rfl rfl rfl ?_
  refine ev_aload_n (pc := 30) dX4_abandon_30 rfl rfl ?_
  refine ev_iconst (pc := 31) (v := (-1)) dX4_abandon_31 (by decide) ?_
  refine ev_put (pc := 32) dX4_abandon_32 fp_X4_32 rfl (Nat.le_of_ble_eq_true rfl) (fun _ _ => ⟨rfl, rfl⟩) rfl ?_
  refine ev_iload_n (pc := 35) dX4_abandon_35 rfl rfl ?_
  refine ev_aload_n (pc := 36) dX4_abandon_36 rfl rfl ?_
  refine ev_iconst (pc := 37) (v := (-1)) dX4_abandon_37 (by decide) ?_
  refine cV1 (pc := 38) lk_X4_abandon_38 rfl rfl rfl (Nat.le_of_ble_eq_true rfl) ⟨Nat.le_of_ble_eq_true rfl, Nat.le_of_ble_eq_true rfl⟩ e2 ?_
  refine ev_isub (pc := 41) dX4_abandon_41 ?_
  exact ev_iretE (pc := 42) dX4_abandon_42 rfl ⟨Nat.le_of_ble_eq_true rfl, Nat.le_of_ble_eq_true rfl⟩ rfl rfl
theorem s_mCurSlot {cc : C21} {ep ro bb sl th dp : Int32} {many inn item val wr met rst : Nat → Int32} {wds : Nat → Int64} {opd ope way tk : Nat → Int32} {tl : List mC} : EvS m_X4_currentSlot [.ref 21] (dW cc ep ro bb sl th dp many inn item val wr met rst wds opd ope way tk tl) (.inl (some (.int sl))) (dW cc ep ro bb sl 0 dp many inn item val wr met rst wds opd ope way tk tl) := by
  refine evs_of (by decide +kernel) (Nat.le_of_ble_eq_true rfl) (by decide) rfl rfl ?_
  refine ev_aload_n (pc := 0) dX4_currentSlot_0 rfl rfl ?_
  refine ev_iconst (pc := 1) (v := 0) dX4_currentSlot_1 (by decide) ?_
  refine ev_put (pc := 2) dX4_currentSlot_2 fp_X4_55 rfl (Nat.le_of_ble_eq_true rfl) (fun _ _ => ⟨rfl, rfl⟩) rfl ?_
  refine ev_aload_n (pc := 5) dX4_currentSlot_5 rfl rfl ?_
  refine ev_get (pc := 6) dX4_currentSlot_6 fd_X4_150 rfl rfl ?_
  exact ev_iretE (pc := 9) dX4_currentSlot_9 rfl ⟨Nat.le_of_ble_eq_true rfl, Nat.le_of_ble_eq_true rfl⟩ rfl rfl
theorem i_hi {a m : Int32} {n : Nat} (hm : m.toInt = (n : Int)) (hn : n + 1 < 2147483648) : nI (n + 1) ≤ a → m < a := fun h => Int32.lt_iff_toInt_lt.mpr (by
  have h1 := Int32.le_iff_toInt_le.mp h
  rw [nI_toInt (by omega)] at h1
  omega)
theorem s_mSlotWord {cc : C21} {ep ro bb sl th dp : Int32} {many inn item val wr met rst : Nat → Int32} {wds : Nat → Int64} {opd ope way tk : Nat → Int32} {tl : List mC} {s j : Nat} (hs : s < 2) (hj : j < 4) : EvS m_X4_slotWord [.ref 21, .int (nI s), .int (nI j)] (dW cc ep ro bb sl th dp many inn item val wr met rst wds opd ope way tk tl) (.inl (some (.long (wds (4 * s + j))))) (dW cc ep ro bb sl 0 dp many inn item val wr met rst wds opd ope way tk tl) := by
  refine evs_of (by decide +kernel) (Nat.le_of_ble_eq_true rfl) (by decide) rfl rfl ?_
  refine ev_aload_n (pc := 0) dX4_slotWord_0 rfl rfl ?_
  refine ev_iload_n (pc := 1) dX4_slotWord_1 rfl rfl ?_
  refine ev_iconst (pc := 2) (v := 0) dX4_slotWord_2 (by decide) ?_
  refine ev_iconst (pc := 3) (v := 1) dX4_slotWord_3 (by decide) ?_
  refine cS3 (pc := 4) lk_X4_slotWord_4 (Nat.le_of_ble_eq_true rfl) ⟨Nat.le_of_ble_eq_true rfl, Nat.le_of_ble_eq_true rfl⟩ (s_in1 (nI_pos' (show s < 2147483648 by omega)) (by exact nI_le (show s ≤ 1 by omega) (by decide))) ?_
  refine ev_if_eq (pc := 7) (tgt := 23) dX4_slotWord_7 (by decide) (fun c_7 => absurd c_7 (by decide)) (fun _ => ?_)
  refine ev_iload_n (pc := 10) dX4_slotWord_10 rfl rfl ?_
  refine ev_iconst (pc := 11) (v := 0) dX4_slotWord_11 (by decide) ?_
  refine ev_iconst (pc := 12) (v := 3) dX4_slotWord_12 (by decide) ?_
  refine cS3 (pc := 13) lk_X4_slotWord_13 (Nat.le_of_ble_eq_true rfl) ⟨Nat.le_of_ble_eq_true rfl, Nat.le_of_ble_eq_true rfl⟩ (s_in1 (nI_pos' (show j < 2147483648 by omega)) (by exact nI_le (show j ≤ 3 by omega) (by decide))) ?_
  refine ev_if_eq (pc := 16) (tgt := 23) dX4_slotWord_16 (by decide) (fun c_16 => absurd c_16 (by decide)) (fun _ => ?_)
  refine ev_iconst (pc := 19) (v := 1) dX4_slotWord_19 (by decide) ?_
  refine ev_goto (pc := 20) (tgt := 24) dX4_slotWord_20 (by decide) ?_
  refine ev_iconst (pc := 24) (v := 1) dX4_slotWord_24 (by decide) ?_
  refine ev_iconst (pc := 25) (v := 1) dX4_slotWord_25 (by decide) ?_
  refine cV3 (pc := 26) lk_X4_slotWord_26 rfl rfl rfl (Nat.le_of_ble_eq_true rfl) ⟨Nat.le_of_ble_eq_true rfl, Nat.le_of_ble_eq_true rfl⟩ (s_goes (cc := cc) (ep := ep) (ro := ro) (bb := bb) (sl := sl) (th := th) (dp := dp) (many := many) (inn := inn) (item := item) (val := val) (wr := wr) (met := met) (rst := rst) (wds := wds) (opd := opd) (ope := ope) (way := way) (tk := tk) (tl := tl)) ?_
  refine ev_if_eq (pc := 29) (tgt := 45) dX4_slotWord_29 (by decide) (fun c_29 => absurd c_29 (by decide)) (fun _ => ?_)
  refine ev_aload_n (pc := 32) dX4_slotWord_32 rfl rfl ?_
  refine ev_get (pc := 33) dX4_slotWord_33 fd_X4_36 rfl rfl ?_
  refine ev_iconst (pc := 36) (v := 4) dX4_slotWord_36 (by decide) ?_
  refine ev_iload_n (pc := 37) dX4_slotWord_37 rfl rfl ?_
  refine ev_imul (pc := 38) dX4_slotWord_38 ?_
  refine ev_iload_n (pc := 39) dX4_slotWord_39 rfl rfl ?_
  refine ev_iadd (pc := 40) dX4_slotWord_40 ?_
  refine ev_laldN (pc := 41) dX4_slotWord_41 rfl ⟨(ix4m s j), by omega, by decide⟩ rfl ?_
  refine ev_goto (pc := 42) (tgt := 46) dX4_slotWord_42 (by decide) ?_
  exact ev_lretE (pc := 46) dX4_slotWord_46 rfl ⟨Nat.le_of_ble_eq_true rfl, Nat.le_of_ble_eq_true rfl⟩ rfl rfl
theorem s_mSlotWordT {cc : C21} {ep ro bb sl th dp : Int32} {many inn item val wr met rst : Nat → Int32} {wds : Nat → Int64} {opd ope way tk : Nat → Int32} {tl : List mC} {i a : Int32} (h : (i < 0 ∨ (2 : Int32) ≤ i) ∨ (∃ s, s < 2 ∧ i = nI s) ∧ (a < 0 ∨ (4 : Int32) ≤ a)) : EvS m_X4_slotWord [.ref 21, .int i, .int a] (dW cc ep ro bb sl th dp many inn item val wr met rst wds opd ope way tk tl) (.inl (some (.long 0))) (dW cc ep ro bb sl 1 dp many inn item val wr met rst wds opd ope way tk tl) := by
  rcases h with h | ⟨⟨s, hs, rfl⟩, h⟩
  · refine evs_of (by decide +kernel) (Nat.le_of_ble_eq_true rfl) (by decide) rfl rfl ?_
    refine ev_aload_n (pc := 0) dX4_slotWord_0 rfl rfl ?_
    refine ev_iload_n (pc := 1) dX4_slotWord_1 rfl rfl ?_
    refine ev_iconst (pc := 2) (v := 0) dX4_slotWord_2 (by decide) ?_
    refine ev_iconst (pc := 3) (v := 1) dX4_slotWord_3 (by decide) ?_
    refine cS3 (pc := 4) lk_X4_slotWord_4 (Nat.le_of_ble_eq_true rfl) ⟨Nat.le_of_ble_eq_true rfl, Nat.le_of_ble_eq_true rfl⟩ (s_in0 (h.imp id (i_hi (n := 1) rfl (by decide)))) ?_
    refine ev_if_eq (pc := 7) (tgt := 23) dX4_slotWord_7 (by decide) (fun _ => ?_) (fun c_7 => absurd rfl c_7)
    refine ev_iconst (pc := 23) (v := 0) dX4_slotWord_23 (by decide) ?_
    refine ev_iconst (pc := 24) (v := 1) dX4_slotWord_24 (by decide) ?_
    refine ev_iconst (pc := 25) (v := 1) dX4_slotWord_25 (by decide) ?_
    refine cV3 (pc := 26) lk_X4_slotWord_26 rfl rfl rfl (Nat.le_of_ble_eq_true rfl) ⟨Nat.le_of_ble_eq_true rfl, Nat.le_of_ble_eq_true rfl⟩ (s_goesT1 (cc := cc) (ep := ep) (ro := ro) (bb := bb) (sl := sl) (th := th) (dp := dp) (many := many) (inn := inn) (item := item) (val := val) (wr := wr) (met := met) (rst := rst) (wds := wds) (opd := opd) (ope := ope) (way := way) (tk := tk) (tl := tl)) ?_
    refine ev_if_eq (pc := 29) (tgt := 45) dX4_slotWord_29 (by decide) (fun _ => ?_) (fun c_29 => absurd rfl c_29)
    refine ev_lconst (pc := 45) (v := 0) dX4_slotWord_45 (by decide) ?_
    exact ev_lretE (pc := 46) dX4_slotWord_46 rfl ⟨Nat.le_of_ble_eq_true rfl, Nat.le_of_ble_eq_true rfl⟩ rfl rfl
  · refine evs_of (by decide +kernel) (Nat.le_of_ble_eq_true rfl) (by decide) rfl rfl ?_
    refine ev_aload_n (pc := 0) dX4_slotWord_0 rfl rfl ?_
    refine ev_iload_n (pc := 1) dX4_slotWord_1 rfl rfl ?_
    refine ev_iconst (pc := 2) (v := 0) dX4_slotWord_2 (by decide) ?_
    refine ev_iconst (pc := 3) (v := 1) dX4_slotWord_3 (by decide) ?_
    refine cS3 (pc := 4) lk_X4_slotWord_4 (Nat.le_of_ble_eq_true rfl) ⟨Nat.le_of_ble_eq_true rfl, Nat.le_of_ble_eq_true rfl⟩ (s_in1 (nI_pos' (show s < 2147483648 by omega)) (by exact nI_le (show s ≤ 1 by omega) (by decide))) ?_
    refine ev_if_eq (pc := 7) (tgt := 23) dX4_slotWord_7 (by decide) (fun c_7 => absurd c_7 (by decide)) (fun _ => ?_)
    refine ev_iload_n (pc := 10) dX4_slotWord_10 rfl rfl ?_
    refine ev_iconst (pc := 11) (v := 0) dX4_slotWord_11 (by decide) ?_
    refine ev_iconst (pc := 12) (v := 3) dX4_slotWord_12 (by decide) ?_
    refine cS3 (pc := 13) lk_X4_slotWord_13 (Nat.le_of_ble_eq_true rfl) ⟨Nat.le_of_ble_eq_true rfl, Nat.le_of_ble_eq_true rfl⟩ (s_in0 (h.imp id (i_hi (n := 3) rfl (by decide)))) ?_
    refine ev_if_eq (pc := 16) (tgt := 23) dX4_slotWord_16 (by decide) (fun _ => ?_) (fun c_16 => absurd rfl c_16)
    refine ev_iconst (pc := 23) (v := 0) dX4_slotWord_23 (by decide) ?_
    refine ev_iconst (pc := 24) (v := 1) dX4_slotWord_24 (by decide) ?_
    refine ev_iconst (pc := 25) (v := 1) dX4_slotWord_25 (by decide) ?_
    refine cV3 (pc := 26) lk_X4_slotWord_26 rfl rfl rfl (Nat.le_of_ble_eq_true rfl) ⟨Nat.le_of_ble_eq_true rfl, Nat.le_of_ble_eq_true rfl⟩ (s_goesT1 (cc := cc) (ep := ep) (ro := ro) (bb := bb) (sl := sl) (th := th) (dp := dp) (many := many) (inn := inn) (item := item) (val := val) (wr := wr) (met := met) (rst := rst) (wds := wds) (opd := opd) (ope := ope) (way := way) (tk := tk) (tl := tl)) ?_
    refine ev_if_eq (pc := 29) (tgt := 45) dX4_slotWord_29 (by decide) (fun _ => ?_) (fun c_29 => absurd rfl c_29)
    refine ev_lconst (pc := 45) (v := 0) dX4_slotWord_45 (by decide) ?_
    exact ev_lretE (pc := 46) dX4_slotWord_46 rfl ⟨Nat.le_of_ble_eq_true rfl, Nat.le_of_ble_eq_true rfl⟩ rfl rfl
theorem s_mIsWholeT {cc : C21} {ep ro bb sl th dp : Int32} {many inn item val wr met rst : Nat → Int32} {wds : Nat → Int64} {opd ope way tk : Nat → Int32} {tl : List mC} {i : Int32} (h : i < 0 ∨ (2 : Int32) ≤ i) : EvS m_X4_isWhole [.ref 21, .int i] (dW cc ep ro bb sl th dp many inn item val wr met rst wds opd ope way tk tl) (.inl (some (.int 0))) (dW cc ep ro bb sl 1 dp many inn item val wr met rst wds opd ope way tk tl) := by
  refine evs_of (by decide +kernel) (Nat.le_of_ble_eq_true rfl) (by decide) rfl rfl ?_
  refine ev_aload_n (pc := 0) dX4_isWhole_0 rfl rfl ?_
  refine ev_iload_n (pc := 1) dX4_isWhole_1 rfl rfl ?_
  refine ev_iconst (pc := 2) (v := 0) dX4_isWhole_2 (by decide) ?_
  refine ev_iconst (pc := 3) (v := 1) dX4_isWhole_3 (by decide) ?_
  refine cS3 (pc := 4) lk_X4_isWhole_4 (Nat.le_of_ble_eq_true rfl) ⟨Nat.le_of_ble_eq_true rfl, Nat.le_of_ble_eq_true rfl⟩ (s_in0 (h.imp id (i_hi (n := 1) rfl (by decide)))) ?_
  refine ev_iconst (pc := 7) (v := 1) dX4_isWhole_7 (by decide) ?_
  refine ev_iconst (pc := 8) (v := 1) dX4_isWhole_8 (by decide) ?_
  refine cV3 (pc := 9) lk_X4_isWhole_9 rfl rfl rfl (Nat.le_of_ble_eq_true rfl) ⟨Nat.le_of_ble_eq_true rfl, Nat.le_of_ble_eq_true rfl⟩ (s_goesT1 (cc := cc) (ep := ep) (ro := ro) (bb := bb) (sl := sl) (th := th) (dp := dp) (many := many) (inn := inn) (item := item) (val := val) (wr := wr) (met := met) (rst := rst) (wds := wds) (opd := opd) (ope := ope) (way := way) (tk := tk) (tl := tl)) ?_
  refine ev_if_eq (pc := 12) (tgt := 27) dX4_isWhole_12 (by decide) (fun _ => ?_) (fun c_12 => absurd rfl c_12)
  refine ev_iconst (pc := 27) (v := 0) dX4_isWhole_27 (by decide) ?_
  exact ev_zretE (pc := 28) dX4_isWhole_28 rfl ⟨Nat.le_of_ble_eq_true rfl, Nat.le_of_ble_eq_true rfl⟩ (by first | exact Or.inl rfl | exact Or.inr rfl | assumption | exact i10_o) rfl rfl
theorem s_mIsWhole1 {cc : C21} {ep ro bb sl th dp : Int32} {many inn item val wr met rst : Nat → Int32} {wds : Nat → Int64} {opd ope way tk : Nat → Int32} {tl : List mC} {s : Nat} (hs : s < 2) (h : whl wds s) : EvS m_X4_isWhole [.ref 21, .int (nI s)] (dW cc ep ro bb sl th dp many inn item val wr met rst wds opd ope way tk tl) (.inl (some (.int 1))) (dW cc ep ro bb sl 0 dp many inn item val wr met rst wds opd ope way tk tl) := by
  refine evs_of (by decide +kernel) (Nat.le_of_ble_eq_true rfl) (by decide) rfl rfl ?_
  refine ev_aload_n (pc := 0) dX4_isWhole_0 rfl rfl ?_
  refine ev_iload_n (pc := 1) dX4_isWhole_1 rfl rfl ?_
  refine ev_iconst (pc := 2) (v := 0) dX4_isWhole_2 (by decide) ?_
  refine ev_iconst (pc := 3) (v := 1) dX4_isWhole_3 (by decide) ?_
  refine cS3 (pc := 4) lk_X4_isWhole_4 (Nat.le_of_ble_eq_true rfl) ⟨Nat.le_of_ble_eq_true rfl, Nat.le_of_ble_eq_true rfl⟩ (s_in1 (nI_pos' (show s < 2147483648 by omega)) (by exact nI_le (show s ≤ 1 by omega) (by decide))) ?_
  refine ev_iconst (pc := 7) (v := 1) dX4_isWhole_7 (by decide) ?_
  refine ev_iconst (pc := 8) (v := 1) dX4_isWhole_8 (by decide) ?_
  refine cV3 (pc := 9) lk_X4_isWhole_9 rfl rfl rfl (Nat.le_of_ble_eq_true rfl) ⟨Nat.le_of_ble_eq_true rfl, Nat.le_of_ble_eq_true rfl⟩ (s_goes (cc := cc) (ep := ep) (ro := ro) (bb := bb) (sl := sl) (th := th) (dp := dp) (many := many) (inn := inn) (item := item) (val := val) (wr := wr) (met := met) (rst := rst) (wds := wds) (opd := opd) (ope := ope) (way := way) (tk := tk) (tl := tl)) ?_
  refine ev_if_eq (pc := 12) (tgt := 27) dX4_isWhole_12 (by decide) (fun c_12 => absurd c_12 (by decide)) (fun _ => ?_)
  refine ev_aload_n (pc := 15) dX4_isWhole_15 rfl rfl ?_
  refine ev_iload_n (pc := 16) dX4_isWhole_16 rfl rfl ?_
  refine cV1 (pc := 17) lk_X4_isWhole_17 rfl rfl rfl (Nat.le_of_ble_eq_true rfl) ⟨Nat.le_of_ble_eq_true rfl, Nat.le_of_ble_eq_true rfl⟩ (s_whole1 hs h) ?_
  refine ev_if_eq (pc := 20) (tgt := 27) dX4_isWhole_20 (by decide) (fun c_20 => absurd c_20 (by decide)) (fun _ => ?_)
  refine ev_iconst (pc := 23) (v := 1) dX4_isWhole_23 (by decide) ?_
  refine ev_goto (pc := 24) (tgt := 28) dX4_isWhole_24 (by decide) ?_
  exact ev_zretE (pc := 28) dX4_isWhole_28 rfl ⟨Nat.le_of_ble_eq_true rfl, Nat.le_of_ble_eq_true rfl⟩ (by first | exact Or.inl rfl | exact Or.inr rfl | assumption | exact i10_o) rfl rfl
theorem s_mIsWhole0 {cc : C21} {ep ro bb sl th dp : Int32} {many inn item val wr met rst : Nat → Int32} {wds : Nat → Int64} {opd ope way tk : Nat → Int32} {tl : List mC} {s : Nat} (hs : s < 2) (h : ¬ whl wds s) : EvS m_X4_isWhole [.ref 21, .int (nI s)] (dW cc ep ro bb sl th dp many inn item val wr met rst wds opd ope way tk tl) (.inl (some (.int 0))) (dW cc ep ro bb sl 0 dp many inn item val wr met rst wds opd ope way tk tl) := by
  refine evs_of (by decide +kernel) (Nat.le_of_ble_eq_true rfl) (by decide) rfl rfl ?_
  refine ev_aload_n (pc := 0) dX4_isWhole_0 rfl rfl ?_
  refine ev_iload_n (pc := 1) dX4_isWhole_1 rfl rfl ?_
  refine ev_iconst (pc := 2) (v := 0) dX4_isWhole_2 (by decide) ?_
  refine ev_iconst (pc := 3) (v := 1) dX4_isWhole_3 (by decide) ?_
  refine cS3 (pc := 4) lk_X4_isWhole_4 (Nat.le_of_ble_eq_true rfl) ⟨Nat.le_of_ble_eq_true rfl, Nat.le_of_ble_eq_true rfl⟩ (s_in1 (nI_pos' (show s < 2147483648 by omega)) (by exact nI_le (show s ≤ 1 by omega) (by decide))) ?_
  refine ev_iconst (pc := 7) (v := 1) dX4_isWhole_7 (by decide) ?_
  refine ev_iconst (pc := 8) (v := 1) dX4_isWhole_8 (by decide) ?_
  refine cV3 (pc := 9) lk_X4_isWhole_9 rfl rfl rfl (Nat.le_of_ble_eq_true rfl) ⟨Nat.le_of_ble_eq_true rfl, Nat.le_of_ble_eq_true rfl⟩ (s_goes (cc := cc) (ep := ep) (ro := ro) (bb := bb) (sl := sl) (th := th) (dp := dp) (many := many) (inn := inn) (item := item) (val := val) (wr := wr) (met := met) (rst := rst) (wds := wds) (opd := opd) (ope := ope) (way := way) (tk := tk) (tl := tl)) ?_
  refine ev_if_eq (pc := 12) (tgt := 27) dX4_isWhole_12 (by decide) (fun c_12 => absurd c_12 (by decide)) (fun _ => ?_)
  refine ev_aload_n (pc := 15) dX4_isWhole_15 rfl rfl ?_
  refine ev_iload_n (pc := 16) dX4_isWhole_16 rfl rfl ?_
  refine cV1 (pc := 17) lk_X4_isWhole_17 rfl rfl rfl (Nat.le_of_ble_eq_true rfl) ⟨Nat.le_of_ble_eq_true rfl, Nat.le_of_ble_eq_true rfl⟩ (s_whole0 hs h) ?_
  refine ev_if_eq (pc := 20) (tgt := 27) dX4_isWhole_20 (by decide) (fun _ => ?_) (fun c_20 => absurd rfl c_20)
  refine ev_iconst (pc := 27) (v := 0) dX4_isWhole_27 (by decide) ?_
  exact ev_zretE (pc := 28) dX4_isWhole_28 rfl ⟨Nat.le_of_ble_eq_true rfl, Nat.le_of_ble_eq_true rfl⟩ (by first | exact Or.inl rfl | exact Or.inr rfl | assumption | exact i10_o) rfl rfl
theorem s_mTearT1 {cc : C21} {ep ro bb sl th dp : Int32} {many inn item val wr met rst : Nat → Int32} {wds : Nat → Int64} {opd ope way tk : Nat → Int32} {tl : List mC} {i : Int32} (h : i < 0 ∨ (2 : Int32) ≤ i) : EvS m_X4_tear [.ref 21, .int i] (dW cc ep ro bb sl th dp many inn item val wr met rst wds opd ope way tk tl) (.inl (some (.int 0))) (dW cc ep ro bb sl 1 dp many inn item val wr met rst wds opd ope way tk tl) := by
  refine evs_of (by decide +kernel) (Nat.le_of_ble_eq_true rfl) (by decide) rfl rfl ?_
  refine ev_iload_n (pc := 0) dX4_tear_0 rfl rfl ?_
  refine ev_iconst (pc := 1) (v := 0) dX4_tear_1 (by decide) ?_
  refine ev_iconst (pc := 2) (v := 1) dX4_tear_2 (by decide) ?_
  refine cS3 (pc := 3) lk_X4_tear_3 (Nat.le_of_ble_eq_true rfl) ⟨Nat.le_of_ble_eq_true rfl, Nat.le_of_ble_eq_true rfl⟩ (s_in0 (h.imp id (i_hi (n := 1) rfl (by decide)))) ?_
  refine ev_istore_n (pc := 6) dX4_tear_6 rfl rfl rfl ?_
  refine ev_aload_n (pc := 7) dX4_tear_7 rfl rfl ?_
  refine ev_iload_n (pc := 8) dX4_tear_8 rfl rfl ?_
  refine ev_iload_n (pc := 9) dX4_tear_9 rfl rfl ?_
  refine ev_if_eq (pc := 10) (tgt := 27) dX4_tear_10 (by decide) (fun _ => ?_) (fun c_10 => absurd rfl c_10)
  refine ev_iconst (pc := 27) (v := 0) dX4_tear_27 (by decide) ?_
  refine ev_iconst (pc := 28) (v := 1) dX4_tear_28 (by decide) ?_
  refine cV3 (pc := 29) lk_X4_tear_29 rfl rfl rfl (Nat.le_of_ble_eq_true rfl) ⟨Nat.le_of_ble_eq_true rfl, Nat.le_of_ble_eq_true rfl⟩ (s_goesT1 (cc := cc) (ep := ep) (ro := ro) (bb := bb) (sl := sl) (th := th) (dp := dp) (many := many) (inn := inn) (item := item) (val := val) (wr := wr) (met := met) (rst := rst) (wds := wds) (opd := opd) (ope := ope) (way := way) (tk := tk) (tl := tl)) ?_
  refine ev_if_ne (pc := 32) (tgt := 37) dX4_tear_32 (by decide) (fun c_32 => absurd (by decide) c_32) (fun _ => ?_)
  refine ev_iconst (pc := 35) (v := 0) dX4_tear_35 (by decide) ?_
  exact ev_iretE (pc := 36) dX4_tear_36 rfl ⟨Nat.le_of_ble_eq_true rfl, Nat.le_of_ble_eq_true rfl⟩ rfl rfl
theorem s_mTearT2 {cc : C21} {ep ro bb sl th dp : Int32} {many inn item val wr met rst : Nat → Int32} {wds : Nat → Int64} {opd ope way tk : Nat → Int32} {tl : List mC} {s : Nat} (hs : s < 2) (h : ¬ whl wds (1 - s)) : EvS m_X4_tear [.ref 21, .int (nI s)] (dW cc ep ro bb sl th dp many inn item val wr met rst wds opd ope way tk tl) (.inl (some (.int 0))) (dW cc ep ro bb sl 2 dp many inn item val wr met rst wds opd ope way tk tl) := by
  refine evs_of (by decide +kernel) (Nat.le_of_ble_eq_true rfl) (by decide) rfl rfl ?_
  refine ev_iload_n (pc := 0) dX4_tear_0 rfl rfl ?_
  refine ev_iconst (pc := 1) (v := 0) dX4_tear_1 (by decide) ?_
  refine ev_iconst (pc := 2) (v := 1) dX4_tear_2 (by decide) ?_
  refine cS3 (pc := 3) lk_X4_tear_3 (Nat.le_of_ble_eq_true rfl) ⟨Nat.le_of_ble_eq_true rfl, Nat.le_of_ble_eq_true rfl⟩ (s_in1 (nI_pos' (show s < 2147483648 by omega)) (by exact nI_le (show s ≤ 1 by omega) (by decide))) ?_
  refine ev_istore_n (pc := 6) dX4_tear_6 rfl rfl rfl ?_
  refine ev_aload_n (pc := 7) dX4_tear_7 rfl rfl ?_
  refine ev_iload_n (pc := 8) dX4_tear_8 rfl rfl ?_
  refine ev_iload_n (pc := 9) dX4_tear_9 rfl rfl ?_
  refine ev_if_eq (pc := 10) (tgt := 27) dX4_tear_10 (by decide) (fun c_10 => absurd c_10 (by decide)) (fun _ => ?_)
  refine ev_aload_n (pc := 13) dX4_tear_13 rfl rfl ?_
  refine ev_iconst (pc := 14) (v := 1) dX4_tear_14 (by decide) ?_
  refine ev_iload_n (pc := 15) dX4_tear_15 rfl rfl ?_
  refine ev_isub (pc := 16) dX4_tear_16 ?_
  rw [sub1s hs]
  refine cV1 (pc := 17) lk_X4_tear_17 rfl rfl rfl (Nat.le_of_ble_eq_true rfl) ⟨Nat.le_of_ble_eq_true rfl, Nat.le_of_ble_eq_true rfl⟩ (s_whole0 (by omega) h) ?_
  refine ev_if_eq (pc := 20) (tgt := 27) dX4_tear_20 (by decide) (fun _ => ?_) (fun c_20 => absurd rfl c_20)
  refine ev_iconst (pc := 27) (v := 0) dX4_tear_27 (by decide) ?_
  refine ev_iconst (pc := 28) (v := 1) dX4_tear_28 (by decide) ?_
  refine cV3 (pc := 29) lk_X4_tear_29 rfl rfl rfl (Nat.le_of_ble_eq_true rfl) ⟨Nat.le_of_ble_eq_true rfl, Nat.le_of_ble_eq_true rfl⟩ (s_goesT2 (cc := cc) (ep := ep) (ro := ro) (bb := bb) (sl := sl) (th := th) (dp := dp) (many := many) (inn := inn) (item := item) (val := val) (wr := wr) (met := met) (rst := rst) (wds := wds) (opd := opd) (ope := ope) (way := way) (tk := tk) (tl := tl)) ?_
  refine ev_if_ne (pc := 32) (tgt := 37) dX4_tear_32 (by decide) (fun c_32 => absurd (by decide) c_32) (fun _ => ?_)
  refine ev_iconst (pc := 35) (v := 0) dX4_tear_35 (by decide) ?_
  exact ev_iretE (pc := 36) dX4_tear_36 rfl ⟨Nat.le_of_ble_eq_true rfl, Nat.le_of_ble_eq_true rfl⟩ rfl rfl
theorem s_mTear {cc : C21} {ep ro bb sl th dp : Int32} {many inn item val wr met rst : Nat → Int32} {wds : Nat → Int64} {opd ope way tk : Nat → Int32} {tl : List mC} {so' : Nat → Option RS3} (h : mmR U T c b so rd ro bb many inn item val wds opd ope) {s : Nat} (hs : s < 2) (hw : whl wds (1 - s)) (h' : mmR U T c b so' rd ro bb many inn item val (vp_updL wds (4 * s + 3) (-1)) opd ope) {n1 n2 : Nat} (h1 : cntR (mUse T c b so rd) 720 n1) (h2 : cntR (mUse T c b so' rd) 720 n2) : ∃ met' rst', EvS m_X4_tear [.ref 21, .int (nI s)] (dW cc ep ro bb sl th dp many inn item val wr met rst wds opd ope way tk tl) (.inl (some (.int (nI n1 - nI n2)))) (dW cc ep ro bb sl 0 dp many inn item val wr met' rst' (vp_updL wds (4 * s + 3) (-1)) opd ope way tk tl) := by
  obtain ⟨m1, r1, -, e1⟩ := s_mA (cc := cc) (ep := ep) (ro := ro) (bb := bb) (sl := sl) (th := 0) (dp := dp) (many := many) (inn := inn) (item := item) (val := val) (wr := wr) (met := met) (rst := rst) (wds := wds) (opd := opd) (ope := ope) (way := way) (tk := tk) (tl := tl) h h1
  obtain ⟨m2, r2, -, e2⟩ := s_mA (cc := cc) (ep := ep) (ro := ro) (bb := bb) (sl := sl) (th := 0) (dp := dp) (many := many) (inn := inn) (item := item) (val := val) (wr := wr) (met := m1) (rst := r1) (wds := (vp_updL wds (4 * s + 3) (-1))) (opd := opd) (ope := ope) (way := way) (tk := tk) (tl := tl) h' h2
  refine ⟨m2, r2, ?_⟩
  refine evs_of (by decide +kernel) (Nat.le_of_ble_eq_true rfl) (by decide) rfl rfl ?_
  refine ev_iload_n (pc := 0) dX4_tear_0 rfl rfl ?_
  refine ev_iconst (pc := 1) (v := 0) dX4_tear_1 (by decide) ?_
  refine ev_iconst (pc := 2) (v := 1) dX4_tear_2 (by decide) ?_
  refine cS3 (pc := 3) lk_X4_tear_3 (Nat.le_of_ble_eq_true rfl) ⟨Nat.le_of_ble_eq_true rfl, Nat.le_of_ble_eq_true rfl⟩ (s_in1 (nI_pos' (show s < 2147483648 by omega)) (by exact nI_le (show s ≤ 1 by omega) (by decide))) ?_
  refine ev_istore_n (pc := 6) dX4_tear_6 rfl rfl rfl ?_
  refine ev_aload_n (pc := 7) dX4_tear_7 rfl rfl ?_
  refine ev_iload_n (pc := 8) dX4_tear_8 rfl rfl ?_
  refine ev_iload_n (pc := 9) dX4_tear_9 rfl rfl ?_
  refine ev_if_eq (pc := 10) (tgt := 27) dX4_tear_10 (by decide) (fun c_10 => absurd c_10 (by decide)) (fun _ => ?_)
  refine ev_aload_n (pc := 13) dX4_tear_13 rfl rfl ?_
  refine ev_iconst (pc := 14) (v := 1) dX4_tear_14 (by decide) ?_
  refine ev_iload_n (pc := 15) dX4_tear_15 rfl rfl ?_
  refine ev_isub (pc := 16) dX4_tear_16 ?_
  rw [sub1s hs]
  refine cV1 (pc := 17) lk_X4_tear_17 rfl rfl rfl (Nat.le_of_ble_eq_true rfl) ⟨Nat.le_of_ble_eq_true rfl, Nat.le_of_ble_eq_true rfl⟩ (s_whole1 (by omega) hw) ?_
  refine ev_if_eq (pc := 20) (tgt := 27) dX4_tear_20 (by decide) (fun c_20 => absurd c_20 (by decide)) (fun _ => ?_)
  refine ev_iconst (pc := 23) (v := 1) dX4_tear_23 (by decide) ?_
  refine ev_goto (pc := 24) (tgt := 28) dX4_tear_24 (by decide) ?_
  refine ev_iconst (pc := 28) (v := 1) dX4_tear_28 (by decide) ?_
  refine cV3 (pc := 29) lk_X4_tear_29 rfl rfl rfl (Nat.le_of_ble_eq_true rfl) ⟨Nat.le_of_ble_eq_true rfl, Nat.le_of_ble_eq_true rfl⟩ (s_goes (cc := cc) (ep := ep) (ro := ro) (bb := bb) (sl := sl) (th := th) (dp := dp) (many := many) (inn := inn) (item := item) (val := val) (wr := wr) (met := met) (rst := rst) (wds := wds) (opd := opd) (ope := ope) (way := way) (tk := tk) (tl := tl)) ?_
  refine ev_if_ne (pc := 32) (tgt := 37) dX4_tear_32 (by decide) (fun _ => ?_) (fun c_32 => absurd c_32 (by decide))
  refine ev_aload_n (pc := 37) dX4_tear_37 rfl rfl ?_
  refine ev_iconst (pc := 38) (v := (-1)) dX4_tear_38 (by decide) ?_
  refine cV1 (pc := 39) lk_X4_tear_39 rfl rfl rfl (Nat.le_of_ble_eq_true rfl) ⟨Nat.le_of_ble_eq_true rfl, Nat.le_of_ble_eq_true rfl⟩ e1 ?_
  refine ev_istore_n (pc := 42) dX4_tear_42 rfl rfl rfl ?_
  refine ev_aload_n (pc := 43) dX4_tear_43 rfl rfl ?_
  refine ev_get (pc := 44) dX4_tear_44 fd_X4_36 rfl rfl ?_
  refine ev_iconst (pc := 47) (v := 4) dX4_tear_47 (by decide) ?_
  refine ev_iload_n (pc := 48) dX4_tear_48 rfl rfl ?_
  refine ev_imul (pc := 49) dX4_tear_49 ?_
  refine ev_iconst (pc := 50) (v := 3) dX4_tear_50 (by decide) ?_
  refine ev_iadd (pc := 51) dX4_tear_51 ?_
  refine ev_ldc2 (pc := 52) dX4_tear_52 kl_X4_188 ?_
  refine ev_lastN (pc := 55) dX4_tear_55 rfl ⟨(ix4m s 3), by omega, by decide⟩ rfl rfl ?_
  refine ev_iload_n (pc := 56) dX4_tear_56 rfl rfl ?_
  refine ev_aload_n (pc := 57) dX4_tear_57 rfl rfl ?_
  refine ev_iconst (pc := 58) (v := (-1)) dX4_tear_58 (by decide) ?_
  refine cV1 (pc := 59) lk_X4_tear_59 rfl rfl rfl (Nat.le_of_ble_eq_true rfl) ⟨Nat.le_of_ble_eq_true rfl, Nat.le_of_ble_eq_true rfl⟩ e2 ?_
  refine ev_isub (pc := 62) dX4_tear_62 ?_
  exact ev_iretE (pc := 63) dX4_tear_63 rfl ⟨Nat.le_of_ble_eq_true rfl, Nat.le_of_ble_eq_true rfl⟩ rfl rfl
theorem s_closesAll {cc : C21} {ep ro bb sl th dp : Int32} {many inn item val wr met rst : Nat → Int32} {wds : Nat → Int64} {opd ope way tk : Nat → Int32} {tl : List mC} : ∃ opd', opC opd' ope noR ∧ EvS m_X4_closesAll [.ref 21] (dW cc ep ro bb sl th dp many inn item val wr met rst wds opd ope way tk tl) (.inl none) (dW cc ep ro bb sl th dp many inn item val wr met rst wds opd' ope way tk tl) := by
  refine ⟨upd (upd (upd (upd opd 0 (-1)) 1 (-1)) 2 (-1)) 3 (-1), fun j hj => ?_, ?_⟩
  · rcases lt4 hj with rfl | rfl | rfl | rfl <;> rfl
  · refine evs_of (by decide +kernel) (Nat.le_of_ble_eq_true rfl) (by decide) rfl rfl ?_
    refine ev_iconst (pc := 0) (v := 0) dX4_closesAll_0 (by decide) ?_
    refine ev_istore_n (pc := 1) dX4_closesAll_1 rfl rfl rfl ?_
    refine ev_iload_n (pc := 2) dX4_closesAll_2 rfl rfl ?_
    refine ev_iconst (pc := 3) (v := 4) dX4_closesAll_3 (by decide) ?_
    refine ev_ic_ge (pc := 4) (tgt := 20) dX4_closesAll_4 (by decide) (fun c_4 => absurd c_4 (by decide)) (fun _ => ?_)
    refine ev_aload_n (pc := 7) dX4_closesAll_7 rfl rfl ?_
    refine ev_get (pc := 8) dX4_closesAll_8 fd_X4_40 rfl rfl ?_
    refine ev_iload_n (pc := 11) dX4_closesAll_11 rfl rfl ?_
    refine ev_iconst (pc := 12) (v := (-1)) dX4_closesAll_12 (by decide) ?_
    refine ev_iastN (pc := 13) dX4_closesAll_13 rfl ⟨(show _ = nI 0 from rfl), by decide, by decide⟩ rfl rfl ?_
    refine ev_iinc (pc := 14) dX4_closesAll_14 rfl rfl rfl ?_
    refine ev_goto (pc := 17) (tgt := 2) dX4_closesAll_17 (by decide) ?_
    refine ev_iload_n (pc := 2) dX4_closesAll_2 rfl rfl ?_
    refine ev_iconst (pc := 3) (v := 4) dX4_closesAll_3 (by decide) ?_
    refine ev_ic_ge (pc := 4) (tgt := 20) dX4_closesAll_4 (by decide) (fun c_4 => absurd c_4 (by decide)) (fun _ => ?_)
    refine ev_aload_n (pc := 7) dX4_closesAll_7 rfl rfl ?_
    refine ev_get (pc := 8) dX4_closesAll_8 fd_X4_40 rfl rfl ?_
    refine ev_iload_n (pc := 11) dX4_closesAll_11 rfl rfl ?_
    refine ev_iconst (pc := 12) (v := (-1)) dX4_closesAll_12 (by decide) ?_
    refine ev_iastN (pc := 13) dX4_closesAll_13 rfl ⟨(show _ = nI 1 from rfl), by decide, by decide⟩ rfl rfl ?_
    refine ev_iinc (pc := 14) dX4_closesAll_14 rfl rfl rfl ?_
    refine ev_goto (pc := 17) (tgt := 2) dX4_closesAll_17 (by decide) ?_
    refine ev_iload_n (pc := 2) dX4_closesAll_2 rfl rfl ?_
    refine ev_iconst (pc := 3) (v := 4) dX4_closesAll_3 (by decide) ?_
    refine ev_ic_ge (pc := 4) (tgt := 20) dX4_closesAll_4 (by decide) (fun c_4 => absurd c_4 (by decide)) (fun _ => ?_)
    refine ev_aload_n (pc := 7) dX4_closesAll_7 rfl rfl ?_
    refine ev_get (pc := 8) dX4_closesAll_8 fd_X4_40 rfl rfl ?_
    refine ev_iload_n (pc := 11) dX4_closesAll_11 rfl rfl ?_
    refine ev_iconst (pc := 12) (v := (-1)) dX4_closesAll_12 (by decide) ?_
    refine ev_iastN (pc := 13) dX4_closesAll_13 rfl ⟨(show _ = nI 2 from rfl), by decide, by decide⟩ rfl rfl ?_
    refine ev_iinc (pc := 14) dX4_closesAll_14 rfl rfl rfl ?_
    refine ev_goto (pc := 17) (tgt := 2) dX4_closesAll_17 (by decide) ?_
    refine ev_iload_n (pc := 2) dX4_closesAll_2 rfl rfl ?_
    refine ev_iconst (pc := 3) (v := 4) dX4_closesAll_3 (by decide) ?_
    refine ev_ic_ge (pc := 4) (tgt := 20) dX4_closesAll_4 (by decide) (fun c_4 => absurd c_4 (by decide)) (fun _ => ?_)
    refine ev_aload_n (pc := 7) dX4_closesAll_7 rfl rfl ?_
    refine ev_get (pc := 8) dX4_closesAll_8 fd_X4_40 rfl rfl ?_
    refine ev_iload_n (pc := 11) dX4_closesAll_11 rfl rfl ?_
    refine ev_iconst (pc := 12) (v := (-1)) dX4_closesAll_12 (by decide) ?_
    refine ev_iastN (pc := 13) dX4_closesAll_13 rfl ⟨(show _ = nI 3 from rfl), by decide, by decide⟩ rfl rfl ?_
    refine ev_iinc (pc := 14) dX4_closesAll_14 rfl rfl rfl ?_
    refine ev_goto (pc := 17) (tgt := 2) dX4_closesAll_17 (by decide) ?_
    refine ev_iload_n (pc := 2) dX4_closesAll_2 rfl rfl ?_
    refine ev_iconst (pc := 3) (v := 4) dX4_closesAll_3 (by decide) ?_
    refine ev_ic_ge (pc := 4) (tgt := 20) dX4_closesAll_4 (by decide) (fun _ => ?_) (fun c_4 => absurd (by decide) c_4)
    exact ev_vretE (pc := 20) dX4_closesAll_20 rfl ⟨Nat.le_of_ble_eq_true rfl, Nat.le_of_ble_eq_true rfl⟩ rfl
theorem s_restarts {cc : C21} {ep ro bb sl th dp : Int32} {many inn item val wr met rst : Nat → Int32} {wds : Nat → Int64} {opd ope way tk : Nat → Int32} {tl : List mC} (hSL : SLR wds so) (hb : ∀ s x, s < 2 → so s = some x → x.1 < 2147483648) {s : Nat} {x : RS3} (hs : s < 2) (hl : lat so s) (hx : so s = some x) : ∃ opd', opC opd' ope noR ∧ EvS m_X4_restarts [.ref 21] (dW cc ep ro bb sl th dp many inn item val wr met rst wds opd ope way tk tl) (.inl (some (.int (nI x.1)))) (dW cc (nI x.1) (nI x.2.1) (-1) (nI s) th dp many inn item val wr met rst wds opd' ope way tk tl) := by
  obtain ⟨o1, hop, e1⟩ := s_closesAll (cc := cc) (ep := ep) (ro := ro) (bb := (-1)) (sl := sl) (th := th) (dp := dp) (many := many) (inn := inn) (item := item) (val := val) (wr := wr) (met := met) (rst := rst) (wds := wds) (opd := opd) (ope := ope) (way := way) (tk := tk) (tl := tl)
  refine ⟨o1, hop, ?_⟩
  have g0 := hSL 0 (by decide)
  have g1 := hSL 1 (by decide)
  rcases hl with ⟨h0, rfl⟩ | ⟨x0, h0, ⟨x1, h1, hlt, rfl⟩ | ⟨h1 | ⟨x1, h1, hle⟩, rfl⟩⟩
  · rw [h0] at g0
    refine evs_of (by decide +kernel) (Nat.le_of_ble_eq_true rfl) (by decide) rfl rfl ?_
    refine ev_aload_n (pc := 0) dX4_restarts_0 rfl rfl ?_
    refine ev_iconst (pc := 1) (v := (-1)) dX4_restarts_1 (by decide) ?_
    refine ev_put (pc := 2) dX4_restarts_2 fp_X4_32 rfl (Nat.le_of_ble_eq_true rfl) (fun _ _ => ⟨rfl, rfl⟩) rfl ?_
    refine ev_aload_n (pc := 5) dX4_restarts_5 rfl rfl ?_
    refine cV0 (pc := 6) lk_X4_restarts_6 rfl rfl rfl (Nat.le_of_ble_eq_true rfl) ⟨Nat.le_of_ble_eq_true rfl, Nat.le_of_ble_eq_true rfl⟩ e1 ?_
    refine ev_aload_n (pc := 9) dX4_restarts_9 rfl rfl ?_
    refine ev_iconst (pc := 10) (v := 0) dX4_restarts_10 (by decide) ?_
    refine cV1 (pc := 11) lk_X4_restarts_11 rfl rfl rfl (Nat.le_of_ble_eq_true rfl) ⟨Nat.le_of_ble_eq_true rfl, Nat.le_of_ble_eq_true rfl⟩ (s_whole0 (s := 0) (by decide) g0) ?_
    refine ev_if_eq (pc := 14) (tgt := 45) dX4_restarts_14 (by decide) (fun _ => ?_) (fun c_14 => absurd rfl c_14)
    refine ev_iconst (pc := 45) (v := 0) dX4_restarts_45 (by decide) ?_
    refine ev_istore_n (pc := 46) dX4_restarts_46 rfl rfl rfl ?_
    refine ev_aload_n (pc := 47) dX4_restarts_47 rfl rfl ?_
    refine ev_iload_n (pc := 48) dX4_restarts_48 rfl rfl ?_
    refine ev_if_eq (pc := 49) (tgt := 56) dX4_restarts_49 (by decide) (fun _ => ?_) (fun c_49 => absurd rfl c_49)
    refine ev_iconst (pc := 56) (v := 1) dX4_restarts_56 (by decide) ?_
    refine cV1 (pc := 57) lk_X4_restarts_57 rfl rfl rfl (Nat.le_of_ble_eq_true rfl) ⟨Nat.le_of_ble_eq_true rfl, Nat.le_of_ble_eq_true rfl⟩ (s_reads (s := 1) hSL (by decide) hx) ?_
    exact ev_iretE (pc := 60) dX4_restarts_60 rfl ⟨Nat.le_of_ble_eq_true rfl, Nat.le_of_ble_eq_true rfl⟩ rfl rfl
  · rw [h0] at g0
    rw [h1] at g1
    have b0 := hb 0 x0 (by decide) h0
    have b1 := hb 1 x1 (by decide) h1
    refine evs_of (by decide +kernel) (Nat.le_of_ble_eq_true rfl) (by decide) rfl rfl ?_
    refine ev_aload_n (pc := 0) dX4_restarts_0 rfl rfl ?_
    refine ev_iconst (pc := 1) (v := (-1)) dX4_restarts_1 (by decide) ?_
    refine ev_put (pc := 2) dX4_restarts_2 fp_X4_32 rfl (Nat.le_of_ble_eq_true rfl) (fun _ _ => ⟨rfl, rfl⟩) rfl ?_
    refine ev_aload_n (pc := 5) dX4_restarts_5 rfl rfl ?_
    refine cV0 (pc := 6) lk_X4_restarts_6 rfl rfl rfl (Nat.le_of_ble_eq_true rfl) ⟨Nat.le_of_ble_eq_true rfl, Nat.le_of_ble_eq_true rfl⟩ e1 ?_
    refine ev_aload_n (pc := 9) dX4_restarts_9 rfl rfl ?_
    refine ev_iconst (pc := 10) (v := 0) dX4_restarts_10 (by decide) ?_
    refine cV1 (pc := 11) lk_X4_restarts_11 rfl rfl rfl (Nat.le_of_ble_eq_true rfl) ⟨Nat.le_of_ble_eq_true rfl, Nat.le_of_ble_eq_true rfl⟩ (s_whole1 (s := 0) (by decide) g0.1) ?_
    refine ev_if_eq (pc := 14) (tgt := 45) dX4_restarts_14 (by decide) (fun c_14 => absurd c_14 (by decide)) (fun _ => ?_)
    refine ev_aload_n (pc := 17) dX4_restarts_17 rfl rfl ?_
    refine ev_iconst (pc := 18) (v := 1) dX4_restarts_18 (by decide) ?_
    refine cV1 (pc := 19) lk_X4_restarts_19 rfl rfl rfl (Nat.le_of_ble_eq_true rfl) ⟨Nat.le_of_ble_eq_true rfl, Nat.le_of_ble_eq_true rfl⟩ (s_whole1 (s := 1) (by decide) g1.1) ?_
    refine ev_if_eq (pc := 22) (tgt := 41) dX4_restarts_22 (by decide) (fun c_22 => absurd c_22 (by decide)) (fun _ => ?_)
    refine ev_aload_n (pc := 25) dX4_restarts_25 rfl rfl ?_
    refine ev_get (pc := 26) dX4_restarts_26 fd_X4_36 rfl rfl ?_
    refine ev_iconst (pc := 29) (v := 0) dX4_restarts_29 (by decide) ?_
    refine ev_laldN (pc := 30) dX4_restarts_30 rfl ⟨(show _ = nI 0 from rfl), by decide, by decide⟩ g0.2.1 ?_
    refine ev_aload_n (pc := 31) dX4_restarts_31 rfl rfl ?_
    refine ev_get (pc := 32) dX4_restarts_32 fd_X4_36 rfl rfl ?_
    refine ev_iconst (pc := 35) (v := 4) dX4_restarts_35 (by decide) ?_
    refine ev_laldN (pc := 36) dX4_restarts_36 rfl ⟨(show _ = nI 4 from rfl), by decide, by decide⟩ g1.2.1 ?_
    refine ev_lcmp (pc := 37) dX4_restarts_37 ?_
    refine ev_if_lt (pc := 38) (tgt := 45) dX4_restarts_38 (by decide) (fun _ => ?_) (fun c_38 => absurd ((lg_cmp_lt _ _).mpr (Int64.not_le.mp (fun h9 => absurd ((l64_le b1 b0).mp h9) (by omega)))) c_38)
    refine ev_iconst (pc := 45) (v := 0) dX4_restarts_45 (by decide) ?_
    refine ev_istore_n (pc := 46) dX4_restarts_46 rfl rfl rfl ?_
    refine ev_aload_n (pc := 47) dX4_restarts_47 rfl rfl ?_
    refine ev_iload_n (pc := 48) dX4_restarts_48 rfl rfl ?_
    refine ev_if_eq (pc := 49) (tgt := 56) dX4_restarts_49 (by decide) (fun _ => ?_) (fun c_49 => absurd rfl c_49)
    refine ev_iconst (pc := 56) (v := 1) dX4_restarts_56 (by decide) ?_
    refine cV1 (pc := 57) lk_X4_restarts_57 rfl rfl rfl (Nat.le_of_ble_eq_true rfl) ⟨Nat.le_of_ble_eq_true rfl, Nat.le_of_ble_eq_true rfl⟩ (s_reads (s := 1) hSL (by decide) hx) ?_
    exact ev_iretE (pc := 60) dX4_restarts_60 rfl ⟨Nat.le_of_ble_eq_true rfl, Nat.le_of_ble_eq_true rfl⟩ rfl rfl
  · rw [h0] at g0
    rw [h1] at g1
    refine evs_of (by decide +kernel) (Nat.le_of_ble_eq_true rfl) (by decide) rfl rfl ?_
    refine ev_aload_n (pc := 0) dX4_restarts_0 rfl rfl ?_
    refine ev_iconst (pc := 1) (v := (-1)) dX4_restarts_1 (by decide) ?_
    refine ev_put (pc := 2) dX4_restarts_2 fp_X4_32 rfl (Nat.le_of_ble_eq_true rfl) (fun _ _ => ⟨rfl, rfl⟩) rfl ?_
    refine ev_aload_n (pc := 5) dX4_restarts_5 rfl rfl ?_
    refine cV0 (pc := 6) lk_X4_restarts_6 rfl rfl rfl (Nat.le_of_ble_eq_true rfl) ⟨Nat.le_of_ble_eq_true rfl, Nat.le_of_ble_eq_true rfl⟩ e1 ?_
    refine ev_aload_n (pc := 9) dX4_restarts_9 rfl rfl ?_
    refine ev_iconst (pc := 10) (v := 0) dX4_restarts_10 (by decide) ?_
    refine cV1 (pc := 11) lk_X4_restarts_11 rfl rfl rfl (Nat.le_of_ble_eq_true rfl) ⟨Nat.le_of_ble_eq_true rfl, Nat.le_of_ble_eq_true rfl⟩ (s_whole1 (s := 0) (by decide) g0.1) ?_
    refine ev_if_eq (pc := 14) (tgt := 45) dX4_restarts_14 (by decide) (fun c_14 => absurd c_14 (by decide)) (fun _ => ?_)
    refine ev_aload_n (pc := 17) dX4_restarts_17 rfl rfl ?_
    refine ev_iconst (pc := 18) (v := 1) dX4_restarts_18 (by decide) ?_
    refine cV1 (pc := 19) lk_X4_restarts_19 rfl rfl rfl (Nat.le_of_ble_eq_true rfl) ⟨Nat.le_of_ble_eq_true rfl, Nat.le_of_ble_eq_true rfl⟩ (s_whole0 (s := 1) (by decide) g1) ?_
    refine ev_if_eq (pc := 22) (tgt := 41) dX4_restarts_22 (by decide) (fun _ => ?_) (fun c_22 => absurd rfl c_22)
    refine ev_iconst (pc := 41) (v := 1) dX4_restarts_41 (by decide) ?_
    refine ev_goto (pc := 42) (tgt := 46) dX4_restarts_42 (by decide) ?_
    refine ev_istore_n (pc := 46) dX4_restarts_46 rfl rfl rfl ?_
    refine ev_aload_n (pc := 47) dX4_restarts_47 rfl rfl ?_
    refine ev_iload_n (pc := 48) dX4_restarts_48 rfl rfl ?_
    refine ev_if_eq (pc := 49) (tgt := 56) dX4_restarts_49 (by decide) (fun c_49 => absurd c_49 (by decide)) (fun _ => ?_)
    refine ev_iconst (pc := 52) (v := 0) dX4_restarts_52 (by decide) ?_
    refine ev_goto (pc := 53) (tgt := 57) dX4_restarts_53 (by decide) ?_
    refine cV1 (pc := 57) lk_X4_restarts_57 rfl rfl rfl (Nat.le_of_ble_eq_true rfl) ⟨Nat.le_of_ble_eq_true rfl, Nat.le_of_ble_eq_true rfl⟩ (s_reads (s := 0) hSL (by decide) hx) ?_
    exact ev_iretE (pc := 60) dX4_restarts_60 rfl ⟨Nat.le_of_ble_eq_true rfl, Nat.le_of_ble_eq_true rfl⟩ rfl rfl
  · rw [h0] at g0
    rw [h1] at g1
    have b0 := hb 0 x0 (by decide) h0
    have b1 := hb 1 x1 (by decide) h1
    refine evs_of (by decide +kernel) (Nat.le_of_ble_eq_true rfl) (by decide) rfl rfl ?_
    refine ev_aload_n (pc := 0) dX4_restarts_0 rfl rfl ?_
    refine ev_iconst (pc := 1) (v := (-1)) dX4_restarts_1 (by decide) ?_
    refine ev_put (pc := 2) dX4_restarts_2 fp_X4_32 rfl (Nat.le_of_ble_eq_true rfl) (fun _ _ => ⟨rfl, rfl⟩) rfl ?_
    refine ev_aload_n (pc := 5) dX4_restarts_5 rfl rfl ?_
    refine cV0 (pc := 6) lk_X4_restarts_6 rfl rfl rfl (Nat.le_of_ble_eq_true rfl) ⟨Nat.le_of_ble_eq_true rfl, Nat.le_of_ble_eq_true rfl⟩ e1 ?_
    refine ev_aload_n (pc := 9) dX4_restarts_9 rfl rfl ?_
    refine ev_iconst (pc := 10) (v := 0) dX4_restarts_10 (by decide) ?_
    refine cV1 (pc := 11) lk_X4_restarts_11 rfl rfl rfl (Nat.le_of_ble_eq_true rfl) ⟨Nat.le_of_ble_eq_true rfl, Nat.le_of_ble_eq_true rfl⟩ (s_whole1 (s := 0) (by decide) g0.1) ?_
    refine ev_if_eq (pc := 14) (tgt := 45) dX4_restarts_14 (by decide) (fun c_14 => absurd c_14 (by decide)) (fun _ => ?_)
    refine ev_aload_n (pc := 17) dX4_restarts_17 rfl rfl ?_
    refine ev_iconst (pc := 18) (v := 1) dX4_restarts_18 (by decide) ?_
    refine cV1 (pc := 19) lk_X4_restarts_19 rfl rfl rfl (Nat.le_of_ble_eq_true rfl) ⟨Nat.le_of_ble_eq_true rfl, Nat.le_of_ble_eq_true rfl⟩ (s_whole1 (s := 1) (by decide) g1.1) ?_
    refine ev_if_eq (pc := 22) (tgt := 41) dX4_restarts_22 (by decide) (fun c_22 => absurd c_22 (by decide)) (fun _ => ?_)
    refine ev_aload_n (pc := 25) dX4_restarts_25 rfl rfl ?_
    refine ev_get (pc := 26) dX4_restarts_26 fd_X4_36 rfl rfl ?_
    refine ev_iconst (pc := 29) (v := 0) dX4_restarts_29 (by decide) ?_
    refine ev_laldN (pc := 30) dX4_restarts_30 rfl ⟨(show _ = nI 0 from rfl), by decide, by decide⟩ g0.2.1 ?_
    refine ev_aload_n (pc := 31) dX4_restarts_31 rfl rfl ?_
    refine ev_get (pc := 32) dX4_restarts_32 fd_X4_36 rfl rfl ?_
    refine ev_iconst (pc := 35) (v := 4) dX4_restarts_35 (by decide) ?_
    refine ev_laldN (pc := 36) dX4_restarts_36 rfl ⟨(show _ = nI 4 from rfl), by decide, by decide⟩ g1.2.1 ?_
    refine ev_lcmp (pc := 37) dX4_restarts_37 ?_
    refine ev_if_lt (pc := 38) (tgt := 45) dX4_restarts_38 (by decide) (fun c_38 => absurd c_38 (fun h9 => absurd ((l64_le b1 b0).mpr hle) (Int64.not_le.mpr ((lg_cmp_lt _ _).mp h9)))) (fun _ => ?_)
    refine ev_iconst (pc := 41) (v := 1) dX4_restarts_41 (by decide) ?_
    refine ev_goto (pc := 42) (tgt := 46) dX4_restarts_42 (by decide) ?_
    refine ev_istore_n (pc := 46) dX4_restarts_46 rfl rfl rfl ?_
    refine ev_aload_n (pc := 47) dX4_restarts_47 rfl rfl ?_
    refine ev_iload_n (pc := 48) dX4_restarts_48 rfl rfl ?_
    refine ev_if_eq (pc := 49) (tgt := 56) dX4_restarts_49 (by decide) (fun c_49 => absurd c_49 (by decide)) (fun _ => ?_)
    refine ev_iconst (pc := 52) (v := 0) dX4_restarts_52 (by decide) ?_
    refine ev_goto (pc := 53) (tgt := 57) dX4_restarts_53 (by decide) ?_
    refine cV1 (pc := 57) lk_X4_restarts_57 rfl rfl rfl (Nat.le_of_ble_eq_true rfl) ⟨Nat.le_of_ble_eq_true rfl, Nat.le_of_ble_eq_true rfl⟩ (s_reads (s := 0) hSL (by decide) hx) ?_
    exact ev_iretE (pc := 60) dX4_restarts_60 rfl ⟨Nat.le_of_ble_eq_true rfl, Nat.le_of_ble_eq_true rfl⟩ rfl rfl
theorem s_mCrash {cc : C21} {ep ro bb sl th dp : Int32} {many inn item val wr met rst : Nat → Int32} {wds : Nat → Int64} {opd ope way tk : Nat → Int32} {tl : List mC} (hSL : SLR wds so) (hb : ∀ s x, s < 2 → so s = some x → x.1 < 2147483648) {s : Nat} {x : RS3} (hs : s < 2) (hl : lat so s) (hx : so s = some x) : ∃ opd', opC opd' ope noR ∧ EvS m_X4_crash [.ref 21] (dW cc ep ro bb sl th dp many inn item val wr met rst wds opd ope way tk tl) (.inl (some (.int (nI x.1)))) (dW cc (nI x.1) (nI x.2.1) (-1) (nI s) 0 dp many inn item val wr met rst wds opd' ope way tk tl) := by
  obtain ⟨o1, hop, e1⟩ := s_restarts (cc := cc) (ep := ep) (ro := ro) (bb := bb) (sl := sl) (th := 0) (dp := dp) (many := many) (inn := inn) (item := item) (val := val) (wr := wr) (met := met) (rst := rst) (wds := wds) (opd := opd) (ope := ope) (way := way) (tk := tk) (tl := tl) hSL hb hs hl hx
  refine ⟨o1, hop, ?_⟩
  refine evs_of (by decide +kernel) (Nat.le_of_ble_eq_true rfl) (by decide) rfl rfl ?_
  refine ev_aload_n (pc := 0) dX4_crash_0 rfl rfl ?_
  refine ev_iconst (pc := 1) (v := 0) dX4_crash_1 (by decide) ?_
  refine ev_put (pc := 2) dX4_crash_2 fp_X4_55 rfl (Nat.le_of_ble_eq_true rfl) (fun _ _ => ⟨rfl, rfl⟩) rfl ?_
  refine ev_aload_n (pc := 5) dX4_crash_5 rfl rfl ?_
  refine cV0 (pc := 6) lk_X4_crash_6 rfl rfl rfl (Nat.le_of_ble_eq_true rfl) ⟨Nat.le_of_ble_eq_true rfl, Nat.le_of_ble_eq_true rfl⟩ e1 ?_
  exact ev_iretE (pc := 9) dX4_crash_9 rfl ⟨Nat.le_of_ble_eq_true rfl, Nat.le_of_ble_eq_true rfl⟩ rfl rfl
theorem s_mCicT1 {cc : C21} {ep ro bb sl th dp : Int32} {many inn item val wr met rst : Nat → Int32} {wds : Nat → Int64} {opd ope way tk : Nat → Int32} {tl : List mC} {i : Int32} (h : i < 0 ∨ (4 : Int32) < i) : EvS m_X4_crashInCommit [.ref 21, .int i] (dW cc ep ro bb sl th dp many inn item val wr met rst wds opd ope way tk tl) (.inl (some (.int 0))) (dW cc ep ro bb sl 1 dp many inn item val wr met rst wds opd ope way tk tl) := by
  have hp : i < 1 ∨ (3 : Int32) < i := h.imp (fun h => Int32.lt_trans h (by decide)) (fun h => Int32.lt_trans (by decide) h)
  by_cases hb1 : bb = -1
  · refine evs_of (by decide +kernel) (Nat.le_of_ble_eq_true rfl) (by decide) rfl rfl ?_
    refine ev_iload_n (pc := 0) dX4_crashInCommit_0 rfl rfl ?_
    refine ev_iconst (pc := 1) (v := 1) dX4_crashInCommit_1 (by decide) ?_
    refine ev_iconst (pc := 2) (v := 3) dX4_crashInCommit_2 (by decide) ?_
    refine cS3 (pc := 3) lk_X4_crashInCommit_3 (Nat.le_of_ble_eq_true rfl) ⟨Nat.le_of_ble_eq_true rfl, Nat.le_of_ble_eq_true rfl⟩ (s_in0 hp) ?_
    refine ev_istore_n (pc := 6) dX4_crashInCommit_6 rfl rfl rfl ?_
    refine ev_aload_n (pc := 7) dX4_crashInCommit_7 rfl rfl ?_
    refine ev_iload_n (pc := 8) dX4_crashInCommit_8 rfl rfl ?_
    refine ev_iconst (pc := 9) (v := 0) dX4_crashInCommit_9 (by decide) ?_
    refine ev_iconst (pc := 10) (v := 4) dX4_crashInCommit_10 (by decide) ?_
    refine cS3 (pc := 11) lk_X4_crashInCommit_11 (Nat.le_of_ble_eq_true rfl) ⟨Nat.le_of_ble_eq_true rfl, Nat.le_of_ble_eq_true rfl⟩ (s_in0 h) ?_
    refine ev_aload_n (pc := 14) dX4_crashInCommit_14 rfl rfl ?_
    refine ev_get (pc := 15) dX4_crashInCommit_15 fd_X4_32 rfl rfl ?_
    refine ev_iconst (pc := 18) (v := (-1)) dX4_crashInCommit_18 (by decide) ?_
    refine ev_ic_eq (pc := 19) (tgt := 41) dX4_crashInCommit_19 (by decide) (fun _ => ?_) (fun c_19 => absurd hb1 c_19)
    refine ev_iconst (pc := 41) (v := 0) dX4_crashInCommit_41 (by decide) ?_
    refine ev_iconst (pc := 42) (v := 1) dX4_crashInCommit_42 (by decide) ?_
    refine cV3 (pc := 43) lk_X4_crashInCommit_43 rfl rfl rfl (Nat.le_of_ble_eq_true rfl) ⟨Nat.le_of_ble_eq_true rfl, Nat.le_of_ble_eq_true rfl⟩ (s_goesT1 (cc := cc) (ep := ep) (ro := ro) (bb := bb) (sl := sl) (th := th) (dp := dp) (many := many) (inn := inn) (item := item) (val := val) (wr := wr) (met := met) (rst := rst) (wds := wds) (opd := opd) (ope := ope) (way := way) (tk := tk) (tl := tl)) ?_
    refine ev_if_ne (pc := 46) (tgt := 51) dX4_crashInCommit_46 (by decide) (fun c_46 => absurd (by decide) c_46) (fun _ => ?_)
    refine ev_iconst (pc := 49) (v := 0) dX4_crashInCommit_49 (by decide) ?_
    exact ev_iretE (pc := 50) dX4_crashInCommit_50 rfl ⟨Nat.le_of_ble_eq_true rfl, Nat.le_of_ble_eq_true rfl⟩ rfl rfl
  · refine evs_of (by decide +kernel) (Nat.le_of_ble_eq_true rfl) (by decide) rfl rfl ?_
    refine ev_iload_n (pc := 0) dX4_crashInCommit_0 rfl rfl ?_
    refine ev_iconst (pc := 1) (v := 1) dX4_crashInCommit_1 (by decide) ?_
    refine ev_iconst (pc := 2) (v := 3) dX4_crashInCommit_2 (by decide) ?_
    refine cS3 (pc := 3) lk_X4_crashInCommit_3 (Nat.le_of_ble_eq_true rfl) ⟨Nat.le_of_ble_eq_true rfl, Nat.le_of_ble_eq_true rfl⟩ (s_in0 hp) ?_
    refine ev_istore_n (pc := 6) dX4_crashInCommit_6 rfl rfl rfl ?_
    refine ev_aload_n (pc := 7) dX4_crashInCommit_7 rfl rfl ?_
    refine ev_iload_n (pc := 8) dX4_crashInCommit_8 rfl rfl ?_
    refine ev_iconst (pc := 9) (v := 0) dX4_crashInCommit_9 (by decide) ?_
    refine ev_iconst (pc := 10) (v := 4) dX4_crashInCommit_10 (by decide) ?_
    refine cS3 (pc := 11) lk_X4_crashInCommit_11 (Nat.le_of_ble_eq_true rfl) ⟨Nat.le_of_ble_eq_true rfl, Nat.le_of_ble_eq_true rfl⟩ (s_in0 h) ?_
    refine ev_aload_n (pc := 14) dX4_crashInCommit_14 rfl rfl ?_
    refine ev_get (pc := 15) dX4_crashInCommit_15 fd_X4_32 rfl rfl ?_
    refine ev_iconst (pc := 18) (v := (-1)) dX4_crashInCommit_18 (by decide) ?_
    refine ev_ic_eq (pc := 19) (tgt := 41) dX4_crashInCommit_19 (by decide) (fun c_19 => absurd c_19 hb1) (fun _ => ?_)
    refine ev_iload_n (pc := 22) dX4_crashInCommit_22 rfl rfl ?_
    refine ev_if_eq (pc := 23) (tgt := 37) dX4_crashInCommit_23 (by decide) (fun _ => ?_) (fun c_23 => absurd rfl c_23)
    refine ev_iconst (pc := 37) (v := 1) dX4_crashInCommit_37 (by decide) ?_
    refine ev_goto (pc := 38) (tgt := 42) dX4_crashInCommit_38 (by decide) ?_
    refine ev_iconst (pc := 42) (v := 1) dX4_crashInCommit_42 (by decide) ?_
    refine cV3 (pc := 43) lk_X4_crashInCommit_43 rfl rfl rfl (Nat.le_of_ble_eq_true rfl) ⟨Nat.le_of_ble_eq_true rfl, Nat.le_of_ble_eq_true rfl⟩ (s_goesT1 (cc := cc) (ep := ep) (ro := ro) (bb := bb) (sl := sl) (th := th) (dp := dp) (many := many) (inn := inn) (item := item) (val := val) (wr := wr) (met := met) (rst := rst) (wds := wds) (opd := opd) (ope := ope) (way := way) (tk := tk) (tl := tl)) ?_
    refine ev_if_ne (pc := 46) (tgt := 51) dX4_crashInCommit_46 (by decide) (fun c_46 => absurd (by decide) c_46) (fun _ => ?_)
    refine ev_iconst (pc := 49) (v := 0) dX4_crashInCommit_49 (by decide) ?_
    exact ev_iretE (pc := 50) dX4_crashInCommit_50 rfl ⟨Nat.le_of_ble_eq_true rfl, Nat.le_of_ble_eq_true rfl⟩ rfl rfl
theorem s_mCicT2 {cc : C21} {ep ro bb sl th dp : Int32} {many inn item val wr met rst : Nat → Int32} {wds : Nat → Int64} {opd ope way tk : Nat → Int32} {tl : List mC} {n : Nat} (hn : n ≤ 4) : EvS m_X4_crashInCommit [.ref 21, .int (nI n)] (dW cc ep ro (-1) sl th dp many inn item val wr met rst wds opd ope way tk tl) (.inl (some (.int 0))) (dW cc ep ro (-1) sl 2 dp many inn item val wr met rst wds opd ope way tk tl) := by
  obtain ⟨v, ei⟩ : ∃ v : Int32, EvS m_X4_in [.int (nI n), .int 1, .int 3] (dW cc ep ro (-1) sl th dp many inn item val wr met rst wds opd ope way tk tl) (.inl (some (.int v))) (dW cc ep ro (-1) sl th dp many inn item val wr met rst wds opd ope way tk tl) := by
    by_cases h : nI n < 1 ∨ (3 : Int32) < nI n
    · exact ⟨0, s_in0 h⟩
    · exact ⟨1, s_in1 (Int32.not_lt.mp (fun h1 => h (Or.inl h1))) (Int32.not_lt.mp (fun h1 => h (Or.inr h1)))⟩
  refine evs_of (by decide +kernel) (Nat.le_of_ble_eq_true rfl) (by decide) rfl rfl ?_
  refine ev_iload_n (pc := 0) dX4_crashInCommit_0 rfl rfl ?_
  refine ev_iconst (pc := 1) (v := 1) dX4_crashInCommit_1 (by decide) ?_
  refine ev_iconst (pc := 2) (v := 3) dX4_crashInCommit_2 (by decide) ?_
  refine cS3 (pc := 3) lk_X4_crashInCommit_3 (Nat.le_of_ble_eq_true rfl) ⟨Nat.le_of_ble_eq_true rfl, Nat.le_of_ble_eq_true rfl⟩ ei ?_
  refine ev_istore_n (pc := 6) dX4_crashInCommit_6 rfl rfl rfl ?_
  refine ev_aload_n (pc := 7) dX4_crashInCommit_7 rfl rfl ?_
  refine ev_iload_n (pc := 8) dX4_crashInCommit_8 rfl rfl ?_
  refine ev_iconst (pc := 9) (v := 0) dX4_crashInCommit_9 (by decide) ?_
  refine ev_iconst (pc := 10) (v := 4) dX4_crashInCommit_10 (by decide) ?_
  refine cS3 (pc := 11) lk_X4_crashInCommit_11 (Nat.le_of_ble_eq_true rfl) ⟨Nat.le_of_ble_eq_true rfl, Nat.le_of_ble_eq_true rfl⟩ (s_in1 (nI_pos' (show n < 2147483648 by omega)) (by exact nI_le hn (by decide))) ?_
  refine ev_aload_n (pc := 14) dX4_crashInCommit_14 rfl rfl ?_
  refine ev_get (pc := 15) dX4_crashInCommit_15 fd_X4_32 rfl rfl ?_
  refine ev_iconst (pc := 18) (v := (-1)) dX4_crashInCommit_18 (by decide) ?_
  refine ev_ic_eq (pc := 19) (tgt := 41) dX4_crashInCommit_19 (by decide) (fun _ => ?_) (fun c_19 => absurd rfl c_19)
  refine ev_iconst (pc := 41) (v := 0) dX4_crashInCommit_41 (by decide) ?_
  refine ev_iconst (pc := 42) (v := 1) dX4_crashInCommit_42 (by decide) ?_
  refine cV3 (pc := 43) lk_X4_crashInCommit_43 rfl rfl rfl (Nat.le_of_ble_eq_true rfl) ⟨Nat.le_of_ble_eq_true rfl, Nat.le_of_ble_eq_true rfl⟩ (s_goesT2 (cc := cc) (ep := ep) (ro := ro) (bb := (-1)) (sl := sl) (th := th) (dp := dp) (many := many) (inn := inn) (item := item) (val := val) (wr := wr) (met := met) (rst := rst) (wds := wds) (opd := opd) (ope := ope) (way := way) (tk := tk) (tl := tl)) ?_
  refine ev_if_ne (pc := 46) (tgt := 51) dX4_crashInCommit_46 (by decide) (fun c_46 => absurd (by decide) c_46) (fun _ => ?_)
  refine ev_iconst (pc := 49) (v := 0) dX4_crashInCommit_49 (by decide) ?_
  exact ev_iretE (pc := 50) dX4_crashInCommit_50 rfl ⟨Nat.le_of_ble_eq_true rfl, Nat.le_of_ble_eq_true rfl⟩ rfl rfl
theorem s_mCicT3 {cc : C21} {ep ro bb sl th dp : Int32} {many inn item val wr met rst : Nat → Int32} {wds : Nat → Int64} {opd ope way tk : Nat → Int32} {tl : List mC} {n s r : Nat} (hs : s < 2) (hr : r < 720) (hn : 0 < n ∧ n < 4) (h : ¬ whl wds s) : EvS m_X4_crashInCommit [.ref 21, .int (nI n)] (dW cc ep ro (nI r) (nI s) th dp many inn item val wr met rst wds opd ope way tk tl) (.inl (some (.int 0))) (dW cc ep ro (nI r) (nI s) 2 dp many inn item val wr met rst wds opd ope way tk tl) := by
  refine evs_of (by decide +kernel) (Nat.le_of_ble_eq_true rfl) (by decide) rfl rfl ?_
  refine ev_iload_n (pc := 0) dX4_crashInCommit_0 rfl rfl ?_
  refine ev_iconst (pc := 1) (v := 1) dX4_crashInCommit_1 (by decide) ?_
  refine ev_iconst (pc := 2) (v := 3) dX4_crashInCommit_2 (by decide) ?_
  refine cS3 (pc := 3) lk_X4_crashInCommit_3 (Nat.le_of_ble_eq_true rfl) ⟨Nat.le_of_ble_eq_true rfl, Nat.le_of_ble_eq_true rfl⟩ (s_in1 (by exact nI_le (show 1 ≤ n by omega) (by omega)) (by exact nI_le (show n ≤ 3 by omega) (by decide))) ?_
  refine ev_istore_n (pc := 6) dX4_crashInCommit_6 rfl rfl rfl ?_
  refine ev_aload_n (pc := 7) dX4_crashInCommit_7 rfl rfl ?_
  refine ev_iload_n (pc := 8) dX4_crashInCommit_8 rfl rfl ?_
  refine ev_iconst (pc := 9) (v := 0) dX4_crashInCommit_9 (by decide) ?_
  refine ev_iconst (pc := 10) (v := 4) dX4_crashInCommit_10 (by decide) ?_
  refine cS3 (pc := 11) lk_X4_crashInCommit_11 (Nat.le_of_ble_eq_true rfl) ⟨Nat.le_of_ble_eq_true rfl, Nat.le_of_ble_eq_true rfl⟩ (s_in1 (nI_pos' (show n < 2147483648 by omega)) (by exact nI_le (show n ≤ 4 by omega) (by decide))) ?_
  refine ev_aload_n (pc := 14) dX4_crashInCommit_14 rfl rfl ?_
  refine ev_get (pc := 15) dX4_crashInCommit_15 fd_X4_32 rfl rfl ?_
  refine ev_iconst (pc := 18) (v := (-1)) dX4_crashInCommit_18 (by decide) ?_
  refine ev_ic_eq (pc := 19) (tgt := 41) dX4_crashInCommit_19 (by decide) (fun c_19 => absurd c_19 (nI_m1 (show r < 2147483648 by omega))) (fun _ => ?_)
  refine ev_iload_n (pc := 22) dX4_crashInCommit_22 rfl rfl ?_
  refine ev_if_eq (pc := 23) (tgt := 37) dX4_crashInCommit_23 (by decide) (fun c_23 => absurd c_23 (by decide)) (fun _ => ?_)
  refine ev_aload_n (pc := 26) dX4_crashInCommit_26 rfl rfl ?_
  refine ev_aload_n (pc := 27) dX4_crashInCommit_27 rfl rfl ?_
  refine ev_get (pc := 28) dX4_crashInCommit_28 fd_X4_150 rfl rfl ?_
  refine cV1 (pc := 31) lk_X4_crashInCommit_31 rfl rfl rfl (Nat.le_of_ble_eq_true rfl) ⟨Nat.le_of_ble_eq_true rfl, Nat.le_of_ble_eq_true rfl⟩ (s_whole0 hs h) ?_
  refine ev_if_eq (pc := 34) (tgt := 41) dX4_crashInCommit_34 (by decide) (fun _ => ?_) (fun c_34 => absurd rfl c_34)
  refine ev_iconst (pc := 41) (v := 0) dX4_crashInCommit_41 (by decide) ?_
  refine ev_iconst (pc := 42) (v := 1) dX4_crashInCommit_42 (by decide) ?_
  refine cV3 (pc := 43) lk_X4_crashInCommit_43 rfl rfl rfl (Nat.le_of_ble_eq_true rfl) ⟨Nat.le_of_ble_eq_true rfl, Nat.le_of_ble_eq_true rfl⟩ (s_goesT2 (cc := cc) (ep := ep) (ro := ro) (bb := (nI r)) (sl := (nI s)) (th := th) (dp := dp) (many := many) (inn := inn) (item := item) (val := val) (wr := wr) (met := met) (rst := rst) (wds := wds) (opd := opd) (ope := ope) (way := way) (tk := tk) (tl := tl)) ?_
  refine ev_if_ne (pc := 46) (tgt := 51) dX4_crashInCommit_46 (by decide) (fun c_46 => absurd (by decide) c_46) (fun _ => ?_)
  refine ev_iconst (pc := 49) (v := 0) dX4_crashInCommit_49 (by decide) ?_
  exact ev_iretE (pc := 50) dX4_crashInCommit_50 rfl ⟨Nat.le_of_ble_eq_true rfl, Nat.le_of_ble_eq_true rfl⟩ rfl rfl
theorem s_mCic {cc : C21} {ep ro bb sl th dp : Int32} {many inn item val wr met rst : Nat → Int32} {wds : Nat → Int64} {opd ope way tk : Nat → Int32} {tl : List mC} (hR : Rm many inn item val T U) {y : RS3} {d n s0 : Nat} (hs0 : s0 < 2) (hn4 : n ≤ 4) (hw : 0 < n ∧ n < 4 → whl wds s0) (hf : rt T U d y.2.1) (hy7 : y.2.1 < 720) (hn : wsm T one1 d y.2.1 ≤ 700) (hk : wsm T (lfW T 100) d y.2.1 = y.2.2) (hy1 : y.1 = c.1 + 1) (hSL : SLR (wrS wds (1 - s0) y n) so) (hb : ∀ s x, s < 2 → so s = some x → x.1 < 2147483648) {s : Nat} {x : RS3} (hs : s < 2) (hl : lat so s) (hx : so s = some x) : ∃ opd' rst', opC opd' ope noR ∧ EvS m_X4_crashInCommit [.ref 21, .int (nI n)] (dW cc (nI c.1) ro (nI y.2.1) (nI s0) th dp many inn item val wr met rst wds opd ope way tk tl) (.inl (some (.int (nI x.1)))) (dW cc (nI x.1) (nI x.2.1) (-1) (nI s) 0 dp many inn item val wr met rst' (wrS wds (1 - s0) y n) opd' ope way tk tl) := by
  obtain ⟨r1, e1⟩ := s_writes (cc := cc) (ep := ep) (ro := ro) (bb := bb) (sl := sl) (th := 0) (dp := dp) (many := many) (inn := inn) (item := item) (val := val) (wr := wr) (met := met) (rst := rst) (wds := wds) (opd := opd) (ope := ope) (way := way) (tk := tk) (tl := tl) hR hs0 hn4 hf hn hk hy1
  obtain ⟨o1, hop, e2⟩ := s_restarts (cc := cc) (ep := (nI c.1)) (ro := ro) (bb := (nI y.2.1)) (sl := (nI s0)) (th := 0) (dp := dp) (many := many) (inn := inn) (item := item) (val := val) (wr := wr) (met := met) (rst := r1) (wds := (wrS wds (1 - s0) y n)) (opd := opd) (ope := ope) (way := way) (tk := tk) (tl := tl) hSL hb hs hl hx
  refine ⟨o1, r1, hop, ?_⟩
  by_cases hp : 0 < n ∧ n < 4
  · refine evs_of (by decide +kernel) (Nat.le_of_ble_eq_true rfl) (by decide) rfl rfl ?_
    refine ev_iload_n (pc := 0) dX4_crashInCommit_0 rfl rfl ?_
    refine ev_iconst (pc := 1) (v := 1) dX4_crashInCommit_1 (by decide) ?_
    refine ev_iconst (pc := 2) (v := 3) dX4_crashInCommit_2 (by decide) ?_
    refine cS3 (pc := 3) lk_X4_crashInCommit_3 (Nat.le_of_ble_eq_true rfl) ⟨Nat.le_of_ble_eq_true rfl, Nat.le_of_ble_eq_true rfl⟩ (s_in1 (by exact nI_le (show 1 ≤ n by omega) (by omega)) (by exact nI_le (show n ≤ 3 by omega) (by decide))) ?_
    refine ev_istore_n (pc := 6) dX4_crashInCommit_6 rfl rfl rfl ?_
    refine ev_aload_n (pc := 7) dX4_crashInCommit_7 rfl rfl ?_
    refine ev_iload_n (pc := 8) dX4_crashInCommit_8 rfl rfl ?_
    refine ev_iconst (pc := 9) (v := 0) dX4_crashInCommit_9 (by decide) ?_
    refine ev_iconst (pc := 10) (v := 4) dX4_crashInCommit_10 (by decide) ?_
    refine cS3 (pc := 11) lk_X4_crashInCommit_11 (Nat.le_of_ble_eq_true rfl) ⟨Nat.le_of_ble_eq_true rfl, Nat.le_of_ble_eq_true rfl⟩ (s_in1 (nI_pos' (show n < 2147483648 by omega)) (by exact nI_le (show n ≤ 4 by omega) (by decide))) ?_
    refine ev_aload_n (pc := 14) dX4_crashInCommit_14 rfl rfl ?_
    refine ev_get (pc := 15) dX4_crashInCommit_15 fd_X4_32 rfl rfl ?_
    refine ev_iconst (pc := 18) (v := (-1)) dX4_crashInCommit_18 (by decide) ?_
    refine ev_ic_eq (pc := 19) (tgt := 41) dX4_crashInCommit_19 (by decide) (fun c_19 => absurd c_19 (nI_m1 (show y.2.1 < 2147483648 by omega))) (fun _ => ?_)
    refine ev_iload_n (pc := 22) dX4_crashInCommit_22 rfl rfl ?_
    refine ev_if_eq (pc := 23) (tgt := 37) dX4_crashInCommit_23 (by decide) (fun c_23 => absurd c_23 (by decide)) (fun _ => ?_)
    refine ev_aload_n (pc := 26) dX4_crashInCommit_26 rfl rfl ?_
    refine ev_aload_n (pc := 27) dX4_crashInCommit_27 rfl rfl ?_
    refine ev_get (pc := 28) dX4_crashInCommit_28 fd_X4_150 rfl rfl ?_
    refine cV1 (pc := 31) lk_X4_crashInCommit_31 rfl rfl rfl (Nat.le_of_ble_eq_true rfl) ⟨Nat.le_of_ble_eq_true rfl, Nat.le_of_ble_eq_true rfl⟩ (s_whole1 hs0 (hw hp)) ?_
    refine ev_if_eq (pc := 34) (tgt := 41) dX4_crashInCommit_34 (by decide) (fun c_34 => absurd c_34 (by decide)) (fun _ => ?_)
    refine ev_iconst (pc := 37) (v := 1) dX4_crashInCommit_37 (by decide) ?_
    refine ev_goto (pc := 38) (tgt := 42) dX4_crashInCommit_38 (by decide) ?_
    refine ev_iconst (pc := 42) (v := 1) dX4_crashInCommit_42 (by decide) ?_
    refine cV3 (pc := 43) lk_X4_crashInCommit_43 rfl rfl rfl (Nat.le_of_ble_eq_true rfl) ⟨Nat.le_of_ble_eq_true rfl, Nat.le_of_ble_eq_true rfl⟩ (s_goes (cc := cc) (ep := (nI c.1)) (ro := ro) (bb := (nI y.2.1)) (sl := (nI s0)) (th := th) (dp := dp) (many := many) (inn := inn) (item := item) (val := val) (wr := wr) (met := met) (rst := rst) (wds := wds) (opd := opd) (ope := ope) (way := way) (tk := tk) (tl := tl)) ?_
    refine ev_if_ne (pc := 46) (tgt := 51) dX4_crashInCommit_46 (by decide) (fun _ => ?_) (fun c_46 => absurd c_46 (by decide))
    refine ev_aload_n (pc := 51) dX4_crashInCommit_51 rfl rfl ?_
    refine ev_iload_n (pc := 52) dX4_crashInCommit_52 rfl rfl ?_
    refine cV1 (pc := 53) lk_X4_crashInCommit_53 rfl rfl rfl (Nat.le_of_ble_eq_true rfl) ⟨Nat.le_of_ble_eq_true rfl, Nat.le_of_ble_eq_true rfl⟩ e1 ?_
    refine ev_aload_n (pc := 56) dX4_crashInCommit_56 rfl rfl ?_
    refine cV0 (pc := 57) lk_X4_crashInCommit_57 rfl rfl rfl (Nat.le_of_ble_eq_true rfl) ⟨Nat.le_of_ble_eq_true rfl, Nat.le_of_ble_eq_true rfl⟩ e2 ?_
    exact ev_iretE (pc := 60) dX4_crashInCommit_60 rfl ⟨Nat.le_of_ble_eq_true rfl, Nat.le_of_ble_eq_true rfl⟩ rfl rfl
  · have h03 : nI n < 1 ∨ (3 : Int32) < nI n := by
      have : n = 0 ∨ n = 4 := by omega
      rcases this with rfl | rfl
      · exact Or.inl (by decide)
      · exact Or.inr (by decide)
    refine evs_of (by decide +kernel) (Nat.le_of_ble_eq_true rfl) (by decide) rfl rfl ?_
    refine ev_iload_n (pc := 0) dX4_crashInCommit_0 rfl rfl ?_
    refine ev_iconst (pc := 1) (v := 1) dX4_crashInCommit_1 (by decide) ?_
    refine ev_iconst (pc := 2) (v := 3) dX4_crashInCommit_2 (by decide) ?_
    refine cS3 (pc := 3) lk_X4_crashInCommit_3 (Nat.le_of_ble_eq_true rfl) ⟨Nat.le_of_ble_eq_true rfl, Nat.le_of_ble_eq_true rfl⟩ (s_in0 h03) ?_
    refine ev_istore_n (pc := 6) dX4_crashInCommit_6 rfl rfl rfl ?_
    refine ev_aload_n (pc := 7) dX4_crashInCommit_7 rfl rfl ?_
    refine ev_iload_n (pc := 8) dX4_crashInCommit_8 rfl rfl ?_
    refine ev_iconst (pc := 9) (v := 0) dX4_crashInCommit_9 (by decide) ?_
    refine ev_iconst (pc := 10) (v := 4) dX4_crashInCommit_10 (by decide) ?_
    refine cS3 (pc := 11) lk_X4_crashInCommit_11 (Nat.le_of_ble_eq_true rfl) ⟨Nat.le_of_ble_eq_true rfl, Nat.le_of_ble_eq_true rfl⟩ (s_in1 (nI_pos' (show n < 2147483648 by omega)) (by exact nI_le (show n ≤ 4 by omega) (by decide))) ?_
    refine ev_aload_n (pc := 14) dX4_crashInCommit_14 rfl rfl ?_
    refine ev_get (pc := 15) dX4_crashInCommit_15 fd_X4_32 rfl rfl ?_
    refine ev_iconst (pc := 18) (v := (-1)) dX4_crashInCommit_18 (by decide) ?_
    refine ev_ic_eq (pc := 19) (tgt := 41) dX4_crashInCommit_19 (by decide) (fun c_19 => absurd c_19 (nI_m1 (show y.2.1 < 2147483648 by omega))) (fun _ => ?_)
    refine ev_iload_n (pc := 22) dX4_crashInCommit_22 rfl rfl ?_
    refine ev_if_eq (pc := 23) (tgt := 37) dX4_crashInCommit_23 (by decide) (fun _ => ?_) (fun c_23 => absurd rfl c_23)
    refine ev_iconst (pc := 37) (v := 1) dX4_crashInCommit_37 (by decide) ?_
    refine ev_goto (pc := 38) (tgt := 42) dX4_crashInCommit_38 (by decide) ?_
    refine ev_iconst (pc := 42) (v := 1) dX4_crashInCommit_42 (by decide) ?_
    refine cV3 (pc := 43) lk_X4_crashInCommit_43 rfl rfl rfl (Nat.le_of_ble_eq_true rfl) ⟨Nat.le_of_ble_eq_true rfl, Nat.le_of_ble_eq_true rfl⟩ (s_goes (cc := cc) (ep := (nI c.1)) (ro := ro) (bb := (nI y.2.1)) (sl := (nI s0)) (th := th) (dp := dp) (many := many) (inn := inn) (item := item) (val := val) (wr := wr) (met := met) (rst := rst) (wds := wds) (opd := opd) (ope := ope) (way := way) (tk := tk) (tl := tl)) ?_
    refine ev_if_ne (pc := 46) (tgt := 51) dX4_crashInCommit_46 (by decide) (fun _ => ?_) (fun c_46 => absurd c_46 (by decide))
    refine ev_aload_n (pc := 51) dX4_crashInCommit_51 rfl rfl ?_
    refine ev_iload_n (pc := 52) dX4_crashInCommit_52 rfl rfl ?_
    refine cV1 (pc := 53) lk_X4_crashInCommit_53 rfl rfl rfl (Nat.le_of_ble_eq_true rfl) ⟨Nat.le_of_ble_eq_true rfl, Nat.le_of_ble_eq_true rfl⟩ e1 ?_
    refine ev_aload_n (pc := 56) dX4_crashInCommit_56 rfl rfl ?_
    refine cV0 (pc := 57) lk_X4_crashInCommit_57 rfl rfl rfl (Nat.le_of_ble_eq_true rfl) ⟨Nat.le_of_ble_eq_true rfl, Nat.le_of_ble_eq_true rfl⟩ e2 ?_
    exact ev_iretE (pc := 60) dX4_crashInCommit_60 rfl ⟨Nat.le_of_ble_eq_true rfl, Nat.le_of_ble_eq_true rfl⟩ rfl rfl
theorem s_thrown {cc : C21} {ep ro bb sl th dp : Int32} {many inn item val wr met rst : Nat → Int32} {wds : Nat → Int64} {opd ope way tk : Nat → Int32} {tl : List mC} : EvS m_X4_thrown [.ref 21] (dW cc ep ro bb sl th dp many inn item val wr met rst wds opd ope way tk tl) (.inl (some (.int th))) (dW cc ep ro bb sl th dp many inn item val wr met rst wds opd ope way tk tl) := by
  refine evs_of (by decide +kernel) (Nat.le_of_ble_eq_true rfl) (by decide) rfl rfl ?_
  refine ev_aload_n (pc := 0) dX4_thrown_0 rfl rfl ?_
  refine ev_get (pc := 1) dX4_thrown_1 fd_X4_55 rfl rfl ?_
  exact ev_iretE (pc := 4) dX4_thrown_4 rfl ⟨Nat.le_of_ble_eq_true rfl, Nat.le_of_ble_eq_true rfl⟩ rfl rfl
end M15
