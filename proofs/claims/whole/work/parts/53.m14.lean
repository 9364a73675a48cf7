/-! the model: the pages' questions, readers -/
/-- in use: in a state's tree or the batch's -/
def mUse (T : Nat → Nd) (c : RS3) (b : Option RS3) (so rd : Nat → Option RS3) (q : Nat) : Prop := RS T (rts c so rd) q ∨ RS T (oRt b) q
/-- what the model's cells hold, for going through all trees -/
def mmR (U : Nat → Prop) (T : Nat → Nd) (c : RS3) (b : Option RS3) (so rd : Nat → Option RS3) (ro bb : Int32) (many inn item val : Nat → Int32) (wds : Nat → Int64) (opd ope : Nat → Int32) : Prop := Rm many inn item val T U ∧ (∀ q, U q → ∀ c ∈ kids (T q), U c) ∧ opC opd ope rd ∧ SLR wds so ∧ ro = nI c.2.1 ∧ bb = bbC b ∧ (∀ r ∈ rts c so rd, U r) ∧ ∀ r ∈ oRt b, U r
section M14
variable {U : Nat → Prop} {T : Nat → Nd} {c : RS3} {b : Option RS3} {so rd : Nat → Option RS3}
theorem rts_set {j : Nat} (hj : j < 4) : rts c so (rdW rd (nI j)) = rts c so (setR rd j none) := by
  have h : ∀ i, i < 4 → rdW rd (nI j) i = setR rd j none i := fun i hi => by
    unfold rdW setR
    by_cases hij : i = j
    · rw [if_pos (by rw [hij]), if_pos hij]
    · rw [if_neg (fun h => hij (nI_inj (by omega) (by omega) h)), if_neg hij]
  simp [rts, rtsF, h 0 (by decide), h 1 (by decide), h 2 (by decide), h 3 (by decide)]
theorem rtsF_W {wo : Int32} : ∀ (m j : Nat) (r : Nat), r ∈ rtsF (rdW rd wo) j m → r ∈ rtsF rd j m
  | 0, _, _, h => h
  | m + 1, j, r, h => by
    rcases List.mem_append.mp h with h | h
    · refine List.mem_append_left _ ?_
      unfold rdW at h
      by_cases hw : nI j = wo
      · rw [if_pos hw] at h
        exact absurd h List.not_mem_nil
      · rw [if_neg hw] at h
        exact h
    · exact List.mem_append_right _ (rtsF_W m (j + 1) r h)
theorem rts_W {wo : Int32} {r : Nat} (h : r ∈ rts c so (rdW rd wo)) : r ∈ rts c so rd := by
  rcases List.mem_cons.mp h with h | h
  · exact List.mem_cons.mpr (Or.inl h)
  · rcases List.mem_append.mp h with h | h
    · exact List.mem_cons_of_mem _ (List.mem_append_left _ h)
    · exact List.mem_cons_of_mem _ (List.mem_append_right _ (rtsF_W 4 0 r h))
theorem s_mA {cc : C21} {ep ro bb sl th dp : Int32} {many inn item val wr met rst : Nat → Int32} {wds : Nat → Int64} {opd ope way tk : Nat → Int32} {tl : List mC} (h : mmR U T c b so rd ro bb many inn item val wds opd ope) {n : Nat} (hn : cntR (mUse T c b so rd) 720 n) : ∃ met' rst', MS met' (mUse T c b so rd) ∧ EvS m_X4_meetsAll [.ref 21, .int (-1)] (dW cc ep ro bb sl th dp many inn item val wr met rst wds opd ope way tk tl) (.inl (some (.int (nI n)))) (dW cc ep ro bb sl th dp many inn item val wr met' rst' wds opd ope way tk tl) := by
  obtain ⟨hR, hU, hop, hSL, hro, hbb, h1, h2⟩ := h
  have e : mAll T c b so rd (-1) = mUse T c b so rd := by
    funext q
    unfold mAll mUse
    rw [rts_no]
  have h9 := s_meetsAll (cc := cc) (ep := ep) (ro := ro) (bb := bb) (sl := sl) (th := th) (dp := dp) (many := many) (inn := inn) (item := item) (val := val) (wr := wr) (met := met) (rst := rst) (wds := wds) (opd := opd) (ope := ope) (way := way) (tk := tk) (tl := tl) hR hU hop hSL (c := c) (b := b) (wo := -1) hro hbb (fun r hr => h1 r (rts_W hr)) h2 (by rw [e]; exact hn)
  rw [e] at h9
  exact h9
theorem s_mAW {cc : C21} {ep ro bb sl th dp : Int32} {many inn item val wr met rst : Nat → Int32} {wds : Nat → Int64} {opd ope way tk : Nat → Int32} {tl : List mC} (h : mmR U T c b so rd ro bb many inn item val wds opd ope) {j n : Nat} (hj : j < 4) (hn : cntR (mUse T c b so (setR rd j none)) 720 n) : ∃ met' rst', MS met' (mUse T c b so (setR rd j none)) ∧ EvS m_X4_meetsAll [.ref 21, .int (nI j)] (dW cc ep ro bb sl th dp many inn item val wr met rst wds opd ope way tk tl) (.inl (some (.int (nI n)))) (dW cc ep ro bb sl th dp many inn item val wr met' rst' wds opd ope way tk tl) := by
  obtain ⟨hR, hU, hop, hSL, hro, hbb, h1, h2⟩ := h
  have e : mAll T c b so rd (nI j) = mUse T c b so (setR rd j none) := by
    funext q
    unfold mAll mUse
    rw [rts_set hj]
  have h9 := s_meetsAll (cc := cc) (ep := ep) (ro := ro) (bb := bb) (sl := sl) (th := th) (dp := dp) (many := many) (inn := inn) (item := item) (val := val) (wr := wr) (met := met) (rst := rst) (wds := wds) (opd := opd) (ope := ope) (way := way) (tk := tk) (tl := tl) hR hU hop hSL (c := c) (b := b) (wo := nI j) hro hbb (fun r hr => h1 r (rts_W hr)) h2 (by rw [e]; exact hn)
  rw [e] at h9
  exact h9
theorem s_mPages {cc : C21} {ep ro bb sl th dp : Int32} {many inn item val wr met rst : Nat → Int32} {wds : Nat → Int64} {opd ope way tk : Nat → Int32} {tl : List mC} (h : mmR U T c b so rd ro bb many inn item val wds opd ope) {n : Nat} (hn : cntR (mUse T c b so rd) 720 n) : ∃ met' rst', EvS m_X4_pagesInUse [.ref 21] (dW cc ep ro bb sl th dp many inn item val wr met rst wds opd ope way tk tl) (.inl (some (.int (nI n)))) (dW cc ep ro bb sl 0 dp many inn item val wr met' rst' wds opd ope way tk tl) := by
  obtain ⟨m1, r1, -, e1⟩ := s_mA (cc := cc) (ep := ep) (ro := ro) (bb := bb) (sl := sl) (th := 0) (dp := dp) (many := many) (inn := inn) (item := item) (val := val) (wr := wr) (met := met) (rst := rst) (wds := wds) (opd := opd) (ope := ope) (way := way) (tk := tk) (tl := tl) h hn
  refine ⟨m1, r1, ?_⟩
  refine evs_of (by decide +kernel) (Nat.le_of_ble_eq_true rfl) (by decide) rfl rfl ?_
  refine ev_aload_n (pc := 0) dX4_pagesInUse_0 rfl rfl ?_
  refine ev_iconst (pc := 1) (v := 0) dX4_pagesInUse_1 (by decide) ?_
  refine ev_put (pc := 2) dX4_pagesInUse_2 fp_X4_55 rfl (Nat.le_of_ble_eq_true rfl) (fun _ _ => ⟨rfl, rfl⟩) rfl ?_
  refine ev_aload_n (pc := 5) dX4_pagesInUse_5 rfl rfl ?_
  refine ev_iconst (pc := 6) (v := (-1)) dX4_pagesInUse_6 (by decide) ?_
  refine cV1 (pc := 7) lk_X4_pagesInUse_7 rfl rfl rfl (Nat.le_of_ble_eq_true rfl) ⟨Nat.le_of_ble_eq_true rfl, Nat.le_of_ble_eq_true rfl⟩ e1 ?_
  exact ev_iretE (pc := 10) dX4_pagesInUse_10 rfl ⟨Nat.le_of_ble_eq_true rfl, Nat.le_of_ble_eq_true rfl⟩ rfl rfl
theorem s_mLeast {cc : C21} {ep ro bb sl th dp : Int32} {many inn item val wr met rst : Nat → Int32} {wds : Nat → Int64} {opd ope way tk : Nat → Int32} {tl : List mC} (h : mmR U T c b so rd ro bb many inn item val wds opd ope) {n : Nat} (hn : n < 720) (h1 : ¬ mUse T c b so rd n) (h2 : ∀ j, j < n → mUse T c b so rd j) : ∃ met' rst', EvS m_X4_leastFree [.ref 21] (dW cc ep ro bb sl th dp many inn item val wr met rst wds opd ope way tk tl) (.inl (some (.int (nI n)))) (dW cc ep ro bb sl 0 dp many inn item val wr met' rst' wds opd ope way tk tl) := by
  obtain ⟨k, hk⟩ := cntR_ex (mUse T c b so rd) 720
  obtain ⟨m1, r1, hM1, e1⟩ := s_mA (cc := cc) (ep := ep) (ro := ro) (bb := bb) (sl := sl) (th := 0) (dp := dp) (many := many) (inn := inn) (item := item) (val := val) (wr := wr) (met := met) (rst := rst) (wds := wds) (opd := opd) (ope := ope) (way := way) (tk := tk) (tl := tl) h hk
  refine ⟨m1, r1, ?_⟩
  refine evs_of (by decide +kernel) (Nat.le_of_ble_eq_true rfl) (by decide) rfl rfl ?_
  refine ev_aload_n (pc := 0) dX4_leastFree_0 rfl rfl ?_
  refine ev_iconst (pc := 1) (v := 0) dX4_leastFree_1 (by decide) ?_
  refine ev_put (pc := 2) dX4_leastFree_2 fp_X4_55 rfl (Nat.le_of_ble_eq_true rfl) (fun _ _ => ⟨rfl, rfl⟩) rfl ?_
  refine ev_aload_n (pc := 5) dX4_leastFree_5 rfl rfl ?_
  refine ev_iconst (pc := 6) (v := (-1)) dX4_leastFree_6 (by decide) ?_
  refine cV1 (pc := 7) lk_X4_leastFree_7 rfl rfl rfl (Nat.le_of_ble_eq_true rfl) ⟨Nat.le_of_ble_eq_true rfl, Nat.le_of_ble_eq_true rfl⟩ e1 ?_
  refine ev_pop (pc := 10) dX4_leastFree_10 rfl ?_
  refine ev_aload_n (pc := 11) dX4_leastFree_11 rfl rfl ?_
  refine cV0 (pc := 12) lk_X4_leastFree_12 rfl rfl rfl (Nat.le_of_ble_eq_true rfl) ⟨Nat.le_of_ble_eq_true rfl, Nat.le_of_ble_eq_true rfl⟩ (s_notMet hM1 hn h1 h2) ?_
  exact ev_iretE (pc := 15) dX4_leastFree_15 rfl ⟨Nat.le_of_ble_eq_true rfl, Nat.le_of_ble_eq_true rfl⟩ rfl rfl
theorem s_mInUse1 {cc : C21} {ep ro bb sl th dp : Int32} {many inn item val wr met rst : Nat → Int32} {wds : Nat → Int64} {opd ope way tk : Nat → Int32} {tl : List mC} (h : mmR U T c b so rd ro bb many inn item val wds opd ope) {q : Nat} (hq : q < 720) (hu : mUse T c b so rd q) : ∃ met' rst', EvS m_X4_inUse [.ref 21, .int (nI q)] (dW cc ep ro bb sl th dp many inn item val wr met rst wds opd ope way tk tl) (.inl (some (.int 1))) (dW cc ep ro bb sl th dp many inn item val wr met' rst' wds opd ope way tk tl) := by
  obtain ⟨k, hk⟩ := cntR_ex (mUse T c b so rd) 720
  obtain ⟨m1, r1, hM1, e1⟩ := s_mA (cc := cc) (ep := ep) (ro := ro) (bb := bb) (sl := sl) (th := th) (dp := dp) (many := many) (inn := inn) (item := item) (val := val) (wr := wr) (met := met) (rst := rst) (wds := wds) (opd := opd) (ope := ope) (way := way) (tk := tk) (tl := tl) h hk
  refine ⟨m1, r1, ?_⟩
  refine evs_of (by decide +kernel) (Nat.le_of_ble_eq_true rfl) (by decide) rfl rfl ?_
  refine ev_aload_n (pc := 0) dX4_inUse_0 rfl rfl ?_
  refine ev_iconst (pc := 1) (v := (-1)) dX4_inUse_1 (by decide) ?_
  refine cV1 (pc := 2) lk_X4_inUse_2 rfl rfl rfl (Nat.le_of_ble_eq_true rfl) ⟨Nat.le_of_ble_eq_true rfl, Nat.le_of_ble_eq_true rfl⟩ e1 ?_
  refine ev_pop (pc := 5) dX4_inUse_5 rfl ?_
  refine ev_iload_n (pc := 6) dX4_inUse_6 rfl rfl ?_
  refine ev_iconst (pc := 7) (v := 0) dX4_inUse_7 (by decide) ?_
  refine ev_sipush (pc := 8) (v := 719) dX4_inUse_8 (by decide) ?_
  refine cS3 (pc := 11) lk_X4_inUse_11 (Nat.le_of_ble_eq_true rfl) ⟨Nat.le_of_ble_eq_true rfl, Nat.le_of_ble_eq_true rfl⟩ (s_in1 (nI_pos' (show q < 2147483648 by omega)) (by exact nI_le (show q ≤ 719 by omega) (by decide))) ?_
  refine ev_if_eq (pc := 14) (tgt := 30) dX4_inUse_14 (by decide) (fun c_14 => absurd c_14 (by decide)) (fun _ => ?_)
  refine ev_aload_n (pc := 17) dX4_inUse_17 rfl rfl ?_
  refine ev_get (pc := 18) dX4_inUse_18 fd_X4_26 rfl rfl ?_
  refine ev_iload_n (pc := 21) dX4_inUse_21 rfl rfl ?_
  refine ev_zaldN (pc := 22) dX4_inUse_22 rfl ⟨rfl, hq, by decide⟩ rfl ?_
  refine ev_if_eq (pc := 23) (tgt := 30) dX4_inUse_23 (by decide) (fun c_23 => absurd c_23 ((hM1 q hq).mpr hu)) (fun _ => ?_)
  refine ev_iconst (pc := 26) (v := 1) dX4_inUse_26 (by decide) ?_
  refine ev_goto (pc := 27) (tgt := 31) dX4_inUse_27 (by decide) ?_
  exact ev_zretE (pc := 31) dX4_inUse_31 rfl ⟨Nat.le_of_ble_eq_true rfl, Nat.le_of_ble_eq_true rfl⟩ (by first | exact Or.inl rfl | exact Or.inr rfl | assumption | exact i10_o) rfl rfl
/-- no page in use -/
def nUm (T : Nat → Nd) (c : RS3) (b : Option RS3) (so rd : Nat → Option RS3) (i : Int32) : Prop := ∀ q, q < 720 → i = nI q → ¬ mUse T c b so rd q
theorem s_mInUse0 {cc : C21} {ep ro bb sl th dp : Int32} {many inn item val wr met rst : Nat → Int32} {wds : Nat → Int64} {opd ope way tk : Nat → Int32} {tl : List mC} (h : mmR U T c b so rd ro bb many inn item val wds opd ope) {i : Int32} (hi : nUm T c b so rd i) : ∃ met' rst', EvS m_X4_inUse [.ref 21, .int i] (dW cc ep ro bb sl th dp many inn item val wr met rst wds opd ope way tk tl) (.inl (some (.int 0))) (dW cc ep ro bb sl th dp many inn item val wr met' rst' wds opd ope way tk tl) := by
  obtain ⟨k, hk⟩ := cntR_ex (mUse T c b so rd) 720
  obtain ⟨m1, r1, hM1, e1⟩ := s_mA (cc := cc) (ep := ep) (ro := ro) (bb := bb) (sl := sl) (th := th) (dp := dp) (many := many) (inn := inn) (item := item) (val := val) (wr := wr) (met := met) (rst := rst) (wds := wds) (opd := opd) (ope := ope) (way := way) (tk := tk) (tl := tl) h hk
  refine ⟨m1, r1, ?_⟩
  by_cases ho : i < 0 ∨ (719 : Int32) < i
  · refine evs_of (by decide +kernel) (Nat.le_of_ble_eq_true rfl) (by decide) rfl rfl ?_
    refine ev_aload_n (pc := 0) dX4_inUse_0 rfl rfl ?_
    refine ev_iconst (pc := 1) (v := (-1)) dX4_inUse_1 (by decide) ?_
    refine cV1 (pc := 2) lk_X4_inUse_2 rfl rfl rfl (Nat.le_of_ble_eq_true rfl) ⟨Nat.le_of_ble_eq_true rfl, Nat.le_of_ble_eq_true rfl⟩ e1 ?_
    refine ev_pop (pc := 5) dX4_inUse_5 rfl ?_
    refine ev_iload_n (pc := 6) dX4_inUse_6 rfl rfl ?_
    refine ev_iconst (pc := 7) (v := 0) dX4_inUse_7 (by decide) ?_
    refine ev_sipush (pc := 8) (v := 719) dX4_inUse_8 (by decide) ?_
    refine cS3 (pc := 11) lk_X4_inUse_11 (Nat.le_of_ble_eq_true rfl) ⟨Nat.le_of_ble_eq_true rfl, Nat.le_of_ble_eq_true rfl⟩ (s_in0 ho) ?_
    refine ev_if_eq (pc := 14) (tgt := 30) dX4_inUse_14 (by decide) (fun _ => ?_) (fun c_14 => absurd rfl c_14)
    refine ev_iconst (pc := 30) (v := 0) dX4_inUse_30 (by decide) ?_
    exact ev_zretE (pc := 31) dX4_inUse_31 rfl ⟨Nat.le_of_ble_eq_true rfl, Nat.le_of_ble_eq_true rfl⟩ (by first | exact Or.inl rfl | exact Or.inr rfl | assumption | exact i10_o) rfl rfl
  · obtain ⟨q, hq, rfl⟩ := nI_of2 (M := 719) (n := 719) rfl (fun h => ho (Or.inl h)) (Int32.not_lt.mp (fun h => ho (Or.inr h)))
    have hq7 : q < 720 := by omega
    refine evs_of (by decide +kernel) (Nat.le_of_ble_eq_true rfl) (by decide) rfl rfl ?_
    refine ev_aload_n (pc := 0) dX4_inUse_0 rfl rfl ?_
    refine ev_iconst (pc := 1) (v := (-1)) dX4_inUse_1 (by decide) ?_
    refine cV1 (pc := 2) lk_X4_inUse_2 rfl rfl rfl (Nat.le_of_ble_eq_true rfl) ⟨Nat.le_of_ble_eq_true rfl, Nat.le_of_ble_eq_true rfl⟩ e1 ?_
    refine ev_pop (pc := 5) dX4_inUse_5 rfl ?_
    refine ev_iload_n (pc := 6) dX4_inUse_6 rfl rfl ?_
    refine ev_iconst (pc := 7) (v := 0) dX4_inUse_7 (by decide) ?_
    refine ev_sipush (pc := 8) (v := 719) dX4_inUse_8 (by decide) ?_
    refine cS3 (pc := 11) lk_X4_inUse_11 (Nat.le_of_ble_eq_true rfl) ⟨Nat.le_of_ble_eq_true rfl, Nat.le_of_ble_eq_true rfl⟩ (s_in1 (nI_pos' (show q < 2147483648 by omega)) (by exact nI_le (show q ≤ 719 by omega) (by decide))) ?_
    refine ev_if_eq (pc := 14) (tgt := 30) dX4_inUse_14 (by decide) (fun c_14 => absurd c_14 (by decide)) (fun _ => ?_)
    refine ev_aload_n (pc := 17) dX4_inUse_17 rfl rfl ?_
    refine ev_get (pc := 18) dX4_inUse_18 fd_X4_26 rfl rfl ?_
    refine ev_iload_n (pc := 21) dX4_inUse_21 rfl rfl ?_
    refine ev_zaldN (pc := 22) dX4_inUse_22 rfl ⟨rfl, hq7, by decide⟩ (MS_0 hM1 hq7 (hi q hq7 rfl)) ?_
    refine ev_if_eq (pc := 23) (tgt := 30) dX4_inUse_23 (by decide) (fun _ => ?_) (fun c_23 => absurd rfl c_23)
    refine ev_iconst (pc := 30) (v := 0) dX4_inUse_30 (by decide) ?_
    exact ev_zretE (pc := 31) dX4_inUse_31 rfl ⟨Nat.le_of_ble_eq_true rfl, Nat.le_of_ble_eq_true rfl⟩ (by first | exact Or.inl rfl | exact Or.inr rfl | assumption | exact i10_o) rfl rfl
theorem s_mIsFreeT {cc : C21} {ep ro bb sl th dp : Int32} {many inn item val wr met rst : Nat → Int32} {wds : Nat → Int64} {opd ope way tk : Nat → Int32} {tl : List mC} {i : Int32} (hi : i < 0) : EvS m_X4_isFree [.ref 21, .int i] (dW cc ep ro bb sl th dp many inn item val wr met rst wds opd ope way tk tl) (.inl (some (.int 0))) (dW cc ep ro bb sl 1 dp many inn item val wr met rst wds opd ope way tk tl) := by
  refine evs_of (by decide +kernel) (Nat.le_of_ble_eq_true rfl) (by decide) rfl rfl ?_
  refine ev_aload_n (pc := 0) dX4_isFree_0 rfl rfl ?_
  refine ev_iload_n (pc := 1) dX4_isFree_1 rfl rfl ?_
  refine ev_if_lt (pc := 2) (tgt := 9) dX4_isFree_2 (by decide) (fun _ => ?_) (fun c_2 => absurd hi c_2)
  refine ev_iconst (pc := 9) (v := 0) dX4_isFree_9 (by decide) ?_
  refine ev_iconst (pc := 10) (v := 1) dX4_isFree_10 (by decide) ?_
  refine ev_iconst (pc := 11) (v := 1) dX4_isFree_11 (by decide) ?_
  refine cV3 (pc := 12) lk_X4_isFree_12 rfl rfl rfl (Nat.le_of_ble_eq_true rfl) ⟨Nat.le_of_ble_eq_true rfl, Nat.le_of_ble_eq_true rfl⟩ (s_goesT1 (cc := cc) (ep := ep) (ro := ro) (bb := bb) (sl := sl) (th := th) (dp := dp) (many := many) (inn := inn) (item := item) (val := val) (wr := wr) (met := met) (rst := rst) (wds := wds) (opd := opd) (ope := ope) (way := way) (tk := tk) (tl := tl)) ?_
  refine ev_if_eq (pc := 15) (tgt := 30) dX4_isFree_15 (by decide) (fun _ => ?_) (fun c_15 => absurd rfl c_15)
  refine ev_iconst (pc := 30) (v := 0) dX4_isFree_30 (by decide) ?_
  exact ev_zretE (pc := 31) dX4_isFree_31 rfl ⟨Nat.le_of_ble_eq_true rfl, Nat.le_of_ble_eq_true rfl⟩ (by first | exact Or.inl rfl | exact Or.inr rfl | assumption | exact i10_o) rfl rfl
theorem s_mIsFree0 {cc : C21} {ep ro bb sl th dp : Int32} {many inn item val wr met rst : Nat → Int32} {wds : Nat → Int64} {opd ope way tk : Nat → Int32} {tl : List mC} (h : mmR U T c b so rd ro bb many inn item val wds opd ope) {q : Nat} (hq : q < 720) (hu : mUse T c b so rd q) : ∃ met' rst', EvS m_X4_isFree [.ref 21, .int (nI q)] (dW cc ep ro bb sl th dp many inn item val wr met rst wds opd ope way tk tl) (.inl (some (.int 0))) (dW cc ep ro bb sl 0 dp many inn item val wr met' rst' wds opd ope way tk tl) := by
  obtain ⟨m1, r1, e1⟩ := s_mInUse1 (cc := cc) (ep := ep) (ro := ro) (bb := bb) (sl := sl) (th := 0) (dp := dp) (many := many) (inn := inn) (item := item) (val := val) (wr := wr) (met := met) (rst := rst) (wds := wds) (opd := opd) (ope := ope) (way := way) (tk := tk) (tl := tl) h hq hu
  refine ⟨m1, r1, ?_⟩
  refine evs_of (by decide +kernel) (Nat.le_of_ble_eq_true rfl) (by decide) rfl rfl ?_
  refine ev_aload_n (pc := 0) dX4_isFree_0 rfl rfl ?_
  refine ev_iload_n (pc := 1) dX4_isFree_1 rfl rfl ?_
  refine ev_if_lt (pc := 2) (tgt := 9) dX4_isFree_2 (by decide) (fun c_2 => absurd c_2 (nI_pos (show q < 2147483648 by omega))) (fun _ => ?_)
  refine ev_iconst (pc := 5) (v := 1) dX4_isFree_5 (by decide) ?_
  refine ev_goto (pc := 6) (tgt := 10) dX4_isFree_6 (by decide) ?_
  refine ev_iconst (pc := 10) (v := 1) dX4_isFree_10 (by decide) ?_
  refine ev_iconst (pc := 11) (v := 1) dX4_isFree_11 (by decide) ?_
  refine cV3 (pc := 12) lk_X4_isFree_12 rfl rfl rfl (Nat.le_of_ble_eq_true rfl) ⟨Nat.le_of_ble_eq_true rfl, Nat.le_of_ble_eq_true rfl⟩ (s_goes (cc := cc) (ep := ep) (ro := ro) (bb := bb) (sl := sl) (th := th) (dp := dp) (many := many) (inn := inn) (item := item) (val := val) (wr := wr) (met := met) (rst := rst) (wds := wds) (opd := opd) (ope := ope) (way := way) (tk := tk) (tl := tl)) ?_
  refine ev_if_eq (pc := 15) (tgt := 30) dX4_isFree_15 (by decide) (fun c_15 => absurd c_15 (by decide)) (fun _ => ?_)
  refine ev_aload_n (pc := 18) dX4_isFree_18 rfl rfl ?_
  refine ev_iload_n (pc := 19) dX4_isFree_19 rfl rfl ?_
  refine cV1 (pc := 20) lk_X4_isFree_20 rfl rfl rfl (Nat.le_of_ble_eq_true rfl) ⟨Nat.le_of_ble_eq_true rfl, Nat.le_of_ble_eq_true rfl⟩ e1 ?_
  refine ev_if_ne (pc := 23) (tgt := 30) dX4_isFree_23 (by decide) (fun _ => ?_) (fun c_23 => absurd c_23 (by decide))
  refine ev_iconst (pc := 30) (v := 0) dX4_isFree_30 (by decide) ?_
  exact ev_zretE (pc := 31) dX4_isFree_31 rfl ⟨Nat.le_of_ble_eq_true rfl, Nat.le_of_ble_eq_true rfl⟩ (by first | exact Or.inl rfl | exact Or.inr rfl | assumption | exact i10_o) rfl rfl
theorem s_mIsFree1 {cc : C21} {ep ro bb sl th dp : Int32} {many inn item val wr met rst : Nat → Int32} {wds : Nat → Int64} {opd ope way tk : Nat → Int32} {tl : List mC} (h : mmR U T c b so rd ro bb many inn item val wds opd ope) {i : Int32} (h0 : ¬ i < 0) (hi : nUm T c b so rd i) : ∃ met' rst', EvS m_X4_isFree [.ref 21, .int i] (dW cc ep ro bb sl th dp many inn item val wr met rst wds opd ope way tk tl) (.inl (some (.int 1))) (dW cc ep ro bb sl 0 dp many inn item val wr met' rst' wds opd ope way tk tl) := by
  obtain ⟨m1, r1, e1⟩ := s_mInUse0 (cc := cc) (ep := ep) (ro := ro) (bb := bb) (sl := sl) (th := 0) (dp := dp) (many := many) (inn := inn) (item := item) (val := val) (wr := wr) (met := met) (rst := rst) (wds := wds) (opd := opd) (ope := ope) (way := way) (tk := tk) (tl := tl) h hi
  refine ⟨m1, r1, ?_⟩
  refine evs_of (by decide +kernel) (Nat.le_of_ble_eq_true rfl) (by decide) rfl rfl ?_
  refine ev_aload_n (pc := 0) dX4_isFree_0 rfl rfl ?_
  refine ev_iload_n (pc := 1) dX4_isFree_1 rfl rfl ?_
  refine ev_if_lt (pc := 2) (tgt := 9) dX4_isFree_2 (by decide) (fun c_2 => absurd c_2 h0) (fun _ => ?_)
  refine ev_iconst (pc := 5) (v := 1) dX4_isFree_5 (by decide) ?_
  refine ev_goto (pc := 6) (tgt := 10) dX4_isFree_6 (by decide) ?_
  refine ev_iconst (pc := 10) (v := 1) dX4_isFree_10 (by decide) ?_
  refine ev_iconst (pc := 11) (v := 1) dX4_isFree_11 (by decide) ?_
  refine cV3 (pc := 12) lk_X4_isFree_12 rfl rfl rfl (Nat.le_of_ble_eq_true rfl) ⟨Nat.le_of_ble_eq_true rfl, Nat.le_of_ble_eq_true rfl⟩ (s_goes (cc := cc) (ep := ep) (ro := ro) (bb := bb) (sl := sl) (th := th) (dp := dp) (many := many) (inn := inn) (item := item) (val := val) (wr := wr) (met := met) (rst := rst) (wds := wds) (opd := opd) (ope := ope) (way := way) (tk := tk) (tl := tl)) ?_
  refine ev_if_eq (pc := 15) (tgt := 30) dX4_isFree_15 (by decide) (fun c_15 => absurd c_15 (by decide)) (fun _ => ?_)
  refine ev_aload_n (pc := 18) dX4_isFree_18 rfl rfl ?_
  refine ev_iload_n (pc := 19) dX4_isFree_19 rfl rfl ?_
  refine cV1 (pc := 20) lk_X4_isFree_20 rfl rfl rfl (Nat.le_of_ble_eq_true rfl) ⟨Nat.le_of_ble_eq_true rfl, Nat.le_of_ble_eq_true rfl⟩ e1 ?_
  refine ev_if_ne (pc := 23) (tgt := 30) dX4_isFree_23 (by decide) (fun c_23 => absurd rfl c_23) (fun _ => ?_)
  refine ev_iconst (pc := 26) (v := 1) dX4_isFree_26 (by decide) ?_
  refine ev_goto (pc := 27) (tgt := 31) dX4_isFree_27 (by decide) ?_
  exact ev_zretE (pc := 31) dX4_isFree_31 rfl ⟨Nat.le_of_ble_eq_true rfl, Nat.le_of_ble_eq_true rfl⟩ (by first | exact Or.inl rfl | exact Or.inr rfl | assumption | exact i10_o) rfl rfl
theorem s_mEntriesT {cc : C21} {ep ro bb sl th dp : Int32} {many inn item val wr met rst : Nat → Int32} {wds : Nat → Int64} {opd ope way tk : Nat → Int32} {tl : List mC} (h : mmR U T c b so rd ro bb many inn item val wds opd ope) {i : Int32} (hi : nUm T c b so rd i) : ∃ met' rst', EvS m_X4_entries [.ref 21, .int i] (dW cc ep ro bb sl th dp many inn item val wr met rst wds opd ope way tk tl) (.inl (some (.int 0))) (dW cc ep ro bb sl 1 dp many inn item val wr met' rst' wds opd ope way tk tl) := by
  obtain ⟨m1, r1, e1⟩ := s_mInUse0 (cc := cc) (ep := ep) (ro := ro) (bb := bb) (sl := sl) (th := th) (dp := dp) (many := many) (inn := inn) (item := item) (val := val) (wr := wr) (met := met) (rst := rst) (wds := wds) (opd := opd) (ope := ope) (way := way) (tk := tk) (tl := tl) h hi
  refine ⟨m1, r1, ?_⟩
  refine evs_of (by decide +kernel) (Nat.le_of_ble_eq_true rfl) (by decide) rfl rfl ?_
  refine ev_aload_n (pc := 0) dX4_entries_0 rfl rfl ?_
  refine ev_aload_n (pc := 1) dX4_entries_1 rfl rfl ?_
  refine ev_iload_n (pc := 2) dX4_entries_2 rfl rfl ?_
  refine cV1 (pc := 3) lk_X4_entries_3 rfl rfl rfl (Nat.le_of_ble_eq_true rfl) ⟨Nat.le_of_ble_eq_true rfl, Nat.le_of_ble_eq_true rfl⟩ e1 ?_
  refine ev_iconst (pc := 6) (v := 1) dX4_entries_6 (by decide) ?_
  refine ev_iconst (pc := 7) (v := 1) dX4_entries_7 (by decide) ?_
  refine cV3 (pc := 8) lk_X4_entries_8 rfl rfl rfl (Nat.le_of_ble_eq_true rfl) ⟨Nat.le_of_ble_eq_true rfl, Nat.le_of_ble_eq_true rfl⟩ (s_goesT1 (cc := cc) (ep := ep) (ro := ro) (bb := bb) (sl := sl) (th := th) (dp := dp) (many := many) (inn := inn) (item := item) (val := val) (wr := wr) (met := m1) (rst := r1) (wds := wds) (opd := opd) (ope := ope) (way := way) (tk := tk) (tl := tl)) ?_
  refine ev_if_eq (pc := 11) (tgt := 23) dX4_entries_11 (by decide) (fun _ => ?_) (fun c_11 => absurd rfl c_11)
  refine ev_iconst (pc := 23) (v := 0) dX4_entries_23 (by decide) ?_
  exact ev_iretE (pc := 24) dX4_entries_24 rfl ⟨Nat.le_of_ble_eq_true rfl, Nat.le_of_ble_eq_true rfl⟩ rfl rfl
theorem s_mEntries {cc : C21} {ep ro bb sl th dp : Int32} {many inn item val wr met rst : Nat → Int32} {wds : Nat → Int64} {opd ope way tk : Nat → Int32} {tl : List mC} (h : mmR U T c b so rd ro bb many inn item val wds opd ope) {q : Nat} (hU : U q) (hu : mUse T c b so rd q) : ∃ met' rst', EvS m_X4_entries [.ref 21, .int (nI q)] (dW cc ep ro bb sl th dp many inn item val wr met rst wds opd ope way tk tl) (.inl (some (.int (nI (nlen (T q)))))) (dW cc ep ro bb sl 0 dp many inn item val wr met' rst' wds opd ope way tk tl) := by
  obtain ⟨hq, hm, h5⟩ := h.1.many hU
  obtain ⟨m1, r1, e1⟩ := s_mInUse1 (cc := cc) (ep := ep) (ro := ro) (bb := bb) (sl := sl) (th := th) (dp := dp) (many := many) (inn := inn) (item := item) (val := val) (wr := wr) (met := met) (rst := rst) (wds := wds) (opd := opd) (ope := ope) (way := way) (tk := tk) (tl := tl) h hq hu
  refine ⟨m1, r1, ?_⟩
  refine evs_of (by decide +kernel) (Nat.le_of_ble_eq_true rfl) (by decide) rfl rfl ?_
  refine ev_aload_n (pc := 0) dX4_entries_0 rfl rfl ?_
  refine ev_aload_n (pc := 1) dX4_entries_1 rfl rfl ?_
  refine ev_iload_n (pc := 2) dX4_entries_2 rfl rfl ?_
  refine cV1 (pc := 3) lk_X4_entries_3 rfl rfl rfl (Nat.le_of_ble_eq_true rfl) ⟨Nat.le_of_ble_eq_true rfl, Nat.le_of_ble_eq_true rfl⟩ e1 ?_
  refine ev_iconst (pc := 6) (v := 1) dX4_entries_6 (by decide) ?_
  refine ev_iconst (pc := 7) (v := 1) dX4_entries_7 (by decide) ?_
  refine cV3 (pc := 8) lk_X4_entries_8 rfl rfl rfl (Nat.le_of_ble_eq_true rfl) ⟨Nat.le_of_ble_eq_true rfl, Nat.le_of_ble_eq_true rfl⟩ (s_goes (cc := cc) (ep := ep) (ro := ro) (bb := bb) (sl := sl) (th := th) (dp := dp) (many := many) (inn := inn) (item := item) (val := val) (wr := wr) (met := m1) (rst := r1) (wds := wds) (opd := opd) (ope := ope) (way := way) (tk := tk) (tl := tl)) ?_
  refine ev_if_eq (pc := 11) (tgt := 23) dX4_entries_11 (by decide) (fun c_11 => absurd c_11 (by decide)) (fun _ => ?_)
  refine ev_aload_n (pc := 14) dX4_entries_14 rfl rfl ?_
  refine ev_get (pc := 15) dX4_entries_15 fd_X4_7 rfl rfl ?_
  refine ev_iload_n (pc := 18) dX4_entries_18 rfl rfl ?_
  refine ev_ialdN (pc := 19) dX4_entries_19 rfl ⟨rfl, hq, by decide⟩ hm ?_
  refine ev_goto (pc := 20) (tgt := 24) dX4_entries_20 (by decide) ?_
  exact ev_iretE (pc := 24) dX4_entries_24 rfl ⟨Nat.le_of_ble_eq_true rfl, Nat.le_of_ble_eq_true rfl⟩ rfl rfl
theorem nI_m1i {n : Nat} (h : n < 2147483648) : (nI n - 1).toInt = (n : Int) - 1 := by
  cases n with
  | zero => decide
  | succ n =>
    rw [nI_pred, nI_toInt (by omega)]
    omega
theorem s_mIsEntry0 {cc : C21} {ep ro bb sl th dp : Int32} {many inn item val wr met rst : Nat → Int32} {wds : Nat → Int64} {opd ope way tk : Nat → Int32} {tl : List mC} (h : mmR U T c b so rd ro bb many inn item val wds opd ope) {i a : Int32} (hi : nUm T c b so rd i ∨ ∃ q, i = nI q ∧ U q ∧ mUse T c b so rd q ∧ (a < 0 ∨ nI (nlen (T q)) ≤ a)) : ∃ met' rst', EvS m_X4_isEntry [.ref 21, .int i, .int a] (dW cc ep ro bb sl th dp many inn item val wr met rst wds opd ope way tk tl) (.inl (some (.int 0))) (dW cc ep ro bb sl th dp many inn item val wr met' rst' wds opd ope way tk tl) := by
  rcases hi with hi | ⟨q, rfl, hU, hu, ha⟩
  · obtain ⟨m1, r1, e1⟩ := s_mInUse0 (cc := cc) (ep := ep) (ro := ro) (bb := bb) (sl := sl) (th := th) (dp := dp) (many := many) (inn := inn) (item := item) (val := val) (wr := wr) (met := met) (rst := rst) (wds := wds) (opd := opd) (ope := ope) (way := way) (tk := tk) (tl := tl) h hi
    refine ⟨m1, r1, ?_⟩
    refine evs_of (by decide +kernel) (Nat.le_of_ble_eq_true rfl) (by decide) rfl rfl ?_
    refine ev_aload_n (pc := 0) dX4_isEntry_0 rfl rfl ?_
    refine ev_iload_n (pc := 1) dX4_isEntry_1 rfl rfl ?_
    refine cV1 (pc := 2) lk_X4_isEntry_2 rfl rfl rfl (Nat.le_of_ble_eq_true rfl) ⟨Nat.le_of_ble_eq_true rfl, Nat.le_of_ble_eq_true rfl⟩ e1 ?_
    refine ev_if_eq (pc := 5) (tgt := 28) dX4_isEntry_5 (by decide) (fun _ => ?_) (fun c_5 => absurd rfl c_5)
    refine ev_iconst (pc := 28) (v := 0) dX4_isEntry_28 (by decide) ?_
    exact ev_zretE (pc := 29) dX4_isEntry_29 rfl ⟨Nat.le_of_ble_eq_true rfl, Nat.le_of_ble_eq_true rfl⟩ (by first | exact Or.inl rfl | exact Or.inr rfl | assumption | exact i10_o) rfl rfl
  · obtain ⟨hq, hm, h5⟩ := h.1.many hU
    obtain ⟨m1, r1, e1⟩ := s_mInUse1 (cc := cc) (ep := ep) (ro := ro) (bb := bb) (sl := sl) (th := th) (dp := dp) (many := many) (inn := inn) (item := item) (val := val) (wr := wr) (met := met) (rst := rst) (wds := wds) (opd := opd) (ope := ope) (way := way) (tk := tk) (tl := tl) h hq hu
    refine ⟨m1, r1, ?_⟩
    have h9 : a < 0 ∨ nI (nlen (T q)) - 1 < a := ha.imp id (fun h => Int32.lt_iff_toInt_lt.mpr (by
      have h1 := Int32.le_iff_toInt_le.mp h
      rw [nI_toInt (by omega)] at h1
      rw [nI_m1i (by omega)]
      omega))
    refine evs_of (by decide +kernel) (Nat.le_of_ble_eq_true rfl) (by decide) rfl rfl ?_
    refine ev_aload_n (pc := 0) dX4_isEntry_0 rfl rfl ?_
    refine ev_iload_n (pc := 1) dX4_isEntry_1 rfl rfl ?_
    refine cV1 (pc := 2) lk_X4_isEntry_2 rfl rfl rfl (Nat.le_of_ble_eq_true rfl) ⟨Nat.le_of_ble_eq_true rfl, Nat.le_of_ble_eq_true rfl⟩ e1 ?_
    refine ev_if_eq (pc := 5) (tgt := 28) dX4_isEntry_5 (by decide) (fun c_5 => absurd c_5 (by decide)) (fun _ => ?_)
    refine ev_iload_n (pc := 8) dX4_isEntry_8 rfl rfl ?_
    refine ev_iconst (pc := 9) (v := 0) dX4_isEntry_9 (by decide) ?_
    refine ev_aload_n (pc := 10) dX4_isEntry_10 rfl rfl ?_
    refine ev_get (pc := 11) dX4_isEntry_11 fd_X4_7 rfl rfl ?_
    refine ev_iload_n (pc := 14) dX4_isEntry_14 rfl rfl ?_
    refine ev_ialdN (pc := 15) dX4_isEntry_15 rfl ⟨rfl, hq, by decide⟩ hm ?_
    refine ev_iconst (pc := 16) (v := 1) dX4_isEntry_16 (by decide) ?_
    refine ev_isub (pc := 17) dX4_isEntry_17 ?_
    refine cS3 (pc := 18) lk_X4_isEntry_18 (Nat.le_of_ble_eq_true rfl) ⟨Nat.le_of_ble_eq_true rfl, Nat.le_of_ble_eq_true rfl⟩ (s_in0 h9) ?_
    refine ev_if_eq (pc := 21) (tgt := 28) dX4_isEntry_21 (by decide) (fun _ => ?_) (fun c_21 => absurd rfl c_21)
    refine ev_iconst (pc := 28) (v := 0) dX4_isEntry_28 (by decide) ?_
    exact ev_zretE (pc := 29) dX4_isEntry_29 rfl ⟨Nat.le_of_ble_eq_true rfl, Nat.le_of_ble_eq_true rfl⟩ (by first | exact Or.inl rfl | exact Or.inr rfl | assumption | exact i10_o) rfl rfl
theorem s_mIsEntry1 {cc : C21} {ep ro bb sl th dp : Int32} {many inn item val wr met rst : Nat → Int32} {wds : Nat → Int64} {opd ope way tk : Nat → Int32} {tl : List mC} (h : mmR U T c b so rd ro bb many inn item val wds opd ope) {q e : Nat} (hU : U q) (hu : mUse T c b so rd q) (he : e < nlen (T q)) : ∃ met' rst', EvS m_X4_isEntry [.ref 21, .int (nI q), .int (nI e)] (dW cc ep ro bb sl th dp many inn item val wr met rst wds opd ope way tk tl) (.inl (some (.int 1))) (dW cc ep ro bb sl th dp many inn item val wr met' rst' wds opd ope way tk tl) := by
  obtain ⟨hq, hm, h5⟩ := h.1.many hU
  obtain ⟨m1, r1, e1⟩ := s_mInUse1 (cc := cc) (ep := ep) (ro := ro) (bb := bb) (sl := sl) (th := th) (dp := dp) (many := many) (inn := inn) (item := item) (val := val) (wr := wr) (met := met) (rst := rst) (wds := wds) (opd := opd) (ope := ope) (way := way) (tk := tk) (tl := tl) h hq hu
  refine ⟨m1, r1, ?_⟩
  have h9 : nI e ≤ nI (nlen (T q)) - 1 := by
    rw [nI_s1 (by omega)]
    exact nI_le (by omega) (by omega)
  refine evs_of (by decide +kernel) (Nat.le_of_ble_eq_true rfl) (by decide) rfl rfl ?_
  refine ev_aload_n (pc := 0) dX4_isEntry_0 rfl rfl ?_
  refine ev_iload_n (pc := 1) dX4_isEntry_1 rfl rfl ?_
  refine cV1 (pc := 2) lk_X4_isEntry_2 rfl rfl rfl (Nat.le_of_ble_eq_true rfl) ⟨Nat.le_of_ble_eq_true rfl, Nat.le_of_ble_eq_true rfl⟩ e1 ?_
  refine ev_if_eq (pc := 5) (tgt := 28) dX4_isEntry_5 (by decide) (fun c_5 => absurd c_5 (by decide)) (fun _ => ?_)
  refine ev_iload_n (pc := 8) dX4_isEntry_8 rfl rfl ?_
  refine ev_iconst (pc := 9) (v := 0) dX4_isEntry_9 (by decide) ?_
  refine ev_aload_n (pc := 10) dX4_isEntry_10 rfl rfl ?_
  refine ev_get (pc := 11) dX4_isEntry_11 fd_X4_7 rfl rfl ?_
  refine ev_iload_n (pc := 14) dX4_isEntry_14 rfl rfl ?_
  refine ev_ialdN (pc := 15) dX4_isEntry_15 rfl ⟨rfl, hq, by decide⟩ hm ?_
  refine ev_iconst (pc := 16) (v := 1) dX4_isEntry_16 (by decide) ?_
  refine ev_isub (pc := 17) dX4_isEntry_17 ?_
  refine cS3 (pc := 18) lk_X4_isEntry_18 (Nat.le_of_ble_eq_true rfl) ⟨Nat.le_of_ble_eq_true rfl, Nat.le_of_ble_eq_true rfl⟩ (s_in1 (nI_pos' (show e < 2147483648 by omega)) h9) ?_
  refine ev_if_eq (pc := 21) (tgt := 28) dX4_isEntry_21 (by decide) (fun c_21 => absurd c_21 (by decide)) (fun _ => ?_)
  refine ev_iconst (pc := 24) (v := 1) dX4_isEntry_24 (by decide) ?_
  refine ev_goto (pc := 25) (tgt := 29) dX4_isEntry_25 (by decide) ?_
  exact ev_zretE (pc := 29) dX4_isEntry_29 rfl ⟨Nat.le_of_ble_eq_true rfl, Nat.le_of_ble_eq_true rfl⟩ (by first | exact Or.inl rfl | exact Or.inr rfl | assumption | exact i10_o) rfl rfl
theorem s_mKeyAtT {cc : C21} {ep ro bb sl th dp : Int32} {many inn item val wr met rst : Nat → Int32} {wds : Nat → Int64} {opd ope way tk : Nat → Int32} {tl : List mC} (h : mmR U T c b so rd ro bb many inn item val wds opd ope) {i a : Int32} (hi : nUm T c b so rd i ∨ ∃ q, i = nI q ∧ U q ∧ mUse T c b so rd q ∧ (a < 0 ∨ nI (nlen (T q)) ≤ a)) : ∃ met' rst', EvS m_X4_keyAt [.ref 21, .int i, .int a] (dW cc ep ro bb sl th dp many inn item val wr met rst wds opd ope way tk tl) (.inl (some (.int 0))) (dW cc ep ro bb sl 1 dp many inn item val wr met' rst' wds opd ope way tk tl) := by
  obtain ⟨m1, r1, e1⟩ := s_mIsEntry0 (cc := cc) (ep := ep) (ro := ro) (bb := bb) (sl := sl) (th := th) (dp := dp) (many := many) (inn := inn) (item := item) (val := val) (wr := wr) (met := met) (rst := rst) (wds := wds) (opd := opd) (ope := ope) (way := way) (tk := tk) (tl := tl) h hi
  refine ⟨m1, r1, ?_⟩
  refine evs_of (by decide +kernel) (Nat.le_of_ble_eq_true rfl) (by decide) rfl rfl ?_
  refine ev_aload_n (pc := 0) dX4_keyAt_0 rfl rfl ?_
  refine ev_aload_n (pc := 1) dX4_keyAt_1 rfl rfl ?_
  refine ev_iload_n (pc := 2) dX4_keyAt_2 rfl rfl ?_
  refine ev_iload_n (pc := 3) dX4_keyAt_3 rfl rfl ?_
  refine cV2 (pc := 4) lk_X4_keyAt_4 rfl rfl rfl (Nat.le_of_ble_eq_true rfl) ⟨Nat.le_of_ble_eq_true rfl, Nat.le_of_ble_eq_true rfl⟩ e1 ?_
  refine ev_iconst (pc := 7) (v := 1) dX4_keyAt_7 (by decide) ?_
  refine ev_iconst (pc := 8) (v := 1) dX4_keyAt_8 (by decide) ?_
  refine cV3 (pc := 9) lk_X4_keyAt_9 rfl rfl rfl (Nat.le_of_ble_eq_true rfl) ⟨Nat.le_of_ble_eq_true rfl, Nat.le_of_ble_eq_true rfl⟩ (s_goesT1 (cc := cc) (ep := ep) (ro := ro) (bb := bb) (sl := sl) (th := th) (dp := dp) (many := many) (inn := inn) (item := item) (val := val) (wr := wr) (met := m1) (rst := r1) (wds := wds) (opd := opd) (ope := ope) (way := way) (tk := tk) (tl := tl)) ?_
  refine ev_if_eq (pc := 12) (tgt := 24) dX4_keyAt_12 (by decide) (fun _ => ?_) (fun c_12 => absurd rfl c_12)
  refine ev_iconst (pc := 24) (v := 0) dX4_keyAt_24 (by decide) ?_
  exact ev_iretE (pc := 25) dX4_keyAt_25 rfl ⟨Nat.le_of_ble_eq_true rfl, Nat.le_of_ble_eq_true rfl⟩ rfl rfl
theorem s_mKeyAt {cc : C21} {ep ro bb sl th dp : Int32} {many inn item val wr met rst : Nat → Int32} {wds : Nat → Int64} {opd ope way tk : Nat → Int32} {tl : List mC} (h : mmR U T c b so rd ro bb many inn item val wds opd ope) {q e k : Nat} (hU : U q) (hu : mUse T c b so rd q) (he : e < nlen (T q)) (hk : kyR T U q e k) : ∃ met' rst', EvS m_X4_keyAt [.ref 21, .int (nI q), .int (nI e)] (dW cc ep ro bb sl th dp many inn item val wr met rst wds opd ope way tk tl) (.inl (some (.int (nI k)))) (dW cc ep ro bb sl 0 dp many inn item val wr met' rst' wds opd ope way tk tl) := by
  obtain ⟨m1, r1, e1⟩ := s_mIsEntry1 (cc := cc) (ep := ep) (ro := ro) (bb := bb) (sl := sl) (th := th) (dp := dp) (many := many) (inn := inn) (item := item) (val := val) (wr := wr) (met := met) (rst := rst) (wds := wds) (opd := opd) (ope := ope) (way := way) (tk := tk) (tl := tl) h hU hu he
  refine ⟨m1, r1, ?_⟩
  refine evs_of (by decide +kernel) (Nat.le_of_ble_eq_true rfl) (by decide) rfl rfl ?_
  refine ev_aload_n (pc := 0) dX4_keyAt_0 rfl rfl ?_
  refine ev_aload_n (pc := 1) dX4_keyAt_1 rfl rfl ?_
  refine ev_iload_n (pc := 2) dX4_keyAt_2 rfl rfl ?_
  refine ev_iload_n (pc := 3) dX4_keyAt_3 rfl rfl ?_
  refine cV2 (pc := 4) lk_X4_keyAt_4 rfl rfl rfl (Nat.le_of_ble_eq_true rfl) ⟨Nat.le_of_ble_eq_true rfl, Nat.le_of_ble_eq_true rfl⟩ e1 ?_
  refine ev_iconst (pc := 7) (v := 1) dX4_keyAt_7 (by decide) ?_
  refine ev_iconst (pc := 8) (v := 1) dX4_keyAt_8 (by decide) ?_
  refine cV3 (pc := 9) lk_X4_keyAt_9 rfl rfl rfl (Nat.le_of_ble_eq_true rfl) ⟨Nat.le_of_ble_eq_true rfl, Nat.le_of_ble_eq_true rfl⟩ (s_goes (cc := cc) (ep := ep) (ro := ro) (bb := bb) (sl := sl) (th := th) (dp := dp) (many := many) (inn := inn) (item := item) (val := val) (wr := wr) (met := m1) (rst := r1) (wds := wds) (opd := opd) (ope := ope) (way := way) (tk := tk) (tl := tl)) ?_
  refine ev_if_eq (pc := 12) (tgt := 24) dX4_keyAt_12 (by decide) (fun c_12 => absurd c_12 (by decide)) (fun _ => ?_)
  refine ev_aload_n (pc := 15) dX4_keyAt_15 rfl rfl ?_
  refine ev_iload_n (pc := 16) dX4_keyAt_16 rfl rfl ?_
  refine ev_iload_n (pc := 17) dX4_keyAt_17 rfl rfl ?_
  refine cV2 (pc := 18) lk_X4_keyAt_18 rfl rfl rfl (Nat.le_of_ble_eq_true rfl) ⟨Nat.le_of_ble_eq_true rfl, Nat.le_of_ble_eq_true rfl⟩ (s_mKeyOf h.1 hU hk) ?_
  refine ev_goto (pc := 21) (tgt := 25) dX4_keyAt_21 (by decide) ?_
  exact ev_iretE (pc := 25) dX4_keyAt_25 rfl ⟨Nat.le_of_ble_eq_true rfl, Nat.le_of_ble_eq_true rfl⟩ rfl rfl
theorem s_mPageAtT {cc : C21} {ep ro bb sl th dp : Int32} {many inn item val wr met rst : Nat → Int32} {wds : Nat → Int64} {opd ope way tk : Nat → Int32} {tl : List mC} (h : mmR U T c b so rd ro bb many inn item val wds opd ope) {i a : Int32} (hi : nUm T c b so rd i ∨ ∃ q, i = nI q ∧ U q ∧ mUse T c b so rd q ∧ (a < 0 ∨ nI (nlen (T q)) ≤ a)) : ∃ met' rst', EvS m_X4_pageAt [.ref 21, .int i, .int a] (dW cc ep ro bb sl th dp many inn item val wr met rst wds opd ope way tk tl) (.inl (some (.int 0))) (dW cc ep ro bb sl 1 dp many inn item val wr met' rst' wds opd ope way tk tl) := by
  obtain ⟨m1, r1, e1⟩ := s_mIsEntry0 (cc := cc) (ep := ep) (ro := ro) (bb := bb) (sl := sl) (th := th) (dp := dp) (many := many) (inn := inn) (item := item) (val := val) (wr := wr) (met := met) (rst := rst) (wds := wds) (opd := opd) (ope := ope) (way := way) (tk := tk) (tl := tl) h hi
  refine ⟨m1, r1, ?_⟩
  refine evs_of (by decide +kernel) (Nat.le_of_ble_eq_true rfl) (by decide) rfl rfl ?_
  refine ev_aload_n (pc := 0) dX4_pageAt_0 rfl rfl ?_
  refine ev_aload_n (pc := 1) dX4_pageAt_1 rfl rfl ?_
  refine ev_iload_n (pc := 2) dX4_pageAt_2 rfl rfl ?_
  refine ev_iload_n (pc := 3) dX4_pageAt_3 rfl rfl ?_
  refine cV2 (pc := 4) lk_X4_pageAt_4 rfl rfl rfl (Nat.le_of_ble_eq_true rfl) ⟨Nat.le_of_ble_eq_true rfl, Nat.le_of_ble_eq_true rfl⟩ e1 ?_
  refine ev_iconst (pc := 7) (v := 1) dX4_pageAt_7 (by decide) ?_
  refine ev_iconst (pc := 8) (v := 1) dX4_pageAt_8 (by decide) ?_
  refine cV3 (pc := 9) lk_X4_pageAt_9 rfl rfl rfl (Nat.le_of_ble_eq_true rfl) ⟨Nat.le_of_ble_eq_true rfl, Nat.le_of_ble_eq_true rfl⟩ (s_goesT1 (cc := cc) (ep := ep) (ro := ro) (bb := bb) (sl := sl) (th := th) (dp := dp) (many := many) (inn := inn) (item := item) (val := val) (wr := wr) (met := m1) (rst := r1) (wds := wds) (opd := opd) (ope := ope) (way := way) (tk := tk) (tl := tl)) ?_
  refine ev_if_ne (pc := 12) (tgt := 17) dX4_pageAt_12 (by decide) (fun c_12 => absurd (by decide) c_12) (fun _ => ?_)
  refine ev_iconst (pc := 15) (v := 0) dX4_pageAt_15 (by decide) ?_
  exact ev_iretE (pc := 16) dX4_pageAt_16 rfl ⟨Nat.le_of_ble_eq_true rfl, Nat.le_of_ble_eq_true rfl⟩ rfl rfl
theorem s_mPageAtL {cc : C21} {ep ro bb sl th dp : Int32} {many inn item val wr met rst : Nat → Int32} {wds : Nat → Int64} {opd ope way tk : Nat → Int32} {tl : List mC} (h : mmR U T c b so rd ro bb many inn item val wds opd ope) {q e : Nat} {l : List (Nat × Int32)} (hU : U q) (hu : mUse T c b so rd q) (hl : T q = .inl l) (he : e < nlen (T q)) : ∃ met' rst', EvS m_X4_pageAt [.ref 21, .int (nI q), .int (nI e)] (dW cc ep ro bb sl th dp many inn item val wr met rst wds opd ope way tk tl) (.inl (some (.int (-1)))) (dW cc ep ro bb sl 0 dp many inn item val wr met' rst' wds opd ope way tk tl) := by
  obtain ⟨m1, r1, e1⟩ := s_mIsEntry1 (cc := cc) (ep := ep) (ro := ro) (bb := bb) (sl := sl) (th := th) (dp := dp) (many := many) (inn := inn) (item := item) (val := val) (wr := wr) (met := met) (rst := rst) (wds := wds) (opd := opd) (ope := ope) (way := way) (tk := tk) (tl := tl) h hU hu he
  refine ⟨m1, r1, ?_⟩
  obtain ⟨hq, hi, -⟩ := h.1.leaf hU hl
  refine evs_of (by decide +kernel) (Nat.le_of_ble_eq_true rfl) (by decide) rfl rfl ?_
  refine ev_aload_n (pc := 0) dX4_pageAt_0 rfl rfl ?_
  refine ev_aload_n (pc := 1) dX4_pageAt_1 rfl rfl ?_
  refine ev_iload_n (pc := 2) dX4_pageAt_2 rfl rfl ?_
  refine ev_iload_n (pc := 3) dX4_pageAt_3 rfl rfl ?_
  refine cV2 (pc := 4) lk_X4_pageAt_4 rfl rfl rfl (Nat.le_of_ble_eq_true rfl) ⟨Nat.le_of_ble_eq_true rfl, Nat.le_of_ble_eq_true rfl⟩ e1 ?_
  refine ev_iconst (pc := 7) (v := 1) dX4_pageAt_7 (by decide) ?_
  refine ev_iconst (pc := 8) (v := 1) dX4_pageAt_8 (by decide) ?_
  refine cV3 (pc := 9) lk_X4_pageAt_9 rfl rfl rfl (Nat.le_of_ble_eq_true rfl) ⟨Nat.le_of_ble_eq_true rfl, Nat.le_of_ble_eq_true rfl⟩ (s_goes (cc := cc) (ep := ep) (ro := ro) (bb := bb) (sl := sl) (th := th) (dp := dp) (many := many) (inn := inn) (item := item) (val := val) (wr := wr) (met := m1) (rst := r1) (wds := wds) (opd := opd) (ope := ope) (way := way) (tk := tk) (tl := tl)) ?_
  refine ev_if_ne (pc := 12) (tgt := 17) dX4_pageAt_12 (by decide) (fun _ => ?_) (fun c_12 => absurd c_12 (by decide))
  refine ev_aload_n (pc := 17) dX4_pageAt_17 rfl rfl ?_
  refine ev_get (pc := 18) dX4_pageAt_18 fd_X4_13 rfl rfl ?_
  refine ev_iload_n (pc := 21) dX4_pageAt_21 rfl rfl ?_
  refine ev_zaldN (pc := 22) dX4_pageAt_22 rfl ⟨rfl, hq, by decide⟩ hi ?_
  refine ev_if_eq (pc := 23) (tgt := 39) dX4_pageAt_23 (by decide) (fun _ => ?_) (fun c_23 => absurd rfl c_23)
  refine ev_iconst (pc := 39) (v := (-1)) dX4_pageAt_39 (by decide) ?_
  exact ev_iretE (pc := 40) dX4_pageAt_40 rfl ⟨Nat.le_of_ble_eq_true rfl, Nat.le_of_ble_eq_true rfl⟩ rfl rfl
theorem s_mPageAtI {cc : C21} {ep ro bb sl th dp : Int32} {many inn item val wr met rst : Nat → Int32} {wds : Nat → Int64} {opd ope way tk : Nat → Int32} {tl : List mC} (h : mmR U T c b so rd ro bb many inn item val wds opd ope) {q e x : Nat} {l : List Nat} (hU : U q) (hu : mUse T c b so rd q) (hl : T q = .inr l) (hx : l[e]? = some x) : ∃ met' rst', EvS m_X4_pageAt [.ref 21, .int (nI q), .int (nI e)] (dW cc ep ro bb sl th dp many inn item val wr met rst wds opd ope way tk tl) (.inl (some (.int (nI x)))) (dW cc ep ro bb sl 0 dp many inn item val wr met' rst' wds opd ope way tk tl) := by
  have he : e < l.length := (List.getElem?_eq_some_iff.mp hx).1
  obtain ⟨m1, r1, e1⟩ := s_mIsEntry1 (cc := cc) (ep := ep) (ro := ro) (bb := bb) (sl := sl) (th := th) (dp := dp) (many := many) (inn := inn) (item := item) (val := val) (wr := wr) (met := met) (rst := rst) (wds := wds) (opd := opd) (ope := ope) (way := way) (tk := tk) (tl := tl) h hU hu (e := e) (by rw [hl]; exact he)
  refine ⟨m1, r1, ?_⟩
  obtain ⟨hq, hi, h5, -, hrow, -⟩ := h.1.inner hU hl
  refine evs_of (by decide +kernel) (Nat.le_of_ble_eq_true rfl) (by decide) rfl rfl ?_
  refine ev_aload_n (pc := 0) dX4_pageAt_0 rfl rfl ?_
  refine ev_aload_n (pc := 1) dX4_pageAt_1 rfl rfl ?_
  refine ev_iload_n (pc := 2) dX4_pageAt_2 rfl rfl ?_
  refine ev_iload_n (pc := 3) dX4_pageAt_3 rfl rfl ?_
  refine cV2 (pc := 4) lk_X4_pageAt_4 rfl rfl rfl (Nat.le_of_ble_eq_true rfl) ⟨Nat.le_of_ble_eq_true rfl, Nat.le_of_ble_eq_true rfl⟩ e1 ?_
  refine ev_iconst (pc := 7) (v := 1) dX4_pageAt_7 (by decide) ?_
  refine ev_iconst (pc := 8) (v := 1) dX4_pageAt_8 (by decide) ?_
  refine cV3 (pc := 9) lk_X4_pageAt_9 rfl rfl rfl (Nat.le_of_ble_eq_true rfl) ⟨Nat.le_of_ble_eq_true rfl, Nat.le_of_ble_eq_true rfl⟩ (s_goes (cc := cc) (ep := ep) (ro := ro) (bb := bb) (sl := sl) (th := th) (dp := dp) (many := many) (inn := inn) (item := item) (val := val) (wr := wr) (met := m1) (rst := r1) (wds := wds) (opd := opd) (ope := ope) (way := way) (tk := tk) (tl := tl)) ?_
  refine ev_if_ne (pc := 12) (tgt := 17) dX4_pageAt_12 (by decide) (fun _ => ?_) (fun c_12 => absurd c_12 (by decide))
  refine ev_aload_n (pc := 17) dX4_pageAt_17 rfl rfl ?_
  refine ev_get (pc := 18) dX4_pageAt_18 fd_X4_13 rfl rfl ?_
  refine ev_iload_n (pc := 21) dX4_pageAt_21 rfl rfl ?_
  refine ev_zaldN (pc := 22) dX4_pageAt_22 rfl ⟨rfl, hq, by decide⟩ hi ?_
  refine ev_if_eq (pc := 23) (tgt := 39) dX4_pageAt_23 (by decide) (fun c_23 => absurd c_23 (by decide)) (fun _ => ?_)
  refine ev_aload_n (pc := 26) dX4_pageAt_26 rfl rfl ?_
  refine ev_get (pc := 27) dX4_pageAt_27 fd_X4_17 rfl rfl ?_
  refine ev_iconst (pc := 30) (v := 5) dX4_pageAt_30 (by decide) ?_
  refine ev_iload_n (pc := 31) dX4_pageAt_31 rfl rfl ?_
  refine ev_imul (pc := 32) dX4_pageAt_32 ?_
  refine ev_iload_n (pc := 33) dX4_pageAt_33 rfl rfl ?_
  refine ev_iadd (pc := 34) dX4_pageAt_34 ?_
  refine ev_ialdN (pc := 35) dX4_pageAt_35 rfl ⟨(ix5m q e), by omega, by decide⟩ (row_ch hrow hx) ?_
  refine ev_goto (pc := 36) (tgt := 40) dX4_pageAt_36 (by decide) ?_
  exact ev_iretE (pc := 40) dX4_pageAt_40 rfl ⟨Nat.le_of_ble_eq_true rfl, Nat.le_of_ble_eq_true rfl⟩ rfl rfl
theorem s_held {cc : C21} {ep ro bb sl th dp : Int32} {many inn item val wr met rst : Nat → Int32} {wds : Nat → Int64} {opd ope way tk : Nat → Int32} {tl : List mC} (h : mmR U T c b so rd ro bb many inn item val wds opd ope) {j n1 n2 : Nat} (hj : j < 4) (h1 : cntR (mUse T c b so rd) 720 n1) (h2 : cntR (mUse T c b so (setR rd j none)) 720 n2) : ∃ met' rst', EvS m_X4_held [.ref 21, .int (nI j)] (dW cc ep ro bb sl th dp many inn item val wr met rst wds opd ope way tk tl) (.inl (some (.int (nI n1 - nI n2)))) (dW cc ep ro bb sl th dp many inn item val wr met' rst' wds opd ope way tk tl) := by
  obtain ⟨m1, r1, -, e1⟩ := s_mA (cc := cc) (ep := ep) (ro := ro) (bb := bb) (sl := sl) (th := th) (dp := dp) (many := many) (inn := inn) (item := item) (val := val) (wr := wr) (met := met) (rst := rst) (wds := wds) (opd := opd) (ope := ope) (way := way) (tk := tk) (tl := tl) h h1
  obtain ⟨m2, r2, -, e2⟩ := s_mAW (cc := cc) (ep := ep) (ro := ro) (bb := bb) (sl := sl) (th := th) (dp := dp) (many := many) (inn := inn) (item := item) (val := val) (wr := wr) (met := m1) (rst := r1) (wds := wds) (opd := opd) (ope := ope) (way := way) (tk := tk) (tl := tl) h hj h2
  refine ⟨m2, r2, ?_⟩
  refine evs_of (by decide +kernel) (Nat.le_of_ble_eq_true rfl) (by decide) rfl rfl ?_
  refine ev_aload_n (pc := 0) dX4_held_0 rfl rfl ?_
  refine ev_iconst (pc := 1) (v := (-1)) dX4_held_1 (by decide) ?_
  refine cV1 (pc := 2) lk_X4_held_2 rfl rfl rfl (Nat.le_of_ble_eq_true rfl) ⟨Nat.le_of_ble_eq_true rfl, Nat.le_of_ble_eq_true rfl⟩ e1 ?_
  refine ev_istore_n (pc := 5) dX4_held_5 rfl rfl rfl ?_
  refine ev_iload_n (pc := 6) dX4_held_6 rfl rfl ?_
  refine ev_aload_n (pc := 7) dX4_held_7 rfl rfl ?_
  refine ev_iload_n (pc := 8) dX4_held_8 rfl rfl ?_
  refine cV1 (pc := 9) lk_X4_held_9 rfl rfl rfl (Nat.le_of_ble_eq_true rfl) ⟨Nat.le_of_ble_eq_true rfl, Nat.le_of_ble_eq_true rfl⟩ e2 ?_
  refine ev_isub (pc := 12) dX4_held_12 ?_
  exact ev_iretE (pc := 13) dX4_held_13 rfl ⟨Nat.le_of_ble_eq_true rfl, Nat.le_of_ble_eq_true rfl⟩ rfl rfl
theorem s_mHeldBy {cc : C21} {ep ro bb sl th dp : Int32} {many inn item val wr met rst : Nat → Int32} {wds : Nat → Int64} {opd ope way tk : Nat → Int32} {tl : List mC} (h : mmR U T c b so rd ro bb many inn item val wds opd ope) {j n1 n2 : Nat} {x : RS3} (hj : j < 4) (hx : rd j = some x) (hx7 : x.2.1 < 720) (h1 : cntR (mUse T c b so rd) 720 n1) (h2 : cntR (mUse T c b so (setR rd j none)) 720 n2) : ∃ met' rst', EvS m_X4_heldBy [.ref 21, .int (nI j)] (dW cc ep ro bb sl th dp many inn item val wr met rst wds opd ope way tk tl) (.inl (some (.int (nI n1 - nI n2)))) (dW cc ep ro bb sl 0 dp many inn item val wr met' rst' wds opd ope way tk tl) := by
  obtain ⟨m1, r1, e1⟩ := s_held (cc := cc) (ep := ep) (ro := ro) (bb := bb) (sl := sl) (th := 0) (dp := dp) (many := many) (inn := inn) (item := item) (val := val) (wr := wr) (met := met) (rst := rst) (wds := wds) (opd := opd) (ope := ope) (way := way) (tk := tk) (tl := tl) h hj h1 h2
  refine ⟨m1, r1, ?_⟩
  refine evs_of (by decide +kernel) (Nat.le_of_ble_eq_true rfl) (by decide) rfl rfl ?_
  refine ev_aload_n (pc := 0) dX4_heldBy_0 rfl rfl ?_
  refine ev_aload_n (pc := 1) dX4_heldBy_1 rfl rfl ?_
  refine ev_iload_n (pc := 2) dX4_heldBy_2 rfl rfl ?_
  refine cV1 (pc := 3) lk_X4_heldBy_3 rfl rfl rfl (Nat.le_of_ble_eq_true rfl) ⟨Nat.le_of_ble_eq_true rfl, Nat.le_of_ble_eq_true rfl⟩ (s_isRd1 h.2.2.1 hj hx hx7) ?_
  refine ev_iconst (pc := 6) (v := 1) dX4_heldBy_6 (by decide) ?_
  refine ev_iconst (pc := 7) (v := 1) dX4_heldBy_7 (by decide) ?_
  refine cV3 (pc := 8) lk_X4_heldBy_8 rfl rfl rfl (Nat.le_of_ble_eq_true rfl) ⟨Nat.le_of_ble_eq_true rfl, Nat.le_of_ble_eq_true rfl⟩ (s_goes (cc := cc) (ep := ep) (ro := ro) (bb := bb) (sl := sl) (th := th) (dp := dp) (many := many) (inn := inn) (item := item) (val := val) (wr := wr) (met := met) (rst := rst) (wds := wds) (opd := opd) (ope := ope) (way := way) (tk := tk) (tl := tl)) ?_
  refine ev_if_eq (pc := 11) (tgt := 22) dX4_heldBy_11 (by decide) (fun c_11 => absurd c_11 (by decide)) (fun _ => ?_)
  refine ev_aload_n (pc := 14) dX4_heldBy_14 rfl rfl ?_
  refine ev_iload_n (pc := 15) dX4_heldBy_15 rfl rfl ?_
  refine cV1 (pc := 16) lk_X4_heldBy_16 rfl rfl rfl (Nat.le_of_ble_eq_true rfl) ⟨Nat.le_of_ble_eq_true rfl, Nat.le_of_ble_eq_true rfl⟩ e1 ?_
  refine ev_goto (pc := 19) (tgt := 23) dX4_heldBy_19 (by decide) ?_
  exact ev_iretE (pc := 23) dX4_heldBy_23 rfl ⟨Nat.le_of_ble_eq_true rfl, Nat.le_of_ble_eq_true rfl⟩ rfl rfl
theorem s_mHeldByT {cc : C21} {ep ro bb sl th dp : Int32} {many inn item val wr met rst : Nat → Int32} {wds : Nat → Int64} {opd ope way tk : Nat → Int32} {tl : List mC} (hop : opC opd ope rd) {i : Int32} (hx : ∀ j, j < 4 → i = nI j → rd j = none) : EvS m_X4_heldBy [.ref 21, .int i] (dW cc ep ro bb sl th dp many inn item val wr met rst wds opd ope way tk tl) (.inl (some (.int 0))) (dW cc ep ro bb sl 1 dp many inn item val wr met rst wds opd ope way tk tl) := by
  refine evs_of (by decide +kernel) (Nat.le_of_ble_eq_true rfl) (by decide) rfl rfl ?_
  refine ev_aload_n (pc := 0) dX4_heldBy_0 rfl rfl ?_
  refine ev_aload_n (pc := 1) dX4_heldBy_1 rfl rfl ?_
  refine ev_iload_n (pc := 2) dX4_heldBy_2 rfl rfl ?_
  refine cV1 (pc := 3) lk_X4_heldBy_3 rfl rfl rfl (Nat.le_of_ble_eq_true rfl) ⟨Nat.le_of_ble_eq_true rfl, Nat.le_of_ble_eq_true rfl⟩ (s_isRd0 hop hx) ?_
  refine ev_iconst (pc := 6) (v := 1) dX4_heldBy_6 (by decide) ?_
  refine ev_iconst (pc := 7) (v := 1) dX4_heldBy_7 (by decide) ?_
  refine cV3 (pc := 8) lk_X4_heldBy_8 rfl rfl rfl (Nat.le_of_ble_eq_true rfl) ⟨Nat.le_of_ble_eq_true rfl, Nat.le_of_ble_eq_true rfl⟩ (s_goesT1 (cc := cc) (ep := ep) (ro := ro) (bb := bb) (sl := sl) (th := th) (dp := dp) (many := many) (inn := inn) (item := item) (val := val) (wr := wr) (met := met) (rst := rst) (wds := wds) (opd := opd) (ope := ope) (way := way) (tk := tk) (tl := tl)) ?_
  refine ev_if_eq (pc := 11) (tgt := 22) dX4_heldBy_11 (by decide) (fun _ => ?_) (fun c_11 => absurd rfl c_11)
  refine ev_iconst (pc := 22) (v := 0) dX4_heldBy_22 (by decide) ?_
  exact ev_iretE (pc := 23) dX4_heldBy_23 rfl ⟨Nat.le_of_ble_eq_true rfl, Nat.le_of_ble_eq_true rfl⟩ rfl rfl
theorem s_mClose {cc : C21} {ep ro bb sl th dp : Int32} {many inn item val wr met rst : Nat → Int32} {wds : Nat → Int64} {opd ope way tk : Nat → Int32} {tl : List mC} (h : mmR U T c b so rd ro bb many inn item val wds opd ope) {j n1 n2 : Nat} {x : RS3} (hj : j < 4) (hx : rd j = some x) (hx7 : x.2.1 < 720) (h1 : cntR (mUse T c b so rd) 720 n1) (h2 : cntR (mUse T c b so (setR rd j none)) 720 n2) : ∃ met' rst', opC (upd opd j (-1)) ope (setR rd j none) ∧ EvS m_X4_closeReader [.ref 21, .int (nI j)] (dW cc ep ro bb sl th dp many inn item val wr met rst wds opd ope way tk tl) (.inl (some (.int (nI n1 - nI n2)))) (dW cc ep ro bb sl 0 dp many inn item val wr met' rst' wds (upd opd j (-1)) ope way tk tl) := by
  obtain ⟨m1, r1, e1⟩ := s_held (cc := cc) (ep := ep) (ro := ro) (bb := bb) (sl := sl) (th := 0) (dp := dp) (many := many) (inn := inn) (item := item) (val := val) (wr := wr) (met := met) (rst := rst) (wds := wds) (opd := opd) (ope := ope) (way := way) (tk := tk) (tl := tl) h hj h1 h2
  refine ⟨m1, r1, fun i hi => ?_, ?_⟩
  · unfold setR
    by_cases hij : i = j
    · rw [if_pos hij, hij]
      exact pk_us
    · rw [if_neg hij, upd_o hij]
      exact h.2.2.1 i hi
  · refine evs_of (by decide +kernel) (Nat.le_of_ble_eq_true rfl) (by decide) rfl rfl ?_
    refine ev_aload_n (pc := 0) dX4_closeReader_0 rfl rfl ?_
    refine ev_aload_n (pc := 1) dX4_closeReader_1 rfl rfl ?_
    refine ev_iload_n (pc := 2) dX4_closeReader_2 rfl rfl ?_
    refine cV1 (pc := 3) lk_X4_closeReader_3 rfl rfl rfl (Nat.le_of_ble_eq_true rfl) ⟨Nat.le_of_ble_eq_true rfl, Nat.le_of_ble_eq_true rfl⟩ (s_isRd1 h.2.2.1 hj hx hx7) ?_
    refine ev_iconst (pc := 6) (v := 1) dX4_closeReader_6 (by decide) ?_
    refine ev_iconst (pc := 7) (v := 1) dX4_closeReader_7 (by decide) ?_
    refine cV3 (pc := 8) lk_X4_closeReader_8 rfl rfl rfl (Nat.le_of_ble_eq_true rfl) ⟨Nat.le_of_ble_eq_true rfl, Nat.le_of_ble_eq_true rfl⟩ (s_goes (cc := cc) (ep := ep) (ro := ro) (bb := bb) (sl := sl) (th := th) (dp := dp) (many := many) (inn := inn) (item := item) (val := val) (wr := wr) (met := met) (rst := rst) (wds := wds) (opd := opd) (ope := ope) (way := way) (tk := tk) (tl := tl)) ?_
    refine ev_if_ne (pc := 11) (tgt := 16) dX4_closeReader_11 (by decide) (fun _ => ?_) (fun c_11 => absurd c_11 (by decide))
    refine ev_aload_n (pc := 16) dX4_closeReader_16 rfl rfl ?_
    refine ev_iload_n (pc := 17) dX4_closeReader_17 rfl rfl ?_
    refine cV1 (pc := 18) lk_X4_closeReader_18 rfl rfl rfl (Nat.le_of_ble_eq_true rfl) ⟨Nat.le_of_ble_eq_true rfl, Nat.le_of_ble_eq_true rfl⟩ e1 ?_
    refine ev_istore_n (pc := 21) dX4_closeReader_21 rfl rfl rfl ?_
    refine ev_aload_n (pc := 22) dX4_closeReader_22 rfl rfl ?_
    refine ev_get (pc := 23) dX4_closeReader_23 fd_X4_40 rfl rfl ?_
    refine ev_iload_n (pc := 26) dX4_closeReader_26 rfl rfl ?_
    refine ev_iconst (pc := 27) (v := (-1)) dX4_closeReader_27 (by decide) ?_
    refine ev_iastN (pc := 28) dX4_closeReader_28 rfl ⟨rfl, hj, by decide⟩ rfl rfl ?_
    refine ev_iload_n (pc := 29) dX4_closeReader_29 rfl rfl ?_
    exact ev_iretE (pc := 30) dX4_closeReader_30 rfl ⟨Nat.le_of_ble_eq_true rfl, Nat.le_of_ble_eq_true rfl⟩ rfl rfl
theorem s_mCloseT {cc : C21} {ep ro bb sl th dp : Int32} {many inn item val wr met rst : Nat → Int32} {wds : Nat → Int64} {opd ope way tk : Nat → Int32} {tl : List mC} (hop : opC opd ope rd) {i : Int32} (hx : ∀ j, j < 4 → i = nI j → rd j = none) : EvS m_X4_closeReader [.ref 21, .int i] (dW cc ep ro bb sl th dp many inn item val wr met rst wds opd ope way tk tl) (.inl (some (.int 0))) (dW cc ep ro bb sl 1 dp many inn item val wr met rst wds opd ope way tk tl) := by
  refine evs_of (by decide +kernel) (Nat.le_of_ble_eq_true rfl) (by decide) rfl rfl ?_
  refine ev_aload_n (pc := 0) dX4_closeReader_0 rfl rfl ?_
  refine ev_aload_n (pc := 1) dX4_closeReader_1 rfl rfl ?_
  refine ev_iload_n (pc := 2) dX4_closeReader_2 rfl rfl ?_
  refine cV1 (pc := 3) lk_X4_closeReader_3 rfl rfl rfl (Nat.le_of_ble_eq_true rfl) ⟨Nat.le_of_ble_eq_true rfl, Nat.le_of_ble_eq_true rfl⟩ (s_isRd0 hop hx) ?_
  refine ev_iconst (pc := 6) (v := 1) dX4_closeReader_6 (by decide) ?_
  refine ev_iconst (pc := 7) (v := 1) dX4_closeReader_7 (by decide) ?_
  refine cV3 (pc := 8) lk_X4_closeReader_8 rfl rfl rfl (Nat.le_of_ble_eq_true rfl) ⟨Nat.le_of_ble_eq_true rfl, Nat.le_of_ble_eq_true rfl⟩ (s_goesT1 (cc := cc) (ep := ep) (ro := ro) (bb := bb) (sl := sl) (th := th) (dp := dp) (many := many) (inn := inn) (item := item) (val := val) (wr := wr) (met := met) (rst := rst) (wds := wds) (opd := opd) (ope := ope) (way := way) (tk := tk) (tl := tl)) ?_
  refine ev_if_ne (pc := 11) (tgt := 16) dX4_closeReader_11 (by decide) (fun c_11 => absurd (by decide) c_11) (fun _ => ?_)
  refine ev_iconst (pc := 14) (v := 0) dX4_closeReader_14 (by decide) ?_
  exact ev_iretE (pc := 15) dX4_closeReader_15 rfl ⟨Nat.le_of_ble_eq_true rfl, Nat.le_of_ble_eq_true rfl⟩ rfl rfl
theorem l_mOpen {cc : C21} {ep ro bb sl th dp : Int32} {many inn item val wr met rst : Nat → Int32} {wds : Nat → Int64} {opd ope way tk : Nat → Int32} {tl : List mC} (hop : opC opd ope rd) (hbd : ∀ j x, j < 4 → rd j = some x → x.2.1 < 720) {n : Nat} (hn : n ≤ 4) (h1 : ∀ i, i < n → ∃ x, rd i = some x) (h2 : n < 4 → rd n = none) {Qf : mQ} (k : EvF m_X4_openReader Qf 23 [.ref 21, .int (nI n)] [] 0 0 (dW cc ep ro bb sl th dp many inn item val wr met rst wds opd ope way tk tl)) : ∀ (m j : Nat), n = j + m → EvF m_X4_openReader Qf 2 [.ref 21, .int (nI j)] [] 0 0 (dW cc ep ro bb sl th dp many inn item val wr met rst wds opd ope way tk tl) := by
  intro m
  induction m with
  | zero =>
    intro j hj
    have : j = n := by omega
    subst this
    by_cases h4 : j < 4
    · have h9 := hop j h4
      rw [h2 h4] at h9
      refine ev_iload_n (pc := 2) dX4_openReader_2 rfl rfl ?_
      refine ev_iconst (pc := 3) (v := 4) dX4_openReader_3 (by decide) ?_
      refine ev_ic_ge (pc := 4) (tgt := 23) dX4_openReader_4 (by decide) (fun c_4 => absurd c_4 (nI_ge h4 (by decide))) (fun _ => ?_)
      refine ev_aload_n (pc := 7) dX4_openReader_7 rfl rfl ?_
      refine ev_get (pc := 8) dX4_openReader_8 fd_X4_40 rfl rfl ?_
      refine ev_iload_n (pc := 11) dX4_openReader_11 rfl rfl ?_
      refine ev_ialdN (pc := 12) dX4_openReader_12 rfl ⟨rfl, h4, by decide⟩ h9 ?_
      refine ev_iconst (pc := 13) (v := (-1)) dX4_openReader_13 (by decide) ?_
      refine ev_ic_eq (pc := 14) (tgt := 23) dX4_openReader_14 (by decide) (fun _ => ?_) (fun c_14 => absurd rfl c_14)
      exact k
    · have : j = 4 := by omega
      subst this
      refine ev_iload_n (pc := 2) dX4_openReader_2 rfl rfl ?_
      refine ev_iconst (pc := 3) (v := 4) dX4_openReader_3 (by decide) ?_
      refine ev_ic_ge (pc := 4) (tgt := 23) dX4_openReader_4 (by decide) (fun _ => ?_) (fun c_4 => absurd (by decide) c_4)
      exact k
  | succ m ih =>
    intro j hj
    have hj4 : j < 4 := by omega
    obtain ⟨x, hx⟩ := h1 j (by omega)
    have h9 := hop j hj4
    rw [hx] at h9
    have h7 := hbd j x hj4 hx
    refine ev_iload_n (pc := 2) dX4_openReader_2 rfl rfl ?_
    refine ev_iconst (pc := 3) (v := 4) dX4_openReader_3 (by decide) ?_
    refine ev_ic_ge (pc := 4) (tgt := 23) dX4_openReader_4 (by decide) (fun c_4 => absurd c_4 (nI_ge hj4 (by decide))) (fun _ => ?_)
    refine ev_aload_n (pc := 7) dX4_openReader_7 rfl rfl ?_
    refine ev_get (pc := 8) dX4_openReader_8 fd_X4_40 rfl rfl ?_
    refine ev_iload_n (pc := 11) dX4_openReader_11 rfl rfl ?_
    refine ev_ialdN (pc := 12) dX4_openReader_12 rfl ⟨rfl, hj4, by decide⟩ h9.1 ?_
    refine ev_iconst (pc := 13) (v := (-1)) dX4_openReader_13 (by decide) ?_
    refine ev_ic_eq (pc := 14) (tgt := 23) dX4_openReader_14 (by decide) (fun c_14 => absurd c_14 (fun h => nI_m1 (show x.2.1 < 2147483648 by omega) h)) (fun _ => ?_)
    refine ev_iinc (pc := 17) dX4_openReader_17 rfl rfl rfl ?_
    refine ev_goto (pc := 20) (tgt := 2) dX4_openReader_20 (by decide) ?_
    rw [nI_i1]
    exact ih (j + 1) (by omega)
theorem s_mOpen {cc : C21} {ep ro bb sl th dp : Int32} {many inn item val wr met rst : Nat → Int32} {wds : Nat → Int64} {opd ope way tk : Nat → Int32} {tl : List mC} (hop : opC opd ope rd) (hbd : ∀ j x, j < 4 → rd j = some x → x.2.1 < 720) (hro : ro = nI c.2.1) (hep : ep = nI c.1) {n : Nat} (hn : n < 4) (h1 : ∀ i, i < n → ∃ x, rd i = some x) (h2 : rd n = none) : opC (upd opd n ro) (upd ope n ep) (setR rd n (some c)) ∧ EvS m_X4_openReader [.ref 21] (dW cc ep ro bb sl th dp many inn item val wr met rst wds opd ope way tk tl) (.inl (some (.int (nI n)))) (dW cc ep ro bb sl 0 dp many inn item val wr met rst wds (upd opd n ro) (upd ope n ep) way tk tl) := by
  refine ⟨fun i hi => ?_, ?_⟩
  · unfold setR
    by_cases hij : i = n
    · rw [if_pos hij, hij]
      exact ⟨pk_us.trans hro, pk_us.trans hep⟩
    · rw [if_neg hij, upd_o hij, upd_o hij]
      exact hop i hi
  · have k : EvF m_X4_openReader (mQm m_X4_openReader (.inl (some (.int (nI n)))) (dW cc ep ro bb sl 0 dp many inn item val wr met rst wds (upd opd n ro) (upd ope n ep) way tk tl)) 23 [.ref 21, .int (nI n)] [] 0 0 (dW cc ep ro bb sl th dp many inn item val wr met rst wds opd ope way tk tl) := by
      refine ev_aload_n (pc := 23) dX4_openReader_23 rfl rfl ?_
      refine ev_iload_n (pc := 24) dX4_openReader_24 rfl rfl ?_
      refine ev_iconst (pc := 25) (v := 4) dX4_openReader_25 (by decide) ?_
      refine ev_ic_ge (pc := 26) (tgt := 33) dX4_openReader_26 (by decide) (fun c_26 => absurd c_26 (nI_ge hn (by decide))) (fun _ => ?_)
      refine ev_iconst (pc := 29) (v := 1) dX4_openReader_29 (by decide) ?_
      refine ev_goto (pc := 30) (tgt := 34) dX4_openReader_30 (by decide) ?_
      refine ev_iconst (pc := 34) (v := 1) dX4_openReader_34 (by decide) ?_
      refine ev_iconst (pc := 35) (v := 1) dX4_openReader_35 (by decide) ?_
      refine cV3 (pc := 36) lk_X4_openReader_36 rfl rfl rfl (Nat.le_of_ble_eq_true rfl) ⟨Nat.le_of_ble_eq_true rfl, Nat.le_of_ble_eq_true rfl⟩ (s_goes (cc := cc) (ep := ep) (ro := ro) (bb := bb) (sl := sl) (th := th) (dp := dp) (many := many) (inn := inn) (item := item) (val := val) (wr := wr) (met := met) (rst := rst) (wds := wds) (opd := opd) (ope := ope) (way := way) (tk := tk) (tl := tl)) ?_
      refine ev_if_ne (pc := 39) (tgt := 44) dX4_openReader_39 (by decide) (fun _ => ?_) (fun c_39 => absurd c_39 (by decide))
      refine ev_aload_n (pc := 44) dX4_openReader_44 rfl rfl ?_
      refine ev_get (pc := 45) dX4_openReader_45 fd_X4_40 rfl rfl ?_
      refine ev_iload_n (pc := 48) dX4_openReader_48 rfl rfl ?_
      refine ev_aload_n (pc := 49) dX4_openReader_49 rfl rfl ?_
      refine ev_get (pc := 50) dX4_openReader_50 fd_X4_61 rfl rfl ?_
      refine ev_iastN (pc := 53) dX4_openReader_53 rfl ⟨rfl, hn, by decide⟩ rfl rfl ?_
      refine ev_aload_n (pc := 54) dX4_openReader_54 rfl rfl ?_
      refine ev_get (pc := 55) dX4_openReader_55 fd_X4_43 rfl rfl ?_
      refine ev_iload_n (pc := 58) dX4_openReader_58 rfl rfl ?_
      refine ev_aload_n (pc := 59) dX4_openReader_59 rfl rfl ?_
      refine ev_get (pc := 60) dX4_openReader_60 fd_X4_122 rfl rfl ?_
      refine ev_iastN (pc := 63) dX4_openReader_63 rfl ⟨rfl, hn, by decide⟩ rfl rfl ?_
      refine ev_iload_n (pc := 64) dX4_openReader_64 rfl rfl ?_
      exact ev_iretE (pc := 65) dX4_openReader_65 rfl ⟨Nat.le_of_ble_eq_true rfl, Nat.le_of_ble_eq_true rfl⟩ rfl rfl
    have e1 := l_mOpen (cc := cc) (ep := ep) (ro := ro) (bb := bb) (sl := sl) (th := th) (dp := dp) (many := many) (inn := inn) (item := item) (val := val) (wr := wr) (met := met) (rst := rst) (wds := wds) (opd := opd) (ope := ope) (way := way) (tk := tk) (tl := tl) hop hbd (by omega) h1 (fun _ => h2) k n 0 (by omega)
    refine evs_of (by decide +kernel) (Nat.le_of_ble_eq_true rfl) (by decide) rfl rfl ?_
    refine ev_iconst (pc := 0) (v := 0) dX4_openReader_0 (by decide) ?_
    refine ev_istore_n (pc := 1) dX4_openReader_1 rfl rfl rfl ?_
    exact e1
theorem s_mOpenT {cc : C21} {ep ro bb sl th dp : Int32} {many inn item val wr met rst : Nat → Int32} {wds : Nat → Int64} {opd ope way tk : Nat → Int32} {tl : List mC} (hop : opC opd ope rd) (hbd : ∀ j x, j < 4 → rd j = some x → x.2.1 < 720) (h1 : ∀ i, i < 4 → ∃ x, rd i = some x) : EvS m_X4_openReader [.ref 21] (dW cc ep ro bb sl th dp many inn item val wr met rst wds opd ope way tk tl) (.inl (some (.int 0))) (dW cc ep ro bb sl 1 dp many inn item val wr met rst wds opd ope way tk tl) := by
  have k : EvF m_X4_openReader (mQm m_X4_openReader (.inl (some (.int 0))) (dW cc ep ro bb sl 1 dp many inn item val wr met rst wds opd ope way tk tl)) 23 [.ref 21, .int (nI 4)] [] 0 0 (dW cc ep ro bb sl th dp many inn item val wr met rst wds opd ope way tk tl) := by
    refine ev_aload_n (pc := 23) dX4_openReader_23 rfl rfl ?_
    refine ev_iload_n (pc := 24) dX4_openReader_24 rfl rfl ?_
    refine ev_iconst (pc := 25) (v := 4) dX4_openReader_25 (by decide) ?_
    refine ev_ic_ge (pc := 26) (tgt := 33) dX4_openReader_26 (by decide) (fun _ => ?_) (fun c_26 => absurd (by decide) c_26)
    refine ev_iconst (pc := 33) (v := 0) dX4_openReader_33 (by decide) ?_
    refine ev_iconst (pc := 34) (v := 1) dX4_openReader_34 (by decide) ?_
    refine ev_iconst (pc := 35) (v := 1) dX4_openReader_35 (by decide) ?_
    refine cV3 (pc := 36) lk_X4_openReader_36 rfl rfl rfl (Nat.le_of_ble_eq_true rfl) ⟨Nat.le_of_ble_eq_true rfl, Nat.le_of_ble_eq_true rfl⟩ (s_goesT1 (cc := cc) (ep := ep) (ro := ro) (bb := bb) (sl := sl) (th := th) (dp := dp) (many := many) (inn := inn) (item := item) (val := val) (wr := wr) (met := met) (rst := rst) (wds := wds) (opd := opd) (ope := ope) (way := way) (tk := tk) (tl := tl)) ?_
    refine ev_if_ne (pc := 39) (tgt := 44) dX4_openReader_39 (by decide) (fun c_39 => absurd (by decide) c_39) (fun _ => ?_)
    refine ev_iconst (pc := 42) (v := 0) dX4_openReader_42 (by decide) ?_
    exact ev_iretE (pc := 43) dX4_openReader_43 rfl ⟨Nat.le_of_ble_eq_true rfl, Nat.le_of_ble_eq_true rfl⟩ rfl rfl
  have e1 := l_mOpen (cc := cc) (ep := ep) (ro := ro) (bb := bb) (sl := sl) (th := th) (dp := dp) (many := many) (inn := inn) (item := item) (val := val) (wr := wr) (met := met) (rst := rst) (wds := wds) (opd := opd) (ope := ope) (way := way) (tk := tk) (tl := tl) hop hbd (n := 4) (by decide) h1 (fun h => absurd h (by decide)) k 4 0 rfl
  refine evs_of (by decide +kernel) (Nat.le_of_ble_eq_true rfl) (by decide) rfl rfl ?_
  refine ev_iconst (pc := 0) (v := 0) dX4_openReader_0 (by decide) ?_
  refine ev_istore_n (pc := 1) dX4_openReader_1 rfl rfl rfl ?_
  exact e1
theorem l_mReaders {cc : C21} {ep ro bb sl th dp : Int32} {many inn item val wr met rst : Nat → Int32} {wds : Nat → Int64} {opd ope way tk : Nat → Int32} {tl : List mC} (hop : opC opd ope rd) (hbd : ∀ j x, j < 4 → rd j = some x → x.2.1 < 720) : ∀ (m j s : Nat), 4 = j + m → EvF m_X4_readers (mQm m_X4_readers (.inl (some (.int (nI (s + (rtsF rd j m).length))))) (dW cc ep ro bb sl th dp many inn item val wr met rst wds opd ope way tk tl)) 9 [.ref 21, .int (nI s), .int (nI j)] [] 0 0 (dW cc ep ro bb sl th dp many inn item val wr met rst wds opd ope way tk tl) := by
  intro m
  induction m with
  | zero =>
    intro j s hj
    have : j = 4 := by omega
    subst this
    refine ev_iload_n (pc := 9) dX4_readers_9 rfl rfl ?_
    refine ev_iconst (pc := 10) (v := 4) dX4_readers_10 (by decide) ?_
    refine ev_ic_ge (pc := 11) (tgt := 38) dX4_readers_11 (by decide) (fun _ => ?_) (fun c_11 => absurd (by decide) c_11)
    refine ev_iload_n (pc := 38) dX4_readers_38 rfl rfl ?_
    exact ev_iretE (pc := 39) dX4_readers_39 rfl ⟨Nat.le_of_ble_eq_true rfl, Nat.le_of_ble_eq_true rfl⟩ rfl rfl
  | succ m ih =>
    intro j s hj
    have hj4 : j < 4 := by omega
    have h9 := hop j hj4
    cases hx : rd j with
    | none =>
      rw [hx] at h9
      have e : (rtsF rd j (m + 1)).length = (rtsF rd (j + 1) m).length := by simp [rtsF, hx, oRt]
      rw [e]
      refine ev_iload_n (pc := 9) dX4_readers_9 rfl rfl ?_
      refine ev_iconst (pc := 10) (v := 4) dX4_readers_10 (by decide) ?_
      refine ev_ic_ge (pc := 11) (tgt := 38) dX4_readers_11 (by decide) (fun c_11 => absurd c_11 (nI_ge hj4 (by decide))) (fun _ => ?_)
      refine ev_iload_n (pc := 14) dX4_readers_14 rfl rfl ?_
      refine ev_aload_n (pc := 15) dX4_readers_15 rfl rfl ?_
      refine ev_get (pc := 16) dX4_readers_16 fd_X4_40 rfl rfl ?_
      refine ev_iload_n (pc := 19) dX4_readers_19 rfl rfl ?_
      refine ev_ialdN (pc := 20) dX4_readers_20 rfl ⟨rfl, hj4, by decide⟩ h9 ?_
      refine ev_iconst (pc := 21) (v := (-1)) dX4_readers_21 (by decide) ?_
      refine ev_ic_ne (pc := 22) (tgt := 29) dX4_readers_22 (by decide) (fun c_22 => absurd rfl c_22) (fun _ => ?_)
      refine ev_iconst (pc := 25) (v := 0) dX4_readers_25 (by decide) ?_
      refine ev_goto (pc := 26) (tgt := 30) dX4_readers_26 (by decide) ?_
      refine ev_iadd (pc := 30) dX4_readers_30 ?_
      rw [Int32.add_zero]
      refine ev_istore_n (pc := 31) dX4_readers_31 rfl rfl rfl ?_
      refine ev_iinc (pc := 32) dX4_readers_32 rfl rfl rfl ?_
      refine ev_goto (pc := 35) (tgt := 9) dX4_readers_35 (by decide) ?_
      rw [nI_i1]
      exact ih (j + 1) s (by omega)
    | some x =>
      rw [hx] at h9
      have h7 := hbd j x hj4 hx
      have e : s + (rtsF rd j (m + 1)).length = s + 1 + (rtsF rd (j + 1) m).length := by simp [rtsF, hx, oRt]; omega
      rw [e]
      refine ev_iload_n (pc := 9) dX4_readers_9 rfl rfl ?_
      refine ev_iconst (pc := 10) (v := 4) dX4_readers_10 (by decide) ?_
      refine ev_ic_ge (pc := 11) (tgt := 38) dX4_readers_11 (by decide) (fun c_11 => absurd c_11 (nI_ge hj4 (by decide))) (fun _ => ?_)
      refine ev_iload_n (pc := 14) dX4_readers_14 rfl rfl ?_
      refine ev_aload_n (pc := 15) dX4_readers_15 rfl rfl ?_
      refine ev_get (pc := 16) dX4_readers_16 fd_X4_40 rfl rfl ?_
      refine ev_iload_n (pc := 19) dX4_readers_19 rfl rfl ?_
      refine ev_ialdN (pc := 20) dX4_readers_20 rfl ⟨rfl, hj4, by decide⟩ h9.1 ?_
      refine ev_iconst (pc := 21) (v := (-1)) dX4_readers_21 (by decide) ?_
      refine ev_ic_ne (pc := 22) (tgt := 29) dX4_readers_22 (by decide) (fun _ => ?_) (fun c_22 => absurd c_22 (fun h => nI_m1 (show x.2.1 < 2147483648 by omega) h))
      refine ev_iconst (pc := 29) (v := 1) dX4_readers_29 (by decide) ?_
      refine ev_iadd (pc := 30) dX4_readers_30 ?_
      rw [nI_a1]
      refine ev_istore_n (pc := 31) dX4_readers_31 rfl rfl rfl ?_
      refine ev_iinc (pc := 32) dX4_readers_32 rfl rfl rfl ?_
      refine ev_goto (pc := 35) (tgt := 9) dX4_readers_35 (by decide) ?_
      rw [nI_i1]
      exact ih (j + 1) (s + 1) (by omega)
theorem s_mReaders {cc : C21} {ep ro bb sl th dp : Int32} {many inn item val wr met rst : Nat → Int32} {wds : Nat → Int64} {opd ope way tk : Nat → Int32} {tl : List mC} (hop : opC opd ope rd) (hbd : ∀ j x, j < 4 → rd j = some x → x.2.1 < 720) : EvS m_X4_readers [.ref 21] (dW cc ep ro bb sl th dp many inn item val wr met rst wds opd ope way tk tl) (.inl (some (.int (nI (rtsF rd 0 4).length)))) (dW cc ep ro bb sl 0 dp many inn item val wr met rst wds opd ope way tk tl) := by
  have e1 := l_mReaders (cc := cc) (ep := ep) (ro := ro) (bb := bb) (sl := sl) (th := 0) (dp := dp) (many := many) (inn := inn) (item := item) (val := val) (wr := wr) (met := met) (rst := rst) (wds := wds) (opd := opd) (ope := ope) (way := way) (tk := tk) (tl := tl) hop hbd 4 0 0 rfl
  rw [Nat.zero_add] at e1
  refine evs_of (by decide +kernel) (Nat.le_of_ble_eq_true rfl) (by decide) rfl rfl ?_
  refine ev_aload_n (pc := 0) dX4_readers_0 rfl rfl ?_
  refine ev_iconst (pc := 1) (v := 0) dX4_readers_1 (by decide) ?_
  refine ev_put (pc := 2) dX4_readers_2 fp_X4_55 rfl (Nat.le_of_ble_eq_true rfl) (fun _ _ => ⟨rfl, rfl⟩) rfl ?_
  refine ev_iconst (pc := 5) (v := 0) dX4_readers_5 (by decide) ?_
  refine ev_istore_n (pc := 6) dX4_readers_6 rfl rfl rfl ?_
  refine ev_iconst (pc := 7) (v := 0) dX4_readers_7 (by decide) ?_
  refine ev_istore_n (pc := 8) dX4_readers_8 rfl rfl rfl ?_
  exact e1
end M14
