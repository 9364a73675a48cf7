/-! counts; what is free; the pages' questions -/
def cntR (S : Nat → Prop) : Nat → Nat → Prop
  | 0, k => k = 0
  | n + 1, k => (S n ∧ ∃ j, cntR S n j ∧ k = j + 1) ∨ (¬ S n ∧ cntR S n k)
theorem cntR_ex (S : Nat → Prop) : ∀ n, ∃ k, cntR S n k
  | 0 => ⟨0, rfl⟩
  | n + 1 => by
    obtain ⟨k, hk⟩ := cntR_ex S n
    by_cases h : S n
    · exact ⟨k + 1, Or.inl ⟨h, k, hk, rfl⟩⟩
    · exact ⟨k, Or.inr ⟨h, hk⟩⟩
theorem cntR_un {S : Nat → Prop} : ∀ {n k j : Nat}, cntR S n k → cntR S n j → k = j
  | 0, _, _, h1, h2 => by rw [show _ = 0 from h1, show _ = 0 from h2]
  | n + 1, _, _, h1, h2 => by
    rcases h1 with ⟨a, x, hx, rfl⟩ | ⟨a, hx⟩ <;> rcases h2 with ⟨b, y, hy, rfl⟩ | ⟨b, hy⟩
    · rw [cntR_un hx hy]
    · exact absurd a b
    · exact absurd b a
    · exact cntR_un hx hy
theorem cntR_le {S : Nat → Prop} : ∀ {n k : Nat}, cntR S n k → k ≤ n
  | 0, _, h => Nat.le_of_eq h
  | n + 1, _, h => by
    rcases h with ⟨-, x, hx, rfl⟩ | ⟨-, hx⟩
    · exact Nat.succ_le_succ (cntR_le hx)
    · exact Nat.le_succ_of_le (cntR_le hx)
theorem cntR_cg {S S' : Nat → Prop} : ∀ {n k : Nat}, (∀ q, q < n → (S q ↔ S' q)) → cntR S n k → cntR S' n k
  | 0, _, _, h => h
  | n + 1, _, hS, h => by
    have hn := hS n (Nat.lt_succ_self n)
    rcases h with ⟨a, x, hx, rfl⟩ | ⟨a, hx⟩
    · exact Or.inl ⟨hn.mp a, x, cntR_cg (fun q hq => hS q (by omega)) hx, rfl⟩
    · exact Or.inr ⟨fun h => a (hn.mpr h), cntR_cg (fun q hq => hS q (by omega)) hx⟩
theorem cntR_up {S : Nat → Prop} {n k : Nat} : ∀ {m : Nat}, (∀ q, n ≤ q → ¬ S q) → cntR S n k → cntR S (n + m) k
  | 0, _, h => h
  | m + 1, hS, h => Or.inr ⟨hS (n + m) (by omega), cntR_up hS h⟩
theorem cntR_dn {S : Nat → Prop} {n k : Nat} {m : Nat} (hS : ∀ q, n ≤ q → ¬ S q) (h : cntR S (n + m) k) : cntR S n k := by
  obtain ⟨j, hj⟩ := cntR_ex S n
  rw [cntR_un h (cntR_up hS hj)]
  exact hj
/-- one after another -/
theorem cntR_s1 {S : Nat → Prop} {n s : Nat} (h : cntR S n s) (hS : S n) : cntR S (n + 1) (s + 1) := Or.inl ⟨hS, s, h, rfl⟩
theorem cntR_s0 {S : Nat → Prop} {n s : Nat} (h : cntR S n s) (hS : ¬ S n) : cntR S (n + 1) s := Or.inr ⟨hS, h⟩
section XD
variable {K W : Nat → Prop} {T : Nat → Nd} {rd : Nat → Option RS3}
theorem vac_iff {kp wr : Nat → Int32} (hk : kS kp K) (hw : kS wr W) {q : Nat} (hq : q < 800) : vac kp wr (nI q) ↔ ¬ (K q ∨ W q) := by
  unfold vac
  rw [nI_clamp (by omega)]
  constructor
  · rintro (h | h | ⟨h1, h2⟩) h3
    · exact hp0 hq h
    · exact hp8 hq h
    · exact h3.elim (fun h => (hk q hq).mpr h h1) (fun h => (hw q hq).mpr h h2)
  · intro h
    refine Or.inr (Or.inr ⟨?_, ?_⟩)
    · by_cases h1 : kp q = 0
      · exact h1
      · exact absurd (Or.inl ((hk q hq).mp h1)) h
    · by_cases h1 : wr q = 0
      · exact h1
      · exact absurd (Or.inr ((hw q hq).mp h1)) h
theorem s_vac1 {sl : Int32} {cu ba r0 r1 r2 r3 : Q4} {sw : Nat → Int64} {bt : Int32} {cnt inn lk wd kp wr mk ls pth tk : Nat → Int32} {tl : List mC} (hk : kS kp K) (hw : kS wr W) {q : Nat} (hq : q < 800) (h : ¬ (K q ∨ W q)) : EvS m_X0_isVacant [.ref 1, .int (nI q)] (cW sl cu ba r0 r1 r2 r3 sw bt cnt inn lk wd kp wr mk ls pth tk tl) (.inl (some (.int 1))) (cW sl cu ba r0 r1 r2 r3 sw bt cnt inn lk wd kp wr mk ls pth tk tl) := by
  have e := s_isVacant (sl := sl) (cu := cu) (ba := ba) (r0 := r0) (r1 := r1) (r2 := r2) (r3 := r3) (sw := sw) (bt := bt) (cnt := cnt) (inn := inn) (lk := lk) (wd := wd) (kp := kp) (wr := wr) (mk := mk) (ls := ls) (pth := pth) (tk := tk) (tl := tl) (nI q)
  rw [if_pos ((vac_iff hk hw hq).mpr h)] at e
  exact e
theorem s_vac0 {sl : Int32} {cu ba r0 r1 r2 r3 : Q4} {sw : Nat → Int64} {bt : Int32} {cnt inn lk wd kp wr mk ls pth tk : Nat → Int32} {tl : List mC} (hk : kS kp K) (hw : kS wr W) {q : Nat} (hq : q < 800) (h : K q ∨ W q) : EvS m_X0_isVacant [.ref 1, .int (nI q)] (cW sl cu ba r0 r1 r2 r3 sw bt cnt inn lk wd kp wr mk ls pth tk tl) (.inl (some (.int 0))) (cW sl cu ba r0 r1 r2 r3 sw bt cnt inn lk wd kp wr mk ls pth tk tl) := by
  have e := s_isVacant (sl := sl) (cu := cu) (ba := ba) (r0 := r0) (r1 := r1) (r2 := r2) (r3 := r3) (sw := sw) (bt := bt) (cnt := cnt) (inn := inn) (lk := lk) (wd := wd) (kp := kp) (wr := wr) (mk := mk) (ls := ls) (pth := pth) (tk := tk) (tl := tl) (nI q)
  rw [if_neg (fun h2 => (vac_iff hk hw hq).mp h2 h)] at e
  exact e
theorem s_vacO {sl : Int32} {cu ba r0 r1 r2 r3 : Q4} {sw : Nat → Int64} {bt : Int32} {cnt inn lk wd kp wr mk ls pth tk : Nat → Int32} {tl : List mC} {i : Int32} (h : i < 0 ∨ (800 : Int32) ≤ i) : EvS m_X0_isVacant [.ref 1, .int i] (cW sl cu ba r0 r1 r2 r3 sw bt cnt inn lk wd kp wr mk ls pth tk tl) (.inl (some (.int 1))) (cW sl cu ba r0 r1 r2 r3 sw bt cnt inn lk wd kp wr mk ls pth tk tl) := by
  have e := s_isVacant (sl := sl) (cu := cu) (ba := ba) (r0 := r0) (r1 := r1) (r2 := r2) (r3 := r3) (sw := sw) (bt := bt) (cnt := cnt) (inn := inn) (lk := lk) (wd := wd) (kp := kp) (wr := wr) (mk := mk) (ls := ls) (pth := pth) (tk := tk) (tl := tl) i
  rw [if_pos (h.elim Or.inl (fun h => Or.inr (Or.inl h)))] at e
  exact e
theorem l_inUse {sl : Int32} {cu ba r0 r1 r2 r3 : Q4} {sw : Nat → Int64} {bt : Int32} {cnt inn lk wd kp wr mk ls pth tk : Nat → Int32} {tl : List mC} (hk : kS kp K) (hw : kS wr W) {n : Nat} (hn : cntR (fun q => K q ∨ W q) 800 n) : ∀ (m i s : Nat), 800 = i + m → cntR (fun q => K q ∨ W q) i s → EvF m_X3_pagesInUse (mQm m_X3_pagesInUse (.inl (some (.int (nI n)))) (cW sl cu ba r0 r1 r2 r3 sw bt cnt inn lk wd kp wr mk ls pth tk tl)) 4 [.ref 0, .int (nI s), .int (nI i)] [] 0 0 (cW sl cu ba r0 r1 r2 r3 sw bt cnt inn lk wd kp wr mk ls pth tk tl) := by
  intro m
  induction m with
  | zero =>
    intro i s hi hs
    have : i = 800 := by omega
    subst this
    refine ev_iload_n (pc := 4) dX3_pagesInUse_4 rfl rfl ?_
    refine ev_sipush (pc := 5) (v := 800) dX3_pagesInUse_5 (by decide) ?_
    refine ev_ic_ge (pc := 8) (tgt := 31) dX3_pagesInUse_8 (by decide) (fun _ => ?_) (fun c_8 => absurd (by decide) c_8)
    refine ev_iload_n (pc := 31) dX3_pagesInUse_31 rfl rfl ?_
    exact ev_iretE (pc := 32) dX3_pagesInUse_32 rfl ⟨Nat.le_of_ble_eq_true rfl, Nat.le_of_ble_eq_true rfl⟩ (by rw [cntR_un hs hn]) rfl
  | succ m ih =>
    intro i s hi hs
    have hi8 : i < 800 := by omega
    by_cases h : K i ∨ W i
    · refine ev_iload_n (pc := 4) dX3_pagesInUse_4 rfl rfl ?_
      refine ev_sipush (pc := 5) (v := 800) dX3_pagesInUse_5 (by decide) ?_
      refine ev_ic_ge (pc := 8) (tgt := 31) dX3_pagesInUse_8 (by decide) (fun c_8 => absurd c_8 (hp8 hi8)) (fun _ => ?_)
      refine ev_aload_n (pc := 11) dX3_pagesInUse_11 rfl rfl ?_
      refine ev_get (pc := 12) dX3_pagesInUse_12 fd_X3_12 rfl rfl ?_
      refine ev_iload_n (pc := 15) dX3_pagesInUse_15 rfl rfl ?_
      refine cV1 (pc := 16) lk_X3_pagesInUse_16 rfl rfl rfl (Nat.le_of_ble_eq_true rfl) ⟨Nat.le_of_ble_eq_true rfl, Nat.le_of_ble_eq_true rfl⟩ (s_vac0 hk hw hi8 h) ?_
      refine ev_if_ne (pc := 19) (tgt := 25) dX3_pagesInUse_19 (by decide) (fun c_19 => absurd rfl c_19) (fun _ => ?_)
      refine ev_iinc (pc := 22) dX3_pagesInUse_22 rfl rfl rfl ?_
      refine ev_iinc (pc := 25) dX3_pagesInUse_25 rfl rfl rfl ?_
      refine ev_goto (pc := 28) (tgt := 4) dX3_pagesInUse_28 (by decide) ?_
      rw [nI_i1, nI_i1]
      exact ih (i + 1) (s + 1) (by omega) (cntR_s1 hs h)
    · refine ev_iload_n (pc := 4) dX3_pagesInUse_4 rfl rfl ?_
      refine ev_sipush (pc := 5) (v := 800) dX3_pagesInUse_5 (by decide) ?_
      refine ev_ic_ge (pc := 8) (tgt := 31) dX3_pagesInUse_8 (by decide) (fun c_8 => absurd c_8 (hp8 hi8)) (fun _ => ?_)
      refine ev_aload_n (pc := 11) dX3_pagesInUse_11 rfl rfl ?_
      refine ev_get (pc := 12) dX3_pagesInUse_12 fd_X3_12 rfl rfl ?_
      refine ev_iload_n (pc := 15) dX3_pagesInUse_15 rfl rfl ?_
      refine cV1 (pc := 16) lk_X3_pagesInUse_16 rfl rfl rfl (Nat.le_of_ble_eq_true rfl) ⟨Nat.le_of_ble_eq_true rfl, Nat.le_of_ble_eq_true rfl⟩ (s_vac1 hk hw hi8 h) ?_
      refine ev_if_ne (pc := 19) (tgt := 25) dX3_pagesInUse_19 (by decide) (fun _ => ?_) (fun c_19 => absurd c_19 (by decide))
      refine ev_iinc (pc := 25) dX3_pagesInUse_25 rfl rfl rfl ?_
      refine ev_goto (pc := 28) (tgt := 4) dX3_pagesInUse_28 (by decide) ?_
      rw [nI_i1]
      exact ih (i + 1) s (by omega) (cntR_s0 hs h)
theorem s_inUse {sl : Int32} {cu ba r0 r1 r2 r3 : Q4} {sw : Nat → Int64} {bt : Int32} {cnt inn lk wd kp wr mk ls pth tk : Nat → Int32} {tl : List mC} (hk : kS kp K) (hw : kS wr W) {n : Nat} (hn : cntR (fun q => K q ∨ W q) 800 n) : EvS m_X3_pagesInUse [.ref 0] (cW sl cu ba r0 r1 r2 r3 sw bt cnt inn lk wd kp wr mk ls pth tk tl) (.inl (some (.int (nI n)))) (cW sl cu ba r0 r1 r2 r3 sw bt cnt inn lk wd kp wr mk ls pth tk tl) := by
  have e1 := l_inUse (sl := sl) (cu := cu) (ba := ba) (r0 := r0) (r1 := r1) (r2 := r2) (r3 := r3) (sw := sw) (bt := bt) (cnt := cnt) (inn := inn) (lk := lk) (wd := wd) (kp := kp) (wr := wr) (mk := mk) (ls := ls) (pth := pth) (tk := tk) (tl := tl) hk hw hn 800 0 0 rfl rfl
  refine evs_of (by decide +kernel) (Nat.le_of_ble_eq_true rfl) (by decide) rfl ?_
  refine ev_iconst (pc := 0) (v := 0) dX3_pagesInUse_0 (by decide) ?_
  refine ev_istore_n (pc := 1) dX3_pagesInUse_1 rfl rfl rfl ?_
  refine ev_iconst (pc := 2) (v := 0) dX3_pagesInUse_2 (by decide) ?_
  refine ev_istore_n (pc := 3) dX3_pagesInUse_3 rfl rfl rfl ?_
  exact e1
/-! leastFree, isFree, entries, keyAt, pageAt -/
theorem s_leastFree {sl : Int32} {cu ba r0 r1 r2 r3 : Q4} {sw : Nat → Int64} {bt : Int32} {cnt inn lk wd kp wr mk ls pth tk : Nat → Int32} {tl : List mC} (hk : kS kp K) (hw : kS wr W) {n : Nat} (hn : frs K W n) : EvS m_X3_leastFree [.ref 0] (cW sl cu ba r0 r1 r2 r3 sw bt cnt inn lk wd kp wr mk ls pth tk tl) (.inl (some (.int (nI n)))) (cW sl cu ba r0 r1 r2 r3 sw bt cnt inn lk wd kp wr mk ls pth tk tl) := by
  obtain ⟨v1, v2⟩ := frs_vac hk hw hn
  have := hn.1
  refine evs_of (by decide +kernel) (Nat.le_of_ble_eq_true rfl) (by decide) rfl ?_
  refine ev_aload_n (pc := 0) dX3_leastFree_0 rfl rfl ?_
  refine ev_get (pc := 1) dX3_leastFree_1 fd_X3_12 rfl rfl ?_
  refine cV0 (pc := 4) lk_X3_leastFree_4 rfl rfl rfl (Nat.le_of_ble_eq_true rfl) ⟨Nat.le_of_ble_eq_true rfl, Nat.le_of_ble_eq_true rfl⟩ (s_leastVacant (by omega) v1 (fun _ => v2)) ?_
  exact ev_iretE (pc := 7) dX3_leastFree_7 rfl ⟨Nat.le_of_ble_eq_true rfl, Nat.le_of_ble_eq_true rfl⟩ rfl rfl
theorem s_isFreeT {sl : Int32} {cu ba r0 r1 r2 r3 : Q4} {sw : Nat → Int64} {bt : Int32} {cnt inn lk wd kp wr mk ls pth tk : Nat → Int32} {tl : List mC} {i : Int32} (h : i < 0) : EvS m_X3_isFree [.ref 0, .int i] (cW sl cu ba r0 r1 r2 r3 sw bt cnt inn lk wd kp wr mk ls pth tk tl) (.inr xIB) (cW sl cu ba r0 r1 r2 r3 sw bt cnt inn lk wd kp wr mk ls pth tk tl) := by
  refine evs_of (by decide +kernel) (Nat.le_of_ble_eq_true rfl) (by decide) rfl ?_
  refine ev_iload_n (pc := 0) dX3_isFree_0 rfl rfl ?_
  refine ev_if_ge (pc := 1) (tgt := 14) dX3_isFree_1 (by decide) (fun c_1 => absurd c_1 (Int32.not_le.mpr h)) (fun _ => ?_)
  exact ev_throw th_X3_150 dX3_isFree_4 dX3_isFree_7 dX3_isFree_8 dX3_isFree_10 dX3_isFree_13 rfl (Nat.le_of_ble_eq_true rfl) (Nat.le_of_ble_eq_true rfl) (Nat.le_of_ble_eq_true rfl) (Nat.le_of_ble_eq_true rfl)
theorem s_isFree {sl : Int32} {cu ba r0 r1 r2 r3 : Q4} {sw : Nat → Int64} {bt : Int32} {cnt inn lk wd kp wr mk ls pth tk : Nat → Int32} {tl : List mC} {i a : Int32} (h : ¬ i < 0) (ha : a = 0 ∨ a = 1) (he : EvS m_X0_isVacant [.ref 1, .int i] (cW sl cu ba r0 r1 r2 r3 sw bt cnt inn lk wd kp wr mk ls pth tk tl) (.inl (some (.int a))) (cW sl cu ba r0 r1 r2 r3 sw bt cnt inn lk wd kp wr mk ls pth tk tl)) : EvS m_X3_isFree [.ref 0, .int i] (cW sl cu ba r0 r1 r2 r3 sw bt cnt inn lk wd kp wr mk ls pth tk tl) (.inl (some (.int a))) (cW sl cu ba r0 r1 r2 r3 sw bt cnt inn lk wd kp wr mk ls pth tk tl) := by
  refine evs_of (by decide +kernel) (Nat.le_of_ble_eq_true rfl) (by decide) rfl ?_
  refine ev_iload_n (pc := 0) dX3_isFree_0 rfl rfl ?_
  refine ev_if_ge (pc := 1) (tgt := 14) dX3_isFree_1 (by decide) (fun _ => ?_) (fun c_1 => absurd (Int32.not_lt.mp h) c_1)
  refine ev_aload_n (pc := 14) dX3_isFree_14 rfl rfl ?_
  refine ev_get (pc := 15) dX3_isFree_15 fd_X3_12 rfl rfl ?_
  refine ev_iload_n (pc := 18) dX3_isFree_18 rfl rfl ?_
  refine cV1 (pc := 19) lk_X3_isFree_19 rfl rfl rfl (Nat.le_of_ble_eq_true rfl) ⟨Nat.le_of_ble_eq_true rfl, Nat.le_of_ble_eq_true rfl⟩ he ?_
  exact ev_zretE (pc := 22) dX3_isFree_22 rfl ⟨Nat.le_of_ble_eq_true rfl, Nat.le_of_ble_eq_true rfl⟩ (by first | exact Or.inl rfl | exact Or.inr rfl | assumption | exact i10_o) rfl rfl
theorem s_reqPage {sl : Int32} {cu ba r0 r1 r2 r3 : Q4} {sw : Nat → Int64} {bt : Int32} {cnt inn lk wd kp wr mk ls pth tk : Nat → Int32} {tl : List mC} (hk : kS kp K) (hw : kS wr W) {q : Nat} (hq : q < 800) (h : K q ∨ W q) : EvS m_X3_requirePage [.ref 0, .int (nI q)] (cW sl cu ba r0 r1 r2 r3 sw bt cnt inn lk wd kp wr mk ls pth tk tl) (.inl none) (cW sl cu ba r0 r1 r2 r3 sw bt cnt inn lk wd kp wr mk ls pth tk tl) := by
  refine evs_of (by decide +kernel) (Nat.le_of_ble_eq_true rfl) (by decide) rfl ?_
  refine ev_iload_n (pc := 0) dX3_requirePage_0 rfl rfl ?_
  refine ev_if_lt (pc := 1) (tgt := 15) dX3_requirePage_1 (by decide) (fun c_1 => absurd c_1 (hp0 hq)) (fun _ => ?_)
  refine ev_aload_n (pc := 4) dX3_requirePage_4 rfl rfl ?_
  refine ev_get (pc := 5) dX3_requirePage_5 fd_X3_12 rfl rfl ?_
  refine ev_iload_n (pc := 8) dX3_requirePage_8 rfl rfl ?_
  refine cV1 (pc := 9) lk_X3_requirePage_9 rfl rfl rfl (Nat.le_of_ble_eq_true rfl) ⟨Nat.le_of_ble_eq_true rfl, Nat.le_of_ble_eq_true rfl⟩ (s_vac0 hk hw hq h) ?_
  refine ev_if_eq (pc := 12) (tgt := 25) dX3_requirePage_12 (by decide) (fun _ => ?_) (fun c_12 => absurd rfl c_12)
  exact ev_vretE (pc := 25) dX3_requirePage_25 rfl ⟨Nat.le_of_ble_eq_true rfl, Nat.le_of_ble_eq_true rfl⟩ rfl
/-- no page that is used -/
def nUs (K W : Nat → Prop) (i : Int32) : Prop := ∀ q, q < 800 → i = nI q → ¬ (K q ∨ W q)
theorem vac_n {kp wr : Nat → Int32} (hk : kS kp K) (hw : kS wr W) {i : Int32} (h : nUs K W i) : vac kp wr i := by
  by_cases h0 : i < 0
  · exact Or.inl h0
  · by_cases h8 : (800 : Int32) ≤ i
    · exact Or.inr (Or.inl h8)
    · obtain ⟨j, hj, rfl⟩ := nI_of h0
      have hj8 : j < 800 := by
        rcases Nat.lt_or_ge j 800 with h | h
        · exact h
        · exact absurd (nI_le h hj) h8
      exact (vac_iff hk hw hj8).mpr (h j hj8 rfl)
theorem s_reqPageT {sl : Int32} {cu ba r0 r1 r2 r3 : Q4} {sw : Nat → Int64} {bt : Int32} {cnt inn lk wd kp wr mk ls pth tk : Nat → Int32} {tl : List mC} (hk : kS kp K) (hw : kS wr W) {i : Int32} (h : nUs K W i) : EvS m_X3_requirePage [.ref 0, .int i] (cW sl cu ba r0 r1 r2 r3 sw bt cnt inn lk wd kp wr mk ls pth tk tl) (.inr xIB) (cW sl cu ba r0 r1 r2 r3 sw bt cnt inn lk wd kp wr mk ls pth tk tl) := by
  have e := s_isVacant (sl := sl) (cu := cu) (ba := ba) (r0 := r0) (r1 := r1) (r2 := r2) (r3 := r3) (sw := sw) (bt := bt) (cnt := cnt) (inn := inn) (lk := lk) (wd := wd) (kp := kp) (wr := wr) (mk := mk) (ls := ls) (pth := pth) (tk := tk) (tl := tl) i
  rw [if_pos (vac_n hk hw h)] at e
  by_cases h0 : i < 0
  · refine evs_of (by decide +kernel) (Nat.le_of_ble_eq_true rfl) (by decide) rfl ?_
    refine ev_iload_n (pc := 0) dX3_requirePage_0 rfl rfl ?_
    refine ev_if_lt (pc := 1) (tgt := 15) dX3_requirePage_1 (by decide) (fun _ => ?_) (fun c_1 => absurd h0 c_1)
    exact ev_throw th_X3_212 dX3_requirePage_15 dX3_requirePage_18 dX3_requirePage_19 dX3_requirePage_21 dX3_requirePage_24 rfl (Nat.le_of_ble_eq_true rfl) (Nat.le_of_ble_eq_true rfl) (Nat.le_of_ble_eq_true rfl) (Nat.le_of_ble_eq_true rfl)
  · refine evs_of (by decide +kernel) (Nat.le_of_ble_eq_true rfl) (by decide) rfl ?_
    refine ev_iload_n (pc := 0) dX3_requirePage_0 rfl rfl ?_
    refine ev_if_lt (pc := 1) (tgt := 15) dX3_requirePage_1 (by decide) (fun c_1 => absurd c_1 h0) (fun _ => ?_)
    refine ev_aload_n (pc := 4) dX3_requirePage_4 rfl rfl ?_
    refine ev_get (pc := 5) dX3_requirePage_5 fd_X3_12 rfl rfl ?_
    refine ev_iload_n (pc := 8) dX3_requirePage_8 rfl rfl ?_
    refine cV1 (pc := 9) lk_X3_requirePage_9 rfl rfl rfl (Nat.le_of_ble_eq_true rfl) ⟨Nat.le_of_ble_eq_true rfl, Nat.le_of_ble_eq_true rfl⟩ e ?_
    refine ev_if_eq (pc := 12) (tgt := 25) dX3_requirePage_12 (by decide) (fun c_12 => absurd c_12 (by decide)) (fun _ => ?_)
    exact ev_throw th_X3_212 dX3_requirePage_15 dX3_requirePage_18 dX3_requirePage_19 dX3_requirePage_21 dX3_requirePage_24 rfl (Nat.le_of_ble_eq_true rfl) (Nat.le_of_ble_eq_true rfl) (Nat.le_of_ble_eq_true rfl) (Nat.le_of_ble_eq_true rfl)
theorem s_reqEntry {sl : Int32} {cu ba r0 r1 r2 r3 : Q4} {sw : Nat → Int64} {bt : Int32} {cnt inn lk wd kp wr mk ls pth tk : Nat → Int32} {tl : List mC} (hC : CR K W T cnt inn lk wd kp wr) {q e : Nat} (h : K q ∨ W q) (he : e < nlen (T q)) : EvS m_X3_requireEntry [.ref 0, .int (nI q), .int (nI e)] (cW sl cu ba r0 r1 r2 r3 sw bt cnt inn lk wd kp wr mk ls pth tk tl) (.inl none) (cW sl cu ba r0 r1 r2 r3 sw bt cnt inn lk wd kp wr mk ls pth tk tl) := by
  obtain ⟨hq8, hc, h5⟩ := hC.1.cnt h
  refine evs_of (by decide +kernel) (Nat.le_of_ble_eq_true rfl) (by decide) rfl ?_
  refine ev_aload_n (pc := 0) dX3_requireEntry_0 rfl rfl ?_
  refine ev_iload_n (pc := 1) dX3_requireEntry_1 rfl rfl ?_
  refine cV1 (pc := 2) lk_X3_requireEntry_2 rfl rfl rfl (Nat.le_of_ble_eq_true rfl) ⟨Nat.le_of_ble_eq_true rfl, Nat.le_of_ble_eq_true rfl⟩ (s_reqPage hC.2.1 hC.2.2 hq8 h) ?_
  refine ev_iload_n (pc := 5) dX3_requireEntry_5 rfl rfl ?_
  refine ev_if_lt (pc := 6) (tgt := 21) dX3_requireEntry_6 (by decide) (fun c_6 => absurd c_6 (nI_pos (show e < 2147483648 by omega))) (fun _ => ?_)
  refine ev_iload_n (pc := 9) dX3_requireEntry_9 rfl rfl ?_
  refine ev_aload_n (pc := 10) dX3_requireEntry_10 rfl rfl ?_
  refine ev_get (pc := 11) dX3_requireEntry_11 fd_X3_12 rfl rfl ?_
  refine ev_iload_n (pc := 14) dX3_requireEntry_14 rfl rfl ?_
  refine cV1 (pc := 15) lk_X3_requireEntry_15 rfl rfl rfl (Nat.le_of_ble_eq_true rfl) ⟨Nat.le_of_ble_eq_true rfl, Nat.le_of_ble_eq_true rfl⟩ (s_countOf hq8 hc) ?_
  refine ev_ic_lt (pc := 18) (tgt := 31) dX3_requireEntry_18 (by decide) (fun _ => ?_) (fun c_18 => absurd (by exact nI_lt he (by omega)) c_18)
  exact ev_vretE (pc := 31) dX3_requireEntry_31 rfl ⟨Nat.le_of_ble_eq_true rfl, Nat.le_of_ble_eq_true rfl⟩ rfl
theorem s_reqEntryT1 {sl : Int32} {cu ba r0 r1 r2 r3 : Q4} {sw : Nat → Int64} {bt : Int32} {cnt inn lk wd kp wr mk ls pth tk : Nat → Int32} {tl : List mC} (hC : CR K W T cnt inn lk wd kp wr) {i a : Int32} (h : nUs K W i) : EvS m_X3_requireEntry [.ref 0, .int i, .int a] (cW sl cu ba r0 r1 r2 r3 sw bt cnt inn lk wd kp wr mk ls pth tk tl) (.inr xIB) (cW sl cu ba r0 r1 r2 r3 sw bt cnt inn lk wd kp wr mk ls pth tk tl) := by
  refine evs_of (by decide +kernel) (Nat.le_of_ble_eq_true rfl) (by decide) rfl ?_
  refine ev_aload_n (pc := 0) dX3_requireEntry_0 rfl rfl ?_
  refine ev_iload_n (pc := 1) dX3_requireEntry_1 rfl rfl ?_
  exact tV1 (pc := 2) lk_X3_requireEntry_2 rfl rfl rfl rfl (Nat.le_of_ble_eq_true rfl) ⟨Nat.le_of_ble_eq_true rfl, Nat.le_of_ble_eq_true rfl⟩ (s_reqPageT hC.2.1 hC.2.2 h)
theorem s_reqEntryT2 {sl : Int32} {cu ba r0 r1 r2 r3 : Q4} {sw : Nat → Int64} {bt : Int32} {cnt inn lk wd kp wr mk ls pth tk : Nat → Int32} {tl : List mC} (hC : CR K W T cnt inn lk wd kp wr) {q : Nat} {a : Int32} (h : K q ∨ W q) (ha : a < 0 ∨ nI (nlen (T q)) ≤ a) : EvS m_X3_requireEntry [.ref 0, .int (nI q), .int a] (cW sl cu ba r0 r1 r2 r3 sw bt cnt inn lk wd kp wr mk ls pth tk tl) (.inr xIB) (cW sl cu ba r0 r1 r2 r3 sw bt cnt inn lk wd kp wr mk ls pth tk tl) := by
  obtain ⟨hq8, hc, h5⟩ := hC.1.cnt h
  by_cases h0 : a < 0
  · refine evs_of (by decide +kernel) (Nat.le_of_ble_eq_true rfl) (by decide) rfl ?_
    refine ev_aload_n (pc := 0) dX3_requireEntry_0 rfl rfl ?_
    refine ev_iload_n (pc := 1) dX3_requireEntry_1 rfl rfl ?_
    refine cV1 (pc := 2) lk_X3_requireEntry_2 rfl rfl rfl (Nat.le_of_ble_eq_true rfl) ⟨Nat.le_of_ble_eq_true rfl, Nat.le_of_ble_eq_true rfl⟩ (s_reqPage hC.2.1 hC.2.2 hq8 h) ?_
    refine ev_iload_n (pc := 5) dX3_requireEntry_5 rfl rfl ?_
    refine ev_if_lt (pc := 6) (tgt := 21) dX3_requireEntry_6 (by decide) (fun _ => ?_) (fun c_6 => absurd h0 c_6)
    exact ev_throw th_X3_214 dX3_requireEntry_21 dX3_requireEntry_24 dX3_requireEntry_25 dX3_requireEntry_27 dX3_requireEntry_30 rfl (Nat.le_of_ble_eq_true rfl) (Nat.le_of_ble_eq_true rfl) (Nat.le_of_ble_eq_true rfl) (Nat.le_of_ble_eq_true rfl)
  · have h1 := ha.resolve_left h0
    refine evs_of (by decide +kernel) (Nat.le_of_ble_eq_true rfl) (by decide) rfl ?_
    refine ev_aload_n (pc := 0) dX3_requireEntry_0 rfl rfl ?_
    refine ev_iload_n (pc := 1) dX3_requireEntry_1 rfl rfl ?_
    refine cV1 (pc := 2) lk_X3_requireEntry_2 rfl rfl rfl (Nat.le_of_ble_eq_true rfl) ⟨Nat.le_of_ble_eq_true rfl, Nat.le_of_ble_eq_true rfl⟩ (s_reqPage hC.2.1 hC.2.2 hq8 h) ?_
    refine ev_iload_n (pc := 5) dX3_requireEntry_5 rfl rfl ?_
    refine ev_if_lt (pc := 6) (tgt := 21) dX3_requireEntry_6 (by decide) (fun c_6 => absurd c_6 h0) (fun _ => ?_)
    refine ev_iload_n (pc := 9) dX3_requireEntry_9 rfl rfl ?_
    refine ev_aload_n (pc := 10) dX3_requireEntry_10 rfl rfl ?_
    refine ev_get (pc := 11) dX3_requireEntry_11 fd_X3_12 rfl rfl ?_
    refine ev_iload_n (pc := 14) dX3_requireEntry_14 rfl rfl ?_
    refine cV1 (pc := 15) lk_X3_requireEntry_15 rfl rfl rfl (Nat.le_of_ble_eq_true rfl) ⟨Nat.le_of_ble_eq_true rfl, Nat.le_of_ble_eq_true rfl⟩ (s_countOf hq8 hc) ?_
    refine ev_ic_lt (pc := 18) (tgt := 31) dX3_requireEntry_18 (by decide) (fun c_18 => absurd c_18 (Int32.not_lt.mpr h1)) (fun _ => ?_)
    exact ev_throw th_X3_214 dX3_requireEntry_21 dX3_requireEntry_24 dX3_requireEntry_25 dX3_requireEntry_27 dX3_requireEntry_30 rfl (Nat.le_of_ble_eq_true rfl) (Nat.le_of_ble_eq_true rfl) (Nat.le_of_ble_eq_true rfl) (Nat.le_of_ble_eq_true rfl)
theorem s_entries {sl : Int32} {cu ba r0 r1 r2 r3 : Q4} {sw : Nat → Int64} {bt : Int32} {cnt inn lk wd kp wr mk ls pth tk : Nat → Int32} {tl : List mC} (hC : CR K W T cnt inn lk wd kp wr) {q : Nat} (h : K q ∨ W q) : EvS m_X3_entries [.ref 0, .int (nI q)] (cW sl cu ba r0 r1 r2 r3 sw bt cnt inn lk wd kp wr mk ls pth tk tl) (.inl (some (.int (nI (nlen (T q)))))) (cW sl cu ba r0 r1 r2 r3 sw bt cnt inn lk wd kp wr mk ls pth tk tl) := by
  obtain ⟨hq8, hc, h5⟩ := hC.1.cnt h
  refine evs_of (by decide +kernel) (Nat.le_of_ble_eq_true rfl) (by decide) rfl ?_
  refine ev_aload_n (pc := 0) dX3_entries_0 rfl rfl ?_
  refine ev_iload_n (pc := 1) dX3_entries_1 rfl rfl ?_
  refine cV1 (pc := 2) lk_X3_entries_2 rfl rfl rfl (Nat.le_of_ble_eq_true rfl) ⟨Nat.le_of_ble_eq_true rfl, Nat.le_of_ble_eq_true rfl⟩ (s_reqPage hC.2.1 hC.2.2 hq8 h) ?_
  refine ev_aload_n (pc := 5) dX3_entries_5 rfl rfl ?_
  refine ev_get (pc := 6) dX3_entries_6 fd_X3_12 rfl rfl ?_
  refine ev_iload_n (pc := 9) dX3_entries_9 rfl rfl ?_
  refine cV1 (pc := 10) lk_X3_entries_10 rfl rfl rfl (Nat.le_of_ble_eq_true rfl) ⟨Nat.le_of_ble_eq_true rfl, Nat.le_of_ble_eq_true rfl⟩ (s_countOf hq8 hc) ?_
  exact ev_iretE (pc := 13) dX3_entries_13 rfl ⟨Nat.le_of_ble_eq_true rfl, Nat.le_of_ble_eq_true rfl⟩ rfl rfl
theorem s_entriesT {sl : Int32} {cu ba r0 r1 r2 r3 : Q4} {sw : Nat → Int64} {bt : Int32} {cnt inn lk wd kp wr mk ls pth tk : Nat → Int32} {tl : List mC} (hC : CR K W T cnt inn lk wd kp wr) {i : Int32} (h : nUs K W i) : EvS m_X3_entries [.ref 0, .int i] (cW sl cu ba r0 r1 r2 r3 sw bt cnt inn lk wd kp wr mk ls pth tk tl) (.inr xIB) (cW sl cu ba r0 r1 r2 r3 sw bt cnt inn lk wd kp wr mk ls pth tk tl) := by
  refine evs_of (by decide +kernel) (Nat.le_of_ble_eq_true rfl) (by decide) rfl ?_
  refine ev_aload_n (pc := 0) dX3_entries_0 rfl rfl ?_
  refine ev_iload_n (pc := 1) dX3_entries_1 rfl rfl ?_
  exact tV1 (pc := 2) lk_X3_entries_2 rfl rfl rfl rfl (Nat.le_of_ble_eq_true rfl) ⟨Nat.le_of_ble_eq_true rfl, Nat.le_of_ble_eq_true rfl⟩ (s_reqPageT hC.2.1 hC.2.2 h)
/-- the key of an entry -/
def kyR (T : Nat → Nd) (U : Nat → Prop) (p e k : Nat) : Prop := (∃ l x, T p = .inl l ∧ l[e]? = some x ∧ x.1 = k) ∨ (∃ l c d, T p = .inr l ∧ l[e]? = some c ∧ fl T U d c ∧ d ≤ 6 ∧ mkT T d c = k)
theorem s_keyAt {sl : Int32} {cu ba r0 r1 r2 r3 : Q4} {sw : Nat → Int64} {bt : Int32} {cnt inn lk wd kp wr mk ls pth tk : Nat → Int32} {tl : List mC} (hC : CR K W T cnt inn lk wd kp wr) {q e k : Nat} (h : K q ∨ W q) (hk : kyR T (fun q => K q ∨ W q) q e k) : EvS m_X3_keyAt [.ref 0, .int (nI q), .int (nI e)] (cW sl cu ba r0 r1 r2 r3 sw bt cnt inn lk wd kp wr mk ls pth tk tl) (.inl (some (.int (nI k)))) (cW sl cu ba r0 r1 r2 r3 sw bt cnt inn lk wd kp wr mk ls pth tk tl) := by
  have he : e < nlen (T q) := by
    rcases hk with ⟨l, x, h1, h2, -⟩ | ⟨l, c, d, h1, h2, -⟩
    · rw [h1]; exact (List.getElem?_eq_some_iff.mp h2).1
    · rw [h1]; exact (List.getElem?_eq_some_iff.mp h2).1
  have e1 : EvS m_X0_keyOf [.ref 1, .int (nI q), .int (nI e)] (cW sl cu ba r0 r1 r2 r3 sw bt cnt inn lk wd kp wr mk ls pth tk tl) (.inl (some (.int (nI k)))) (cW sl cu ba r0 r1 r2 r3 sw bt cnt inn lk wd kp wr mk ls pth tk tl) := by
    rcases hk with ⟨l, x, h1, h2, rfl⟩ | ⟨l, c, d, h1, h2, h3, h4, rfl⟩
    · exact s_keyOfL hC.1 h h1 h2
    · exact s_keyOfI hC.1 h h1 h2 h3 (by omega)
  refine evs_of (by decide +kernel) (Nat.le_of_ble_eq_true rfl) (by decide) rfl ?_
  refine ev_aload_n (pc := 0) dX3_keyAt_0 rfl rfl ?_
  refine ev_iload_n (pc := 1) dX3_keyAt_1 rfl rfl ?_
  refine ev_iload_n (pc := 2) dX3_keyAt_2 rfl rfl ?_
  refine cV2 (pc := 3) lk_X3_keyAt_3 rfl rfl rfl (Nat.le_of_ble_eq_true rfl) ⟨Nat.le_of_ble_eq_true rfl, Nat.le_of_ble_eq_true rfl⟩ (s_reqEntry hC h he) ?_
  refine ev_aload_n (pc := 6) dX3_keyAt_6 rfl rfl ?_
  refine ev_get (pc := 7) dX3_keyAt_7 fd_X3_12 rfl rfl ?_
  refine ev_iload_n (pc := 10) dX3_keyAt_10 rfl rfl ?_
  refine ev_iload_n (pc := 11) dX3_keyAt_11 rfl rfl ?_
  refine cV2 (pc := 12) lk_X3_keyAt_12 rfl rfl rfl (Nat.le_of_ble_eq_true rfl) ⟨Nat.le_of_ble_eq_true rfl, Nat.le_of_ble_eq_true rfl⟩ e1 ?_
  exact ev_iretE (pc := 15) dX3_keyAt_15 rfl ⟨Nat.le_of_ble_eq_true rfl, Nat.le_of_ble_eq_true rfl⟩ rfl rfl
theorem s_keyAtT1 {sl : Int32} {cu ba r0 r1 r2 r3 : Q4} {sw : Nat → Int64} {bt : Int32} {cnt inn lk wd kp wr mk ls pth tk : Nat → Int32} {tl : List mC} (hC : CR K W T cnt inn lk wd kp wr) {i a : Int32} (h : nUs K W i) : EvS m_X3_keyAt [.ref 0, .int i, .int a] (cW sl cu ba r0 r1 r2 r3 sw bt cnt inn lk wd kp wr mk ls pth tk tl) (.inr xIB) (cW sl cu ba r0 r1 r2 r3 sw bt cnt inn lk wd kp wr mk ls pth tk tl) := by
  refine evs_of (by decide +kernel) (Nat.le_of_ble_eq_true rfl) (by decide) rfl ?_
  refine ev_aload_n (pc := 0) dX3_keyAt_0 rfl rfl ?_
  refine ev_iload_n (pc := 1) dX3_keyAt_1 rfl rfl ?_
  refine ev_iload_n (pc := 2) dX3_keyAt_2 rfl rfl ?_
  exact tV2 (pc := 3) lk_X3_keyAt_3 rfl rfl rfl rfl (Nat.le_of_ble_eq_true rfl) ⟨Nat.le_of_ble_eq_true rfl, Nat.le_of_ble_eq_true rfl⟩ (s_reqEntryT1 hC h)
theorem s_keyAtT2 {sl : Int32} {cu ba r0 r1 r2 r3 : Q4} {sw : Nat → Int64} {bt : Int32} {cnt inn lk wd kp wr mk ls pth tk : Nat → Int32} {tl : List mC} (hC : CR K W T cnt inn lk wd kp wr) {q : Nat} {a : Int32} (h : K q ∨ W q) (ha : a < 0 ∨ nI (nlen (T q)) ≤ a) : EvS m_X3_keyAt [.ref 0, .int (nI q), .int a] (cW sl cu ba r0 r1 r2 r3 sw bt cnt inn lk wd kp wr mk ls pth tk tl) (.inr xIB) (cW sl cu ba r0 r1 r2 r3 sw bt cnt inn lk wd kp wr mk ls pth tk tl) := by
  refine evs_of (by decide +kernel) (Nat.le_of_ble_eq_true rfl) (by decide) rfl ?_
  refine ev_aload_n (pc := 0) dX3_keyAt_0 rfl rfl ?_
  refine ev_iload_n (pc := 1) dX3_keyAt_1 rfl rfl ?_
  refine ev_iload_n (pc := 2) dX3_keyAt_2 rfl rfl ?_
  exact tV2 (pc := 3) lk_X3_keyAt_3 rfl rfl rfl rfl (Nat.le_of_ble_eq_true rfl) ⟨Nat.le_of_ble_eq_true rfl, Nat.le_of_ble_eq_true rfl⟩ (s_reqEntryT2 hC h ha)
theorem s_pageAtL {sl : Int32} {cu ba r0 r1 r2 r3 : Q4} {sw : Nat → Int64} {bt : Int32} {cnt inn lk wd kp wr mk ls pth tk : Nat → Int32} {tl : List mC} (hC : CR K W T cnt inn lk wd kp wr) {q e : Nat} {l : List (Nat × Int32)} (h : K q ∨ W q) (hl : T q = .inl l) (he : e < nlen (T q)) : EvS m_X3_pageAt [.ref 0, .int (nI q), .int (nI e)] (cW sl cu ba r0 r1 r2 r3 sw bt cnt inn lk wd kp wr mk ls pth tk tl) (.inl (some (.int (-1)))) (cW sl cu ba r0 r1 r2 r3 sw bt cnt inn lk wd kp wr mk ls pth tk tl) := by
  obtain ⟨hq8, hi, -⟩ := hC.1.leaf h hl
  refine evs_of (by decide +kernel) (Nat.le_of_ble_eq_true rfl) (by decide) rfl ?_
  refine ev_aload_n (pc := 0) dX3_pageAt_0 rfl rfl ?_
  refine ev_iload_n (pc := 1) dX3_pageAt_1 rfl rfl ?_
  refine ev_iload_n (pc := 2) dX3_pageAt_2 rfl rfl ?_
  refine cV2 (pc := 3) lk_X3_pageAt_3 rfl rfl rfl (Nat.le_of_ble_eq_true rfl) ⟨Nat.le_of_ble_eq_true rfl, Nat.le_of_ble_eq_true rfl⟩ (s_reqEntry hC h he) ?_
  refine ev_aload_n (pc := 6) dX3_pageAt_6 rfl rfl ?_
  refine ev_get (pc := 7) dX3_pageAt_7 fd_X3_12 rfl rfl ?_
  refine ev_iload_n (pc := 10) dX3_pageAt_10 rfl rfl ?_
  refine cV1 (pc := 11) lk_X3_pageAt_11 rfl rfl rfl (Nat.le_of_ble_eq_true rfl) ⟨Nat.le_of_ble_eq_true rfl, Nat.le_of_ble_eq_true rfl⟩ (s_isLeafT hq8 hi) ?_
  refine ev_if_eq (pc := 14) (tgt := 21) dX3_pageAt_14 (by decide) (fun c_14 => absurd c_14 (by decide)) (fun _ => ?_)
  refine ev_iconst (pc := 17) (v := (-1)) dX3_pageAt_17 (by decide) ?_
  refine ev_goto (pc := 18) (tgt := 30) dX3_pageAt_18 (by decide) ?_
  exact ev_iretE (pc := 30) dX3_pageAt_30 rfl ⟨Nat.le_of_ble_eq_true rfl, Nat.le_of_ble_eq_true rfl⟩ rfl rfl
theorem s_pageAtI {sl : Int32} {cu ba r0 r1 r2 r3 : Q4} {sw : Nat → Int64} {bt : Int32} {cnt inn lk wd kp wr mk ls pth tk : Nat → Int32} {tl : List mC} (hC : CR K W T cnt inn lk wd kp wr) {q e c : Nat} {l : List Nat} (h : K q ∨ W q) (hl : T q = .inr l) (hx : l[e]? = some c) : EvS m_X3_pageAt [.ref 0, .int (nI q), .int (nI e)] (cW sl cu ba r0 r1 r2 r3 sw bt cnt inn lk wd kp wr mk ls pth tk tl) (.inl (some (.int (nI c)))) (cW sl cu ba r0 r1 r2 r3 sw bt cnt inn lk wd kp wr mk ls pth tk tl) := by
  obtain ⟨hq8, hi, -⟩ := hC.1.inner h hl
  refine evs_of (by decide +kernel) (Nat.le_of_ble_eq_true rfl) (by decide) rfl ?_
  refine ev_aload_n (pc := 0) dX3_pageAt_0 rfl rfl ?_
  refine ev_iload_n (pc := 1) dX3_pageAt_1 rfl rfl ?_
  refine ev_iload_n (pc := 2) dX3_pageAt_2 rfl rfl ?_
  refine cV2 (pc := 3) lk_X3_pageAt_3 rfl rfl rfl (Nat.le_of_ble_eq_true rfl) ⟨Nat.le_of_ble_eq_true rfl, Nat.le_of_ble_eq_true rfl⟩ (s_reqEntry hC h (by rw [hl]; exact (List.getElem?_eq_some_iff.mp hx).1)) ?_
  refine ev_aload_n (pc := 6) dX3_pageAt_6 rfl rfl ?_
  refine ev_get (pc := 7) dX3_pageAt_7 fd_X3_12 rfl rfl ?_
  refine ev_iload_n (pc := 10) dX3_pageAt_10 rfl rfl ?_
  refine cV1 (pc := 11) lk_X3_pageAt_11 rfl rfl rfl (Nat.le_of_ble_eq_true rfl) ⟨Nat.le_of_ble_eq_true rfl, Nat.le_of_ble_eq_true rfl⟩ (s_isLeafF hq8 hi) ?_
  refine ev_if_eq (pc := 14) (tgt := 21) dX3_pageAt_14 (by decide) (fun _ => ?_) (fun c_14 => absurd rfl c_14)
  refine ev_aload_n (pc := 21) dX3_pageAt_21 rfl rfl ?_
  refine ev_get (pc := 22) dX3_pageAt_22 fd_X3_12 rfl rfl ?_
  refine ev_iload_n (pc := 25) dX3_pageAt_25 rfl rfl ?_
  refine ev_iload_n (pc := 26) dX3_pageAt_26 rfl rfl ?_
  refine cV2 (pc := 27) lk_X3_pageAt_27 rfl rfl rfl (Nat.le_of_ble_eq_true rfl) ⟨Nat.le_of_ble_eq_true rfl, Nat.le_of_ble_eq_true rfl⟩ (s_wordI hC.1 h hl hx) ?_
  exact ev_iretE (pc := 30) dX3_pageAt_30 rfl ⟨Nat.le_of_ble_eq_true rfl, Nat.le_of_ble_eq_true rfl⟩ rfl rfl
theorem s_pageAtT1 {sl : Int32} {cu ba r0 r1 r2 r3 : Q4} {sw : Nat → Int64} {bt : Int32} {cnt inn lk wd kp wr mk ls pth tk : Nat → Int32} {tl : List mC} (hC : CR K W T cnt inn lk wd kp wr) {i a : Int32} (h : nUs K W i) : EvS m_X3_pageAt [.ref 0, .int i, .int a] (cW sl cu ba r0 r1 r2 r3 sw bt cnt inn lk wd kp wr mk ls pth tk tl) (.inr xIB) (cW sl cu ba r0 r1 r2 r3 sw bt cnt inn lk wd kp wr mk ls pth tk tl) := by
  refine evs_of (by decide +kernel) (Nat.le_of_ble_eq_true rfl) (by decide) rfl ?_
  refine ev_aload_n (pc := 0) dX3_pageAt_0 rfl rfl ?_
  refine ev_iload_n (pc := 1) dX3_pageAt_1 rfl rfl ?_
  refine ev_iload_n (pc := 2) dX3_pageAt_2 rfl rfl ?_
  exact tV2 (pc := 3) lk_X3_pageAt_3 rfl rfl rfl rfl (Nat.le_of_ble_eq_true rfl) ⟨Nat.le_of_ble_eq_true rfl, Nat.le_of_ble_eq_true rfl⟩ (s_reqEntryT1 hC h)
theorem s_pageAtT2 {sl : Int32} {cu ba r0 r1 r2 r3 : Q4} {sw : Nat → Int64} {bt : Int32} {cnt inn lk wd kp wr mk ls pth tk : Nat → Int32} {tl : List mC} (hC : CR K W T cnt inn lk wd kp wr) {q : Nat} {a : Int32} (h : K q ∨ W q) (ha : a < 0 ∨ nI (nlen (T q)) ≤ a) : EvS m_X3_pageAt [.ref 0, .int (nI q), .int a] (cW sl cu ba r0 r1 r2 r3 sw bt cnt inn lk wd kp wr mk ls pth tk tl) (.inr xIB) (cW sl cu ba r0 r1 r2 r3 sw bt cnt inn lk wd kp wr mk ls pth tk tl) := by
  refine evs_of (by decide +kernel) (Nat.le_of_ble_eq_true rfl) (by decide) rfl ?_
  refine ev_aload_n (pc := 0) dX3_pageAt_0 rfl rfl ?_
  refine ev_iload_n (pc := 1) dX3_pageAt_1 rfl rfl ?_
  refine ev_iload_n (pc := 2) dX3_pageAt_2 rfl rfl ?_
  exact tV2 (pc := 3) lk_X3_pageAt_3 rfl rfl rfl rfl (Nat.le_of_ble_eq_true rfl) ⟨Nat.le_of_ble_eq_true rfl, Nat.le_of_ble_eq_true rfl⟩ (s_reqEntryT2 hC h ha)
/-! readers' number -/
theorem l_readers {sl : Int32} {cu ba r0 r1 r2 r3 : Q4} {sw : Nat → Int64} {bt : Int32} {cnt inn lk wd kp wr mk ls pth tk : Nat → Int32} {tl : List mC} (hRD : RD r0 r1 r2 r3 rd) : ∀ (m j s : Nat), 4 = j + m → EvF m_X3_readers (mQm m_X3_readers (.inl (some (.int (nI (s + (rtsF rd j m).length))))) (cW sl cu ba r0 r1 r2 r3 sw bt cnt inn lk wd kp wr mk ls pth tk tl)) 4 [.ref 0, .int (nI s), .int (nI j)] [] 0 0 (cW sl cu ba r0 r1 r2 r3 sw bt cnt inn lk wd kp wr mk ls pth tk tl) := by
  intro m
  induction m with
  | zero =>
    intro j s hj
    have : j = 4 := by omega
    subst this
    refine ev_iload_n (pc := 4) dX3_readers_4 rfl rfl ?_
    refine ev_iconst (pc := 5) (v := 4) dX3_readers_5 (by decide) ?_
    refine ev_ic_ge (pc := 6) (tgt := 26) dX3_readers_6 (by decide) (fun _ => ?_) (fun c_6 => absurd (by decide) c_6)
    refine ev_iload_n (pc := 26) dX3_readers_26 rfl rfl ?_
    exact ev_iretE (pc := 27) dX3_readers_27 rfl ⟨Nat.le_of_ble_eq_true rfl, Nat.le_of_ble_eq_true rfl⟩ rfl rfl
  | succ m ih =>
    intro j s hj
    have hj4 : j < 4 := by omega
    cases hx : rd j with
    | none =>
      have e9 : rtsF rd j (m + 1) = rtsF rd (j + 1) m := by simp [rtsF, hx, oRt]
      rw [e9]
      refine ev_iload_n (pc := 4) dX3_readers_4 rfl rfl ?_
      refine ev_iconst (pc := 5) (v := 4) dX3_readers_5 (by decide) ?_
      refine ev_ic_ge (pc := 6) (tgt := 26) dX3_readers_6 (by decide) (fun c_6 => absurd c_6 (nI_ge hj4 (by decide))) (fun _ => ?_)
      refine ev_aload_n (pc := 9) dX3_readers_9 rfl rfl ?_
      refine ev_iload_n (pc := 10) dX3_readers_10 rfl rfl ?_
      refine cV1 (pc := 11) lk_X3_readers_11 rfl rfl rfl (Nat.le_of_ble_eq_true rfl) ⟨Nat.le_of_ble_eq_true rfl, Nat.le_of_ble_eq_true rfl⟩ (s_isOpen0 hRD (fun i hi h => by rw [← nI_inj (by omega) (by omega) h]; exact hx)) ?_
      refine ev_if_eq (pc := 14) (tgt := 20) dX3_readers_14 (by decide) (fun _ => ?_) (fun c_14 => absurd rfl c_14)
      refine ev_iinc (pc := 20) dX3_readers_20 rfl rfl rfl ?_
      refine ev_goto (pc := 23) (tgt := 4) dX3_readers_23 (by decide) ?_
      rw [nI_i1]
      exact ih (j + 1) s (by omega)
    | some x =>
      have e9 : s + (rtsF rd j (m + 1)).length = s + 1 + (rtsF rd (j + 1) m).length := by simp [rtsF, hx, oRt]; omega
      rw [e9]
      refine ev_iload_n (pc := 4) dX3_readers_4 rfl rfl ?_
      refine ev_iconst (pc := 5) (v := 4) dX3_readers_5 (by decide) ?_
      refine ev_ic_ge (pc := 6) (tgt := 26) dX3_readers_6 (by decide) (fun c_6 => absurd c_6 (nI_ge hj4 (by decide))) (fun _ => ?_)
      refine ev_aload_n (pc := 9) dX3_readers_9 rfl rfl ?_
      refine ev_iload_n (pc := 10) dX3_readers_10 rfl rfl ?_
      refine cV1 (pc := 11) lk_X3_readers_11 rfl rfl rfl (Nat.le_of_ble_eq_true rfl) ⟨Nat.le_of_ble_eq_true rfl, Nat.le_of_ble_eq_true rfl⟩ (s_isOpen1 hRD hj4 hx) ?_
      refine ev_if_eq (pc := 14) (tgt := 20) dX3_readers_14 (by decide) (fun c_14 => absurd c_14 (by decide)) (fun _ => ?_)
      refine ev_iinc (pc := 17) dX3_readers_17 rfl rfl rfl ?_
      refine ev_iinc (pc := 20) dX3_readers_20 rfl rfl rfl ?_
      refine ev_goto (pc := 23) (tgt := 4) dX3_readers_23 (by decide) ?_
      rw [nI_i1, nI_i1]
      exact ih (j + 1) (s + 1) (by omega)
theorem s_readers {sl : Int32} {cu ba r0 r1 r2 r3 : Q4} {sw : Nat → Int64} {bt : Int32} {cnt inn lk wd kp wr mk ls pth tk : Nat → Int32} {tl : List mC} (hRD : RD r0 r1 r2 r3 rd) : EvS m_X3_readers [.ref 0] (cW sl cu ba r0 r1 r2 r3 sw bt cnt inn lk wd kp wr mk ls pth tk tl) (.inl (some (.int (nI (rtsF rd 0 4).length)))) (cW sl cu ba r0 r1 r2 r3 sw bt cnt inn lk wd kp wr mk ls pth tk tl) := by
  have e1 := l_readers (sl := sl) (cu := cu) (ba := ba) (r0 := r0) (r1 := r1) (r2 := r2) (r3 := r3) (sw := sw) (bt := bt) (cnt := cnt) (inn := inn) (lk := lk) (wd := wd) (kp := kp) (wr := wr) (mk := mk) (ls := ls) (pth := pth) (tk := tk) (tl := tl) hRD 4 0 0 rfl
  rw [Nat.zero_add] at e1
  refine evs_of (by decide +kernel) (Nat.le_of_ble_eq_true rfl) (by decide) rfl ?_
  refine ev_iconst (pc := 0) (v := 0) dX3_readers_0 (by decide) ?_
  refine ev_istore_n (pc := 1) dX3_readers_1 rfl rfl rfl ?_
  refine ev_iconst (pc := 2) (v := 0) dX3_readers_2 (by decide) ?_
  refine ev_istore_n (pc := 3) dX3_readers_3 rfl rfl rfl ?_
  exact e1
end XD
