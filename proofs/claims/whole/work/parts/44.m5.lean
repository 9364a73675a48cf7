/-! the model: taking, owning, the way written -/
/-- what the model holds of the tree while there is a batch -/
def MBt (K W : Nat → Prop) (T : Nat → Nd) (rs : List Nat) (many inn item val wr : Nat → Int32) : Prop := Rm many inn item val T (fun q => K q ∨ W q) ∧ (∀ q, (K q ∨ W q) → (wr q ≠ 0 ↔ W q)) ∧ (∀ q, K q ↔ RS T rs q) ∧ (∀ q, K q → ¬ W q)
theorem RS_frame {T T' : Nat → Nd} {rs : List Nat} (h : ∀ q, RS T rs q → T' q = T q) (q : Nat) : RS T' rs q ↔ RS T rs q := by
  have h1 : ∀ (n r x : Nat), RS T rs r → (x ∈ lvl T' r n ↔ x ∈ lvl T r n) := fun n => by
    induction n with
    | zero => exact fun r x _ => Iff.rfl
    | succ n ih =>
      intro r x hr
      rw [lvl_kid, lvl_kid, h r hr]
      constructor
      · rintro ⟨c, hc, hx⟩
        exact ⟨c, hc, (ih c x (RS_cl r hr c hc)).mp hx⟩
      · rintro ⟨c, hc, hx⟩
        exact ⟨c, hc, (ih c x (RS_cl r hr c hc)).mpr hx⟩
  constructor
  · rintro ⟨r, hr, n, hn⟩
    exact ⟨r, hr, n, (h1 n r q ⟨r, hr, Rch_self⟩).mp hn⟩
  · rintro ⟨r, hr, n, hn⟩
    exact ⟨r, hr, n, (h1 n r q ⟨r, hr, Rch_self⟩).mpr hn⟩
theorem K_frame {K : Nat → Prop} {T T' : Nat → Nd} {rs : List Nat} (hK : ∀ q, K q ↔ RS T rs q) (h : ∀ q, K q → T' q = T q) (q : Nat) : K q ↔ RS T' rs q := (hK q).trans (RS_frame (fun q hq => h q ((hK q).mpr hq)) q).symm
section M5
variable {K W : Nat → Prop} {T : Nat → Nd} {c : RS3} {so rd : Nat → Option RS3}
theorem frR_cl {rs : List Nat} {n : Nat} (h : frR K W T rs n) (hK : ∀ q, K q → ∀ c ∈ kids (T q), K c) : ∀ q, K q ∨ W q → ∀ c ∈ kids (T q), K c ∨ W c := fun q hq c hc => (h.2 c).mpr (((h.2 q).mp hq).elim (fun h1 => Or.inl (hK q h1 c hc)) (fun ⟨r, hr, h1⟩ => Or.inr ⟨r, hr, Rch_trans h1 (Rch_step.mpr (Or.inr ⟨c, hc, Rch_self⟩))⟩))
theorem K_cl {rs : List Nat} (hK : ∀ q, K q ↔ RS T rs q) : ∀ q, K q → ∀ c ∈ kids (T q), K c := fun q hq c hc => (hK c).mpr (RS_cl q ((hK q).mp hq) c hc)
theorem s_takes1 {cc : C21} {ep ro bb sl th dp : Int32} {many inn item val wr met rst : Nat → Int32} {wds : Nat → Int64} {opd ope way tk : Nat → Int32} {tl : List mC} (hM : MBt K W T (rts c so rd) many inn item val wr) (hro : ro = nI c.2.1) {r n : Nat} (hbb : bb = nI r) (hop : opC opd ope rd) (hSL : SLR wds so) (hf : frR K W T [r] n) : ∃ met' rst', EvS m_X4_takes [.ref 21, .int (-1)] (dW cc ep ro bb sl th dp many inn item val wr met rst wds opd ope way tk tl) (.inl (some (.int (nI n)))) (dW cc ep ro bb sl th dp (upd many n 0) inn item val (upd wr n (1 &&& 1)) met' rst' wds opd ope way tk tl) := by
  obtain ⟨hR, hw, hK, hD⟩ := hM
  obtain ⟨hn, hv, hl⟩ := hf.1
  have hUe : ∀ q, mAll T c (some (0, r, 0)) so rd (-1) q ↔ (K q ∨ W q) := fun q => by
    unfold mAll
    rw [rts_no, hf.2 q, ← hK q]
    constructor
    · rintro (h | ⟨x, hx, h⟩)
      · exact Or.inl h
      · exact Or.inr ⟨x, hx, h⟩
    · rintro (h | ⟨x, hx, h⟩)
      · exact Or.inl h
      · exact Or.inr ⟨x, hx, h⟩
  obtain ⟨k, hk⟩ := cntR_ex (mAll T c (some (0, r, 0)) so rd (-1)) 720
  obtain ⟨m1, r1, hM1, e1⟩ := s_meetsAll (cc := cc) (ep := ep) (ro := ro) (bb := bb) (sl := sl) (th := th) (dp := dp) (many := many) (inn := inn) (item := item) (val := val) (wr := wr) (met := met) (rst := rst) (wds := wds) (opd := opd) (ope := ope) (way := way) (tk := tk) (tl := tl) hR (frR_cl hf (K_cl hK)) hop hSL (c := c) (b := some (0, r, 0)) (wo := -1) hro hbb (fun x hx => Or.inl ((hK x).mpr ⟨x, by rwa [rts_no] at hx, Rch_self⟩)) (fun x hx => (hf.2 x).mpr (Or.inr ⟨x, hx, Rch_self⟩)) hk
  refine ⟨m1, r1, ?_⟩
  refine evs_of (by decide +kernel) (Nat.le_of_ble_eq_true rfl) (by decide) rfl rfl ?_
  refine ev_aload_n (pc := 0) dX4_takes_0 rfl rfl ?_
  refine ev_iconst (pc := 1) (v := (-1)) dX4_takes_1 (by decide) ?_
  refine cV1 (pc := 2) lk_X4_takes_2 rfl rfl rfl (Nat.le_of_ble_eq_true rfl) ⟨Nat.le_of_ble_eq_true rfl, Nat.le_of_ble_eq_true rfl⟩ e1 ?_
  refine ev_pop (pc := 5) dX4_takes_5 rfl ?_
  refine ev_iload_n (pc := 6) dX4_takes_6 rfl rfl ?_
  refine ev_iconst (pc := 7) (v := (-1)) dX4_takes_7 (by decide) ?_
  refine ev_ic_eq (pc := 8) (tgt := 16) dX4_takes_8 (by decide) (fun _ => ?_) (fun c_8 => absurd rfl c_8)
  refine ev_aload_n (pc := 16) dX4_takes_16 rfl rfl ?_
  refine cV0 (pc := 17) lk_X4_takes_17 rfl rfl rfl (Nat.le_of_ble_eq_true rfl) ⟨Nat.le_of_ble_eq_true rfl, Nat.le_of_ble_eq_true rfl⟩ (s_notMet hM1 hn (fun h => hv ((hUe n).mp h)) (fun j hj => (hUe j).mpr (hl j hj))) ?_
  refine ev_istore_n (pc := 20) dX4_takes_20 rfl rfl rfl ?_
  refine ev_aload_n (pc := 21) dX4_takes_21 rfl rfl ?_
  refine ev_get (pc := 22) dX4_takes_22 fd_X4_23 rfl rfl ?_
  refine ev_iload_n (pc := 25) dX4_takes_25 rfl rfl ?_
  refine ev_iconst (pc := 26) (v := 1) dX4_takes_26 (by decide) ?_
  refine ev_zastN (pc := 27) dX4_takes_27 rfl ⟨rfl, hn, by decide⟩ rfl rfl ?_
  refine ev_aload_n (pc := 28) dX4_takes_28 rfl rfl ?_
  refine ev_get (pc := 29) dX4_takes_29 fd_X4_7 rfl rfl ?_
  refine ev_iload_n (pc := 32) dX4_takes_32 rfl rfl ?_
  refine ev_iconst (pc := 33) (v := 0) dX4_takes_33 (by decide) ?_
  refine ev_iastN (pc := 34) dX4_takes_34 rfl ⟨rfl, hn, by decide⟩ rfl rfl ?_
  refine ev_iload_n (pc := 35) dX4_takes_35 rfl rfl ?_
  exact ev_iretE (pc := 36) dX4_takes_36 rfl ⟨Nat.le_of_ble_eq_true rfl, Nat.le_of_ble_eq_true rfl⟩ rfl rfl
theorem s_takes2 {cc : C21} {ep ro bb sl th dp : Int32} {many inn item val wr met rst : Nat → Int32} {wds : Nat → Int64} {opd ope way tk : Nat → Int32} {tl : List mC} (hM : MBt K W T (rts c so rd) many inn item val wr) (hro : ro = nI c.2.1) {r n1 n : Nat} (hbb : bb = nI r) (hop : opC opd ope rd) (hSL : SLR wds so) (hf : frR K W T [r, n1] n) : ∃ met' rst', EvS m_X4_takes [.ref 21, .int (nI n1)] (dW cc ep ro bb sl th dp many inn item val wr met rst wds opd ope way tk tl) (.inl (some (.int (nI n)))) (dW cc ep ro bb sl th dp (upd many n 0) inn item val (upd wr n (1 &&& 1)) met' rst' wds opd ope way tk tl) := by
  obtain ⟨hR, hw, hK, hD⟩ := hM
  obtain ⟨hn, hv, hl⟩ := hf.1
  have hUc := frR_cl hf (K_cl hK)
  have hu1 : K n1 ∨ W n1 := (hf.2 n1).mpr (Or.inr ⟨n1, by simp, Rch_self⟩)
  have hn1 : n1 < 720 := (hR n1 hu1).1
  have hUe : ∀ q, (mAll T c (some (0, r, 0)) so rd (-1) q ∨ Rch T n1 q) ↔ (K q ∨ W q) := fun q => by
    unfold mAll
    rw [rts_no, hf.2 q, ← hK q]
    constructor
    · rintro ((h | ⟨x, hx, h⟩) | h)
      · exact Or.inl h
      · exact Or.inr ⟨x, by rw [List.mem_singleton.mp hx]; simp, h⟩
      · exact Or.inr ⟨n1, by simp, h⟩
    · rintro (h | ⟨x, hx, h⟩)
      · exact Or.inl (Or.inl h)
      · rcases List.mem_cons.mp hx with rfl | hx
        · exact Or.inl (Or.inr ⟨x, List.mem_singleton.mpr rfl, h⟩)
        · rw [List.mem_singleton.mp hx] at h
          exact Or.inr h
  obtain ⟨k, hk⟩ := cntR_ex (mAll T c (some (0, r, 0)) so rd (-1)) 720
  obtain ⟨m1, r1, hM1, e1⟩ := s_meetsAll (cc := cc) (ep := ep) (ro := ro) (bb := bb) (sl := sl) (th := th) (dp := dp) (many := many) (inn := inn) (item := item) (val := val) (wr := wr) (met := met) (rst := rst) (wds := wds) (opd := opd) (ope := ope) (way := way) (tk := tk) (tl := tl) hR hUc hop hSL (c := c) (b := some (0, r, 0)) (wo := -1) hro hbb (fun x hx => Or.inl ((hK x).mpr ⟨x, by rwa [rts_no] at hx, Rch_self⟩)) (fun x hx => (hf.2 x).mpr (Or.inr ⟨x, by rw [List.mem_singleton.mp hx]; simp, Rch_self⟩)) hk
  obtain ⟨m2, r2, hM2, e2⟩ := s_meets (cc := cc) (ep := ep) (ro := ro) (bb := bb) (sl := sl) (th := th) (dp := dp) (many := many) (inn := inn) (item := item) (val := val) (wr := wr) (met := m1) (rst := r1) (wds := wds) (opd := opd) (ope := ope) (way := way) (tk := tk) (tl := tl) hR hUc (M0 := mAll T c (some (0, r, 0)) so rd (-1)) (p := n1) (fun q hq c' hc => hq.elim (fun h => Or.inl (RS_cl q h c' hc)) (fun h => Or.inr (RS_cl q h c' hc))) hM1 hu1
  refine ⟨m2, r2, ?_⟩
  refine evs_of (by decide +kernel) (Nat.le_of_ble_eq_true rfl) (by decide) rfl rfl ?_
  refine ev_aload_n (pc := 0) dX4_takes_0 rfl rfl ?_
  refine ev_iconst (pc := 1) (v := (-1)) dX4_takes_1 (by decide) ?_
  refine cV1 (pc := 2) lk_X4_takes_2 rfl rfl rfl (Nat.le_of_ble_eq_true rfl) ⟨Nat.le_of_ble_eq_true rfl, Nat.le_of_ble_eq_true rfl⟩ e1 ?_
  refine ev_pop (pc := 5) dX4_takes_5 rfl ?_
  refine ev_iload_n (pc := 6) dX4_takes_6 rfl rfl ?_
  refine ev_iconst (pc := 7) (v := (-1)) dX4_takes_7 (by decide) ?_
  refine ev_ic_eq (pc := 8) (tgt := 16) dX4_takes_8 (by decide) (fun c_8 => absurd c_8 (fun h => nI_m1 (by omega) h)) (fun _ => ?_)
  refine ev_aload_n (pc := 11) dX4_takes_11 rfl rfl ?_
  refine ev_iload_n (pc := 12) dX4_takes_12 rfl rfl ?_
  refine cV1 (pc := 13) lk_X4_takes_13 rfl rfl rfl (Nat.le_of_ble_eq_true rfl) ⟨Nat.le_of_ble_eq_true rfl, Nat.le_of_ble_eq_true rfl⟩ e2 ?_
  refine ev_aload_n (pc := 16) dX4_takes_16 rfl rfl ?_
  refine cV0 (pc := 17) lk_X4_takes_17 rfl rfl rfl (Nat.le_of_ble_eq_true rfl) ⟨Nat.le_of_ble_eq_true rfl, Nat.le_of_ble_eq_true rfl⟩ (s_notMet hM2 hn (fun h => hv ((hUe n).mp h)) (fun j hj => (hUe j).mpr (hl j hj))) ?_
  refine ev_istore_n (pc := 20) dX4_takes_20 rfl rfl rfl ?_
  refine ev_aload_n (pc := 21) dX4_takes_21 rfl rfl ?_
  refine ev_get (pc := 22) dX4_takes_22 fd_X4_23 rfl rfl ?_
  refine ev_iload_n (pc := 25) dX4_takes_25 rfl rfl ?_
  refine ev_iconst (pc := 26) (v := 1) dX4_takes_26 (by decide) ?_
  refine ev_zastN (pc := 27) dX4_takes_27 rfl ⟨rfl, hn, by decide⟩ rfl rfl ?_
  refine ev_aload_n (pc := 28) dX4_takes_28 rfl rfl ?_
  refine ev_get (pc := 29) dX4_takes_29 fd_X4_7 rfl rfl ?_
  refine ev_iload_n (pc := 32) dX4_takes_32 rfl rfl ?_
  refine ev_iconst (pc := 33) (v := 0) dX4_takes_33 (by decide) ?_
  refine ev_iastN (pc := 34) dX4_takes_34 rfl ⟨rfl, hn, by decide⟩ rfl rfl ?_
  refine ev_iload_n (pc := 35) dX4_takes_35 rfl rfl ?_
  exact ev_iretE (pc := 36) dX4_takes_36 rfl ⟨Nat.le_of_ble_eq_true rfl, Nat.le_of_ble_eq_true rfl⟩ rfl rfl
theorem MW_add {wr : Nat → Int32} {n : Nat} (hv : ¬ (K n ∨ W n)) (hw : ∀ q, (K q ∨ W q) → (wr q ≠ 0 ↔ W q)) : ∀ q, (K q ∨ addS W n q) → (upd wr n (1 &&& 1) q ≠ 0 ↔ addS W n q) := fun q hq => by
  unfold upd
  by_cases h : q = n
  · rw [if_pos h]
    exact ⟨fun _ => Or.inl h, fun _ => by decide⟩
  · rw [if_neg h]
    have hu : K q ∨ W q := hq.imp id (fun h1 => h1.resolve_left h)
    exact (hw q hu).trans ⟨Or.inr, fun h1 => h1.resolve_left h⟩
/-- a page taken and copied -/
theorem s_takeCopy {cc : C21} {ep ro bb sl th dp : Int32} {many inn item val wr met rst : Nat → Int32} {wds : Nat → Int64} {opd ope way tk : Nat → Int32} {tl : List mC} (hM : MBt K W T (rts c so rd) many inn item val wr) {r p n : Nat} (hf : frR K W T [r] n) (hu : K p ∨ W p) : MBt K (addS W n) (upT T n (T p)) (rts c so rd) (upd (upd many n 0) n (upd many n 0 p)) (upd inn n (inn p &&& 1)) (apF item (5 * n) (5 * p) 5) (apF val (5 * n) (5 * p) 5) (upd wr n (1 &&& 1)) := by
  obtain ⟨hR, hw, hK, hD⟩ := hM
  obtain ⟨hn, hv, hl⟩ := hf.1
  have hnp : p ≠ n := fun h => hv (h ▸ hu)
  have h1 := Rm_copy hR hu hn
  have e1 : upd (upd many n 0) n (upd many n 0 p) = upd many n (many p) := by
    funext q
    unfold upd
    by_cases h : q = n
    · rw [if_pos h, if_pos h, if_neg hnp]
    · rw [if_neg h, if_neg h, if_neg h]
  rw [e1]
  refine ⟨Rm_mono h1 (fun q hq => ?_), MW_add hv hw, K_frame hK (fun q hq => upT_n (fun h => hv (h ▸ Or.inl hq))), fun q hq h => h.elim (fun h => hv (h ▸ Or.inl hq)) (hD q hq)⟩
  rcases hq with h | h | h
  · exact Or.inr (Or.inl h)
  · exact Or.inl h
  · exact Or.inr (Or.inr h)
theorem MB_set {rs : List Nat} {many inn item val wr : Nat → Int32} (hM : MBt K W T rs many inn item val wr) {p e x : Nat} {l : List Nat} (hp : W p) (ht : T p = .inr l) (he : e < 5) (hx : x < 720) : MBt K W (upT T p (.inr (l.set e x))) rs many inn (upd item (5 * p + e) (nI x)) val wr := by
  obtain ⟨hR, hw, hK, hD⟩ := hM
  exact ⟨Rm_setI hR (Or.inr hp) ht he hx, hw, K_frame hK (fun q hq => upT_n (fun h => hD q hq (h ▸ hp))), hD⟩
theorem upd_same {f : Nat → Int32} {p : Nat} {x : Int32} (h : f p = x) : upd f p x = f := by
  funext q
  unfold upd
  by_cases hq : q = p
  · rw [if_pos hq, hq, h]
  · rw [if_neg hq]
theorem upT_same {T : Nat → Nd} {p : Nat} {n : Nd} (h : T p = n) : upT T p n = T := by
  funext q
  unfold upT
  by_cases hq : q = p
  · rw [if_pos hq, hq, h]
  · rw [if_neg hq]
theorem list_set_same {l : List Nat} {e x : Nat} (h : l[e]? = some x) : l.set e x = l := by
  apply List.ext_getElem?
  intro j
  by_cases hj : e = j
  · subst hj
    rw [List.getElem?_set_self (List.getElem?_eq_some_iff.mp h).1, h]
  · rw [List.getElem?_set_ne hj]
theorem s_own {cc : C21} {ep ro bb sl th dp : Int32} {many inn item val wr met rst : Nat → Int32} {wds : Nat → Int64} {opd ope way tk : Nat → Int32} {tl : List mC} (hM : MBt K W T (rts c so rd) many inn item val wr) (hro : ro = nI c.2.1) {r : Nat} (hbb : bb = nI r) (hop : opC opd ope rd) (hSL : SLR wds so) {p e x x' : Nat} {l : List Nat} {T' : Nat → Nd} {W' : Nat → Prop} (hp : W p) (ht : T p = .inr l) (hx : l[e]? = some x) (hw : wnR K T W r x x' T' W') : ∃ met' rst' many' inn' item' val' wr', MBt K W' (upT T' p (.inr (l.set e x'))) (rts c so rd) many' inn' item' val' wr' ∧ EvS m_X4_own [.ref 21, .int (nI p), .int (nI e)] (dW cc ep ro bb sl th dp many inn item val wr met rst wds opd ope way tk tl) (.inl (some (.int (nI x')))) (dW cc ep ro bb sl th dp many' inn' item' val' wr' met' rst' wds opd ope way tk tl) := by
  obtain ⟨hp7, hi, h5, hc, hr, hk7⟩ := hM.1.inner (Or.inr hp) ht
  have he : e < 5 := Nat.lt_of_lt_of_le (List.getElem?_eq_some_iff.mp hx).1 h5
  have hx7 := hk7 x (List.mem_of_getElem? hx)
  obtain ⟨hux, hw⟩ := hw
  rcases hw with ⟨hWx, rfl, rfl, rfl⟩ | ⟨hWx, hf, rfl, rfl⟩
  · have h1 : ¬ wr x' = 0 := (hM.2.1 x' hux).mpr hWx
    refine ⟨met, rst, many, inn, item, val, wr, ?_, ?_⟩
    · rw [list_set_same hx, upT_same ht]
      exact hM
    · refine evs_of (by decide +kernel) (Nat.le_of_ble_eq_true rfl) (by decide) rfl rfl ?_
      refine ev_aload_n (pc := 0) dX4_own_0 rfl rfl ?_
      refine ev_get (pc := 1) dX4_own_1 fd_X4_17 rfl rfl ?_
      refine ev_iconst (pc := 4) (v := 5) dX4_own_4 (by decide) ?_
      refine ev_iload_n (pc := 5) dX4_own_5 rfl rfl ?_
      refine ev_imul (pc := 6) dX4_own_6 ?_
      refine ev_iload_n (pc := 7) dX4_own_7 rfl rfl ?_
      refine ev_iadd (pc := 8) dX4_own_8 ?_
      refine ev_ialdN (pc := 9) dX4_own_9 rfl ⟨(ix5m p e), by omega, by decide⟩ (row_ch hr hx) ?_
      refine ev_istore_n (pc := 10) dX4_own_10 rfl rfl rfl ?_
      refine ev_aload_n (pc := 11) dX4_own_11 rfl rfl ?_
      refine ev_get (pc := 12) dX4_own_12 fd_X4_23 rfl rfl ?_
      refine ev_iload_n (pc := 15) dX4_own_15 rfl rfl ?_
      refine ev_zaldN (pc := 16) dX4_own_16 rfl ⟨rfl, hx7, by decide⟩ rfl ?_
      refine ev_if_eq (pc := 17) (tgt := 22) dX4_own_17 (by decide) (fun c_17 => absurd c_17 h1) (fun _ => ?_)
      refine ev_iload_n (pc := 20) dX4_own_20 rfl rfl ?_
      exact ev_iretE (pc := 21) dX4_own_21 rfl ⟨Nat.le_of_ble_eq_true rfl, Nat.le_of_ble_eq_true rfl⟩ rfl rfl
  · have h1 : wr x = 0 := by
      by_cases h : wr x = 0
      · exact h
      · exact absurd ((hM.2.1 x hux).mp h) hWx
    obtain ⟨m1, r1, e1⟩ := s_takes1 (cc := cc) (ep := ep) (ro := ro) (bb := bb) (sl := sl) (th := th) (dp := dp) (many := many) (inn := inn) (item := item) (val := val) (wr := wr) (met := met) (rst := rst) (wds := wds) (opd := opd) (ope := ope) (way := way) (tk := tk) (tl := tl) hM hro hbb hop hSL hf
    have hn := hf.1.1
    have hxn : x ≠ x' := fun h => hf.1.2.1 (h ▸ hux)
    have hpn : p ≠ x' := fun h => hf.1.2.1 (h ▸ Or.inr hp)
    have h2 := MB_set (s_takeCopy (cc := cc) (ep := ep) (ro := ro) (bb := bb) (sl := sl) (th := th) (dp := dp) (many := many) (inn := inn) (item := item) (val := val) (wr := wr) (met := met) (rst := rst) (wds := wds) (opd := opd) (ope := ope) (way := way) (tk := tk) (tl := tl) hM hf hux) (p := p) (e := e) (x := x') (l := l) (Or.inr hp) (by rw [upT_n hpn, ht]) he hn
    refine ⟨m1, r1, _, _, _, _, _, h2, ?_⟩
    refine evs_of (by decide +kernel) (Nat.le_of_ble_eq_true rfl) (by decide) rfl rfl ?_
    refine ev_aload_n (pc := 0) dX4_own_0 rfl rfl ?_
    refine ev_get (pc := 1) dX4_own_1 fd_X4_17 rfl rfl ?_
    refine ev_iconst (pc := 4) (v := 5) dX4_own_4 (by decide) ?_
    refine ev_iload_n (pc := 5) dX4_own_5 rfl rfl ?_
    refine ev_imul (pc := 6) dX4_own_6 ?_
    refine ev_iload_n (pc := 7) dX4_own_7 rfl rfl ?_
    refine ev_iadd (pc := 8) dX4_own_8 ?_
    refine ev_ialdN (pc := 9) dX4_own_9 rfl ⟨(ix5m p e), by omega, by decide⟩ (row_ch hr hx) ?_
    refine ev_istore_n (pc := 10) dX4_own_10 rfl rfl rfl ?_
    refine ev_aload_n (pc := 11) dX4_own_11 rfl rfl ?_
    refine ev_get (pc := 12) dX4_own_12 fd_X4_23 rfl rfl ?_
    refine ev_iload_n (pc := 15) dX4_own_15 rfl rfl ?_
    refine ev_zaldN (pc := 16) dX4_own_16 rfl ⟨rfl, hx7, by decide⟩ rfl ?_
    refine ev_if_eq (pc := 17) (tgt := 22) dX4_own_17 (by decide) (fun _ => ?_) (fun c_17 => absurd h1 c_17)
    refine ev_aload_n (pc := 22) dX4_own_22 rfl rfl ?_
    refine ev_iconst (pc := 23) (v := (-1)) dX4_own_23 (by decide) ?_
    refine cV1 (pc := 24) lk_X4_own_24 rfl rfl rfl (Nat.le_of_ble_eq_true rfl) ⟨Nat.le_of_ble_eq_true rfl, Nat.le_of_ble_eq_true rfl⟩ e1 ?_
    refine ev_istore (pc := 27) dX4_own_27 rfl rfl ?_
    refine ev_aload_n (pc := 29) dX4_own_29 rfl rfl ?_
    refine ev_iload_n (pc := 30) dX4_own_30 rfl rfl ?_
    refine ev_iload (pc := 31) dX4_own_31 rfl ?_
    refine cV2 (pc := 33) lk_X4_own_33 rfl rfl rfl (Nat.le_of_ble_eq_true rfl) ⟨Nat.le_of_ble_eq_true rfl, Nat.le_of_ble_eq_true rfl⟩ (s_copies hx7 hn hxn) ?_
    refine ev_aload_n (pc := 36) dX4_own_36 rfl rfl ?_
    refine ev_get (pc := 37) dX4_own_37 fd_X4_17 rfl rfl ?_
    refine ev_iconst (pc := 40) (v := 5) dX4_own_40 (by decide) ?_
    refine ev_iload_n (pc := 41) dX4_own_41 rfl rfl ?_
    refine ev_imul (pc := 42) dX4_own_42 ?_
    refine ev_iload_n (pc := 43) dX4_own_43 rfl rfl ?_
    refine ev_iadd (pc := 44) dX4_own_44 ?_
    refine ev_iload (pc := 45) dX4_own_45 rfl ?_
    refine ev_iastN (pc := 47) dX4_own_47 rfl ⟨(ix5m p e), by omega, by decide⟩ rfl rfl ?_
    refine ev_iload (pc := 48) dX4_own_48 rfl ?_
    exact ev_iretE (pc := 50) dX4_own_50 rfl ⟨Nat.le_of_ble_eq_true rfl, Nat.le_of_ble_eq_true rfl⟩ rfl rfl
/-- the model's state of the whole, the batch's root being r -/
theorem l_wWay {cc : C21} {ep ro bb sl th dp : Int32} {many inn item val wr met rst : Nat → Int32} {wds : Nat → Int64} {opd ope way tk : Nat → Int32} {tl : List mC} (hro : ro = nI c.2.1) {r : Nat} (hbb : bb = nI r) (hop : opC opd ope rd) (hSL : SLR wds so) {key : Int32} {T9 : Nat → Nd} {W9 : Nat → Prop} {lf : Nat} : ∀ (d : Nat) (many inn item val wr met rst way : Nat → Int32) {W : Nat → Prop} {T : Nat → Nd} (_ : MBt K W T (rts c so rd) many inn item val wr) {p lv : Nat} {P : List (Nat × Nat)} (_ : dnR K r key d T W p T9 W9 P lf) (_ : lv + d ≤ 6) (_ : way lv = nI p) (_ : ∀ (j : Nat) (x : Nat × Nat), P[j]? = some x → tk (lv + j) = nI x.2), ∃ met' rst' many' inn' item' val' wr' way', MBt K W9 T9 (rts c so rd) many' inn' item' val' wr' ∧ wyA way' tk lv P lf ∧ (∀ j, j < lv → way' j = way j) ∧ way' lv = nI p ∧ EvF m_X4_writesWay (mQm m_X4_writesWay (.inl none) (dW cc ep ro bb sl th (nI (lv + d)) many' inn' item' val' wr' met' rst' wds opd ope way' tk tl)) 44 [.ref 21, .int (nI lv)] [] 0 0 (dW cc ep ro bb sl th (nI (lv + d)) many inn item val wr met rst wds opd ope way tk tl) := by
  intro d
  induction d with
  | zero =>
    intro many inn item val wr met rst way W T hM p lv P h hlv hw _
    obtain ⟨rfl, rfl, rfl, rfl, hWp, l, hl, h4⟩ := h
    refine ⟨met, rst, many, inn, item, val, wr, way, hM, ⟨fun j x hx => by simp at hx, hw⟩, fun j hj => rfl, hw, ?_⟩
    refine ev_iload_n (pc := 44) dX4_writesWay_44 rfl rfl ?_
    refine ev_aload_n (pc := 45) dX4_writesWay_45 rfl rfl ?_
    refine ev_get (pc := 46) dX4_writesWay_46 fd_X4_91 rfl rfl ?_
    refine ev_ic_ge (pc := 49) (tgt := 82) dX4_writesWay_49 (by decide) (fun _ => ?_) (fun c_49 => absurd (by exact nI_le (Nat.le_refl _) (by omega)) c_49)
    exact ev_vretE (pc := 82) dX4_writesWay_82 rfl ⟨Nat.le_of_ble_eq_true rfl, Nat.le_of_ble_eq_true rfl⟩ rfl
  | succ d ih =>
    intro many inn item val wr met rst way W T hM p lv P h hlv hw htk
    obtain ⟨hWp, l, x, x', T1, W1, P', hl, hl0, hl4, hfl, hx, hwn, rfl, hdn⟩ := h
    have ht0 := htk 0 _ rfl
    obtain ⟨m1, r1, a1, i1, t1, v1, w1, hM1, e1⟩ := s_own (cc := cc) (ep := ep) (ro := ro) (bb := bb) (sl := sl) (th := th) (dp := (nI (lv + (d + 1)))) (many := many) (inn := inn) (item := item) (val := val) (wr := wr) (met := met) (rst := rst) (wds := wds) (opd := opd) (ope := ope) (way := way) (tk := tk) (tl := tl) hM hro hbb hop hSL hWp hl hx hwn
    obtain ⟨m2, r2, a2, i2, t2, v2, w2, y2, hM2, hwy, hold, hnow, e2⟩ := ih a1 i1 t1 v1 w1 m1 r1 (upd way (lv + 1) (nI x')) hM1 (p := x') (lv := lv + 1) hdn (by omega) pk_us (fun j y hj => by
      have h9 := htk (j + 1) y hj
      rw [show lv + 1 + j = lv + (j + 1) by omega]
      exact h9)
    have hlv1 : y2 lv = nI p := by rw [hold lv (by omega), upd_o (by omega), hw]
    refine ⟨m2, r2, a2, i2, t2, v2, w2, y2, hM2, ⟨?_, ?_⟩, fun j hj => ?_, hlv1, ?_⟩
    · intro j y hj
      cases j with
      | zero =>
        rw [List.getElem?_cons_zero, Option.some.injEq] at hj
        subst hj
        exact ⟨hlv1, ht0⟩
      | succ j =>
        rw [List.getElem?_cons_succ] at hj
        have h9 := hwy.1 j y hj
        rw [show lv + 1 + j = lv + (j + 1) by omega] at h9
        exact h9
    · have h9 := hwy.2
      rw [show lv + 1 + P'.length = lv + ((p, eix T d l key) :: P').length by simp; omega] at h9
      exact h9
    · rw [hold j (by omega), upd_o (by omega)]
    · rw [show lv + 1 + d = lv + (d + 1) by omega] at e2
      refine ev_iload_n (pc := 44) dX4_writesWay_44 rfl rfl ?_
      refine ev_aload_n (pc := 45) dX4_writesWay_45 rfl rfl ?_
      refine ev_get (pc := 46) dX4_writesWay_46 fd_X4_91 rfl rfl ?_
      refine ev_ic_ge (pc := 49) (tgt := 82) dX4_writesWay_49 (by decide) (fun c_49 => absurd c_49 (nI_ge (show lv < lv + (d + 1) by omega) (by omega))) (fun _ => ?_)
      refine ev_aload_n (pc := 52) dX4_writesWay_52 rfl rfl ?_
      refine ev_get (pc := 53) dX4_writesWay_53 fd_X4_46 rfl rfl ?_
      refine ev_iload_n (pc := 56) dX4_writesWay_56 rfl rfl ?_
      refine ev_iconst (pc := 57) (v := 1) dX4_writesWay_57 (by decide) ?_
      refine ev_iadd (pc := 58) dX4_writesWay_58 ?_
      rw [nI_a1]
      refine ev_aload_n (pc := 59) dX4_writesWay_59 rfl rfl ?_
      refine ev_aload_n (pc := 60) dX4_writesWay_60 rfl rfl ?_
      refine ev_get (pc := 61) dX4_writesWay_61 fd_X4_46 rfl rfl ?_
      refine ev_iload_n (pc := 64) dX4_writesWay_64 rfl rfl ?_
      refine ev_ialdN (pc := 65) dX4_writesWay_65 rfl ⟨rfl, by omega, by decide⟩ hw ?_
      refine ev_aload_n (pc := 66) dX4_writesWay_66 rfl rfl ?_
      refine ev_get (pc := 67) dX4_writesWay_67 fd_X4_49 rfl rfl ?_
      refine ev_iload_n (pc := 70) dX4_writesWay_70 rfl rfl ?_
      refine ev_ialdN (pc := 71) dX4_writesWay_71 rfl ⟨rfl, by omega, by decide⟩ ht0 ?_
      refine cV2 (pc := 72) lk_X4_writesWay_72 rfl rfl rfl (Nat.le_of_ble_eq_true rfl) ⟨Nat.le_of_ble_eq_true rfl, Nat.le_of_ble_eq_true rfl⟩ e1 ?_
      refine ev_iastN (pc := 75) dX4_writesWay_75 rfl ⟨rfl, by omega, by decide⟩ rfl rfl ?_
      refine ev_iinc (pc := 76) dX4_writesWay_76 rfl rfl rfl ?_
      refine ev_goto (pc := 79) (tgt := 44) dX4_writesWay_79 (by decide) ?_
      rw [nI_i1]
      exact e2
theorem s_wWay {cc : C21} {ep ro bb sl th dp : Int32} {many inn item val wr met rst : Nat → Int32} {wds : Nat → Int64} {opd ope way tk : Nat → Int32} {tl : List mC} (hM : MBt K W T (rts c so rd) many inn item val wr) (hro : ro = nI c.2.1) {r r1 : Nat} (hop : opC opd ope rd) (hSL : SLR wds so) {key : Int32} {T1 T9 : Nat → Nd} {W1 W9 : Nat → Prop} {lf d : Nat} {P : List (Nat × Nat)} (hw : wnR K T W r r r1 T1 W1) (hdn : dnR K r1 key d T1 W1 r1 T9 W9 P lf) (hd : d ≤ 6) (htk : ∀ (j : Nat) (x : Nat × Nat), P[j]? = some x → tk j = nI x.2) : ∃ met' rst' many' inn' item' val' wr' way', MBt K W9 T9 (rts c so rd) many' inn' item' val' wr' ∧ wyA way' tk 0 P lf ∧ EvS m_X4_writesWay [.ref 21] (dW cc ep ro (nI r) sl th (nI d) many inn item val wr met rst wds opd ope way tk tl) (.inl none) (dW cc ep ro (nI r1) sl th (nI d) many' inn' item' val' wr' met' rst' wds opd ope way' tk tl) := by
  obtain ⟨hux, hw⟩ := hw
  have hr7 : r < 720 := (hM.1 r hux).1
  rcases hw with ⟨hWx, rfl, rfl, rfl⟩ | ⟨hWx, hf, rfl, rfl⟩
  · have h1 : ¬ wr r1 = 0 := (hM.2.1 r1 hux).mpr hWx
    obtain ⟨m2, r2, a2, i2, t2, v2, w2, y2, hM2, hwy, -, -, e2⟩ := l_wWay (cc := cc) (ep := ep) (ro := ro) (bb := (nI r1)) (sl := sl) (th := th) (dp := dp) (many := many) (inn := inn) (item := item) (val := val) (wr := wr) (met := met) (rst := rst) (wds := wds) (opd := opd) (ope := ope) (way := way) (tk := tk) (tl := tl) hro rfl hop hSL d many inn item val wr met rst (upd way 0 (nI r1)) hM (p := r1) (lv := 0) hdn (by omega) pk_us (fun j x hj => by rw [Nat.zero_add]; exact htk j x hj)
    rw [Nat.zero_add] at e2
    refine ⟨m2, r2, a2, i2, t2, v2, w2, y2, hM2, hwy, ?_⟩
    refine evs_of (by decide +kernel) (Nat.le_of_ble_eq_true rfl) (by decide) rfl rfl ?_
    refine ev_aload_n (pc := 0) dX4_writesWay_0 rfl rfl ?_
    refine ev_get (pc := 1) dX4_writesWay_1 fd_X4_23 rfl rfl ?_
    refine ev_aload_n (pc := 4) dX4_writesWay_4 rfl rfl ?_
    refine ev_get (pc := 5) dX4_writesWay_5 fd_X4_32 rfl rfl ?_
    refine ev_zaldN (pc := 8) dX4_writesWay_8 rfl ⟨rfl, hr7, by decide⟩ rfl ?_
    refine ev_if_ne (pc := 9) (tgt := 32) dX4_writesWay_9 (by decide) (fun _ => ?_) (fun c_9 => absurd c_9 h1)
    refine ev_aload_n (pc := 32) dX4_writesWay_32 rfl rfl ?_
    refine ev_get (pc := 33) dX4_writesWay_33 fd_X4_46 rfl rfl ?_
    refine ev_iconst (pc := 36) (v := 0) dX4_writesWay_36 (by decide) ?_
    refine ev_aload_n (pc := 37) dX4_writesWay_37 rfl rfl ?_
    refine ev_get (pc := 38) dX4_writesWay_38 fd_X4_32 rfl rfl ?_
    refine ev_iastN (pc := 41) dX4_writesWay_41 rfl ⟨rfl, by decide, by decide⟩ rfl rfl ?_
    refine ev_iconst (pc := 42) (v := 0) dX4_writesWay_42 (by decide) ?_
    refine ev_istore_n (pc := 43) dX4_writesWay_43 rfl rfl rfl ?_
    exact e2
  · have h1 : wr r = 0 := by
      by_cases h : wr r = 0
      · exact h
      · exact absurd ((hM.2.1 r hux).mp h) hWx
    have hn := hf.1.1
    have hxn : r ≠ r1 := fun h => hf.1.2.1 (h ▸ hux)
    obtain ⟨m1, q1, e1⟩ := s_takes1 (cc := cc) (ep := ep) (ro := ro) (bb := (nI r)) (sl := sl) (th := th) (dp := (nI d)) (many := many) (inn := inn) (item := item) (val := val) (wr := wr) (met := met) (rst := rst) (wds := wds) (opd := opd) (ope := ope) (way := way) (tk := tk) (tl := tl) hM hro rfl hop hSL hf
    obtain ⟨m2, r2, a2, i2, t2, v2, w2, y2, hM2, hwy, -, -, e2⟩ := l_wWay (cc := cc) (ep := ep) (ro := ro) (bb := (nI r1)) (sl := sl) (th := th) (dp := dp) (many := many) (inn := inn) (item := item) (val := val) (wr := wr) (met := met) (rst := rst) (wds := wds) (opd := opd) (ope := ope) (way := way) (tk := tk) (tl := tl) hro rfl hop hSL d _ _ _ _ _ m1 q1 (upd way 0 (nI r1)) (s_takeCopy (cc := cc) (ep := ep) (ro := ro) (bb := bb) (sl := sl) (th := th) (dp := dp) (many := many) (inn := inn) (item := item) (val := val) (wr := wr) (met := met) (rst := rst) (wds := wds) (opd := opd) (ope := ope) (way := way) (tk := tk) (tl := tl) hM hf hux) (p := r1) (lv := 0) hdn (by omega) pk_us (fun j x hj => by rw [Nat.zero_add]; exact htk j x hj)
    rw [Nat.zero_add] at e2
    refine ⟨m2, r2, a2, i2, t2, v2, w2, y2, hM2, hwy, ?_⟩
    refine evs_of (by decide +kernel) (Nat.le_of_ble_eq_true rfl) (by decide) rfl rfl ?_
    refine ev_aload_n (pc := 0) dX4_writesWay_0 rfl rfl ?_
    refine ev_get (pc := 1) dX4_writesWay_1 fd_X4_23 rfl rfl ?_
    refine ev_aload_n (pc := 4) dX4_writesWay_4 rfl rfl ?_
    refine ev_get (pc := 5) dX4_writesWay_5 fd_X4_32 rfl rfl ?_
    refine ev_zaldN (pc := 8) dX4_writesWay_8 rfl ⟨rfl, hr7, by decide⟩ rfl ?_
    refine ev_if_ne (pc := 9) (tgt := 32) dX4_writesWay_9 (by decide) (fun c_9 => absurd h1 c_9) (fun _ => ?_)
    refine ev_aload_n (pc := 12) dX4_writesWay_12 rfl rfl ?_
    refine ev_iconst (pc := 13) (v := (-1)) dX4_writesWay_13 (by decide) ?_
    refine cV1 (pc := 14) lk_X4_writesWay_14 rfl rfl rfl (Nat.le_of_ble_eq_true rfl) ⟨Nat.le_of_ble_eq_true rfl, Nat.le_of_ble_eq_true rfl⟩ e1 ?_
    refine ev_istore_n (pc := 17) dX4_writesWay_17 rfl rfl rfl ?_
    refine ev_aload_n (pc := 18) dX4_writesWay_18 rfl rfl ?_
    refine ev_aload_n (pc := 19) dX4_writesWay_19 rfl rfl ?_
    refine ev_get (pc := 20) dX4_writesWay_20 fd_X4_32 rfl rfl ?_
    refine ev_iload_n (pc := 23) dX4_writesWay_23 rfl rfl ?_
    refine cV2 (pc := 24) lk_X4_writesWay_24 rfl rfl rfl (Nat.le_of_ble_eq_true rfl) ⟨Nat.le_of_ble_eq_true rfl, Nat.le_of_ble_eq_true rfl⟩ (s_copies (cc := cc) (ep := ep) (ro := ro) (bb := (nI r)) (sl := sl) (th := th) (dp := (nI d)) (many := (upd many r1 0)) (inn := inn) (item := item) (val := val) (wr := (upd wr r1 (1 &&& 1))) (met := m1) (rst := q1) (wds := wds) (opd := opd) (ope := ope) (way := way) (tk := tk) (tl := tl) hr7 hn hxn) ?_
    refine ev_aload_n (pc := 27) dX4_writesWay_27 rfl rfl ?_
    refine ev_iload_n (pc := 28) dX4_writesWay_28 rfl rfl ?_
    refine ev_put (pc := 29) dX4_writesWay_29 fp_X4_32 rfl (Nat.le_of_ble_eq_true rfl) (fun _ _ => ⟨rfl, rfl⟩) rfl ?_
    refine ev_aload_n (pc := 32) dX4_writesWay_32 rfl rfl ?_
    refine ev_get (pc := 33) dX4_writesWay_33 fd_X4_46 rfl rfl ?_
    refine ev_iconst (pc := 36) (v := 0) dX4_writesWay_36 (by decide) ?_
    refine ev_aload_n (pc := 37) dX4_writesWay_37 rfl rfl ?_
    refine ev_get (pc := 38) dX4_writesWay_38 fd_X4_32 rfl rfl ?_
    refine ev_iastN (pc := 41) dX4_writesWay_41 rfl ⟨rfl, by decide, by decide⟩ rfl rfl ?_
    refine ev_iconst (pc := 42) (v := 0) dX4_writesWay_42 (by decide) ?_
    refine ev_istore_n (pc := 43) dX4_writesWay_43 rfl rfl rfl ?_
    exact e2
end M5
