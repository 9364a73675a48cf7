/-! the model: all that is met; what is taken -/
def opC (opd ope : Nat → Int32) (rd : Nat → Option RS3) : Prop := ∀ j, j < 4 → match rd j with
  | none => opd j = -1
  | some x => opd j = nI x.2.1 ∧ ope j = nI x.1
def bbC : Option RS3 → Int32
  | none => -1
  | some x => nI x.2.1
theorem RS_cl {T : Nat → Nd} {rs : List Nat} (q : Nat) (h : RS T rs q) : ∀ c ∈ kids (T q), RS T rs c := fun c hc => by
  obtain ⟨r, hr, h⟩ := h
  exact ⟨r, hr, Rch_trans h (Rch_step.mpr (Or.inr ⟨c, hc, Rch_self⟩))⟩
theorem RS_cons {T : Nat → Nd} {r : Nat} {rs : List Nat} (q : Nat) : RS T (r :: rs) q ↔ Rch T r q ∨ RS T rs q := by
  constructor
  · rintro ⟨x, hx, h⟩
    rcases List.mem_cons.mp hx with rfl | hx
    · exact Or.inl h
    · exact Or.inr ⟨x, hx, h⟩
  · rintro (h | ⟨x, hx, h⟩)
    · exact ⟨r, List.mem_cons_self, h⟩
    · exact ⟨x, List.mem_cons_of_mem _ hx, h⟩
theorem RS_app {T : Nat → Nd} {as bs : List Nat} (q : Nat) : RS T (as ++ bs) q ↔ RS T as q ∨ RS T bs q := by
  constructor
  · rintro ⟨x, hx, h⟩
    exact (List.mem_append.mp hx).elim (fun hx => Or.inl ⟨x, hx, h⟩) (fun hx => Or.inr ⟨x, hx, h⟩)
  · rintro (⟨x, hx, h⟩ | ⟨x, hx, h⟩)
    · exact ⟨x, List.mem_append_left _ hx, h⟩
    · exact ⟨x, List.mem_append_right _ hx, h⟩
theorem RS_nil {T : Nat → Nd} (q : Nat) : ¬ RS T [] q := fun ⟨_, h, _⟩ => absurd h List.not_mem_nil
theorem ix4m (s e : Nat) : 4 * nI s + nI e = nI (4 * s + e) := by
  rw [show (4 : Int32) = nI 4 from rfl, pk_mul, nI_add]
theorem ix4n (s : Nat) : 4 * nI s = nI (4 * s) := by
  rw [show (4 : Int32) = nI 4 from rfl, pk_mul]
theorem nI_m1 {n : Nat} (h : n < 2147483648) : nI n ≠ -1 := fun e => by
  have h1 := congrArg Int32.toInt e
  rw [nI_toInt h, show (-1 : Int32).toInt = -1 from rfl] at h1
  omega
section M2
variable {U : Nat → Prop} {T : Nat → Nd} {c : RS3} {b : Option RS3} {so rd : Nat → Option RS3}
theorem s_in1 {w : mW} {a lo hi : Int32} (h1 : lo ≤ a) (h2 : a ≤ hi) : EvS m_X4_in [.int a, .int lo, .int hi] w (.inl (some (.int 1))) w := by
  refine evs_of (by decide +kernel) (Nat.le_of_ble_eq_true rfl) (by decide) rfl rfl ?_
  refine ev_iload_n (pc := 0) dX4_in_0 rfl rfl ?_
  refine ev_iload_n (pc := 1) dX4_in_1 rfl rfl ?_
  refine ev_ic_lt (pc := 2) (tgt := 14) dX4_in_2 (by decide) (fun c_2 => absurd c_2 (Int32.not_lt.mpr h1)) (fun _ => ?_)
  refine ev_iload_n (pc := 5) dX4_in_5 rfl rfl ?_
  refine ev_iload_n (pc := 6) dX4_in_6 rfl rfl ?_
  refine ev_ic_gt (pc := 7) (tgt := 14) dX4_in_7 (by decide) (fun c_7 => absurd c_7 (Int32.not_lt.mpr h2)) (fun _ => ?_)
  refine ev_iconst (pc := 10) (v := 1) dX4_in_10 (by decide) ?_
  refine ev_goto (pc := 11) (tgt := 15) dX4_in_11 (by decide) ?_
  exact ev_zretE (pc := 15) dX4_in_15 rfl ⟨Nat.le_of_ble_eq_true rfl, Nat.le_of_ble_eq_true rfl⟩ (by first | exact Or.inl rfl | exact Or.inr rfl | assumption | exact i10_o) rfl rfl
theorem s_in0 {w : mW} {a lo hi : Int32} (h : a < lo ∨ hi < a) : EvS m_X4_in [.int a, .int lo, .int hi] w (.inl (some (.int 0))) w := by
  by_cases h1 : a < lo
  · refine evs_of (by decide +kernel) (Nat.le_of_ble_eq_true rfl) (by decide) rfl rfl ?_
    refine ev_iload_n (pc := 0) dX4_in_0 rfl rfl ?_
    refine ev_iload_n (pc := 1) dX4_in_1 rfl rfl ?_
    refine ev_ic_lt (pc := 2) (tgt := 14) dX4_in_2 (by decide) (fun _ => ?_) (fun c_2 => absurd h1 c_2)
    refine ev_iconst (pc := 14) (v := 0) dX4_in_14 (by decide) ?_
    exact ev_zretE (pc := 15) dX4_in_15 rfl ⟨Nat.le_of_ble_eq_true rfl, Nat.le_of_ble_eq_true rfl⟩ (by first | exact Or.inl rfl | exact Or.inr rfl | assumption | exact i10_o) rfl rfl
  · have h2 := h.resolve_left h1
    refine evs_of (by decide +kernel) (Nat.le_of_ble_eq_true rfl) (by decide) rfl rfl ?_
    refine ev_iload_n (pc := 0) dX4_in_0 rfl rfl ?_
    refine ev_iload_n (pc := 1) dX4_in_1 rfl rfl ?_
    refine ev_ic_lt (pc := 2) (tgt := 14) dX4_in_2 (by decide) (fun c_2 => absurd c_2 h1) (fun _ => ?_)
    refine ev_iload_n (pc := 5) dX4_in_5 rfl rfl ?_
    refine ev_iload_n (pc := 6) dX4_in_6 rfl rfl ?_
    refine ev_ic_gt (pc := 7) (tgt := 14) dX4_in_7 (by decide) (fun _ => ?_) (fun c_7 => absurd h2 c_7)
    refine ev_iconst (pc := 14) (v := 0) dX4_in_14 (by decide) ?_
    exact ev_zretE (pc := 15) dX4_in_15 rfl ⟨Nat.le_of_ble_eq_true rfl, Nat.le_of_ble_eq_true rfl⟩ (by first | exact Or.inl rfl | exact Or.inr rfl | assumption | exact i10_o) rfl rfl
theorem s_whole1 {cc : C21} {ep ro bb sl th dp : Int32} {many inn item val wr met rst : Nat → Int32} {wds : Nat → Int64} {opd ope way tk : Nat → Int32} {tl : List mC} {s : Nat} (hs : s < 2) (h : whl wds s) : EvS m_X4_whole [.ref 21, .int (nI s)] (dW cc ep ro bb sl th dp many inn item val wr met rst wds opd ope way tk tl) (.inl (some (.int 1))) (dW cc ep ro bb sl th dp many inn item val wr met rst wds opd ope way tk tl) := by
  refine evs_of (by decide +kernel) (Nat.le_of_ble_eq_true rfl) (by decide) rfl rfl ?_
  refine ev_iconst (pc := 0) (v := 4) dX4_whole_0 (by decide) ?_
  refine ev_iload_n (pc := 1) dX4_whole_1 rfl rfl ?_
  refine ev_imul (pc := 2) dX4_whole_2 ?_
  rw [ix4n]
  refine ev_istore_n (pc := 3) dX4_whole_3 rfl rfl rfl ?_
  refine ev_aload_n (pc := 4) dX4_whole_4 rfl rfl ?_
  refine ev_get (pc := 5) dX4_whole_5 fd_X4_36 rfl rfl ?_
  refine ev_iload_n (pc := 8) dX4_whole_8 rfl rfl ?_
  refine ev_iconst (pc := 9) (v := 3) dX4_whole_9 (by decide) ?_
  refine ev_iadd (pc := 10) dX4_whole_10 ?_
  refine ev_laldN (pc := 11) dX4_whole_11 rfl ⟨(nI_add (4 * s) 3), by omega, by decide⟩ rfl ?_
  refine ev_ldc2 (pc := 12) dX4_whole_12 kl_X4_143 ?_
  refine ev_aload_n (pc := 15) dX4_whole_15 rfl rfl ?_
  refine ev_get (pc := 16) dX4_whole_16 fd_X4_36 rfl rfl ?_
  refine ev_iload_n (pc := 19) dX4_whole_19 rfl rfl ?_
  refine ev_laldN (pc := 20) dX4_whole_20 rfl ⟨rfl, by omega, by decide⟩ rfl ?_
  refine ev_lmul (pc := 21) dX4_whole_21 ?_
  refine ev_ldc2 (pc := 22) dX4_whole_22 kl_X4_145 ?_
  refine ev_aload_n (pc := 25) dX4_whole_25 rfl rfl ?_
  refine ev_get (pc := 26) dX4_whole_26 fd_X4_36 rfl rfl ?_
  refine ev_iload_n (pc := 29) dX4_whole_29 rfl rfl ?_
  refine ev_iconst (pc := 30) (v := 1) dX4_whole_30 (by decide) ?_
  refine ev_iadd (pc := 31) dX4_whole_31 ?_
  refine ev_laldN (pc := 32) dX4_whole_32 rfl ⟨(nI_add (4 * s) 1), by omega, by decide⟩ rfl ?_
  refine ev_lmul (pc := 33) dX4_whole_33 ?_
  refine ev_ladd (pc := 34) dX4_whole_34 ?_
  refine ev_aload_n (pc := 35) dX4_whole_35 rfl rfl ?_
  refine ev_get (pc := 36) dX4_whole_36 fd_X4_36 rfl rfl ?_
  refine ev_iload_n (pc := 39) dX4_whole_39 rfl rfl ?_
  refine ev_iconst (pc := 40) (v := 2) dX4_whole_40 (by decide) ?_
  refine ev_iadd (pc := 41) dX4_whole_41 ?_
  refine ev_laldN (pc := 42) dX4_whole_42 rfl ⟨(nI_add (4 * s) 2), by omega, by decide⟩ rfl ?_
  refine ev_ladd (pc := 43) dX4_whole_43 ?_
  refine ev_lcmp (pc := 44) dX4_whole_44 ?_
  refine ev_if_ne (pc := 45) (tgt := 52) dX4_whole_45 (by decide) (fun c_45 => absurd ((lg_cmp_eq _ _).mpr h) c_45) (fun _ => ?_)
  refine ev_iconst (pc := 48) (v := 1) dX4_whole_48 (by decide) ?_
  refine ev_goto (pc := 49) (tgt := 53) dX4_whole_49 (by decide) ?_
  exact ev_zretE (pc := 53) dX4_whole_53 rfl ⟨Nat.le_of_ble_eq_true rfl, Nat.le_of_ble_eq_true rfl⟩ (by first | exact Or.inl rfl | exact Or.inr rfl | assumption | exact i10_o) rfl rfl
theorem s_whole0 {cc : C21} {ep ro bb sl th dp : Int32} {many inn item val wr met rst : Nat → Int32} {wds : Nat → Int64} {opd ope way tk : Nat → Int32} {tl : List mC} {s : Nat} (hs : s < 2) (h : ¬ whl wds s) : EvS m_X4_whole [.ref 21, .int (nI s)] (dW cc ep ro bb sl th dp many inn item val wr met rst wds opd ope way tk tl) (.inl (some (.int 0))) (dW cc ep ro bb sl th dp many inn item val wr met rst wds opd ope way tk tl) := by
  refine evs_of (by decide +kernel) (Nat.le_of_ble_eq_true rfl) (by decide) rfl rfl ?_
  refine ev_iconst (pc := 0) (v := 4) dX4_whole_0 (by decide) ?_
  refine ev_iload_n (pc := 1) dX4_whole_1 rfl rfl ?_
  refine ev_imul (pc := 2) dX4_whole_2 ?_
  rw [ix4n]
  refine ev_istore_n (pc := 3) dX4_whole_3 rfl rfl rfl ?_
  refine ev_aload_n (pc := 4) dX4_whole_4 rfl rfl ?_
  refine ev_get (pc := 5) dX4_whole_5 fd_X4_36 rfl rfl ?_
  refine ev_iload_n (pc := 8) dX4_whole_8 rfl rfl ?_
  refine ev_iconst (pc := 9) (v := 3) dX4_whole_9 (by decide) ?_
  refine ev_iadd (pc := 10) dX4_whole_10 ?_
  refine ev_laldN (pc := 11) dX4_whole_11 rfl ⟨(nI_add (4 * s) 3), by omega, by decide⟩ rfl ?_
  refine ev_ldc2 (pc := 12) dX4_whole_12 kl_X4_143 ?_
  refine ev_aload_n (pc := 15) dX4_whole_15 rfl rfl ?_
  refine ev_get (pc := 16) dX4_whole_16 fd_X4_36 rfl rfl ?_
  refine ev_iload_n (pc := 19) dX4_whole_19 rfl rfl ?_
  refine ev_laldN (pc := 20) dX4_whole_20 rfl ⟨rfl, by omega, by decide⟩ rfl ?_
  refine ev_lmul (pc := 21) dX4_whole_21 ?_
  refine ev_ldc2 (pc := 22) dX4_whole_22 kl_X4_145 ?_
  refine ev_aload_n (pc := 25) dX4_whole_25 rfl rfl ?_
  refine ev_get (pc := 26) dX4_whole_26 fd_X4_36 rfl rfl ?_
  refine ev_iload_n (pc := 29) dX4_whole_29 rfl rfl ?_
  refine ev_iconst (pc := 30) (v := 1) dX4_whole_30 (by decide) ?_
  refine ev_iadd (pc := 31) dX4_whole_31 ?_
  refine ev_laldN (pc := 32) dX4_whole_32 rfl ⟨(nI_add (4 * s) 1), by omega, by decide⟩ rfl ?_
  refine ev_lmul (pc := 33) dX4_whole_33 ?_
  refine ev_ladd (pc := 34) dX4_whole_34 ?_
  refine ev_aload_n (pc := 35) dX4_whole_35 rfl rfl ?_
  refine ev_get (pc := 36) dX4_whole_36 fd_X4_36 rfl rfl ?_
  refine ev_iload_n (pc := 39) dX4_whole_39 rfl rfl ?_
  refine ev_iconst (pc := 40) (v := 2) dX4_whole_40 (by decide) ?_
  refine ev_iadd (pc := 41) dX4_whole_41 ?_
  refine ev_laldN (pc := 42) dX4_whole_42 rfl ⟨(nI_add (4 * s) 2), by omega, by decide⟩ rfl ?_
  refine ev_ladd (pc := 43) dX4_whole_43 ?_
  refine ev_lcmp (pc := 44) dX4_whole_44 ?_
  refine ev_if_ne (pc := 45) (tgt := 52) dX4_whole_45 (by decide) (fun _ => ?_) (fun c_45 => absurd c_45 (fun h9 => h ((lg_cmp_eq _ _).mp h9)))
  refine ev_iconst (pc := 52) (v := 0) dX4_whole_52 (by decide) ?_
  exact ev_zretE (pc := 53) dX4_whole_53 rfl ⟨Nat.le_of_ble_eq_true rfl, Nat.le_of_ble_eq_true rfl⟩ (by first | exact Or.inl rfl | exact Or.inr rfl | assumption | exact i10_o) rfl rfl
theorem l_mAllR {cc : C21} {ep ro bb sl th dp : Int32} {many inn item val wr met rst : Nat → Int32} {wds : Nat → Int64} {opd ope way tk : Nat → Int32} {tl : List mC} (hR : Rm many inn item val T U) (hU : ∀ q, U q → ∀ c ∈ kids (T q), U c) (hop : opC opd ope rd) {wo : Int32} (v3 : Value) : ∀ (m j : Nat) (met rst : Nat → Int32) (M : Nat → Prop), 4 = j + m → MS met M → (∀ q, M q → ∀ c ∈ kids (T q), M c) → (∀ r ∈ rtsF (rdW rd wo) j m, U r) → ∃ met' rst', MS met' (fun q => M q ∨ RS T (rtsF (rdW rd wo) j m) q) ∧ ∀ Qf : mQ, (EvF m_X4_meetsAll Qf 102 [.ref 21, .int wo, .int (nI 4), v3] [] 0 0 (dW cc ep ro bb sl th dp many inn item val wr met' rst' wds opd ope way tk tl)) → EvF m_X4_meetsAll Qf 66 [.ref 21, .int wo, .int (nI j), v3] [] 0 0 (dW cc ep ro bb sl th dp many inn item val wr met rst wds opd ope way tk tl) := by
  intro m
  induction m with
  | zero =>
    intro j met rst M hj hM hcl _
    have : j = 4 := by omega
    subst this
    refine ⟨met, rst, fun q hq => (hM q hq).trans ⟨Or.inl, fun h => h.resolve_right (RS_nil q)⟩, fun Qf k => ?_⟩
    refine ev_iload_n (pc := 66) dX4_meetsAll_66 rfl rfl ?_
    refine ev_iconst (pc := 67) (v := 4) dX4_meetsAll_67 (by decide) ?_
    refine ev_ic_ge (pc := 68) (tgt := 102) dX4_meetsAll_68 (by decide) (fun _ => ?_) (fun c_68 => absurd (by decide) c_68)
    exact k
  | succ m ih =>
    intro j met rst M hj hM hcl hok
    have hj4 : j < 4 := by omega
    have hj9 := hop j hj4
    by_cases hw : nI j = wo
    · have e9 : rtsF (rdW rd wo) j (m + 1) = rtsF (rdW rd wo) (j + 1) m := by
        have : rdW rd wo j = none := if_pos hw
        simp [rtsF, this, oRt]
      rw [e9] at hok ⊢
      obtain ⟨k1, l1, hS1, e1⟩ := ih (j + 1) met rst M (by omega) hM hcl hok
      refine ⟨k1, l1, hS1, fun Qf k => ?_⟩
      refine ev_iload_n (pc := 66) dX4_meetsAll_66 rfl rfl ?_
      refine ev_iconst (pc := 67) (v := 4) dX4_meetsAll_67 (by decide) ?_
      refine ev_ic_ge (pc := 68) (tgt := 102) dX4_meetsAll_68 (by decide) (fun c_68 => absurd c_68 (nI_ge hj4 (by decide))) (fun _ => ?_)
      refine ev_iload_n (pc := 71) dX4_meetsAll_71 rfl rfl ?_
      refine ev_iload_n (pc := 72) dX4_meetsAll_72 rfl rfl ?_
      refine ev_ic_eq (pc := 73) (tgt := 96) dX4_meetsAll_73 (by decide) (fun _ => ?_) (fun c_73 => absurd hw c_73)
      refine ev_iinc (pc := 96) dX4_meetsAll_96 rfl rfl rfl ?_
      refine ev_goto (pc := 99) (tgt := 66) dX4_meetsAll_99 (by decide) ?_
      rw [nI_i1]
      exact e1 Qf k
    · cases hx : rd j with
      | none =>
        rw [hx] at hj9
        have e9 : rtsF (rdW rd wo) j (m + 1) = rtsF (rdW rd wo) (j + 1) m := by
          have : rdW rd wo j = none := by unfold rdW; rw [if_neg hw]; exact hx
          simp [rtsF, this, oRt]
        rw [e9] at hok ⊢
        obtain ⟨k1, l1, hS1, e1⟩ := ih (j + 1) met rst M (by omega) hM hcl hok
        refine ⟨k1, l1, hS1, fun Qf k => ?_⟩
        refine ev_iload_n (pc := 66) dX4_meetsAll_66 rfl rfl ?_
        refine ev_iconst (pc := 67) (v := 4) dX4_meetsAll_67 (by decide) ?_
        refine ev_ic_ge (pc := 68) (tgt := 102) dX4_meetsAll_68 (by decide) (fun c_68 => absurd c_68 (nI_ge hj4 (by decide))) (fun _ => ?_)
        refine ev_iload_n (pc := 71) dX4_meetsAll_71 rfl rfl ?_
        refine ev_iload_n (pc := 72) dX4_meetsAll_72 rfl rfl ?_
        refine ev_ic_eq (pc := 73) (tgt := 96) dX4_meetsAll_73 (by decide) (fun c_73 => absurd c_73 hw) (fun _ => ?_)
        refine ev_aload_n (pc := 76) dX4_meetsAll_76 rfl rfl ?_
        refine ev_get (pc := 77) dX4_meetsAll_77 fd_X4_40 rfl rfl ?_
        refine ev_iload_n (pc := 80) dX4_meetsAll_80 rfl rfl ?_
        refine ev_ialdN (pc := 81) dX4_meetsAll_81 rfl ⟨rfl, hj4, by decide⟩ hj9 ?_
        refine ev_iconst (pc := 82) (v := (-1)) dX4_meetsAll_82 (by decide) ?_
        refine ev_ic_eq (pc := 83) (tgt := 96) dX4_meetsAll_83 (by decide) (fun _ => ?_) (fun c_83 => absurd rfl c_83)
        refine ev_iinc (pc := 96) dX4_meetsAll_96 rfl rfl rfl ?_
        refine ev_goto (pc := 99) (tgt := 66) dX4_meetsAll_99 (by decide) ?_
        rw [nI_i1]
        exact e1 Qf k
      | some x =>
        rw [hx] at hj9
        have e9 : rtsF (rdW rd wo) j (m + 1) = x.2.1 :: rtsF (rdW rd wo) (j + 1) m := by
          have : rdW rd wo j = some x := by unfold rdW; rw [if_neg hw]; exact hx
          simp [rtsF, this, oRt]
        rw [e9] at hok ⊢
        have hux := hok x.2.1 List.mem_cons_self
        have hx7 : x.2.1 < 720 := (hR _ hux).1
        obtain ⟨m1, r1, hM1, e0⟩ := s_meets (cc := cc) (ep := ep) (ro := ro) (bb := bb) (sl := sl) (th := th) (dp := dp) (many := many) (inn := inn) (item := item) (val := val) (wr := wr) (met := met) (rst := rst) (wds := wds) (opd := opd) (ope := ope) (way := way) (tk := tk) (tl := tl) hR hU hcl hM hux
        obtain ⟨k1, l1, hS1, e1⟩ := ih (j + 1) m1 r1 (fun q => M q ∨ Rch T x.2.1 q) (by omega) hM1 (fun q hq c hc => hq.elim (fun h => Or.inl (hcl q h c hc)) (fun h => Or.inr (Rch_trans h (Rch_step.mpr (Or.inr ⟨c, hc, Rch_self⟩))))) (fun r hr => hok r (List.mem_cons_of_mem _ hr))
        refine ⟨k1, l1, fun q hq => (hS1 q hq).trans ?_, fun Qf k => ?_⟩
        · exact or_assoc.trans (or_congr Iff.rfl (RS_cons q).symm)
        · refine ev_iload_n (pc := 66) dX4_meetsAll_66 rfl rfl ?_
          refine ev_iconst (pc := 67) (v := 4) dX4_meetsAll_67 (by decide) ?_
          refine ev_ic_ge (pc := 68) (tgt := 102) dX4_meetsAll_68 (by decide) (fun c_68 => absurd c_68 (nI_ge hj4 (by decide))) (fun _ => ?_)
          refine ev_iload_n (pc := 71) dX4_meetsAll_71 rfl rfl ?_
          refine ev_iload_n (pc := 72) dX4_meetsAll_72 rfl rfl ?_
          refine ev_ic_eq (pc := 73) (tgt := 96) dX4_meetsAll_73 (by decide) (fun c_73 => absurd c_73 hw) (fun _ => ?_)
          refine ev_aload_n (pc := 76) dX4_meetsAll_76 rfl rfl ?_
          refine ev_get (pc := 77) dX4_meetsAll_77 fd_X4_40 rfl rfl ?_
          refine ev_iload_n (pc := 80) dX4_meetsAll_80 rfl rfl ?_
          refine ev_ialdN (pc := 81) dX4_meetsAll_81 rfl ⟨rfl, hj4, by decide⟩ hj9.1 ?_
          refine ev_iconst (pc := 82) (v := (-1)) dX4_meetsAll_82 (by decide) ?_
          refine ev_ic_eq (pc := 83) (tgt := 96) dX4_meetsAll_83 (by decide) (fun c_83 => absurd c_83 (fun h => nI_m1 (by omega) h)) (fun _ => ?_)
          refine ev_aload_n (pc := 86) dX4_meetsAll_86 rfl rfl ?_
          refine ev_aload_n (pc := 87) dX4_meetsAll_87 rfl rfl ?_
          refine ev_get (pc := 88) dX4_meetsAll_88 fd_X4_40 rfl rfl ?_
          refine ev_iload_n (pc := 91) dX4_meetsAll_91 rfl rfl ?_
          refine ev_ialdN (pc := 92) dX4_meetsAll_92 rfl ⟨rfl, hj4, by decide⟩ hj9.1 ?_
          refine cV1 (pc := 93) lk_X4_meetsAll_93 rfl rfl rfl (Nat.le_of_ble_eq_true rfl) ⟨Nat.le_of_ble_eq_true rfl, Nat.le_of_ble_eq_true rfl⟩ e0 ?_
          refine ev_iinc (pc := 96) dX4_meetsAll_96 rfl rfl rfl ?_
          refine ev_goto (pc := 99) (tgt := 66) dX4_meetsAll_99 (by decide) ?_
          rw [nI_i1]
          exact e1 Qf k
theorem l_mAllS {cc : C21} {ep ro bb sl th dp : Int32} {many inn item val wr met rst : Nat → Int32} {wds : Nat → Int64} {opd ope way tk : Nat → Int32} {tl : List mC} (hR : Rm many inn item val T U) (hU : ∀ q, U q → ∀ c ∈ kids (T q), U c) (hSL : SLR wds so) {wo : Int32} (v3 : Value) : ∀ (m j : Nat) (met rst : Nat → Int32) (M : Nat → Prop), 2 = j + m → MS met M → (∀ q, M q → ∀ c ∈ kids (T q), M c) → (∀ r ∈ rtsF so j m, U r) → ∃ met' rst', MS met' (fun q => M q ∨ RS T (rtsF so j m) q) ∧ ∀ Qf : mQ, (EvF m_X4_meetsAll Qf 64 [.ref 21, .int wo, .int (nI 2), v3] [] 0 0 (dW cc ep ro bb sl th dp many inn item val wr met' rst' wds opd ope way tk tl)) → EvF m_X4_meetsAll Qf 30 [.ref 21, .int wo, .int (nI j), v3] [] 0 0 (dW cc ep ro bb sl th dp many inn item val wr met rst wds opd ope way tk tl) := by
  intro m
  induction m with
  | zero =>
    intro j met rst M hj hM hcl _
    have : j = 2 := by omega
    subst this
    refine ⟨met, rst, fun q hq => (hM q hq).trans ⟨Or.inl, fun h => h.resolve_right (RS_nil q)⟩, fun Qf k => ?_⟩
    refine ev_iload_n (pc := 30) dX4_meetsAll_30 rfl rfl ?_
    refine ev_iconst (pc := 31) (v := 2) dX4_meetsAll_31 (by decide) ?_
    refine ev_ic_ge (pc := 32) (tgt := 64) dX4_meetsAll_32 (by decide) (fun _ => ?_) (fun c_32 => absurd (by decide) c_32)
    exact k
  | succ m ih =>
    intro j met rst M hj hM hcl hok
    have hj2 : j < 2 := by omega
    have hs := hSL j hj2
    cases hx : so j with
    | none =>
      rw [hx] at hs
      have e9 : rtsF so j (m + 1) = rtsF so (j + 1) m := by simp [rtsF, hx, oRt]
      rw [e9] at hok ⊢
      obtain ⟨k1, l1, hS1, e1⟩ := ih (j + 1) met rst M (by omega) hM hcl hok
      refine ⟨k1, l1, hS1, fun Qf k => ?_⟩
      refine ev_iload_n (pc := 30) dX4_meetsAll_30 rfl rfl ?_
      refine ev_iconst (pc := 31) (v := 2) dX4_meetsAll_31 (by decide) ?_
      refine ev_ic_ge (pc := 32) (tgt := 64) dX4_meetsAll_32 (by decide) (fun c_32 => absurd c_32 (nI_ge hj2 (by decide))) (fun _ => ?_)
      refine ev_aload_n (pc := 35) dX4_meetsAll_35 rfl rfl ?_
      refine ev_iload_n (pc := 36) dX4_meetsAll_36 rfl rfl ?_
      refine cV1 (pc := 37) lk_X4_meetsAll_37 rfl rfl rfl (Nat.le_of_ble_eq_true rfl) ⟨Nat.le_of_ble_eq_true rfl, Nat.le_of_ble_eq_true rfl⟩ (s_whole0 hj2 hs) ?_
      refine ev_if_eq (pc := 40) (tgt := 58) dX4_meetsAll_40 (by decide) (fun _ => ?_) (fun c_40 => absurd rfl c_40)
      refine ev_iinc (pc := 58) dX4_meetsAll_58 rfl rfl rfl ?_
      refine ev_goto (pc := 61) (tgt := 30) dX4_meetsAll_61 (by decide) ?_
      rw [nI_i1]
      exact e1 Qf k
    | some x =>
      rw [hx] at hs
      have e9 : rtsF so j (m + 1) = x.2.1 :: rtsF so (j + 1) m := by simp [rtsF, hx, oRt]
      rw [e9] at hok ⊢
      have hux := hok x.2.1 List.mem_cons_self
      obtain ⟨m1, r1, hM1, e0⟩ := s_meets (cc := cc) (ep := ep) (ro := ro) (bb := bb) (sl := sl) (th := th) (dp := dp) (many := many) (inn := inn) (item := item) (val := val) (wr := wr) (met := met) (rst := rst) (wds := wds) (opd := opd) (ope := ope) (way := way) (tk := tk) (tl := tl) hR hU hcl hM hux
      obtain ⟨k1, l1, hS1, e1⟩ := ih (j + 1) m1 r1 (fun q => M q ∨ Rch T x.2.1 q) (by omega) hM1 (fun q hq c hc => hq.elim (fun h => Or.inl (hcl q h c hc)) (fun h => Or.inr (Rch_trans h (Rch_step.mpr (Or.inr ⟨c, hc, Rch_self⟩))))) (fun r hr => hok r (List.mem_cons_of_mem _ hr))
      refine ⟨k1, l1, fun q hq => (hS1 q hq).trans ?_, fun Qf k => ?_⟩
      · exact or_assoc.trans (or_congr Iff.rfl (RS_cons q).symm)
      · refine ev_iload_n (pc := 30) dX4_meetsAll_30 rfl rfl ?_
        refine ev_iconst (pc := 31) (v := 2) dX4_meetsAll_31 (by decide) ?_
        refine ev_ic_ge (pc := 32) (tgt := 64) dX4_meetsAll_32 (by decide) (fun c_32 => absurd c_32 (nI_ge hj2 (by decide))) (fun _ => ?_)
        refine ev_aload_n (pc := 35) dX4_meetsAll_35 rfl rfl ?_
        refine ev_iload_n (pc := 36) dX4_meetsAll_36 rfl rfl ?_
        refine cV1 (pc := 37) lk_X4_meetsAll_37 rfl rfl rfl (Nat.le_of_ble_eq_true rfl) ⟨Nat.le_of_ble_eq_true rfl, Nat.le_of_ble_eq_true rfl⟩ (s_whole1 hj2 hs.1) ?_
        refine ev_if_eq (pc := 40) (tgt := 58) dX4_meetsAll_40 (by decide) (fun c_40 => absurd c_40 (by decide)) (fun _ => ?_)
        refine ev_aload_n (pc := 43) dX4_meetsAll_43 rfl rfl ?_
        refine ev_aload_n (pc := 44) dX4_meetsAll_44 rfl rfl ?_
        refine ev_get (pc := 45) dX4_meetsAll_45 fd_X4_36 rfl rfl ?_
        refine ev_iconst (pc := 48) (v := 4) dX4_meetsAll_48 (by decide) ?_
        refine ev_iload_n (pc := 49) dX4_meetsAll_49 rfl rfl ?_
        refine ev_imul (pc := 50) dX4_meetsAll_50 ?_
        refine ev_iconst (pc := 51) (v := 1) dX4_meetsAll_51 (by decide) ?_
        refine ev_iadd (pc := 52) dX4_meetsAll_52 ?_
        refine ev_laldN (pc := 53) dX4_meetsAll_53 rfl ⟨(ix4m j 1), by omega, by decide⟩ hs.2.2.1 ?_
        refine ev_l2i (pc := 54) dX4_meetsAll_54 ?_
        rw [Int32.toInt32_toInt64]
        refine cV1 (pc := 55) lk_X4_meetsAll_55 rfl rfl rfl (Nat.le_of_ble_eq_true rfl) ⟨Nat.le_of_ble_eq_true rfl, Nat.le_of_ble_eq_true rfl⟩ e0 ?_
        refine ev_iinc (pc := 58) dX4_meetsAll_58 rfl rfl rfl ?_
        refine ev_goto (pc := 61) (tgt := 30) dX4_meetsAll_61 (by decide) ?_
        rw [nI_i1]
        exact e1 Qf k
theorem l_mAllN {cc : C21} {ep ro bb sl th dp : Int32} {many inn item val wr met rst : Nat → Int32} {wds : Nat → Int64} {opd ope way tk : Nat → Int32} {tl : List mC} {S : Nat → Prop} (hM : MS met S) {n : Nat} (hn : cntR S 720 n) (a : Int32) : ∀ (m i s : Nat), 720 = i + m → cntR S i s → EvF m_X4_meetsAll (mQm m_X4_meetsAll (.inl (some (.int (nI n)))) (dW cc ep ro bb sl th dp many inn item val wr met rst wds opd ope way tk tl)) 106 [.ref 21, .int a, .int (nI s), .int (nI i)] [] 0 0 (dW cc ep ro bb sl th dp many inn item val wr met rst wds opd ope way tk tl) := by
  intro m
  induction m with
  | zero =>
    intro i s hi hs
    have : i = 720 := by omega
    subst this
    refine ev_iload_n (pc := 106) dX4_meetsAll_106 rfl rfl ?_
    refine ev_sipush (pc := 107) (v := 720) dX4_meetsAll_107 (by decide) ?_
    refine ev_ic_ge (pc := 110) (tgt := 136) dX4_meetsAll_110 (by decide) (fun _ => ?_) (fun c_110 => absurd (by decide) c_110)
    refine ev_iload_n (pc := 136) dX4_meetsAll_136 rfl rfl ?_
    exact ev_iretE (pc := 137) dX4_meetsAll_137 rfl ⟨Nat.le_of_ble_eq_true rfl, Nat.le_of_ble_eq_true rfl⟩ (by rw [cntR_un hs hn]) rfl
  | succ m ih =>
    intro i s hi hs
    have hi7 : i < 720 := by omega
    by_cases h : S i
    · have h1 : ¬ met i = 0 := (hM i hi7).mpr h
      refine ev_iload_n (pc := 106) dX4_meetsAll_106 rfl rfl ?_
      refine ev_sipush (pc := 107) (v := 720) dX4_meetsAll_107 (by decide) ?_
      refine ev_ic_ge (pc := 110) (tgt := 136) dX4_meetsAll_110 (by decide) (fun c_110 => absurd c_110 (nI_ge hi7 (by decide))) (fun _ => ?_)
      refine ev_iload_n (pc := 113) dX4_meetsAll_113 rfl rfl ?_
      refine ev_aload_n (pc := 114) dX4_meetsAll_114 rfl rfl ?_
      refine ev_get (pc := 115) dX4_meetsAll_115 fd_X4_26 rfl rfl ?_
      refine ev_iload_n (pc := 118) dX4_meetsAll_118 rfl rfl ?_
      refine ev_zaldN (pc := 119) dX4_meetsAll_119 rfl ⟨rfl, hi7, by decide⟩ rfl ?_
      refine ev_if_eq (pc := 120) (tgt := 127) dX4_meetsAll_120 (by decide) (fun c_120 => absurd c_120 h1) (fun _ => ?_)
      refine ev_iconst (pc := 123) (v := 1) dX4_meetsAll_123 (by decide) ?_
      refine ev_goto (pc := 124) (tgt := 128) dX4_meetsAll_124 (by decide) ?_
      refine ev_iadd (pc := 128) dX4_meetsAll_128 ?_
      rw [nI_a1]
      refine ev_istore_n (pc := 129) dX4_meetsAll_129 rfl rfl rfl ?_
      refine ev_iinc (pc := 130) dX4_meetsAll_130 rfl rfl rfl ?_
      refine ev_goto (pc := 133) (tgt := 106) dX4_meetsAll_133 (by decide) ?_
      rw [nI_i1]
      exact ih (i + 1) (s + 1) (by omega) (cntR_s1 hs h)
    · have h1 : met i = 0 := MS_0 hM hi7 h
      refine ev_iload_n (pc := 106) dX4_meetsAll_106 rfl rfl ?_
      refine ev_sipush (pc := 107) (v := 720) dX4_meetsAll_107 (by decide) ?_
      refine ev_ic_ge (pc := 110) (tgt := 136) dX4_meetsAll_110 (by decide) (fun c_110 => absurd c_110 (nI_ge hi7 (by decide))) (fun _ => ?_)
      refine ev_iload_n (pc := 113) dX4_meetsAll_113 rfl rfl ?_
      refine ev_aload_n (pc := 114) dX4_meetsAll_114 rfl rfl ?_
      refine ev_get (pc := 115) dX4_meetsAll_115 fd_X4_26 rfl rfl ?_
      refine ev_iload_n (pc := 118) dX4_meetsAll_118 rfl rfl ?_
      refine ev_zaldN (pc := 119) dX4_meetsAll_119 rfl ⟨rfl, hi7, by decide⟩ rfl ?_
      refine ev_if_eq (pc := 120) (tgt := 127) dX4_meetsAll_120 (by decide) (fun _ => ?_) (fun c_120 => absurd h1 c_120)
      refine ev_iconst (pc := 127) (v := 0) dX4_meetsAll_127 (by decide) ?_
      refine ev_iadd (pc := 128) dX4_meetsAll_128 ?_
      rw [Int32.add_zero]
      refine ev_istore_n (pc := 129) dX4_meetsAll_129 rfl rfl rfl ?_
      refine ev_iinc (pc := 130) dX4_meetsAll_130 rfl rfl rfl ?_
      refine ev_goto (pc := 133) (tgt := 106) dX4_meetsAll_133 (by decide) ?_
      rw [nI_i1]
      exact ih (i + 1) s (by omega) (cntR_s0 hs h)
/-- what the model meets from the states' roots, one reader left out, and the batch's -/
def mAll (T : Nat → Nd) (c : RS3) (b : Option RS3) (so rd : Nat → Option RS3) (wo : Int32) (q : Nat) : Prop := RS T (rts c so (rdW rd wo)) q ∨ RS T (oRt b) q
theorem s_meetsAll {cc : C21} {ep ro bb sl th dp : Int32} {many inn item val wr met rst : Nat → Int32} {wds : Nat → Int64} {opd ope way tk : Nat → Int32} {tl : List mC} (hR : Rm many inn item val T U) (hU : ∀ q, U q → ∀ c ∈ kids (T q), U c) (hop : opC opd ope rd) (hSL : SLR wds so) {wo : Int32} (hro : ro = nI c.2.1) (hbb : bb = bbC b) (h1 : ∀ r ∈ rts c so (rdW rd wo), U r) (h2 : ∀ r ∈ oRt b, U r) {n : Nat} (hn : cntR (mAll T c b so rd wo) 720 n) : ∃ met' rst', MS met' (mAll T c b so rd wo) ∧ EvS m_X4_meetsAll [.ref 21, .int wo] (dW cc ep ro bb sl th dp many inn item val wr met rst wds opd ope way tk tl) (.inl (some (.int (nI n)))) (dW cc ep ro bb sl th dp many inn item val wr met' rst' wds opd ope way tk tl) := by
  subst hro
  subst hbb
  obtain ⟨m1, r1, hM1, e1⟩ := s_meets (cc := cc) (ep := ep) (ro := (nI c.2.1)) (bb := (bbC b)) (sl := sl) (th := th) (dp := dp) (many := many) (inn := inn) (item := item) (val := val) (wr := wr) (met := (zr met 720)) (rst := rst) (wds := wds) (opd := opd) (ope := ope) (way := way) (tk := tk) (tl := tl) hR hU (M0 := fun _ => False) (fun q hq => hq.elim) MS_zr (h1 c.2.1 List.mem_cons_self)
  have hB : ∃ m2 r2, MS m2 (fun q => (False ∨ Rch T c.2.1 q) ∨ RS T (oRt b) q) ∧ ∀ Qf : mQ, (EvF m_X4_meetsAll Qf 28 [.ref 21, .int wo, hole, hole] [] 0 0 (dW cc ep (nI c.2.1) (bbC b) sl th dp many inn item val wr m2 r2 wds opd ope way tk tl)) → EvF m_X4_meetsAll Qf 12 [.ref 21, .int wo, hole, hole] [] 0 0 (dW cc ep (nI c.2.1) (bbC b) sl th dp many inn item val wr m1 r1 wds opd ope way tk tl) := by
    cases hb : b with
    | none =>
      refine ⟨m1, r1, fun q hq => (hM1 q hq).trans ⟨Or.inl, fun h => h.resolve_right (RS_nil q)⟩, fun Qf k => ?_⟩
      refine ev_aload_n (pc := 12) dX4_meetsAll_12 rfl rfl ?_
      refine ev_get (pc := 13) dX4_meetsAll_13 fd_X4_32 rfl rfl ?_
      refine ev_iconst (pc := 16) (v := (-1)) dX4_meetsAll_16 (by decide) ?_
      refine ev_ic_eq (pc := 17) (tgt := 28) dX4_meetsAll_17 (by decide) (fun _ => ?_) (fun c_17 => absurd rfl c_17)
      exact k
    | some x =>
      rw [hb] at h2
      have hux := h2 x.2.1 List.mem_cons_self
      have hx7 : x.2.1 < 720 := (hR _ hux).1
      obtain ⟨m2, r2, hM2, e2⟩ := s_meets (cc := cc) (ep := ep) (ro := (nI c.2.1)) (bb := (nI x.2.1)) (sl := sl) (th := th) (dp := dp) (many := many) (inn := inn) (item := item) (val := val) (wr := wr) (met := m1) (rst := r1) (wds := wds) (opd := opd) (ope := ope) (way := way) (tk := tk) (tl := tl) hR hU (M0 := fun q => False ∨ Rch T c.2.1 q) (fun q hq c hc => Or.inr (Rch_trans (hq.resolve_left id) (Rch_step.mpr (Or.inr ⟨c, hc, Rch_self⟩)))) hM1 hux
      refine ⟨m2, r2, fun q hq => (hM2 q hq).trans ⟨fun h => h.elim Or.inl (fun h => Or.inr ⟨x.2.1, List.mem_cons_self, h⟩), fun h => h.elim Or.inl (fun ⟨r, hr, h⟩ => Or.inr (by rw [List.mem_singleton.mp hr] at h; exact h))⟩, fun Qf k => ?_⟩
      refine ev_aload_n (pc := 12) dX4_meetsAll_12 rfl rfl ?_
      refine ev_get (pc := 13) dX4_meetsAll_13 fd_X4_32 rfl rfl ?_
      refine ev_iconst (pc := 16) (v := (-1)) dX4_meetsAll_16 (by decide) ?_
      refine ev_ic_eq (pc := 17) (tgt := 28) dX4_meetsAll_17 (by decide) (fun c_17 => absurd c_17 (fun h => nI_m1 (show x.2.1 < 2147483648 by omega) h)) (fun _ => ?_)
      refine ev_aload_n (pc := 20) dX4_meetsAll_20 rfl rfl ?_
      refine ev_aload_n (pc := 21) dX4_meetsAll_21 rfl rfl ?_
      refine ev_get (pc := 22) dX4_meetsAll_22 fd_X4_32 rfl rfl ?_
      refine cV1 (pc := 25) lk_X4_meetsAll_25 rfl rfl rfl (Nat.le_of_ble_eq_true rfl) ⟨Nat.le_of_ble_eq_true rfl, Nat.le_of_ble_eq_true rfl⟩ e2 ?_
      exact k
  obtain ⟨m2, r2, hM2, e2⟩ := hB
  have hcl2 : ∀ q, ((False ∨ Rch T c.2.1 q) ∨ RS T (oRt b) q) → ∀ c' ∈ kids (T q), ((False ∨ Rch T c.2.1 c') ∨ RS T (oRt b) c') := fun q hq c' hc => hq.elim (fun h => Or.inl (Or.inr (Rch_trans (h.resolve_left id) (Rch_step.mpr (Or.inr ⟨c', hc, Rch_self⟩))))) (fun h => Or.inr (RS_cl q h c' hc))
  obtain ⟨m3, r3, hM3, e3⟩ := l_mAllS (cc := cc) (ep := ep) (ro := (nI c.2.1)) (bb := (bbC b)) (sl := sl) (th := th) (dp := dp) (many := many) (inn := inn) (item := item) (val := val) (wr := wr) (met := met) (rst := rst) (wds := wds) (opd := opd) (ope := ope) (way := way) (tk := tk) (tl := tl) hR hU hSL (wo := wo) hole 2 0 m2 r2 _ rfl hM2 hcl2 (fun r hr => h1 r (List.mem_cons_of_mem _ (List.mem_append_left _ hr)))
  have hcl3 : ∀ q, (((False ∨ Rch T c.2.1 q) ∨ RS T (oRt b) q) ∨ RS T (rtsF so 0 2) q) → ∀ c' ∈ kids (T q), (((False ∨ Rch T c.2.1 c') ∨ RS T (oRt b) c') ∨ RS T (rtsF so 0 2) c') := fun q hq c' hc => hq.elim (fun h => Or.inl (hcl2 q h c' hc)) (fun h => Or.inr (RS_cl q h c' hc))
  obtain ⟨m4, r4, hM4, e4⟩ := l_mAllR (cc := cc) (ep := ep) (ro := (nI c.2.1)) (bb := (bbC b)) (sl := sl) (th := th) (dp := dp) (many := many) (inn := inn) (item := item) (val := val) (wr := wr) (met := met) (rst := rst) (wds := wds) (opd := opd) (ope := ope) (way := way) (tk := tk) (tl := tl) hR hU hop (wo := wo) hole 4 0 m3 r3 _ rfl hM3 hcl3 (fun r hr => h1 r (List.mem_cons_of_mem _ (List.mem_append_right _ hr)))
  have hM5 : MS m4 (mAll T c b so rd wo) := fun q hq => (hM4 q hq).trans (by
    unfold mAll rts
    rw [RS_cons, RS_app]
    constructor
    · rintro (((h | h) | h) | h)
      · exact Or.inl (Or.inl (h.resolve_left id))
      · exact Or.inr h
      · exact Or.inl (Or.inr (Or.inl h))
      · exact Or.inl (Or.inr (Or.inr h))
    · rintro ((h | h | h) | h)
      · exact Or.inl (Or.inl (Or.inl (Or.inr h)))
      · exact Or.inl (Or.inr h)
      · exact Or.inr h
      · exact Or.inl (Or.inl (Or.inr h)))
  have e5 := l_mAllN (cc := cc) (ep := ep) (ro := (nI c.2.1)) (bb := (bbC b)) (sl := sl) (th := th) (dp := dp) (many := many) (inn := inn) (item := item) (val := val) (wr := wr) (met := m4) (rst := r4) (wds := wds) (opd := opd) (ope := ope) (way := way) (tk := tk) (tl := tl) hM5 hn wo 720 0 0 rfl rfl
  have g102 : EvF m_X4_meetsAll (mQm m_X4_meetsAll (.inl (some (.int (nI n)))) (dW cc ep (nI c.2.1) (bbC b) sl th dp many inn item val wr m4 r4 wds opd ope way tk tl)) 102 [.ref 21, .int wo, .int (nI 4), hole] [] 0 0 (dW cc ep (nI c.2.1) (bbC b) sl th dp many inn item val wr m4 r4 wds opd ope way tk tl) := by
    refine ev_iconst (pc := 102) (v := 0) dX4_meetsAll_102 (by decide) ?_
    refine ev_istore_n (pc := 103) dX4_meetsAll_103 rfl rfl rfl ?_
    refine ev_iconst (pc := 104) (v := 0) dX4_meetsAll_104 (by decide) ?_
    refine ev_istore_n (pc := 105) dX4_meetsAll_105 rfl rfl rfl ?_
    exact e5
  have g64 : EvF m_X4_meetsAll (mQm m_X4_meetsAll (.inl (some (.int (nI n)))) (dW cc ep (nI c.2.1) (bbC b) sl th dp many inn item val wr m4 r4 wds opd ope way tk tl)) 64 [.ref 21, .int wo, .int (nI 2), hole] [] 0 0 (dW cc ep (nI c.2.1) (bbC b) sl th dp many inn item val wr m3 r3 wds opd ope way tk tl) := by
    refine ev_iconst (pc := 64) (v := 0) dX4_meetsAll_64 (by decide) ?_
    refine ev_istore_n (pc := 65) dX4_meetsAll_65 rfl rfl rfl ?_
    exact e4 _ g102
  have g28 : EvF m_X4_meetsAll (mQm m_X4_meetsAll (.inl (some (.int (nI n)))) (dW cc ep (nI c.2.1) (bbC b) sl th dp many inn item val wr m4 r4 wds opd ope way tk tl)) 28 [.ref 21, .int wo, hole, hole] [] 0 0 (dW cc ep (nI c.2.1) (bbC b) sl th dp many inn item val wr m2 r2 wds opd ope way tk tl) := by
    refine ev_iconst (pc := 28) (v := 0) dX4_meetsAll_28 (by decide) ?_
    refine ev_istore_n (pc := 29) dX4_meetsAll_29 rfl rfl rfl ?_
    exact e3 _ g64
  refine ⟨m4, r4, hM5, ?_⟩
  refine evs_of (by decide +kernel) (Nat.le_of_ble_eq_true rfl) (by decide) rfl rfl ?_
  refine ev_aload_n (pc := 0) dX4_meetsAll_0 rfl rfl ?_
  refine cV0 (pc := 1) lk_X4_meetsAll_1 rfl rfl rfl (Nat.le_of_ble_eq_true rfl) ⟨Nat.le_of_ble_eq_true rfl, Nat.le_of_ble_eq_true rfl⟩ s_forgets ?_
  refine ev_aload_n (pc := 4) dX4_meetsAll_4 rfl rfl ?_
  refine ev_aload_n (pc := 5) dX4_meetsAll_5 rfl rfl ?_
  refine ev_get (pc := 6) dX4_meetsAll_6 fd_X4_61 rfl rfl ?_
  refine cV1 (pc := 9) lk_X4_meetsAll_9 rfl rfl rfl (Nat.le_of_ble_eq_true rfl) ⟨Nat.le_of_ble_eq_true rfl, Nat.le_of_ble_eq_true rfl⟩ e1 ?_
  exact e2 _ g28
/-! the least page not met; what is in use; taking -/
theorem l_notMet {cc : C21} {ep ro bb sl th dp : Int32} {many inn item val wr met rst : Nat → Int32} {wds : Nat → Int64} {opd ope way tk : Nat → Int32} {tl : List mC} {S : Nat → Prop} (hM : MS met S) {n : Nat} (hn : n < 720) (h1 : ¬ S n) (h2 : ∀ j, j < n → S j) : ∀ (m i : Nat), n = i + m → EvF m_X4_leastNotMet (mQm m_X4_leastNotMet (.inl (some (.int (nI n)))) (dW cc ep ro bb sl th dp many inn item val wr met rst wds opd ope way tk tl)) 2 [.ref 21, .int (nI i)] [] 0 0 (dW cc ep ro bb sl th dp many inn item val wr met rst wds opd ope way tk tl) := by
  intro m
  induction m with
  | zero =>
    intro i hi
    have : i = n := by omega
    subst this
    refine ev_aload_n (pc := 2) dX4_leastNotMet_2 rfl rfl ?_
    refine ev_get (pc := 3) dX4_leastNotMet_3 fd_X4_26 rfl rfl ?_
    refine ev_iload_n (pc := 6) dX4_leastNotMet_6 rfl rfl ?_
    refine ev_zaldN (pc := 7) dX4_leastNotMet_7 rfl ⟨rfl, hn, by decide⟩ rfl ?_
    refine ev_if_eq (pc := 8) (tgt := 17) dX4_leastNotMet_8 (by decide) (fun _ => ?_) (fun c_8 => absurd (MS_0 hM hn h1) c_8)
    refine ev_iload_n (pc := 17) dX4_leastNotMet_17 rfl rfl ?_
    exact ev_iretE (pc := 18) dX4_leastNotMet_18 rfl ⟨Nat.le_of_ble_eq_true rfl, Nat.le_of_ble_eq_true rfl⟩ rfl rfl
  | succ m ih =>
    intro i hi
    have hi7 : i < 720 := by omega
    refine ev_aload_n (pc := 2) dX4_leastNotMet_2 rfl rfl ?_
    refine ev_get (pc := 3) dX4_leastNotMet_3 fd_X4_26 rfl rfl ?_
    refine ev_iload_n (pc := 6) dX4_leastNotMet_6 rfl rfl ?_
    refine ev_zaldN (pc := 7) dX4_leastNotMet_7 rfl ⟨rfl, hi7, by decide⟩ rfl ?_
    refine ev_if_eq (pc := 8) (tgt := 17) dX4_leastNotMet_8 (by decide) (fun c_8 => absurd c_8 ((hM i hi7).mpr (h2 i (by omega)))) (fun _ => ?_)
    refine ev_iinc (pc := 11) dX4_leastNotMet_11 rfl rfl rfl ?_
    refine ev_goto (pc := 14) (tgt := 2) dX4_leastNotMet_14 (by decide) ?_
    rw [nI_i1]
    exact ih (i + 1) (by omega)
theorem s_notMet {cc : C21} {ep ro bb sl th dp : Int32} {many inn item val wr met rst : Nat → Int32} {wds : Nat → Int64} {opd ope way tk : Nat → Int32} {tl : List mC} {S : Nat → Prop} (hM : MS met S) {n : Nat} (hn : n < 720) (h1 : ¬ S n) (h2 : ∀ j, j < n → S j) : EvS m_X4_leastNotMet [.ref 21] (dW cc ep ro bb sl th dp many inn item val wr met rst wds opd ope way tk tl) (.inl (some (.int (nI n)))) (dW cc ep ro bb sl th dp many inn item val wr met rst wds opd ope way tk tl) := by
  have e1 := l_notMet (cc := cc) (ep := ep) (ro := ro) (bb := bb) (sl := sl) (th := th) (dp := dp) (many := many) (inn := inn) (item := item) (val := val) (wr := wr) (met := met) (rst := rst) (wds := wds) (opd := opd) (ope := ope) (way := way) (tk := tk) (tl := tl) hM hn h1 h2 n 0 (by omega)
  refine evs_of (by decide +kernel) (Nat.le_of_ble_eq_true rfl) (by decide) rfl rfl ?_
  refine ev_iconst (pc := 0) (v := 0) dX4_leastNotMet_0 (by decide) ?_
  refine ev_istore_n (pc := 1) dX4_leastNotMet_1 rfl rfl rfl ?_
  exact e1
end M2
