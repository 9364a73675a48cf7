/-! CONSTRUCTORS -/
section CN
variable {M : mM} {Qf : mQ} {pc : Nat} {L st : List Value} {kc ks : Nat} {w : mW}
theorem ev_wE {w2 : mW} (h : w = w2) (k : EvF M Qf pc L st kc ks w2) : EvF M Qf pc L st kc ks w := h ▸ k
theorem ev_naI {N n0 q : Nat} {v : Int32} {w' : mW} (d : decode (mMc M) pc = .ok (.newarray .int, 2)) (hv : v = nI N) (hN : N ≤ 4000) (hz : mMz M = some n0) (hn : w.length = n0 + kc) (hR : kc + 1 ≤ (mMR M).cells ∧ ks + N ≤ (mMR M).slots) (hw' : w ++ [.inl (0, N, .inl (fun _ => 0))] = w') (hq : w.length = q) (kk : EvF M Qf (pc + 2) L (.ref q :: st) (kc + 1) (ks + N) w') : EvF M Qf pc L (.int v :: st) kc ks w := by
  subst hw'
  subst hq
  subst hv
  exact ev_newa (t := 0) (ty := .int) (a0 := (N, .inl (fun _ => 0))) d rfl ka_int (fun cA => rfl) (fun Cn h => by cases h) (fun cA => vp_cell_i cA N _) (fun z b cA => rfl) (nI_pos (by omega)) (nI_clamp (by omega)) (by show N * 4 ≤ _; omega) hz hn hR kk
theorem ev_naZ {N n0 q : Nat} {v : Int32} {w' : mW} (d : decode (mMc M) pc = .ok (.newarray .boolean, 2)) (hv : v = nI N) (hN : N ≤ 4000) (hz : mMz M = some n0) (hn : w.length = n0 + kc) (hR : kc + 1 ≤ (mMR M).cells ∧ ks + N ≤ (mMR M).slots) (hw' : w ++ [.inl (1, N, .inl (fun _ => 0))] = w') (hq : w.length = q) (kk : EvF M Qf (pc + 2) L (.ref q :: st) (kc + 1) (ks + N) w') : EvF M Qf pc L (.int v :: st) kc ks w := by
  subst hw'
  subst hq
  subst hv
  exact ev_newa (t := 1) (ty := .boolean) (a0 := (N, .inl (fun _ => 0))) d rfl ka_boolean (fun cA => rfl) (fun Cn h => by cases h) (fun cA => vp_cell_i cA N _) (fun z b cA => rfl) (nI_pos (by omega)) (nI_clamp (by omega)) (by show N * 1 ≤ _; omega) hz hn hR kk
theorem ev_naL {N n0 q : Nat} {v : Int32} {w' : mW} (d : decode (mMc M) pc = .ok (.newarray .long, 2)) (hv : v = nI N) (hN : N ≤ 4000) (hz : mMz M = some n0) (hn : w.length = n0 + kc) (hR : kc + 1 ≤ (mMR M).cells ∧ ks + N ≤ (mMR M).slots) (hw' : w ++ [.inl (2, N, .inr (.inl (fun _ => 0)))] = w') (hq : w.length = q) (kk : EvF M Qf (pc + 2) L (.ref q :: st) (kc + 1) (ks + N) w') : EvF M Qf pc L (.int v :: st) kc ks w := by
  subst hw'
  subst hq
  subst hv
  exact ev_newa (t := 2) (ty := .long) (a0 := (N, .inr (.inl (fun _ => 0)))) d rfl ka_long (fun cA => rfl) (fun Cn h => by cases h) (fun cA => vp_cell_l cA N _) (fun z b cA => rfl) (nI_pos (by omega)) (nI_clamp (by omega)) (by show N * 8 ≤ _; omega) hz hn hR kk
theorem ev_newE {idx ci N n0 q : Nat} {Cn : String} {T : u_T} {ty : Nat → FieldType} {fs : List Value} {w' : mW} (d : decode (mMc M) pc = .ok (.new idx, 3)) (hc : vwCl[ci]? = some (Cn, T, N)) (hin : ∀ x ∈ u_ws Cn T N, x ∈ WA) (hty : ∀ k, k < N → parseFieldDescriptor (T k).2.2.1 = some (ty k))
    (h1 : Jvm.Cond.classLink (mMy M).cls idx Cn ∈ WA) (h2 : Jvm.Cond.instantiable Cn N ∈ WA) (h3 : Jvm.Cond.initialized Cn ∈ WA) (hfs : ∀ j, j < N → defaultValue (ty j) = vp_V fs j) (hfr : ∀ z b, fs.map (mV z b) = fs) (hz : mMz M = some n0) (hn : w.length = n0 + kc) (hR : kc + 1 ≤ (mMR M).cells ∧ ks + N ≤ (mMR M).slots) (hw' : w ++ [.inr (ci, fs)] = w') (hq : w.length = q)
    (kk : EvF M Qf (pc + 3) L (.ref q :: st) (kc + 1) (ks + N) w') : EvF M Qf pc L st kc ks w := by
  subst hw'
  subst hq
  exact ev_new d hc hin hty h1 h2 h3 hfs hfr hz hn hR kk
theorem ev_newqE {idx N n0 q : Nat} {v : Int32} {w' : mW} (d : decode (mMc M) pc = .ok (.anewarray idx, 3)) (h1 : Jvm.Cond.classLink (mMy M).cls idx "Copperleaf$State" ∈ WA) (hv : v = nI N) (hN : N ≤ 4000) (hz : mMz M = some n0) (hn : w.length = n0 + kc) (hR : kc + 1 ≤ (mMR M).cells ∧ ks + N ≤ (mMR M).slots) (hw' : w ++ [.inl (3, N, .inr (.inr (fun _ => none)))] = w') (hq : w.length = q) (kk : EvF M Qf (pc + 3) L (.ref q :: st) (kc + 1) (ks + N) w') : EvF M Qf pc L (.int v :: st) kc ks w := by
  subst hw'
  subst hq
  subst hv
  exact ev_newq d h1 (nI_pos (by omega)) (nI_clamp (by omega)) (by omega) hz hn hR kk
theorem ev_callIN0 {K : mM} {idx q n0 : Nat} {rest : List Value} {w1 : mW} (d : decode (mMc M) pc = .ok (.invokespecial idx, 3)) (hl : ∀ U : State, mXF U → va_Nw (.methodLinkNest (mMy M).cls idx (mMy K) "Copperleaf") U) (hin : Jvm.Cond.instanceMethod (mMy K) ∈ WA) (hini : Jvm.Cond.initialized (mMy K).cls ∈ WA) (hd : (mMy K).cls ≠ "java/lang/invoke/MethodHandle" ∧ (mMy K).cls ≠ "java/lang/invoke/VarHandle" ∧ (parseMethodDescriptor (mMy K).desc).map (fun d => d.parameters.length) = some 0) (hnm : (mMy K).name = "<init>") (hO : mOk K) (hh : mMh K = []) (hre : mMr K = none) (hzM : mMz M = some n0) (hn : w.length = n0 + kc) (hz : ∀ n, mMz K = some n → n = w.length) (hms : mMs K = none) (hF : mFit M K) (hst : (rest.map fun v => v.category).sum ≤ 8) (hR : kc + (mMR K).cells ≤ (mMR M).cells ∧ ks + (mMR K).slots ≤ (mMR M).slots) (hS : EvS K (.ref q :: []) w (.inl none) w1)
    (k : EvF M Qf (pc + 3) L rest (kc + (mMR K).cells) (ks + (mMR K).slots) w1) : EvF M Qf pc L (.ref q :: rest) kc ks w := ev_callIN (As := []) d hl hin hini hd hnm hO hh hre hzM hn hz hms hF rfl hst hR hS k
theorem ev_callI0 {K : mM} {idx q n0 : Nat} {rest : List Value} {w1 : mW} (d : decode (mMc M) pc = .ok (.invokespecial idx, 3)) (hC : mCi (mMy M).cls idx (mMy K) 0) (hO : mOk K) (hh : mMh K = []) (hre : mMr K = none) (hzM : mMz M = some n0) (hn : w.length = n0 + kc) (hz : ∀ n, mMz K = some n → n = w.length) (hms : mMs K = none) (hF : mFit M K) (hst : (rest.map fun v => v.category).sum ≤ 8) (hR : kc + (mMR K).cells ≤ (mMR M).cells ∧ ks + (mMR K).slots ≤ (mMR M).slots) (hS : EvS K (.ref q :: []) w (.inl none) w1)
    (k : EvF M Qf (pc + 3) L rest (kc + (mMR K).cells) (ks + (mMR K).slots) w1) : EvF M Qf pc L (.ref q :: rest) kc ks w := ev_callI (As := []) d hC hO hh hre hzM hn hz hms hF rfl hst hR hS k
theorem ev_callI2 {K : mM} {idx q n0 : Nat} {v1 v2 : Value} {rest : List Value} {w1 : mW} (d : decode (mMc M) pc = .ok (.invokespecial idx, 3)) (hC : mCi (mMy M).cls idx (mMy K) 2) (hO : mOk K) (hh : mMh K = []) (hre : mMr K = none) (hzM : mMz M = some n0) (hn : w.length = n0 + kc) (hz : ∀ n, mMz K = some n → n = w.length) (hms : mMs K = none) (hF : mFit M K) (hst : (rest.map fun v => v.category).sum ≤ 8) (hR : kc + (mMR K).cells ≤ (mMR M).cells ∧ ks + (mMR K).slots ≤ (mMR M).slots) (hS : EvS K (.ref q :: [v1, v2]) w (.inl none) w1)
    (k : EvF M Qf (pc + 3) L rest (kc + (mMR K).cells) (ks + (mMR K).slots) w1) : EvF M Qf pc L (v2 :: v1 :: .ref q :: rest) kc ks w := ev_callI (As := [v1, v2]) d hC hO hh hre hzM hn hz hms hF rfl hst hR hS k
end CN
theorem s_X1_init {w : mW} {q : Nat} : EvS m_X1_init [.ref q] w (.inl none) w := by
  refine evs_of (by decide +kernel) (Nat.le_of_ble_eq_true rfl) (by decide) rfl ?_
  refine ev_aload_n (pc := 0) dX1_init_0 rfl rfl ?_
  refine ev_objInit (pc := 1) dX1_init_1 ko_X1 ko_i ko_c (by decide) (by decide) ?_
  exact ev_vretE (pc := 4) dX1_init_4 rfl ⟨Nat.le_of_ble_eq_true rfl, Nat.le_of_ble_eq_true rfl⟩ rfl
theorem s_X0_init {o : mC} : EvS m_X0_init [.ref 1] [o, .inr (0, [.null, .null, .null, .null, .null, .null, .null, .null])] (.inl none) [o, .inr (0, [.ref 2, .ref 3, .ref 4, .ref 5, .ref 6, .ref 7, .ref 8, .ref 9]), .inl (0, 800, .inl (fun _ => 0)), .inl (1, 800, .inl (fun _ => 0)), .inl (0, 4000, .inl (fun _ => 0)), .inl (0, 4000, .inl (fun _ => 0)), .inl (1, 800, .inl (fun _ => 0)), .inl (1, 800, .inl (fun _ => 0)), .inl (1, 800, .inl (fun _ => 0)), .inl (0, 800, .inl (fun _ => 0))] := by
  refine evs_of (by decide +kernel) (Nat.le_of_ble_eq_true rfl) (by decide) rfl ?_
  refine ev_aload_n (pc := 0) dX0_init_0 rfl rfl ?_
  refine ev_objInit (pc := 1) dX0_init_1 ko_X0 ko_i ko_c (by decide) (by decide) ?_
  refine ev_aload_n (pc := 4) dX0_init_4 rfl rfl ?_
  refine ev_sipush (pc := 5) (v := 800) dX0_init_5 (by decide) ?_
  refine ev_naI (pc := 8) (N := 800) (q := 2) dX0_init_8 rfl (Nat.le_of_ble_eq_true rfl) rfl rfl ⟨Nat.le_of_ble_eq_true rfl, Nat.le_of_ble_eq_true rfl⟩ rfl rfl ?_
  refine ev_putF (pc := 10) dX0_init_10 fp_X0_9 rfl rfl (Nat.le_of_ble_eq_true rfl) (fun _ _ => ⟨rfl, rfl⟩) rfl ?_
  refine ev_aload_n (pc := 13) dX0_init_13 rfl rfl ?_
  refine ev_sipush (pc := 14) (v := 800) dX0_init_14 (by decide) ?_
  refine ev_naZ (pc := 17) (N := 800) (q := 3) dX0_init_17 rfl (Nat.le_of_ble_eq_true rfl) rfl rfl ⟨Nat.le_of_ble_eq_true rfl, Nat.le_of_ble_eq_true rfl⟩ rfl rfl ?_
  refine ev_putF (pc := 19) dX0_init_19 fp_X0_15 rfl rfl (Nat.le_of_ble_eq_true rfl) (fun _ _ => ⟨rfl, rfl⟩) rfl ?_
  refine ev_aload_n (pc := 22) dX0_init_22 rfl rfl ?_
  refine ev_sipush (pc := 23) (v := 4000) dX0_init_23 (by decide) ?_
  refine ev_naI (pc := 26) (N := 4000) (q := 4) dX0_init_26 rfl (Nat.le_of_ble_eq_true rfl) rfl rfl ⟨Nat.le_of_ble_eq_true rfl, Nat.le_of_ble_eq_true rfl⟩ rfl rfl ?_
  refine ev_putF (pc := 28) dX0_init_28 fp_X0_19 rfl rfl (Nat.le_of_ble_eq_true rfl) (fun _ _ => ⟨rfl, rfl⟩) rfl ?_
  refine ev_aload_n (pc := 31) dX0_init_31 rfl rfl ?_
  refine ev_sipush (pc := 32) (v := 4000) dX0_init_32 (by decide) ?_
  refine ev_naI (pc := 35) (N := 4000) (q := 5) dX0_init_35 rfl (Nat.le_of_ble_eq_true rfl) rfl rfl ⟨Nat.le_of_ble_eq_true rfl, Nat.le_of_ble_eq_true rfl⟩ rfl rfl ?_
  refine ev_putF (pc := 37) dX0_init_37 fp_X0_22 rfl rfl (Nat.le_of_ble_eq_true rfl) (fun _ _ => ⟨rfl, rfl⟩) rfl ?_
  refine ev_aload_n (pc := 40) dX0_init_40 rfl rfl ?_
  refine ev_sipush (pc := 41) (v := 800) dX0_init_41 (by decide) ?_
  refine ev_naZ (pc := 44) (N := 800) (q := 6) dX0_init_44 rfl (Nat.le_of_ble_eq_true rfl) rfl rfl ⟨Nat.le_of_ble_eq_true rfl, Nat.le_of_ble_eq_true rfl⟩ rfl rfl ?_
  refine ev_putF (pc := 46) dX0_init_46 fp_X0_25 rfl rfl (Nat.le_of_ble_eq_true rfl) (fun _ _ => ⟨rfl, rfl⟩) rfl ?_
  refine ev_aload_n (pc := 49) dX0_init_49 rfl rfl ?_
  refine ev_sipush (pc := 50) (v := 800) dX0_init_50 (by decide) ?_
  refine ev_naZ (pc := 53) (N := 800) (q := 7) dX0_init_53 rfl (Nat.le_of_ble_eq_true rfl) rfl rfl ⟨Nat.le_of_ble_eq_true rfl, Nat.le_of_ble_eq_true rfl⟩ rfl rfl ?_
  refine ev_putF (pc := 55) dX0_init_55 fp_X0_28 rfl rfl (Nat.le_of_ble_eq_true rfl) (fun _ _ => ⟨rfl, rfl⟩) rfl ?_
  refine ev_aload_n (pc := 58) dX0_init_58 rfl rfl ?_
  refine ev_sipush (pc := 59) (v := 800) dX0_init_59 (by decide) ?_
  refine ev_naZ (pc := 62) (N := 800) (q := 8) dX0_init_62 rfl (Nat.le_of_ble_eq_true rfl) rfl rfl ⟨Nat.le_of_ble_eq_true rfl, Nat.le_of_ble_eq_true rfl⟩ rfl rfl ?_
  refine ev_putF (pc := 64) dX0_init_64 fp_X0_31 rfl rfl (Nat.le_of_ble_eq_true rfl) (fun _ _ => ⟨rfl, rfl⟩) rfl ?_
  refine ev_aload_n (pc := 67) dX0_init_67 rfl rfl ?_
  refine ev_sipush (pc := 68) (v := 800) dX0_init_68 (by decide) ?_
  refine ev_naI (pc := 71) (N := 800) (q := 9) dX0_init_71 rfl (Nat.le_of_ble_eq_true rfl) rfl rfl ⟨Nat.le_of_ble_eq_true rfl, Nat.le_of_ble_eq_true rfl⟩ rfl rfl ?_
  refine ev_putF (pc := 73) dX0_init_73 fp_X0_34 rfl rfl (Nat.le_of_ble_eq_true rfl) (fun _ _ => ⟨rfl, rfl⟩) rfl ?_
  exact ev_vretE (pc := 76) dX0_init_76 rfl ⟨Nat.le_of_ble_eq_true rfl, Nat.le_of_ble_eq_true rfl⟩ rfl
theorem s_X2_init {a0 a1 a2 a3 a4 a5 a6 a7 a8 a9 a10 a11 : mC} : EvS m_X2_init [.ref 12, .ref 1, .ref 11] [a0, a1, a2, a3, a4, a5, a6, a7, a8, a9, a10, a11, .inr (2, [.null, .null, .null, .null, .int 0])] (.inl none) [a0, a1, a2, a3, a4, a5, a6, a7, a8, a9, a10, a11, .inr (2, [.ref 1, .ref 11, .ref 13, .ref 14, .int 0]), .inl (0, 8, .inl (fun _ => 0)), .inl (0, 8, .inl (fun _ => 0))] := by
  refine evs_of (by decide +kernel) (Nat.le_of_ble_eq_true rfl) (by decide) rfl ?_
  refine ev_aload_n (pc := 0) dX2_init_0 rfl rfl ?_
  refine ev_objInit (pc := 1) dX2_init_1 ko_X2 ko_i ko_c (by decide) (by decide) ?_
  refine ev_aload_n (pc := 4) dX2_init_4 rfl rfl ?_
  refine ev_bipush (pc := 5) (v := 8) dX2_init_5 (by decide) ?_
  refine ev_naI (pc := 7) (N := 8) (q := 13) dX2_init_7 rfl (Nat.le_of_ble_eq_true rfl) rfl rfl ⟨Nat.le_of_ble_eq_true rfl, Nat.le_of_ble_eq_true rfl⟩ rfl rfl ?_
  refine ev_putF (pc := 9) dX2_init_9 fp_X2_9 rfl rfl (Nat.le_of_ble_eq_true rfl) (fun _ _ => ⟨rfl, rfl⟩) rfl ?_
  refine ev_aload_n (pc := 12) dX2_init_12 rfl rfl ?_
  refine ev_bipush (pc := 13) (v := 8) dX2_init_13 (by decide) ?_
  refine ev_naI (pc := 15) (N := 8) (q := 14) dX2_init_15 rfl (Nat.le_of_ble_eq_true rfl) rfl rfl ⟨Nat.le_of_ble_eq_true rfl, Nat.le_of_ble_eq_true rfl⟩ rfl rfl ?_
  refine ev_putF (pc := 17) dX2_init_17 fp_X2_15 rfl rfl (Nat.le_of_ble_eq_true rfl) (fun _ _ => ⟨rfl, rfl⟩) rfl ?_
  refine ev_aload_n (pc := 20) dX2_init_20 rfl rfl ?_
  refine ev_aload_n (pc := 21) dX2_init_21 rfl rfl ?_
  refine ev_putF (pc := 22) dX2_init_22 fp_X2_18 rfl rfl (Nat.le_of_ble_eq_true rfl) (fun _ _ => ⟨rfl, rfl⟩) rfl ?_
  refine ev_aload_n (pc := 25) dX2_init_25 rfl rfl ?_
  refine ev_aload_n (pc := 26) dX2_init_26 rfl rfl ?_
  refine ev_putF (pc := 27) dX2_init_27 fp_X2_22 rfl rfl (Nat.le_of_ble_eq_true rfl) (fun _ _ => ⟨rfl, rfl⟩) rfl ?_
  exact ev_vretE (pc := 30) dX2_init_30 rfl ⟨Nat.le_of_ble_eq_true rfl, Nat.le_of_ble_eq_true rfl⟩ rfl
theorem rsF_up : va_up (va_up (va_up (va_up (fun _ => none) 0 (some 16)) 1 (some 17)) 2 (some 18)) 3 (some 19) = rsF := by
  funext k
  match k with
  | 0 => rfl
  | 1 => rfl
  | 2 => rfl
  | 3 => rfl
  | k + 4 =>
    show va_up _ _ _ _ = none
    unfold va_up
    rw [if_neg (by omega), if_neg (by omega), if_neg (by omega), if_neg (by omega)]
abbrev z32 : Nat → Int32 := fun _ => 0
abbrev z64 : Nat → Int64 := fun _ => 0
abbrev cW0 : mW := cW 0 (0, 0, 0, 0) (0, 0, 0, 0) (0, 0, 0, 0) (0, 0, 0, 0) (0, 0, 0, 0) (0, 0, 0, 0) z64 0 z32 z32 z32 z32 (mkF z32 [0]) z32 z32 (fillL z32 [0]) z32 z32 []
theorem s_X3_init : EvS m_X3_init [.ref 0] [.inr (3, [.null, .null, .null, .null, .null, .null, .int 0])] (.inl none) cW0 := by
  have hR : Rp z32 z32 z32 z32 (fun _ => .inl []) (fun q => q = 0) := fun p hp => by
    subst hp
    exact ⟨by decide, rfl, Nat.zero_le _, rfl, fun e x hx => by simp at hx⟩
  have hf : rt (fun _ => .inl []) (fun q => q = 0) 0 0 := ⟨rfl, [], rfl, Nat.zero_le _⟩
  have eM := s_markK (sl := 0) (cu := (0, 0, 0, 0)) (ba := (0, 0, 0, 0)) (r0 := (0, 0, 0, 0)) (r1 := (0, 0, 0, 0)) (r2 := (0, 0, 0, 0)) (r3 := (0, 0, 0, 0)) (sw := z64) (bt := 0) (kp := z32) (wr := z32) (mk := z32) (ls := z32) (pth := z32) (tk := z32) (tl := []) hR hf (by decide)
  refine evs_of (by decide +kernel) (Nat.le_of_ble_eq_true rfl) (by decide) rfl ?_
  refine ev_aload_n (pc := 0) dX3_init_0 rfl rfl ?_
  refine ev_objInit (pc := 1) dX3_init_1 ko_X3 ko_i ko_c (by decide) (by decide) ?_
  refine ev_aload_n (pc := 4) dX3_init_4 rfl rfl ?_
  refine ev_newE (pc := 5) (ci := 0) (fs := [.null, .null, .null, .null, .null, .null, .null, .null]) (q := 1) dX3_init_5 rfl inX0 tyX0_ok kc_X3_9 kn_X0 kj_X0 (by decide) (fun _ _ => rfl) rfl rfl ⟨Nat.le_of_ble_eq_true rfl, Nat.le_of_ble_eq_true rfl⟩ rfl rfl ?_
  refine ev_dup (pc := 8) dX3_init_8 rfl ?_
  refine ev_callIN0 (pc := 9) (K := m_X0_init) dX3_init_9 (fun U h => h.2.2.1) km_X0_init kj_X0 ⟨by decide +kernel, by decide +kernel, by decide +kernel⟩ rfl ok_X0_init rfl rfl rfl rfl (fun n h => by cases h; rfl) rfl ⟨Nat.le_of_ble_eq_true rfl, Nat.le_of_ble_eq_true rfl⟩ (by decide) ⟨Nat.le_of_ble_eq_true rfl, Nat.le_of_ble_eq_true rfl⟩ s_X0_init ?_
  refine ev_putF (pc := 12) dX3_init_12 fp_X3_12 rfl rfl (Nat.le_of_ble_eq_true rfl) (fun _ _ => ⟨rfl, rfl⟩) rfl ?_
  refine ev_aload_n (pc := 15) dX3_init_15 rfl rfl ?_
  refine ev_newE (pc := 16) (ci := 1) (fs := [.int 0, .int 0, .int 0, .int 0]) (q := 10) dX3_init_16 rfl inX1 tyX1_ok kc_X3_16 kn_X1 kj_X1 (by decide) (fun _ _ => rfl) rfl rfl ⟨Nat.le_of_ble_eq_true rfl, Nat.le_of_ble_eq_true rfl⟩ rfl rfl ?_
  refine ev_dup (pc := 19) dX3_init_19 rfl ?_
  refine ev_callIN0 (pc := 20) (K := m_X1_init) dX3_init_20 (fun U h => h.2.2.2.1) km_X1_init kj_X1 ⟨by decide +kernel, by decide +kernel, by decide +kernel⟩ rfl ok_X1_init rfl rfl rfl rfl (fun n h => by cases h) rfl ⟨Nat.le_of_ble_eq_true rfl, Nat.le_of_ble_eq_true rfl⟩ (by decide) ⟨Nat.le_of_ble_eq_true rfl, Nat.le_of_ble_eq_true rfl⟩ s_X1_init ?_
  refine ev_putF (pc := 23) dX3_init_23 fp_X3_19 rfl rfl (Nat.le_of_ble_eq_true rfl) (fun _ _ => ⟨rfl, rfl⟩) rfl ?_
  refine ev_aload_n (pc := 26) dX3_init_26 rfl rfl ?_
  refine ev_newE (pc := 27) (ci := 1) (fs := [.int 0, .int 0, .int 0, .int 0]) (q := 11) dX3_init_27 rfl inX1 tyX1_ok kc_X3_16 kn_X1 kj_X1 (by decide) (fun _ _ => rfl) rfl rfl ⟨Nat.le_of_ble_eq_true rfl, Nat.le_of_ble_eq_true rfl⟩ rfl rfl ?_
  refine ev_dup (pc := 30) dX3_init_30 rfl ?_
  refine ev_callIN0 (pc := 31) (K := m_X1_init) dX3_init_31 (fun U h => h.2.2.2.1) km_X1_init kj_X1 ⟨by decide +kernel, by decide +kernel, by decide +kernel⟩ rfl ok_X1_init rfl rfl rfl rfl (fun n h => by cases h) rfl ⟨Nat.le_of_ble_eq_true rfl, Nat.le_of_ble_eq_true rfl⟩ (by decide) ⟨Nat.le_of_ble_eq_true rfl, Nat.le_of_ble_eq_true rfl⟩ s_X1_init ?_
  refine ev_putF (pc := 34) dX3_init_34 fp_X3_23 rfl rfl (Nat.le_of_ble_eq_true rfl) (fun _ _ => ⟨rfl, rfl⟩) rfl ?_
  refine ev_aload_n (pc := 37) dX3_init_37 rfl rfl ?_
  refine ev_newE (pc := 38) (ci := 2) (fs := [.null, .null, .null, .null, .int 0]) (q := 12) dX3_init_38 rfl inX2 tyX2_ok kc_X3_26 kn_X2 kj_X2 (by decide) (fun _ _ => rfl) rfl rfl ⟨Nat.le_of_ble_eq_true rfl, Nat.le_of_ble_eq_true rfl⟩ rfl rfl ?_
  refine ev_dup (pc := 41) dX3_init_41 rfl ?_
  refine ev_aload_n (pc := 42) dX3_init_42 rfl rfl ?_
  refine ev_get (pc := 43) dX3_init_43 fd_X3_12 rfl rfl ?_
  refine ev_aload_n (pc := 46) dX3_init_46 rfl rfl ?_
  refine ev_get (pc := 47) dX3_init_47 fd_X3_23 rfl rfl ?_
  refine ev_callI2 (pc := 50) (K := m_X2_init) dX3_init_50 ci_X3_28 ok_X2_init rfl rfl rfl rfl (fun n h => by cases h; rfl) rfl ⟨Nat.le_of_ble_eq_true rfl, Nat.le_of_ble_eq_true rfl⟩ (by decide) ⟨Nat.le_of_ble_eq_true rfl, Nat.le_of_ble_eq_true rfl⟩ s_X2_init ?_
  refine ev_putF (pc := 53) dX3_init_53 fp_X3_31 rfl rfl (Nat.le_of_ble_eq_true rfl) (fun _ _ => ⟨rfl, rfl⟩) rfl ?_
  refine ev_aload_n (pc := 56) dX3_init_56 rfl rfl ?_
  refine ev_iconst (pc := 57) (v := 4) dX3_init_57 (by decide) ?_
  refine ev_newqE (pc := 58) (N := 4) (q := 15) dX3_init_58 kc_X3_16 rfl (Nat.le_of_ble_eq_true rfl) rfl rfl ⟨Nat.le_of_ble_eq_true rfl, Nat.le_of_ble_eq_true rfl⟩ rfl rfl ?_
  refine ev_putF (pc := 61) dX3_init_61 fp_X3_35 rfl rfl (Nat.le_of_ble_eq_true rfl) (fun _ _ => ⟨rfl, rfl⟩) rfl ?_
  refine ev_iconst (pc := 64) (v := 0) dX3_init_64 (by decide) ?_
  refine ev_istore_n (pc := 65) dX3_init_65 rfl rfl rfl ?_
  refine ev_iload_n (pc := 66) dX3_init_66 rfl rfl ?_
  refine ev_iconst (pc := 67) (v := 4) dX3_init_67 (by decide) ?_
  refine ev_ic_ge (pc := 68) (tgt := 90) dX3_init_68 (by decide) (fun c_68 => absurd c_68 (by decide)) (fun _ => ?_)
  refine ev_aload_n (pc := 71) dX3_init_71 rfl rfl ?_
  refine ev_get (pc := 72) dX3_init_72 fd_X3_35 rfl rfl ?_
  refine ev_iload_n (pc := 75) dX3_init_75 rfl rfl ?_
  refine ev_newE (pc := 76) (ci := 1) (fs := [.int 0, .int 0, .int 0, .int 0]) (q := 16) dX3_init_76 rfl inX1 tyX1_ok kc_X3_16 kn_X1 kj_X1 (by decide) (fun _ _ => rfl) rfl rfl ⟨Nat.le_of_ble_eq_true rfl, Nat.le_of_ble_eq_true rfl⟩ rfl rfl ?_
  refine ev_dup (pc := 79) dX3_init_79 rfl ?_
  refine ev_callIN0 (pc := 80) (K := m_X1_init) dX3_init_80 (fun U h => h.2.2.2.1) km_X1_init kj_X1 ⟨by decide +kernel, by decide +kernel, by decide +kernel⟩ rfl ok_X1_init rfl rfl rfl rfl (fun n h => by cases h) rfl ⟨Nat.le_of_ble_eq_true rfl, Nat.le_of_ble_eq_true rfl⟩ (by decide) ⟨Nat.le_of_ble_eq_true rfl, Nat.le_of_ble_eq_true rfl⟩ s_X1_init ?_
  refine ev_aast (pc := 83) dX3_init_83 rfl (by unfold vp_in; decide) rfl rfl ?_
  refine ev_iinc (pc := 84) dX3_init_84 rfl rfl rfl ?_
  refine ev_goto (pc := 87) (tgt := 66) dX3_init_87 (by decide) ?_
  refine ev_iload_n (pc := 66) dX3_init_66 rfl rfl ?_
  refine ev_iconst (pc := 67) (v := 4) dX3_init_67 (by decide) ?_
  refine ev_ic_ge (pc := 68) (tgt := 90) dX3_init_68 (by decide) (fun c_68 => absurd c_68 (by decide)) (fun _ => ?_)
  refine ev_aload_n (pc := 71) dX3_init_71 rfl rfl ?_
  refine ev_get (pc := 72) dX3_init_72 fd_X3_35 rfl rfl ?_
  refine ev_iload_n (pc := 75) dX3_init_75 rfl rfl ?_
  refine ev_newE (pc := 76) (ci := 1) (fs := [.int 0, .int 0, .int 0, .int 0]) (q := 17) dX3_init_76 rfl inX1 tyX1_ok kc_X3_16 kn_X1 kj_X1 (by decide) (fun _ _ => rfl) rfl rfl ⟨Nat.le_of_ble_eq_true rfl, Nat.le_of_ble_eq_true rfl⟩ rfl rfl ?_
  refine ev_dup (pc := 79) dX3_init_79 rfl ?_
  refine ev_callIN0 (pc := 80) (K := m_X1_init) dX3_init_80 (fun U h => h.2.2.2.1) km_X1_init kj_X1 ⟨by decide +kernel, by decide +kernel, by decide +kernel⟩ rfl ok_X1_init rfl rfl rfl rfl (fun n h => by cases h) rfl ⟨Nat.le_of_ble_eq_true rfl, Nat.le_of_ble_eq_true rfl⟩ (by decide) ⟨Nat.le_of_ble_eq_true rfl, Nat.le_of_ble_eq_true rfl⟩ s_X1_init ?_
  refine ev_aast (pc := 83) dX3_init_83 rfl (by unfold vp_in; decide) rfl rfl ?_
  refine ev_iinc (pc := 84) dX3_init_84 rfl rfl rfl ?_
  refine ev_goto (pc := 87) (tgt := 66) dX3_init_87 (by decide) ?_
  refine ev_iload_n (pc := 66) dX3_init_66 rfl rfl ?_
  refine ev_iconst (pc := 67) (v := 4) dX3_init_67 (by decide) ?_
  refine ev_ic_ge (pc := 68) (tgt := 90) dX3_init_68 (by decide) (fun c_68 => absurd c_68 (by decide)) (fun _ => ?_)
  refine ev_aload_n (pc := 71) dX3_init_71 rfl rfl ?_
  refine ev_get (pc := 72) dX3_init_72 fd_X3_35 rfl rfl ?_
  refine ev_iload_n (pc := 75) dX3_init_75 rfl rfl ?_
  refine ev_newE (pc := 76) (ci := 1) (fs := [.int 0, .int 0, .int 0, .int 0]) (q := 18) dX3_init_76 rfl inX1 tyX1_ok kc_X3_16 kn_X1 kj_X1 (by decide) (fun _ _ => rfl) rfl rfl ⟨Nat.le_of_ble_eq_true rfl, Nat.le_of_ble_eq_true rfl⟩ rfl rfl ?_
  refine ev_dup (pc := 79) dX3_init_79 rfl ?_
  refine ev_callIN0 (pc := 80) (K := m_X1_init) dX3_init_80 (fun U h => h.2.2.2.1) km_X1_init kj_X1 ⟨by decide +kernel, by decide +kernel, by decide +kernel⟩ rfl ok_X1_init rfl rfl rfl rfl (fun n h => by cases h) rfl ⟨Nat.le_of_ble_eq_true rfl, Nat.le_of_ble_eq_true rfl⟩ (by decide) ⟨Nat.le_of_ble_eq_true rfl, Nat.le_of_ble_eq_true rfl⟩ s_X1_init ?_
  refine ev_aast (pc := 83) dX3_init_83 rfl (by unfold vp_in; decide) rfl rfl ?_
  refine ev_iinc (pc := 84) dX3_init_84 rfl rfl rfl ?_
  refine ev_goto (pc := 87) (tgt := 66) dX3_init_87 (by decide) ?_
  refine ev_iload_n (pc := 66) dX3_init_66 rfl rfl ?_
  refine ev_iconst (pc := 67) (v := 4) dX3_init_67 (by decide) ?_
  refine ev_ic_ge (pc := 68) (tgt := 90) dX3_init_68 (by decide) (fun c_68 => absurd c_68 (by decide)) (fun _ => ?_)
  refine ev_aload_n (pc := 71) dX3_init_71 rfl rfl ?_
  refine ev_get (pc := 72) dX3_init_72 fd_X3_35 rfl rfl ?_
  refine ev_iload_n (pc := 75) dX3_init_75 rfl rfl ?_
  refine ev_newE (pc := 76) (ci := 1) (fs := [.int 0, .int 0, .int 0, .int 0]) (q := 19) dX3_init_76 rfl inX1 tyX1_ok kc_X3_16 kn_X1 kj_X1 (by decide) (fun _ _ => rfl) rfl rfl ⟨Nat.le_of_ble_eq_true rfl, Nat.le_of_ble_eq_true rfl⟩ rfl rfl ?_
  refine ev_dup (pc := 79) dX3_init_79 rfl ?_
  refine ev_callIN0 (pc := 80) (K := m_X1_init) dX3_init_80 (fun U h => h.2.2.2.1) km_X1_init kj_X1 ⟨by decide +kernel, by decide +kernel, by decide +kernel⟩ rfl ok_X1_init rfl rfl rfl rfl (fun n h => by cases h) rfl ⟨Nat.le_of_ble_eq_true rfl, Nat.le_of_ble_eq_true rfl⟩ (by decide) ⟨Nat.le_of_ble_eq_true rfl, Nat.le_of_ble_eq_true rfl⟩ s_X1_init ?_
  refine ev_aast (pc := 83) dX3_init_83 rfl (by unfold vp_in; decide) rfl rfl ?_
  refine ev_iinc (pc := 84) dX3_init_84 rfl rfl rfl ?_
  refine ev_goto (pc := 87) (tgt := 66) dX3_init_87 (by decide) ?_
  refine ev_iload_n (pc := 66) dX3_init_66 rfl rfl ?_
  refine ev_iconst (pc := 67) (v := 4) dX3_init_67 (by decide) ?_
  refine ev_ic_ge (pc := 68) (tgt := 90) dX3_init_68 (by decide) (fun _ => ?_) (fun c_68 => absurd (by decide) c_68)
  refine ev_aload_n (pc := 90) dX3_init_90 rfl rfl ?_
  refine ev_bipush (pc := 91) (v := 8) dX3_init_91 (by decide) ?_
  refine ev_naL (pc := 93) (N := 8) (q := 20) dX3_init_93 rfl (Nat.le_of_ble_eq_true rfl) rfl rfl ⟨Nat.le_of_ble_eq_true rfl, Nat.le_of_ble_eq_true rfl⟩ rfl rfl ?_
  refine ev_putF (pc := 95) dX3_init_95 fp_X3_39 rfl rfl (Nat.le_of_ble_eq_true rfl) (fun _ _ => ⟨rfl, rfl⟩) rfl ?_
  refine ev_aload_n (pc := 98) dX3_init_98 rfl rfl ?_
  refine ev_iconst (pc := 99) (v := 0) dX3_init_99 (by decide) ?_
  refine ev_put (pc := 100) dX3_init_100 fp_X3_43 rfl (Nat.le_of_ble_eq_true rfl) (fun _ _ => ⟨rfl, rfl⟩) rfl ?_
  refine ev_wE (w2 := cW 0 (0, 0, 0, 0) (0, 0, 0, 0) (0, 0, 0, 0) (0, 0, 0, 0) (0, 0, 0, 0) (0, 0, 0, 0) z64 0 z32 z32 z32 z32 z32 z32 z32 z32 z32 z32 []) (congrArg (fun f : Nat → Option Nat => ([.inr (3, [.ref 1, .ref 10, .ref 11, .ref 12, .ref 15, .ref 20, .int 0]), .inr (0, [.ref 2, .ref 3, .ref 4, .ref 5, .ref 6, .ref 7, .ref 8, .ref 9]), .inl (0, 800, .inl (fun _ => 0)), .inl (1, 800, .inl (fun _ => 0)), .inl (0, 4000, .inl (fun _ => 0)), .inl (0, 4000, .inl (fun _ => 0)), .inl (1, 800, .inl (fun _ => 0)), .inl (1, 800, .inl (fun _ => 0)), .inl (1, 800, .inl (fun _ => 0)), .inl (0, 800, .inl (fun _ => 0)), .inr (1, [.int 0, .int 0, .int 0, .int 0]), .inr (1, [.int 0, .int 0, .int 0, .int 0]), .inr (2, [.ref 1, .ref 11, .ref 13, .ref 14, .int 0]), .inl (0, 8, .inl (fun _ => 0)), .inl (0, 8, .inl (fun _ => 0)), .inl (3, 4, .inr (.inr f)), .inr (1, [.int 0, .int 0, .int 0, .int 0]), .inr (1, [.int 0, .int 0, .int 0, .int 0]), .inr (1, [.int 0, .int 0, .int 0, .int 0]), .inr (1, [.int 0, .int 0, .int 0, .int 0]), .inl (2, 8, .inr (.inl (fun _ => 0)))] : mW)) rsF_up) ?_
  refine ev_aload_n (pc := 103) dX3_init_103 rfl rfl ?_
  refine ev_get (pc := 104) dX3_init_104 fd_X3_12 rfl rfl ?_
  refine ev_aload_n (pc := 107) dX3_init_107 rfl rfl ?_
  refine ev_get (pc := 108) dX3_init_108 fd_X3_12 rfl rfl ?_
  refine ev_get (pc := 111) dX3_init_111 fd_X3_47 rfl rfl ?_
  refine ev_aload_n (pc := 114) dX3_init_114 rfl rfl ?_
  refine ev_get (pc := 115) dX3_init_115 fd_X3_19 rfl rfl ?_
  refine ev_get (pc := 118) dX3_init_118 fd_X3_51 rfl rfl ?_
  refine cV2 (pc := 121) lk_X3_init_121 rfl rfl rfl (Nat.le_of_ble_eq_true rfl) ⟨Nat.le_of_ble_eq_true rfl, Nat.le_of_ble_eq_true rfl⟩ eM ?_
  exact ev_vretE (pc := 124) dX3_init_124 rfl ⟨Nat.le_of_ble_eq_true rfl, Nat.le_of_ble_eq_true rfl⟩ rfl
