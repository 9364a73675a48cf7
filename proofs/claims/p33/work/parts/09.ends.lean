/-! ENDS: returns, calls, throws, catches -/
section EN
variable {M : mM} {Qf : mQ} {pc : Nat} {L st : List Value} {kc ks : Nat} {w : mW}
theorem ev_vret (d : decode (mMc M) pc = .ok (.return_, 1)) (hr : mMr M = none) (hk : kc ≤ (mMR M).cells) (hs : ks ≤ (mMR M).slots) : EvF M (mQm M (.inl none) w) pc L [] kc ks w :=
  fun z b G cA p l e s m args below meth c H locs ls C hw hL => by
    have hlocks := C.2.2.2.2.2.2.1
    exact W.widen hk hs (vx_ret (W.vret C.1 C.2.1 (C.2.2.2.1.trans hr) (fun t ht hW => ⟨rfl, ⟨by rw [ht]; exact hw.1, hw.2.2⟩, hw.2.1.F ht⟩) hw.2.1.2.2 d))
theorem ev_iret {v : Int32} (d : decode (mMc M) pc = .ok (.ireturn, 1)) (hr : mMr M = some .int) (hk : kc ≤ (mMR M).cells) (hs : ks ≤ (mMR M).slots) : EvF M (mQm M (.inl (some (.int v))) w) pc L [.int v] kc ks w :=
  fun z b G cA p l e s m args below meth c H locs ls C hw hL => by
    have hlocks := C.2.2.2.2.2.2.1
    exact W.widen hk hs (vx_ret (W.iret C.1 C.2.1 (C.2.2.2.1.trans hr) (fun t ht hW => ⟨rfl, ⟨by rw [ht]; exact hw.1, hw.2.2⟩, hw.2.1.F ht⟩) hw.2.1.2.2 d))
theorem ev_zret {v : Int32} (d : decode (mMc M) pc = .ok (.ireturn, 1)) (hr : mMr M = some .boolean) (hv : v &&& 1 = v) (hk : kc ≤ (mMR M).cells) (hs : ks ≤ (mMR M).slots) : EvF M (mQm M (.inl (some (.int v))) w) pc L [.int v] kc ks w :=
  fun z b G cA p l e s m args below meth c H locs ls C hw hL => by
    have hlocks := C.2.2.2.2.2.2.1
    exact W.widen hk hs (vx_ret (W.zret (ty := .boolean) C.1 C.2.1 (C.2.2.2.1.trans hr) (by show Value.int (v &&& 1) = .int v; rw [hv]) (fun t ht hW => ⟨rfl, ⟨by rw [ht]; exact hw.1, hw.2.2⟩, hw.2.1.F ht⟩) hw.2.1.2.2 d))
theorem ev_lret {v : Int64} (d : decode (mMc M) pc = .ok (.lreturn, 1)) (hr : mMr M = some .long) (hk : kc ≤ (mMR M).cells) (hs : ks ≤ (mMR M).slots) : EvF M (mQm M (.inl (some (.long v))) w) pc L [.long v] kc ks w :=
  fun z b G cA p l e s m args below meth c H locs ls C hw hL => by
    have hlocks := C.2.2.2.2.2.2.1
    exact W.widen hk hs (vx_ret (W.lret C.1 C.2.1 (C.2.2.2.1.trans hr) (fun t ht hW => ⟨rfl, ⟨by rw [ht]; exact hw.1, hw.2.2⟩, hw.2.1.F ht⟩) hw.2.1.2.2 d))
theorem ev_aret {a : Nat} {Cn : String} (d : decode (mMc M) pc = .ok (.areturn, 1)) (hr : mMr M = some (.object Cn)) (hk : kc ≤ (mMR M).cells) (hs : ks ≤ (mMR M).slots) : EvF M (mQm M (.inl (some (.ref a))) w) pc L [.ref a] kc ks w :=
  fun z b G cA p l e s m args below meth c H locs ls C hw hL => by
    have hlocks := C.2.2.2.2.2.2.1
    exact W.widen hk hs (vx_ret (W.aret C.1 C.2.1 (C.2.2.2.1.trans hr) (Or.inl ⟨Cn, rfl⟩) (Or.inr ⟨z.2 a, rfl⟩) (fun t ht hW => ⟨rfl, ⟨by rw [ht]; exact hw.1, hw.2.2⟩, hw.2.1.F ht⟩) hw.2.1.2.2 d))
/-- Object.<init> -/
theorem ev_objInit {idx a : Nat} (d : decode (mMc M) pc = .ok (.invokespecial idx, 3)) (h1 : Jvm.Cond.methodLink (mMy M).cls idx objectInit ∈ WA) (h2 : Jvm.Cond.instanceMethod objectInit ∈ WA) (h3 : Jvm.Cond.code objectInit ⟨#[0xb1]⟩ 1 none ∈ WA) (hf : 1 ≤ (mMR M).frames) (hlo : (st.map fun v => v.category).sum + 12 ≤ (mMR M).locals) (k : EvF M Qf (pc + 3) L st kc ks w) : EvF M Qf pc L (.ref a :: st) kc ks w :=
  fun z b G cA p l e s m args below meth c H locs ls C hw hL => by
    refine W.objInit C.1 C.2.1 C.2.2.2.2.1 (C.2.2.2.2.2.1 _ h1) (C.2.2.2.2.2.1 _ h2) (C.2.2.2.2.2.1 _ h3) rfl (hL.1.trans C.2.2.1.symm) rfl d hf ?_ (k z b G cA p l e s m args below meth c H locs ls C hw hL)
    show 2 * 0 + _ + 12 ≤ _
    rw [mV_sum]
    omega
/-! calls: the tables' words -/
def mCv (own : String) (idx : Nat) (y : MethodName) (na : Nat) : Prop := Jvm.Cond.methodLink own idx y ∈ WA ∧ Jvm.Cond.instanceMethod y ∈ WA ∧ Jvm.Cond.selects y.cls y y ∈ WA ∧ Jvm.Cond.initialized y.cls ∈ WA ∧ y.cls ≠ "java/lang/invoke/MethodHandle" ∧ y.cls ≠ "java/lang/invoke/VarHandle" ∧ (parseMethodDescriptor y.desc).map (fun d => d.parameters.length) = some na
def mCs (own : String) (idx : Nat) (y : MethodName) (na : Nat) : Prop := Jvm.Cond.methodLink own idx y ∈ WA ∧ Jvm.Cond.static y ∈ WA ∧ Jvm.Cond.initialized y.cls ∈ WA ∧ y.cls ≠ "java/lang/invoke/MethodHandle" ∧ y.cls ≠ "java/lang/invoke/VarHandle" ∧ (parseMethodDescriptor y.desc).map (fun d => d.parameters.length) = some na
def mCi (own : String) (idx : Nat) (y : MethodName) (na : Nat) : Prop := Jvm.Cond.methodLink own idx y ∈ WA ∧ Jvm.Cond.instanceMethod y ∈ WA ∧ Jvm.Cond.initialized y.cls ∈ WA ∧ y.cls ≠ "java/lang/invoke/MethodHandle" ∧ y.cls ≠ "java/lang/invoke/VarHandle" ∧ (parseMethodDescriptor y.desc).map (fun d => d.parameters.length) = some na ∧ y.name = "<init>"
/-- the callee's own words: its code is among the tables' -/
abbrev mOk (K : mM) : Prop := mHd K ∈ WA
/-- the callee's room fits in the caller's -/
abbrev mFit (M K : mM) : Prop := (mMR K).frames + 1 ≤ (mMR M).frames ∧ 8 + (mMn K + 11) + (mMR K).locals ≤ (mMR M).locals
theorem wa_ws {K : mM} (hk : mOk K) : GoodIn WA (mWs K) := fun x hx => by
  rcases List.mem_cons.mp hx with h | h
  · rw [h]; exact ⟨hk, good_of_word (wa_good hk)⟩
  · exact ⟨h, good_of_word (wa_good h)⟩
theorem mB_blind {K : mM} {z : mZ} {b : Nat} {G : va_G} {cA : Nat → ClassId} {As : List Value} {w : mW} : FrameBlind (mPc K z b G cA As w) := fun a U g mk h => by
  obtain ⟨h0, hP, hK, hX, h1, h2, h3, h4, h5, h6⟩ := h
  exact ⟨h0, hP, va_K.moved (u := U) (U := U.calling g mk a) (Vm.Alike.refl U.vm) hK, mXF.warm (s := U) (U := U.calling g mk a) (State.WarmedH.refl U) hX, vx_Zq.moved (u := U) (U := U.calling g mk a) (Vm.Alike.refl U.vm) h1, vx_Zq.moved (u := U) (U := U.calling g mk a) (Vm.Alike.refl U.vm) h2, h3, h4, h5, fun Ls xs q => ⟨va_X.moved (u := U) (U := U.calling g mk a) (Vm.Alike.refl U.vm) (h6 Ls xs q).1, (h6 Ls xs q).2⟩⟩
theorem mB_at {M K : mM} {z : mZ} {b : Nat} {G : va_G} {cA : Nat → ClassId} {p : Program} {l : Launch} {s : State} {m : MethodId} {args : Array Value} {meth : Method} {c : Code} {H : Heap} {locs : List Loc} {w : mW} (C : mCX M z b G cA p l s m args meth c) (hw : mWR z b G cA w s H locs) (hms : mMs K = none ∨ mMs K = mMs M) (hn : ∀ n0 : Nat, mMz K = some n0 → H.size = z.1 + n0 ∧ z.2 = fun k => z.1 + k) :
    ∀ U : State, U.heap = H → s.WarmedH U.vm → mB K z b G cA w U := fun U hU hW =>
  ⟨by rw [hU]; exact hw.1, va_K.moved hW.alike C.2.2.2.2.2.2.2.2.2.1, mXF.warm hW C.2.2.2.2.2.2.2.2.2.2.1, vx_Zq.moved hW.alike (by rw [hU]; exact C.2.2.2.2.2.2.2.2.2.2.2.2.1.kept hw.2.1.2.1), vx_Zq.moved hW.alike (by rw [hU]; exact C.2.2.2.2.2.2.2.2.2.2.2.2.2.1.kept hw.2.1.2.1), by rw [hU]; exact Nat.le_trans C.2.2.2.2.2.2.2.2.2.2.2.2.2.2.1 hw.2.1.1, fun n0 h => by rw [hU]; exact hn n0 h, hw.2.2, fun Ls xs q => by
    rcases hms with h | h
    · rw [h] at q; cases q
    · rw [h] at q
      obtain ⟨h1, h2, h3⟩ := C.2.2.2.2.2.2.2.2.2.2.2.2.2.2.2.2 Ls xs q
      rw [hU]
      exact ⟨va_X.moved hW.alike (h1.kept (hw.2.1.2.1 b h2 (Nat.not_le.mpr h3))), Nat.lt_of_lt_of_le h2 hw.2.1.1, h3⟩⟩
section RunEnds
variable {p : Program} {l : Launch} {e : Env} {R : Room} {s : State} {m : MethodId} {args : Array Value} {below : List Frame} {meth : Method} {c : Code} {H : Heap} {locs : List Loc} {Q : State → Prop} {z : mZ} {b : Nat} {G : va_G} {cA : Nat → ClassId} {ls : Array Slot} {st0 rest : List Value} {mc ms : Nat} {a : Array Value} {w1 : mW}
theorem run_keep {st₀ t T' : State} {Lc : List Loc} (h0 : st₀.heap = H) (e1 : T'.heap = t.heap) (hS : va_S (fun q => z.1 ≤ q) s.heap H locs) (hL : ∀ q ∈ Lc, z.1 ≤ q.base) (hF : va_F (fun q => z.1 ≤ q) st₀ t) : va_S (fun q => z.1 ≤ q) s.heap T'.heap (locs ++ Lc) :=
  (vx_keep (A1 := fun q => z.1 ≤ q) (free := fun q => z.1 ≤ q) h0 e1 hS (fun _ _ h => h) (fun _ h => h) hL hF).2.2
theorem run_ret {v : Option Value} (hr : vx_Run p l e R s m args below meth c H locs kc ks mc ms (F0 m pc ls st0) rest (mQr z b G cA (.inl v) w1 a) (mXr z b G cA (.inl v) w1) (fun q => z.1 ≤ q)) (hw : mWR z b G cA w s H locs)
    (kk : ∀ (H1 : Heap) (locs1 : List Loc), mWR z b G cA w1 s H1 locs1 → W p l e R s m args below meth c H1 locs1 (kc + mc) (ks + ms) Q (F0 m (pc + 3) ls ((v.map (mV z b)).toList ++ rest))) : W p l e R s m args below meth c H locs kc ks Q (F0 m pc ls st0) := by
  intro T hT X
  rcases hr T hT X with ⟨v', st₀, t, T', Lc, h0, X', hL, e1, e2, ⟨hv, hp, hF⟩, go⟩ | ⟨q, st₀, t, T', Lc, E, ce, h0, X', hL, e1, e2, hx, -⟩
  · cases hv
    obtain ⟨t2, a1, b1⟩ := kk T'.heap (locs ++ Lc) ⟨by rw [e1]; exact hp.1, run_keep h0 e1 hw.2.1 hL hF, hp.2⟩ T' rfl X'
    exact ⟨t2, go t2 a1, b1⟩
  · exact absurd hx id
theorem run_thr {E' : String} (hr : vx_Run p l e R s m args below meth c H locs kc ks mc ms (F0 m pc ls st0) rest (mQr z b G cA (.inr E') w1 a) (mXr z b G cA (.inr E') w1) (fun q => z.1 ≤ q)) (hw : mWR z b G cA w s H locs)
    (kk : ∀ (H1 : Heap) (locs1 : List Loc) (ce : Cell) (q9 : Addr), mWR z b G cA w1 s H1 locs1 → H1[q9]? = some ce → ce.vm = .none → s.vm.findClass E' = some ce.cls → vx_W p l e R s m args below meth c H1 locs1 (kc + mc) (ks + ms) Q (F0 m pc ls rest) q9) : W p l e R s m args below meth c H locs kc ks Q (F0 m pc ls st0) := by
  intro T hT X
  rcases hr T hT X with ⟨v', st₀, t, T', Lc, h0, X', hL, e1, e2, hq, -⟩ | ⟨q, st₀, t, T', Lc, E, ce, h0, X', hL, e1, e2, ⟨hE, hp, hF⟩, hce, hcv, hcl, go⟩
  · exact absurd hq id
  · subst hE
    obtain ⟨t2, a1, b1⟩ := kk T'.heap (locs ++ Lc) ce q ⟨by rw [e1]; exact hp.1, run_keep h0 e1 hw.2.1 hL hF, hp.2⟩ (by rw [e1]; exact hce) hcv hcl T' rfl X'
    exact ⟨t2, go.trans a1, b1⟩
end RunEnds
/-- the receiver lies in the world -/
theorem ev_recv {z : mZ} {b : Nat} {G : va_G} {cA : Nat → ClassId} {p : Program} {l : Launch} {s : State} {m : MethodId} {args : Array Value} {meth : Method} {c : Code} {H : Heap} {locs : List Loc} {q ci : Nat} {fs : List Value} {r : vw_C} (C : mCX M z b G cA p l s m args meth c) (hw : mWR z b G cA w s H locs) (he : w[q]? = some (.inr (ci, fs))) (hc : vwCl[ci]? = some r) : ∃ cell : Cell, H[z.2 q]? = some cell ∧ cell.vm.isStatics = false ∧ s.vm.findClass r.1 = some cell.cls :=
  va_recv C.2.2.2.2.2.2.2.2.2.1 hw.1 hc (mR_get he)
abbrev mRun (K : mM) (res : Option Value ⊕ String) (w1 : mW) (L : List Value) (rest : List Value) (kc ks : Nat) (M : mM) (pc : Nat) (w : mW) (stk : List Value) (aa : mZ → Nat → Array Value) : Prop :=
  ∀ (z : mZ) (b : Nat) (G : va_G) (cA : Nat → ClassId) (p : Program) (l : Launch) (e : Env) (s : State) (m : MethodId) (args : Array Value) (below : List Frame) (meth : Method) (c : Code) (H : Heap) (locs : List Loc) (ls : Array Slot),
    mCX M z b G cA p l s m args meth c → mWR z b G cA w s H locs → mLs z b (mMn M) ls L → vx_Run p l e (mMR M) s m args below meth c H locs kc ks (mMR K).cells (mMR K).slots (F0 m pc ls (stk.map (mV z b))) (rest.map (mV z b)) (mQr z b G cA res w1 (aa z b)) (mXr z b G cA res w1) (fun q => z.1 ≤ q)
theorem mRunV {K : mM} {idx q ci na : Nat} {As rest : List Value} {res : Option Value ⊕ String} {w1 : mW} {fs : List Value} {r : vw_C} (d : decode (mMc M) pc = .ok (.invokevirtual idx, 3)) (hC : mCv (mMy M).cls idx (mMy K) na) (hO : mOk K) (hh : mMh K = []) (hz : mMz K = none) (hms : mMs K = none ∨ mMs K = mMs M) (hF : mFit M K) (he : w[q]? = some (.inr (ci, fs))) (hc : vwCl[ci]? = some r) (hrc : r.1 = (mMy K).cls) (hna : As.length = na) (hst : (rest.map fun v => v.category).sum ≤ 8) (hR : kc + (mMR K).cells ≤ (mMR M).cells ∧ ks + (mMR K).slots ≤ (mMR M).slots) (hS : EvS K (.ref q :: As) w res w1) :
    mRun K res w1 L rest kc ks M pc w (As.reverse ++ .ref q :: rest) (fun z b => (Value.ref (z.2 q) :: As.map (mV z b)).toArray) := by
  intro z b G cA p l e s m args below meth c H locs ls C hw hL
  obtain ⟨c1, c2, c3, c4, c5, c6, c7⟩ := hC
  have hts := C.2.2.2.2.2.1
  have hGd : GoodIn WA (wsV (mMy M).cls idx (mMy K).cls (mMy K) (mWs K)) := fun x hx => by
    rcases List.mem_append.mp hx with h | h
    · simp only [List.mem_cons, List.not_mem_nil, or_false] at h
      rcases h with h | h | h | h <;> rw [h]
      · exact ⟨c1, good_of_word (wa_good c1)⟩
      · exact ⟨c2, good_of_word (wa_good c2)⟩
      · exact ⟨c3, good_of_word (wa_good c3)⟩
      · exact ⟨c4, good_of_word (wa_good c4)⟩
    · exact wa_ws hO x h
  have hhd : mHd K = .code (mMy K) (mMc K) (mMn K) (mMr K) := by unfold mHd; rw [hh]
  have hrv := ev_recv C hw he hc
  rw [hrc] at hrv
  have h9 := vx_runV (As := As.map (mV z b)) (rest := rest.map (mV z b)) (g := F0 m pc ls ((As.reverse ++ .ref q :: rest).map (mV z b))) (cells := kc) (slots := ks) (locs := locs) (below := below) (meth := meth) (e := e) (R := mMR M) (bytes := mMc K) (maxL := mMn K) (ret := mMr K)
    (Ts := WA) ⟨C.1, C.2.1, C.2.2.1, C.2.2.2.2.1, hts⟩ (hS l z b G cA C.2.2.2.2.2.2.2.2.2.2.2.1) (cwV na hts hGd (by show mHd K :: WA = _; rw [hhd]) rfl rfl ⟨rfl, c5, c6, c7⟩ hF)
    (b := z.2 q) ⟨mB_blind, hrv, fun U hU hW => ⟨rfl, mB_at C hw hms (fun n0 h => by rw [hz] at h; cases h) U hU hW⟩⟩ rfl (by rw [List.length_map]; exact hna) hL.1 (by simp [List.map_append, List.map_reverse, mV]) (lv_room (by rw [mV_sum]; exact hst)) d hR
  exact h9
theorem mRunS {K : mM} {idx na : Nat} {As rest : List Value} {res : Option Value ⊕ String} {w1 : mW} (d : decode (mMc M) pc = .ok (.invokestatic idx, 3)) (hC : mCs (mMy M).cls idx (mMy K) na) (hO : mOk K) (hh : mMh K = []) (hz : mMz K = none) (hms : mMs K = none ∨ mMs K = mMs M) (hF : mFit M K) (hna : As.length = na) (hst : (rest.map fun v => v.category).sum ≤ 8) (hR : kc + (mMR K).cells ≤ (mMR M).cells ∧ ks + (mMR K).slots ≤ (mMR M).slots) (hS : EvS K As w res w1) :
    mRun K res w1 L rest kc ks M pc w (As.reverse ++ rest) (fun z b => (As.map (mV z b)).toArray) := by
  intro z b G cA p l e s m args below meth c H locs ls C hw hL
  obtain ⟨c1, c2, c4, c5, c6, c7⟩ := hC
  have hts := C.2.2.2.2.2.1
  have hGd : GoodIn WA (va_wsS (mMy M).cls idx (mMy K) (mWs K)) := fun x hx => by
    rcases List.mem_append.mp hx with h | h
    · simp only [List.mem_cons, List.not_mem_nil, or_false] at h
      rcases h with h | h | h <;> rw [h]
      · exact ⟨c1, good_of_word (wa_good c1)⟩
      · exact ⟨c2, good_of_word (wa_good c2)⟩
      · exact ⟨c4, good_of_word (wa_good c4)⟩
    · exact wa_ws hO x h
  have hhd : mHd K = .code (mMy K) (mMc K) (mMn K) (mMr K) := by unfold mHd; rw [hh]
  have h9 := vx_runS (As := As.map (mV z b)) (rest := rest.map (mV z b)) (g := F0 m pc ls ((As.reverse ++ rest).map (mV z b))) (cells := kc) (slots := ks) (locs := locs) (below := below) (meth := meth) (e := e) (R := mMR M) (bytes := mMc K) (maxL := mMn K) (ret := mMr K)
    (Ts := WA) ⟨C.1, C.2.1, C.2.2.1, C.2.2.2.2.1, hts⟩ (hS l z b G cA C.2.2.2.2.2.2.2.2.2.2.2.1) (va_cwS na hts hGd (by show mHd K :: WA = _; rw [hhd]) rfl rfl ⟨c5, c6, c7⟩ hF)
    ⟨mB_blind, fun U hU hW => ⟨rfl, mB_at C hw hms (fun n0 h => by rw [hz] at h; cases h) U hU hW⟩⟩ rfl (by rw [List.length_map]; exact hna) hL.1 (by simp [List.map_append, List.map_reverse]) (lv_room (by rw [mV_sum]; exact hst)) d hR
  exact h9
/-- a static method with handlers -/
theorem mRunSX {K : mM} {idx na : Nat} {As rest : List Value} {res : Option Value ⊕ String} {w1 : mW} {h0 : Nat × Nat × Nat × Nat} {hs0 : List (Nat × Nat × Nat × Nat)} (d : decode (mMc M) pc = .ok (.invokestatic idx, 3)) (hC : mCs (mMy M).cls idx (mMy K) na) (hO : mOk K) (hh : mMh K = h0 :: hs0) (hz : mMz K = none) (hms : mMs K = none ∨ mMs K = mMs M) (hF : mFit M K) (hna : As.length = na) (hst : (rest.map fun v => v.category).sum ≤ 8) (hR : kc + (mMR K).cells ≤ (mMR M).cells ∧ ks + (mMR K).slots ≤ (mMR M).slots) (hS : EvS K As w res w1) :
    mRun K res w1 L rest kc ks M pc w (As.reverse ++ rest) (fun z b => (As.map (mV z b)).toArray) := by
  intro z b G cA p l e s m args below meth c H locs ls C hw hL
  obtain ⟨c1, c2, c4, c5, c6, c7⟩ := hC
  have hts := C.2.2.2.2.2.1
  have hGd : GoodIn WA (va_wsS (mMy M).cls idx (mMy K) (mWs K)) := fun x hx => by
    rcases List.mem_append.mp hx with h | h
    · simp only [List.mem_cons, List.not_mem_nil, or_false] at h
      rcases h with h | h | h <;> rw [h]
      · exact ⟨c1, good_of_word (wa_good c1)⟩
      · exact ⟨c2, good_of_word (wa_good c2)⟩
      · exact ⟨c4, good_of_word (wa_good c4)⟩
    · exact wa_ws hO x h
  have hhd : mHd K = .codeWith (mMy K) (mMc K) (mMn K) (mMr K) (h0 :: hs0) := by unfold mHd; rw [hh]
  have h9 := vx_runSX (As := As.map (mV z b)) (rest := rest.map (mV z b)) (g := F0 m pc ls ((As.reverse ++ rest).map (mV z b))) (cells := kc) (slots := ks) (locs := locs) (below := below) (meth := meth) (e := e) (R := mMR M) (bytes := mMc K) (maxL := mMn K) (ret := mMr K)
    (Ts := WA) ⟨C.1, C.2.1, C.2.2.1, C.2.2.2.2.1, hts⟩ (hS l z b G cA C.2.2.2.2.2.2.2.2.2.2.2.1) (vx_cwSW na hts hGd (by show mHd K :: WA = _; rw [hhd]) rfl rfl ⟨c5, c6, c7⟩ hF)
    ⟨mB_blind, fun U hU hW => ⟨rfl, mB_at C hw hms (fun n0 h => by rw [hz] at h; cases h) U hU hW⟩⟩ rfl (by rw [List.length_map]; exact hna) hL.1 (by simp [List.map_append, List.map_reverse]) (lv_room (by rw [mV_sum]; exact hst)) d hR
  exact h9
/-- the call returns -/
theorem ev_call {K : mM} {v : Option Value} {w1 : mW} {rest stk : List Value} {aa : mZ → Nat → Array Value} (hr : mRun K (.inl v) w1 L rest kc ks M pc w stk aa) (k : EvF M Qf (pc + 3) L (v.toList ++ rest) (kc + (mMR K).cells) (ks + (mMR K).slots) w1) : EvF M Qf pc L stk kc ks w := by
  intro z b G cA p l e s m args below meth c H locs ls C hw hL
  refine run_ret (hr z b G cA p l e s m args below meth c H locs ls C hw hL) hw (fun H1 locs1 hw1 => ?_)
  have h9 := k z b G cA p l e s m args below meth c H1 locs1 ls C hw1 hL
  have e9 : (v.toList ++ rest).map (mV z b) = (v.map (mV z b)).toList ++ rest.map (mV z b) := by cases v <;> rfl
  rw [e9] at h9
  exact h9
/-- the call throws, and no handler is here -/
theorem ev_callT {K : mM} {E : String} {w1 : mW} {rest stk : List Value} {aa : mZ → Nat → Array Value} (hr : mRun K (.inr E) w1 L rest kc ks M pc w stk aa) (hh : mMh M = []) (hR : kc + (mMR K).cells ≤ (mMR M).cells ∧ ks + (mMR K).slots ≤ (mMR M).slots) : EvF M (mQm M (.inr E) w1) pc L stk kc ks w := by
  intro z b G cA p l e s m args below meth c H locs ls C hw hL
  refine run_thr (hr z b G cA p l e s m args below meth c H locs ls C hw hL) hw (fun H1 locs1 ce q9 hw1 hce hcv hcl => ?_)
  refine vx_out (fun x hx => ?_) C.2.2.2.2.2.2.1 hce hcv hcl (fun t ht hA => ⟨rfl, ⟨by rw [ht]; exact hw1.1, hw1.2.2⟩, hw1.2.1.F ht⟩) hw1.2.1.2.2 hR.1 hR.2
  rw [C.2.2.2.2.2.2.2.1, hh] at hx
  cases hx
end EN
