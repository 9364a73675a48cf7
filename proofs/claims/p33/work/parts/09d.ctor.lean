/-! calls of constructors -/
section CI
variable {M : mM} {Qf : mQ} {pc : Nat} {L st : List Value} {kc ks : Nat} {w : mW}
theorem met_of {K : mM} {As : List Value} {v : Option Value} {w1 : mW} (hS : EvS K As w (.inl v) w1) {l : Launch} (z : mZ) (b : Nat) (G : va_G) (cA : Nat → ClassId) (hl : l.stackTraces = false) : Met l (mMy K) (mWs K) (mMR K) (mPc K z b G cA As w) (mQr z b G cA (.inl v) w1) (mMR K).cells (mMR K).slots (fun q => z.1 ≤ q) := by
  have h := hS l z b G cA hl
  intro p e ha hc hk s m args below hf happ hP hKK
  obtain ⟨n, o, h1, h2, h3, hQ⟩ := h p e ha hc hk s m args below hf happ hP hKK
  refine ⟨n, o, h1, h2, h3, ?_⟩
  rcases hQ with hq | ⟨q, -, E, ce, Lc, hx, -⟩
  · exact hq
  · exact absurd hx id
/-- the heap's size, where the method counts its cells -/
theorem mR_size {z : mZ} {b : Nat} {G : va_G} {cA : Nat → ClassId} {p : Program} {l : Launch} {e : Env} {s : State} {m : MethodId} {args : Array Value} {below : List Frame} {meth : Method} {c : Code} {H : Heap} {locs : List Loc} {T : State} {n0 : Nat} (C : mCX M z b G cA p l s m args meth c) (hw : mWR z b G cA w s H locs) (hT : T.heap = H) (X : Stand p l e (mMR M) s m args below meth c T locs kc ks) (hz : mMz M = some n0) (hn : w.length = n0 + kc) : (H.size = z.1 + w.length ∧ z.2 = fun k => z.1 + k) := by
  have hsz := X.same.2.2.1
  obtain ⟨hs0, hz2⟩ := C.2.2.2.2.2.2.2.2.2.2.2.2.2.2.2.1 n0 hz
  have hU1 : (T.setVm s.vm).heap.size = H.size := by rw [← hT]; rfl
  rw [hU1, hs0] at hsz
  have h0 := Nat.le_trans C.2.2.2.2.2.2.2.2.2.2.2.2.2.2.1 hw.2.1.1
  have h9 := hw.1
  obtain ⟨z0, zf⟩ := z
  dsimp only at hs0 hz2 h0 hsz ⊢
  subst hz2
  have h1 := mR_low h9 h0
  exact ⟨by omega, rfl⟩
theorem run_ret9 {K : mM} {v : Option Value} {w1 : mW} {p : Program} {l : Launch} {e : Env} {R : Room} {s : State} {m : MethodId} {args : Array Value} {below : List Frame} {meth : Method} {c : Code} {H : Heap} {locs : List Loc} {Q : State → Prop} {z : mZ} {b : Nat} {G : va_G} {cA : Nat → ClassId} {ls : Array Slot} {st0 rest : List Value} {a : Array Value} {T : State} (hT : T.heap = H) (X : Stand p l e R s m args below meth c T locs kc ks)
    (hr : va_Run p l e R s m args below meth c H locs kc ks (mMR K).cells (mMR K).slots (F0 m pc ls st0) rest (mQr z b G cA (.inl v) w1 a) (fun q => z.1 ≤ q)) (hw : mWR z b G cA w s H locs)
    (kk : ∀ (H1 : Heap) (locs1 : List Loc), mWR z b G cA w1 s H1 locs1 → W p l e R s m args below meth c H1 locs1 (kc + (mMR K).cells) (ks + (mMR K).slots) Q (F0 m (pc + 3) ls ((v.map (mV z b)).toList ++ rest))) : ∃ t, Steps p.tables e below (T.setTop (F0 m pc ls st0)) t ∧ Q t := by
  obtain ⟨v', st₀, t, T', Lc, h0, X', hL, e1, e2, ⟨hv, hp, hF⟩, go⟩ := hr T hT X
  cases hv
  obtain ⟨t2, a1, b1⟩ := kk T'.heap (locs ++ Lc) ⟨by rw [e1]; exact hp.1, run_keep h0 e1 hw.2.1 hL hF, hp.2⟩ T' rfl X'
  exact ⟨t2, go t2 a1, b1⟩
theorem ev_callI {K : mM} {idx q na n0 : Nat} {As rest : List Value} {w1 : mW} (d : decode (mMc M) pc = .ok (.invokespecial idx, 3)) (hC : mCi (mMy M).cls idx (mMy K) na) (hO : mOk K) (hh : mMh K = []) (hre : mMr K = none) (hzM : mMz M = some n0) (hn : w.length = n0 + kc) (hz : ∀ n, mMz K = some n → n = w.length) (hms : mMs K = none) (hF : mFit M K) (hna : As.length = na) (hst : (rest.map fun v => v.category).sum ≤ 8) (hR : kc + (mMR K).cells ≤ (mMR M).cells ∧ ks + (mMR K).slots ≤ (mMR M).slots) (hS : EvS K (.ref q :: As) w (.inl none) w1)
    (k : EvF M Qf (pc + 3) L rest (kc + (mMR K).cells) (ks + (mMR K).slots) w1) : EvF M Qf pc L (As.reverse ++ .ref q :: rest) kc ks w := by
  intro z b G cA p l e s m args below meth c H locs ls C hw hL
  intro T hT X
  have hsz := mR_size C hw hT X hzM hn
  obtain ⟨c1, c2, c4, c5, c6, c7, c8⟩ := hC
  have hts := C.2.2.2.2.2.1
  have hhd : mHd K = .code (mMy K) (mMc K) (mMn K) none := by unfold mHd; rw [hh, hre]
  refine run_ret9 (K := K) (v := none) (a := (Value.ref (z.2 q) :: As.map (mV z b)).toArray) (rest := rest.map (mV z b)) hT X ?_ hw (fun H1 locs1 hw1 => k z b G cA p l e s m args below meth c H1 locs1 ls C hw1 hL)
  exact va_runI (As := As.map (mV z b)) (rest := rest.map (mV z b)) (g := F0 m pc ls ((As.reverse ++ .ref q :: rest).map (mV z b))) (cells := kc) (slots := ks) (locs := locs) (below := below) (meth := meth) (e := e) (R := mMR M) (bytes := mMc K) (maxL := mMn K)
    (Ts := WA) ⟨C.1, C.2.1, C.2.2.1, C.2.2.2.2.1, hts⟩ (met_of hS z b G cA C.2.2.2.2.2.2.2.2.2.2.2.1) (cwI na hts (wa_ws hO) (by show mHd K :: WA = _; rw [hhd]) rfl rfl (hts _ c4) (hts _ c1) (hts _ c2) c8 ⟨c5, c6, c7⟩ hF)
    (b := z.2 q) ⟨mB_blind, fun U hU hW => ⟨rfl, mB_at C hw (Or.inl hms) (fun n h => by rw [hz n h]; exact hsz) U hU hW⟩⟩ rfl (by rw [List.length_map]; exact hna) hL.1 (by simp [List.map_append, List.map_reverse, mV]) (lv_room (by rw [mV_sum]; exact hst)) d hR
/-- a nest mate's private constructor -/
theorem ev_callIN {K : mM} {idx q na n0 : Nat} {rest As : List Value} {w1 : mW} (d : decode (mMc M) pc = .ok (.invokespecial idx, 3)) (hl : ∀ U : State, mXF U → va_Nw (.methodLinkNest (mMy M).cls idx (mMy K) "Copperleaf") U) (hin : Jvm.Cond.instanceMethod (mMy K) ∈ WA) (hini : Jvm.Cond.initialized (mMy K).cls ∈ WA) (hd : (mMy K).cls ≠ "java/lang/invoke/MethodHandle" ∧ (mMy K).cls ≠ "java/lang/invoke/VarHandle" ∧ (parseMethodDescriptor (mMy K).desc).map (fun d => d.parameters.length) = some na) (hnm : (mMy K).name = "<init>") (hO : mOk K) (hh : mMh K = []) (hre : mMr K = none) (hzM : mMz M = some n0) (hn : w.length = n0 + kc) (hz : ∀ n, mMz K = some n → n = w.length) (hms : mMs K = none) (hF : mFit M K) (hna : As.length = na) (hst : (rest.map fun v => v.category).sum ≤ 8) (hR : kc + (mMR K).cells ≤ (mMR M).cells ∧ ks + (mMR K).slots ≤ (mMR M).slots) (hS : EvS K (.ref q :: As) w (.inl none) w1)
    (k : EvF M Qf (pc + 3) L rest (kc + (mMR K).cells) (ks + (mMR K).slots) w1) : EvF M Qf pc L (As.reverse ++ .ref q :: rest) kc ks w := by
  intro z b G cA p l e s m args below meth c H locs ls C hw hL
  intro T hT X
  have hsz := mR_size C hw hT X hzM hn
  have hts := C.2.2.2.2.2.1
  have hhd : mHd K = .code (mMy K) (mMc K) (mMn K) none := by unfold mHd; rw [hh, hre]
  refine run_ret9 (K := K) (v := none) (a := (Value.ref (z.2 q) :: As.map (mV z b)).toArray) (rest := rest.map (mV z b)) hT X ?_ hw (fun H1 locs1 hw1 => k z b G cA p l e s m args below meth c H1 locs1 ls C hw1 hL)
  exact va_runIN (As := As.map (mV z b)) (rest := rest.map (mV z b)) (g := F0 m pc ls ((As.reverse ++ .ref q :: rest).map (mV z b))) (cells := kc) (slots := ks) (locs := locs) (below := below) (meth := meth) (e := e) (R := mMR M) (bytes := mMc K) (maxL := mMn K) (host := "Copperleaf")
    (Ts := WA) ⟨C.1, C.2.1, C.2.2.1, C.2.2.2.2.1, hts⟩ (met_of hS z b G cA C.2.2.2.2.2.2.2.2.2.2.2.1) ⟨va_cnB na hts (wa_ws hO) (by show mHd K :: WA = _; rw [hhd]) rfl rfl (hl s C.2.2.2.2.2.2.2.2.2.2.1) (hts _ hini) hd hF, hnm, hts _ hin⟩
    (b := z.2 q) ⟨mB_blind, fun U hU hW => ⟨rfl, mB_at C hw (Or.inl hms) (fun n h => by rw [hz n h]; exact hsz) U hU hW⟩⟩ rfl (by rw [List.length_map]; exact hna) hL.1 (by simp [List.map_append, List.map_reverse, mV]) (lv_room (by rw [mV_sum]; exact hst)) d hR
end CI
