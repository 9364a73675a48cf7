/-! NoSuchElementException: its constructor's link is entry 13 of its pool, not 7 as with the others: a throw of it by a chain of its own (follows the library's ctorThrowS and the kit's vx_throwS) -/
def nX : String := "java/util/NoSuchElementException"
abbrev nRt : String := "java/lang/RuntimeException"
def nEx : List String := ["java/lang/Exception"]
abbrev nRx : ByteArray := prog_14_method_4_code
theorem nRx_0 : decode nRx 0 = .ok (.aload_n 0, 1) := by decide +kernel
theorem nRx_1 : decode nRx 1 = .ok (.aload_n 1, 1) := by decide +kernel
theorem nRx_2 : decode nRx 2 = .ok (.invokespecial 13, 3) := by decide +kernel
theorem nRx_5 : decode nRx 5 = .ok (.return_, 1) := by decide +kernel
def nCh : List Jvm.Cond := Bundle.passSAtoms nX nRt 13 nRx ++ Bundle.chainSAtoms nRt nEx
def nAll (own : String) (ic : Nat) : List Jvm.Cond := Bundle.throwableAtoms ++ Bundle.throwableSAtoms ++ nCh ++
  [.methodLink own ic (Bundle.initS nX), .instantiable nX 6, .castable nX nX, .selects nX Bundle.tFill0 Bundle.tFill0, .selects nX Bundle.tFill Bundle.tFill,
   .lays nX Bundle.tN "cause" "Ljava/lang/Throwable;", .lays nX Bundle.tN "stackTrace" Bundle.steD, .lays nX Bundle.tN "suppressedExceptions" Bundle.listD, .lays nX Bundle.tN "detailMessage" "Ljava/lang/String;",
   .isRef (.static Bundle.tN "UNASSIGNED_STACK" Bundle.steD), .isRef (.static Bundle.tN "SUPPRESSED_SENTINEL" Bundle.listD),
   .fieldLink Bundle.tN 198 Bundle.tN "backtrace" "Ljava/lang/Object;", .lays Bundle.tN Bundle.tN "backtrace" "Ljava/lang/Object;", .lays nX Bundle.tN "backtrace" "Ljava/lang/Object;"]
theorem nFit : Bundle.fit nX = true := by decide +kernel
theorem nFitR : Bundle.fit nRt = true := by decide +kernel
theorem nFitE : ∀ n ∈ nEx, Bundle.fit n = true := by decide +kernel
theorem nChain {args : Array Value} {s : State} {pl : Platform} (hpl : pl.magicAccessors = ({} : Platform).magicAccessors) {top : MethodId} (htop : s.methodNamed? (Bundle.initS Bundle.tN) = some top) (h : ∀ c ∈ nCh, c.before args s = true) :
    ∃ (P1 : PassC) (Ps : List PassC), Ps.length = 2 ∧ P1.LinksS pl s ∧ (∀ P, P ∈ Ps → P.LinksS pl s) ∧ s.methodNamed? (Bundle.initS nX) = some P1.m ∧ P1.sup = firstOf top (Ps.map (·.toPassT)) ∧ PassesOn top (Ps.map (·.toPassT)) := by
  obtain ⟨P, L, hm, hs⟩ := PassC.ofS_atoms (args := args) (s := s) hpl (X := nX) (Y := nRt) (Bundle.fit_spec nFit).1 (Bundle.fit_spec nFitR).2 nRx_0 nRx_1 nRx_2 nRx_5 (fun c hc => h c (List.mem_append_left _ hc))
  obtain ⟨P', Ps, hlen, L', hL, hm', hsup, hpass⟩ := Bundle.chainS (args := args) hpl htop nEx nRt nFitR nFitE (fun c hc => h c (List.mem_append_right _ hc))
  refine ⟨P, P' :: Ps, by simp [hlen, nEx], L, ?_, hm, Option.some.inj (hs.symm.trans hm'), hsup, hpass⟩
  intro Q hQ
  rcases List.mem_cons.mp hQ with rfl | hQ
  · exact L'
  · exact hL Q hQ
section NC
variable {p : Program} {l : Launch} {e : Env} {R : Room} {s : State} {m₀ : MethodId} {args : Array Value} {below : List Frame} {meth : Method} {c : Code} {W : State} {locs : List Loc} {cells slots : Nat}
set_option maxHeartbeats 1000000 in
theorem nCtor (X : Stand p l e R s m₀ args below meth c W locs cells slots) (hexec : p.tables.exec = Jvm.exec) (htr : e.platform.stackTraces = false) {own : String} {ic : Nat}
    (hown : s.vm.findClass own = some m₀.cls) (h : ∀ a ∈ nAll own ic, a.before args s = true)
    (hlocs : ∀ x ∈ locs, ∀ cell, s.heap[x.base]? = some cell → cell.vm.isStatics = false)
    {a : Addr} {cX : ClassId} {kX : Class} (hfoundX : s.vm.findClass nX = some cX) (hkX : s.vm.classes[cX]? = some kX) (hcell : W.heap[a]? = some (freshCell cX kX)) (hnew : s.heap.size ≤ a)
    {msg : Value} (hmsg : msg.isRef = true)
    {g : JFrame} (hg : g.method = m₀) (hsize : g.locals.size = c.maxLocals) (hlocked : g.locked = none) (hentered : g.entered = []) {rest : List Value} (hstack : g.stack = msg :: .ref a :: .ref a :: rest)
    (hd6 : decode c.code g.pc = .ok (.invokespecial ic, 3)) (hd9 : decode c.code (g.pc + 3) = .ok (.athrow, 1)) (hout : ∀ x ∈ c.exceptionTable.toList, covers x (g.pc + 3) = false)
    (hRframes : 5 < R.frames) (hRlocals : 2 * g.monitorRoom + ((Value.ref a :: rest).map fun v => v.category).sum + 81 ≤ R.locals) (hlocks : meth.locks = false) :
    ∃ U : State, Steps p.tables e below (W.setTop g) U ∧ U.status = .running ∧ Ended U below (.threw a) ∧ s.WarmedH U.vm ∧ s.sameButNew ({ U with vm := s.vm } : State) locs cells slots ∧
      ∃ ce, U.heap[a]? = some ce ∧ ce.vm = .none ∧ ce.cls = cX := by
  have howns : e.platform.frameOwnsMonitors = true := by rw [X.admits.platform]
  have hfin : e.platform.finalization = false := by rw [X.admits.platform]
  have hpl : e.platform.magicAccessors = ({} : Platform).magicAccessors := by rw [X.admits.platform]
  have a' : ∀ x, x ∈ nAll own ic → x.holds args s none s [] = true := fun x hx => h x hx
  obtain ⟨T, Z0, L, -, Y⟩ := ThrowableC.of_atoms (args := args) howns hfin hpl (fun x hx => h x (by simp [nAll, hx]))
  obtain ⟨Z, M, LZ, LM, hnZ⟩ := Init0T.ofS_atoms (args := args) hpl L Y (fun x hx => h x (by simp [nAll, hx]))
  obtain ⟨P1, Ps, hlen, L1, hL, hP1m, hlink1, hlink⟩ := nChain (args := args) hpl hnZ (fun x hx => h x (by simp [nAll, hx]))
  have hfound : s.vm.findClass nX = some P1.m.cls := findClass_of_methodNamed hP1m
  cases Option.some.inj (hfoundX.symm.trans hfound)
  obtain ⟨c1, kX', hc1, hk, hord, -, -, hn6⟩ := Cond.instantiable_spec (a' (.instantiable nX 6) (by simp [nAll]))
  cases Option.some.inj (hc1.symm.trans hfound)
  cases Option.some.inj (hkX.symm.trans hk)
  have hsel0 : selectMethod e.platform s.vm P1.m.cls T.fill0 = .method T.fill0 := by
    obtain ⟨c2, r2, m2, q1, q2, q3, q4, -⟩ := Cond.selects_spec (a' (.selects nX Bundle.tFill0 Bundle.tFill0) (by simp [nAll]))
    cases Option.some.inj (q1.symm.trans hfound)
    cases Option.some.inj (q2.symm.trans (State.methodFound?_of_named Y.fill0 (by decide)))
    cases Option.some.inj (q3.symm.trans Y.fill0)
    rw [Launch.admits_selectMethod X.admits]; exact q4
  have hselF : selectMethod e.platform s.vm P1.m.cls T.fill = .method T.fill := by
    obtain ⟨c2, r2, m2, q1, q2, q3, q4, -⟩ := Cond.selects_spec (a' (.selects nX Bundle.tFill Bundle.tFill) (by simp [nAll]))
    cases Option.some.inj (q1.symm.trans hfound)
    cases Option.some.inj (q2.symm.trans (State.methodFound?_of_named Y.fill (by decide)))
    cases Option.some.inj (q3.symm.trans Y.fill)
    rw [Launch.admits_selectMethod X.admits]; exact q4
  obtain ⟨cellS0, hcS0, hiss⟩ := Y.statics
  obtain ⟨u0, hu0⟩ := Cond.staticRefV Y.unassigned L.unassignedStatic L.statics hcS0 hiss (a' (.isRef (.static Bundle.tN "UNASSIGNED_STACK" Bundle.steD)) (by simp [nAll]))
  obtain ⟨sen, hsen⟩ := Cond.staticRefV Y.sentinel L.sentinelStatic L.statics hcS0 hiss (a' (.isRef (.static Bundle.tN "SUPPRESSED_SENTINEL" Bundle.listD)) (by simp [nAll]))
  obtain ⟨ci198, i198, fB, hk198, hg198, ha198, hsB, -, hnB, htB, hffB⟩ := Cond.ownField (t := .object "java/lang/Object") Y.found L.cls (by decide +kernel) (a' (.fieldLink Bundle.tN 198 Bundle.tN "backtrace" "Ljava/lang/Object;") (by simp [nAll])) (a' (.lays Bundle.tN Bundle.tN "backtrace" "Ljava/lang/Object;") (by simp [nAll])) e.platform hpl
  obtain ⟨cellS, hcS', heS, -, hkeep⟩ := X.same.2.2.2.2.2 T.aS cellS0 hcS0
  have hcellS : W.heap[T.aS]? = some cellS := hcS'
  have hout' : ∀ i, (⟨T.aS, i⟩ : Loc) ∉ locs := fun i hmem => by
    have := hlocs _ hmem cellS0 hcS0
    rw [hiss] at this; cases this
  have hknownS : cellS.vm ≠ .unknown := by
    rw [heS]; intro hu
    rw [show cellS0.vm = .unknown from hu] at hiss
    cases hiss
  have hneS : T.aS ≠ a := Nat.ne_of_lt (Nat.lt_of_lt_of_le (Array.getElem?_eq_some_iff.mp hcS0).1 hnew)
  obtain ⟨iM, hffM⟩ := Y.msg
  obtain ⟨tyC, dC, hdC, hdnC⟩ := Cond.laysAt hfound hk Y.cause (a' (.lays nX Bundle.tN "cause" "Ljava/lang/Throwable;") (by simp [nAll]))
  obtain ⟨tyS, dS, hdS, hdnS⟩ := Cond.laysAt hfound hk Y.stack (a' (.lays nX Bundle.tN "stackTrace" Bundle.steD) (by simp [nAll]))
  obtain ⟨tyP, dP, hdP, hdnP⟩ := Cond.laysAt hfound hk Y.supp (a' (.lays nX Bundle.tN "suppressedExceptions" Bundle.listD) (by simp [nAll]))
  obtain ⟨tyM, dM, hdM, hdnM⟩ := Cond.laysAt hfound hk hffM (a' (.lays nX Bundle.tN "detailMessage" "Ljava/lang/String;") (by simp [nAll]))
  obtain ⟨tyB, dB, hdB, hdnB⟩ := Cond.laysAt hfound hk hffB (a' (.lays nX Bundle.tN "backtrace" "Ljava/lang/Object;") (by simp [nAll]))
  have bC := Cond.laysApart hdB hdC hdnB hdnC (by rw [hnB, Y.causeName]; decide)
  have bS := Cond.laysApart hdB hdS hdnB hdnS (by rw [hnB, Y.stackName]; decide)
  have bP := Cond.laysApart hdB hdP hdnB hdnP (by rw [hnB, Y.suppName]; decide)
  have hskip : SkipFacts T e.platform s (fun u => u) u0 ((preparedCellV T.toThrowableT (freshCell P1.m.cls kX) a u0 sen).withEntry W.cur) :=
    ⟨{ ci198 := ci198, i198 := i198, fBack := fB }, ⟨hk198, hg198, ha198, hsB⟩, by
      have := fresh_default (c := P1.m.cls) tyB
      rw [htB] at this
      simpa [preparedCellV, Cell.setSlot, Cell.withEntry, Array.getElem?_setIfInBounds, bC, bS, bP, bC.symm, bS.symm, bP.symm, defaultValue] using this, fun _ _ => rfl⟩
  obtain ⟨tm, methC, cdC, kC, vm₁, hnC, -, -, -, -, -, -, -, hW₁, st1⟩ := Steps.initColdS (tb := p.tables) (e := e) (below := below) (s := s) (U := W) X.here hexec X.warmed hpl hown (t := Bundle.initS nX) rfl rfl (Bundle.fit_spec nFit).2
    (a' (.methodLink own ic (Bundle.initS nX)) (by simp [nAll])) (h (.instanceMethod (Bundle.initS nX)) (by simp [nAll, nCh, Bundle.passSAtoms])) (bytes := nRx) (maxL := 2) (h (.code (Bundle.initS nX) nRx 2 none) (by simp [nAll, nCh, Bundle.passSAtoms]))
    (f := g) hg (a := a) (msg := msg) (rest := .ref a :: rest) hstack hd6
  cases Option.some.inj (hnC.symm.trans hP1m)
  have X₁ := X.noted hW₁
  obtain ⟨vm₂, X₂, st2⟩ := X₁.ctorMessageOffV hexec (g := { g with stack := .ref a :: rest }) hg hsize T L Z LZ M LM (P1 :: Ps)
    (fun P hP => by rcases List.mem_cons.mp hP with rfl | hP; exact L1; exact hL P hP) ⟨hlink1, hlink⟩ (u0 := u0) (sen := sen) (self := a) hmsg (cell := freshCell P1.m.cls kX) (cellS := cellS)
    hcell (fun _ => by simp) (by simp) rfl rfl hsel0 hselF hcellS hneS hknownS (by rw [hkeep _ (hout' _)]; exact hu0) (by rw [hkeep _ (hout' _)]; exact hsen)
    (Takes.of_laid hk hord tyC (by rw [Y.causeType]; rfl)) (Takes.of_laid hk hord tyS (by rw [Y.stackType]; exact fits_refV_array _ u0)) (Takes.of_laid hk hord tyP (by rw [Y.suppType]; exact fits_refV_object _ sen))
    (Takes.of_laid hk hord tyM (by rw [Y.msgType]; exact fits_refV_object _ ⟨msg, hmsg⟩)) Y.objLocals hskip htr [] hd6
    (by simp only [List.length_cons, hlen]; omega) (by simp only [List.length_cons, hlen]; exact hRlocals)
  obtain ⟨hwalk, hrun, hended, hWU, hsame⟩ := X₂.athrowLeaves hexec (g := { g with stack := .ref a :: rest, pc := g.pc + 3 }) hg hlocked hentered hout (a := a) (rest := rest) rfl hd9
  have hlt : a < ((W.setVm vm₁).setVm vm₂).heap.size := (Array.getElem?_eq_some_iff.mp hcell).1
  have hU := heapAt_setCell_self (s := (W.setVm vm₁).setVm vm₂) (plainBareV T.toThrowableT (freshCell P1.m.cls kX) a u0 sen msg) hlt
  refine ⟨_, st1 _ (fun acts => ?_), hrun, hended, hWU, hsame.weaken (fun y hy hlt' => ?_) (Nat.le_refl _) (Nat.le_refl _), _, hU, rfl, rfl⟩
  · rw [doInvoke_state]
    exact st2 _ hwalk
  · rcases List.mem_append.mp hy with h1 | h1
    · exact h1
    · exfalso
      have hb : y.base = a := by
        simp only [List.mem_cons, List.not_mem_nil, or_false] at h1
        rcases h1 with rfl | rfl | rfl | rfl | rfl <;> rfl
      rw [hb] at hlt'
      exact Nat.not_lt.mpr hnew hlt'
end NC
section NR
variable {M : mM} {Qf : mQ} {pc : Nat} {L st : List Value} {kc ks : Nat} {w : mW}
/-- a place that throws NoSuchElementException with a text -/
def mTn (own : String) (ik is ic : Nat) (text : String) : Prop := (is, text) ∈ mSt ∧ own = "Copperleaf" ∧ Jvm.Cond.classLink own ik nX ∈ WA ∧ Jvm.Cond.initialized nX ∈ WA ∧ (∀ x ∈ (nAll own ic).filter vx_no, x ∈ WA ∨ x = .castable nX nX ∨ x ∈ mDe) ∧ ∀ x ∈ Jvm.Cond.classLink own ik nX :: Jvm.Cond.initialized nX :: (nAll own ic).filter vx_no, vx_ot x = true
theorem ev_throwN {ik is ic : Nat} {text : String} (hT : mTn (mMy M).cls ik is ic text) (d0 : decode (mMc M) pc = .ok (.new ik, 3)) (d3 : decode (mMc M) (pc + 3) = .ok (.dup, 1)) (d4 : decode (mMc M) (pc + 4) = .ok (.ldc is, 2)) (d6 : decode (mMc M) (pc + 6) = .ok (.invokespecial ic, 3)) (d9 : decode (mMc M) (pc + 9) = .ok (.athrow, 1)) (hh : mMh M = []) (hf : 5 < (mMR M).frames) (hlo : (st.map fun v => v.category).sum + 82 ≤ (mMR M).locals) (hc : kc + 1 ≤ (mMR M).cells) (hs : ks + 6 ≤ (mMR M).slots) : EvF M (mQm M (.inr nX) w) pc L st kc ks w := by
  intro z b G cA p l e s m args below meth c H locs ls C hw hL
  obtain ⟨h2, h3, h5, h6, h7, h8⟩ := hT
  obtain ⟨sa, hsa⟩ := C.2.2.2.2.2.2.2.2.2.2.1.2.2.2.2.2.1 _ h2
  have hX9 : nX ∈ mX := by decide +kernel
  have hat : ∀ x ∈ (nAll (mMy M).cls ic).filter vx_no, x.before args s = true := fun x hx => by
    rcases h7 x hx with h | h | h
    · exact C.2.2.2.2.2.1 _ h
    · rw [h]; exact va_Nw.use rfl (C.2.2.2.2.2.2.2.2.2.2.1.1 nX hX9)
    · exact va_Nw.use (mDe_on x h) (C.2.2.2.2.2.2.2.2.2.2.1.2.2.2.2.2.2 x h)
  have hstr : vk_R (mMy M).cls is text sa s := by rw [h3]; exact hsa
  have hlocks := C.2.2.2.2.2.2.1
  have hexec := C.1
  have hb := C.2.1
  have hown := C.2.2.2.2.1
  have hU := C.2.2.2.2.2.2.2.2.2.2.2.2.1
  have hN := C.2.2.2.2.2.2.2.2.2.2.2.2.2.1
  have hS := hw.2.1
  intro T hT X
  have htr : e.platform.stackTraces = false := (show e.platform.stackTraces = l.stackTraces by rw [X.admits.platform]).trans C.2.2.2.2.2.2.2.2.2.2.2.1
  have Y := vx_rebase X (R' := { frames := (mMR M).frames, locals := (mMR M).locals, cells := 1, slots := 6 }) (Nat.le_refl _) (Nat.le_refl _) (Nat.le_trans (Nat.le_refl _) hc) hs
  obtain ⟨s', hA⟩ : ∃ q, q = (T.setVm s.vm).setFrames (.invoking m args :: below) := ⟨_, rfl⟩
  rw [← hA] at Y
  have hvm : s'.vm = s.vm := by rw [hA]; rfl
  have hhp : s'.heap = H := by rw [hA]; exact hT
  have hW0 : s.WarmedH s'.vm := by rw [hvm]; exact State.WarmedH.refl s
  have hat' : ∀ x ∈ (nAll (mMy M).cls ic).filter vx_no, x.before args s' = true := fun x hx => vx_ot_at hW0 hvm.symm (h8 x (List.mem_cons_of_mem _ (List.mem_cons_of_mem _ hx))) (hat x hx)
  have hk' : (Jvm.Cond.classLink (mMy M).cls ik nX).before args s' = true := vx_ot_at hW0 hvm.symm (h8 _ List.mem_cons_self) (C.2.2.2.2.2.1 _ h5)
  have hini' : (Jvm.Cond.initialized nX).before args s' = true := vx_ot_at hW0 hvm.symm (h8 _ (List.mem_cons_of_mem _ List.mem_cons_self)) (C.2.2.2.2.2.1 _ h6)
  have hU' : mZ1 z s' s'.heap := by rw [hhp]; exact vx_Zq.moved hW0.alike (hU.kept hS.2.1)
  have hN' : mZ2 z s' s'.heap := by rw [hhp]; exact vx_Zq.moved hW0.alike (hN.kept hS.2.1)
  have h : ∀ x ∈ nAll (mMy M).cls ic, x.before args s' = true := vx_own hat' (vx_isRefq hU'.1) (vx_isRefq hN'.1) hU'.2.word hN'.2.word
  have hown' : s'.vm.findClass (mMy M).cls = some m.cls := by rw [hvm]; exact hown
  have hins : (Jvm.Cond.instantiable nX 6).before args s' = true := h _ (by simp [nAll])
  obtain ⟨vm₁, cX, kX, hfX, hkX, -, -, X₁, st1⟩ := Y.newCold hexec (own := (mMy M).cls) (C := nX) (index := ik) (n := 6) hown' hk' hins hini'
    (g := F0 m pc ls (st.map (mV z b))) rfl (by rw [hb]; exact d0) (Nat.le_refl _) (Nat.le_refl _)
  generalize hT1 : (T.setVm vm₁).pushCell { cls := cX, slots := kX.instanceTypes.map defaultValue, vm := .none } = T1 at X₁ st1
  have hcat : (Value.ref T.heap.size).category = 1 := rfl
  have hcellA : T1.heap[T.heap.size]? = some (freshCell cX kX) := by rw [← hT1]; exact State.heap_pushCell_size _ _
  have d3' : decode c.code (pc + 3) = .ok (.dup, 1) := by rw [hb]; exact d3
  have d4' : decode c.code (pc + 4) = .ok (.ldc is, 2) := by rw [hb]; exact d4
  have hstr' : vk_R (mMy M).cls is text sa s' := vk_R.warm hW0 hstr
  have hsize : ls.size = c.maxLocals := hL.1.trans C.2.2.1.symm
  have hout : ∀ x ∈ c.exceptionTable.toList, covers x (pc + 9) = false := fun x hx => by
    rw [C.2.2.2.2.2.2.2.1, hh] at hx
    cases hx
  obtain ⟨U, hsteps, hrun, hend, hW, hsame, ce, hce, hcv, hcc⟩ := nCtor X₁ hexec htr (own := (mMy M).cls) (ic := ic) hown' h (fun x hx => nomatch hx) hfX hkX hcellA (by rw [hhp, hT]; exact Nat.le_refl _) (msg := .ref sa) rfl
    (g := { method := m, pc := pc + 6, locals := ls, stack := .ref sa :: .ref T.heap.size :: .ref T.heap.size :: st.map (mV z b), locked := none }) rfl hsize rfl rfl (rest := st.map (mV z b)) rfl
    (by rw [hb]; exact d6) (by rw [hb]; exact d9) hout hf (by simp only [List.map_cons, List.sum_cons, hcat]; rw [mV_sum]; omega) hlocks
  obtain ⟨f1, f2⟩ := vx_frame hsame
  rw [hhp] at f1 f2
  have hWs : s.WarmedH U.vm := State.WarmedH.trans hW0 hW
  have hcl : s.vm.findClass nX = some ce.cls := by
    rw [hcc]
    rw [hvm] at hfX
    exact hfX
  have hall : s.sameButNew ({ U with vm := s.vm } : State) locs (mMR M).cells (mMR M).slots := by
    subst hA
    obtain ⟨e1, e2⟩ := hsame
    rw [State.setFrames_setFrames] at e1
    have h2 : (T.setVm s.vm).sameButNew ({ U with vm := s.vm } : State) [] (0 + 1) (0 + 6) := ⟨e1, e2⟩
    have h3 := X.same.trans h2
    rw [List.append_nil] at h3
    exact h3.mono hc hs
  refine ⟨U, ?_, .threw T.heap.size, hrun, hend, Or.inr ⟨T.heap.size, rfl, nX, ce, locs, ⟨rfl, ⟨hw.1.kept (fun k q hq => f2 q.1 (hw.1 k q hq).lt (fun z hz => nomatch hz)), hw.2.2⟩, Nat.le_trans hS.1 f1, fun q hq hn => (f2 q (Nat.lt_of_lt_of_le hq hS.1) (fun z hz => nomatch hz)).trans (hS.2.1 q hq hn)⟩, hce, hcv, hcl, hWs, hall, hS.2.2⟩⟩
  refine st1 _ ?_
  show Steps p.tables e below (T1.setTop { method := m, pc := pc + 3, locals := ls, stack := .ref T.heap.size :: st.map (mV z b), locked := none }) _
  jvm_step X₁.here [X₁.here.top, hexec, d3', Value.category]
  exact X₁.ldcString hexec (own := (mMy M).cls) (text := text) (index := is) (a := sa) hown' hstr'.1 hstr'.2
    (g := { method := m, pc := pc + 4, locals := ls, stack := .ref T.heap.size :: .ref T.heap.size :: st.map (mV z b), locked := none }) rfl d4' _ hsteps
end NR
