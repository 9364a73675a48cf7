section
/-! ===== BEGIN words of one list among another's, by their places ===== -/
theorem goodIn_r {big : List Cond} (ws : List Cond) (ps : List Nat) (hp : ws = ps.filterMap (fun i => big[i]?)) (h : ws.all goodWord = true) : GoodIn big ws := by
  intro w hw
  have h1 := List.all_eq_true.mp h w hw
  rw [hp] at hw
  obtain ⟨i, -, hi⟩ := List.mem_filterMap.mp hw
  have hm : w ∈ big := by first | exact List.mem_of_getElem? hi | exact List.getElem?_mem hi
  exact ⟨hm, good_of_word h1⟩
theorem goodIn_app {big a b : List Cond} (ha : GoodIn big a) (hb : GoodIn big b) : GoodIn big (a ++ b) := fun w h => (List.mem_append.mp h).elim (ha w) (hb w)
theorem goodIn_ca {big a b : List Cond} {c : Cond} (ha : GoodIn big (c :: a)) (hb : GoodIn big b) : GoodIn big (c :: (a ++ b)) := fun w h => (List.mem_cons.mp h).elim (fun e => ha w (List.mem_cons.mpr (Or.inl e))) (fun h => (List.mem_append.mp h).elim (fun h => ha w (List.mem_cons.mpr (Or.inr h))) (hb w))
theorem goodIn_sub {big ws : List Cond} (hm : ∀ w ∈ ws, w ∈ big) (h : ws.all goodWord = true) : GoodIn big ws := fun w hw => ⟨hm w hw, good_of_word (List.all_eq_true.mp h w hw)⟩
/-! ===== END ===== -/

/-! ===== BEGIN exceptions that leave a method, and their catching by the caller (launches without stack traces) ===== -/
section VXA
/-! The laws vx_back, vx_callV, vx_callS, vx_callSW, vx_throw0, vx_throwS follow proofs of the library, with one case more: JvmDerived/Free/Laws.lean (Back.of_free), Shelf42/LK1.lean (callV, callS), Shelf/KitTraced.lean (throwNew0V, throwNewS). -/
/-- where a method has thrown q: the class by its name, the cell, what was written, the world -/
def vx_T (XC : String → State → State → Prop) (st : State) (q : Addr) (t : State) (mc ms : Nat) (free : Addr → Prop) : Prop :=
  ∃ (E : String) (ce : Cell) (L : List Loc), XC E st t ∧ t.heap[q]? = some ce ∧ ce.vm = .none ∧ st.vm.findClass E = some ce.cls ∧ st.WarmedH t.vm ∧ st.sameButNew ({ t with vm := st.vm } : State) L mc ms ∧ ∀ z ∈ L, free z.base
def vx_Q (Qc : Array Value → State → Outcome → State → Prop) (XC : String → State → State → Prop) (mc ms : Nat) (free : Addr → Prop) : Array Value → State → Outcome → State → Prop := fun a st o t =>
  (Qc a st o t ∧ ∃ L, FrameEnd st o t L mc ms ∧ ∀ q ∈ L, free q.base) ∨ ∃ q, o = .threw q ∧ vx_T XC st q t mc ms free
/-- a callee that returns or throws -/
def vx_Met (l : Launch) (y : MethodName) (ws : List Cond) (rm : Room) (Pc : Array Value → State → Prop) (Qc : Array Value → State → Outcome → State → Prop) (XC : String → State → State → Prop) (mc ms : Nat) (free : Addr → Prop) : Prop :=
  MetFree l y (headSpec ws rm) Pc (fun _ _ _ _ _ => True) (vx_Q Qc XC mc ms free)
def vx_Post (XC : String → State → State → Prop) (mc ms : Nat) (free : Addr → Prop) : Pt → Array Value → Addr → Pt → Prop := fun A a q B =>
  ∃ (g : JFrame) (mk : MethodId) (t : State) (L : List Loc) (E : String) (ce : Cell), B.U.heap = t.heap ∧ B.U.vm = t.vm ∧ XC E (A.U.calling g mk a) t ∧ t.heap[q]? = some ce ∧ ce.vm = .none ∧ A.U.vm.findClass E = some ce.cls ∧ B.locs = A.locs ++ L ∧ (∀ z ∈ L, free z.base) ∧ B.cells = A.cells + mc ∧ B.slots = A.slots + ms
def vx_Back (l : Launch) (R : Room) (p : Program) (e : Env) (below : List Frame) (s : State) (sargs : Array Value) (y : MethodName) (len W9 : Nat)
    (Pre : Pt → Array Value → Prop) (Post : Pt → Array Value → Option Value → Pt → Prop) (PostX : Pt → Array Value → Addr → Pt → Prop) : Prop :=
  ∀ (m : MethodId) (meth : Method) (c : Code) (A : Pt) (g : JFrame) (ig : Instr) (mk : MethodId) (a : Array Value),
    Stand p l e R s m sargs below meth c A.U A.locs A.cells A.slots → g.method = m → g.locals.size = c.maxLocals → decode c.code g.pc = .ok (ig, len) →
    2 * g.monitorRoom + (g.stack.map fun v => v.category).sum ≤ W9 → A.U.methodNamed? y = some mk → Pre A a →
    (∃ (v : Option Value) (B : Pt), Stand p l e R s m sargs below meth c B.U B.locs B.cells B.slots ∧ Post A a v B ∧
      Steps p.tables e below (doInvoke e (A.U.setTop g) [] mk a).1 (B.U.setTop { g with pc := g.pc + len, stack := v.toList ++ g.stack })) ∨
    (∃ (q : Addr) (B : Pt), Stand p l e R s m sargs below meth c B.U B.locs B.cells B.slots ∧ PostX A a q B ∧
      Steps p.tables e below (doInvoke e (A.U.setTop g) [] mk a).1 ((B.U.setTop g).pushFrame (.throwing q)))
section Payer
variable {l : Launch} {R : Room} {p : Program} {e : Env} {below : List Frame} {s : State} {sargs : Array Value} {y : MethodName} {len W9 : Nat}
theorem vx_back {ws : List Cond} {rm : Room} {Pc : Array Value → State → Prop} {Qc : Array Value → State → Outcome → State → Prop} {XC : String → State → State → Prop} {mc ms : Nat} {free : Addr → Prop} {bytes : ByteArray} {maxL : Nat} {ret : Option FieldType}
    (hM : vx_Met l y ws rm Pc Qc XC mc ms free) (hblind : FrameBlind Pc) (hrc : rm.cells = mc) (hrs : rm.slots = ms)
    (hframes : rm.frames + 1 ≤ R.frames) (hlocals : W9 + (maxL + 11) + rm.locals ≤ R.locals)
    (hws : ∀ w ∈ ws, ∀ a' U, s.WarmedH U.vm → w.before a' U = true) (hcode : Cond.code y bytes maxL ret ∈ ws) (hinit : ∀ a' U, s.WarmedH U.vm → (Cond.initialized y.cls).before a' U = true) :
    vx_Back l R p e below s sargs y len W9 (PreOf R mc ms Pc) (PostOf Qc mc ms free) (vx_Post XC mc ms free) := by
  intro m meth c A g ig mk a X hg hsize hdg hW hn hp
  have h1 : (headSpec ws rm).pre.before a A.U = true := atoms_intro fun w hw => hws w hw _ _ X.warmed
  have h2 : (Cond.code y bytes maxL ret).before a A.U = true := hws _ hcode _ _ X.warmed
  have h3 : (Cond.initialized y.cls).before a A.U = true := hinit _ _ X.warmed
  have h4 : A.cells + (headSpec ws rm).room.cells ≤ R.cells := by rw [show (headSpec ws rm).room.cells = mc from hrc]; exact hp.1
  have h5 : A.slots + (headSpec ws rm).room.slots ≤ R.slots := by rw [show (headSpec ws rm).room.slots = ms from hrs]; exact hp.2.1
  have hPc : Pc a (A.U.calling g mk a) := hblind _ _ _ _ hp.2.2
  obtain ⟨U, Ls, c0, s0⟩ := A
  dsimp only [Pt.U, Pt.locs, Pt.cells, Pt.slots] at h1 h2 h3 h4 h5 X hn hPc ⊢
  obtain ⟨methY, cY, hmY, hcY, -, hlY, -, -, -, -⟩ := Cond.code_spec hn h2
  obtain ⟨kY, hkY, -⟩ := className_of_methodNamed hn
  have hinitY : kY.init = .initialized := Cond.initialized_spec (findClass_of_methodNamed hn) hkY h3
  have h : At U g.method c below := by rw [hg]; exact X.here
  have hlocals9 : W9 + (maxL + 11) + (headSpec ws rm).room.locals ≤ R.locals := hlocals
  have happ : (headSpec ws rm).appliesLoose y e.platform (U.calling g mk a) = true :=
    Spec.appliesLoose_calling (g := g) h hdg hn hkY hinitY
      (X.room_calling (g := g) (R' := (headSpec ws rm).room) hsize hmY hcY hframes (by rw [hlY]; omega) h4 h5) h1
  obtain ⟨mid, hmid⟩ := h.above
  have hfr : (U.setTop g).frames = (.java g :: mid) ++ below := by rw [State.frames_setTop' g h.top, hmid]; rfl
  obtain ⟨o, s₂, hsteps, -, hend, hq⟩ := Steps.callFree hM p X.admits X.cas X.clock (acts := []) hfr happ hPc trivial
  have hq' : vx_Q Qc XC mc ms free a (U.calling g mk a) o s₂ := hq
  rw [State.frames_setTop' g h.top] at hend
  obtain ⟨g₀, hg0⟩ := Option.isSome_iff_exists.mp h.top
  obtain ⟨r, hr⟩ := State.topJava?_eq_some.mp hg0
  have hr' : (({ U with heap := s₂.heap, slotsUsed := s₂.slotsUsed } : State).setVm s₂.vm).frames = .java g₀ :: r := hr
  rcases hq' with ⟨hqc, L, hfe, hL⟩ | ⟨q, rfl, E, ce, L, hx, hce, hcv, hcl, hW₂, hsm, hL⟩
  · obtain ⟨⟨v, rfl⟩, hW₂, e2, q2, q3, q4, q5, q6⟩ := id hfe
    have e3 : s₂ = ({ (U.calling g mk a).setFrames s₂.frames with heap := s₂.heap, slotsUsed := s₂.slotsUsed } : State).setVm s₂.vm := by
      have : s₂ = ({ s₂ with vm := (U.calling g mk a).vm } : State).setVm s₂.vm := rfl
      rw [e2] at this
      exact this
    obtain ⟨c₂, i₂, len₂, hc₂, hd₂, hf₂⟩ := hend
    have hW' : U.WarmedH s₂.vm := hW₂
    have hcc : c₂ = c := by
      have h1 : s₂.code? g.method = U.code? g.method := by
        rw [State.code?_eq, State.code?_eq, hW'.alike.method?]
      exact Option.some.inj (hc₂.symm.trans (h1.trans h.code))
    subst hcc
    have hlen : len₂ = len := by rw [hdg] at hd₂; cases hd₂; rfl
    subst hlen
    have hs₂ : s₂ = (({ U with heap := s₂.heap, slotsUsed := s₂.slotsUsed } : State).setVm s₂.vm).setTop { g with pc := g.pc + len₂, stack := v.toList ++ g.stack } := by
      refine e3.trans ?_
      rw [hf₂, State.calling_eq h.top, State.setFrames_setFrames, State.setTop_of_frames _ hr', hr]
      rfl
    have hsame : U.sameButNew ({ U with heap := s₂.heap, slotsUsed := s₂.slotsUsed } : State) L mc ms := by
      refine ⟨?_, q2, q3, q4, q5, q6⟩
      obtain ⟨t, ht, -⟩ := State.frames_cons hr
      show ({ U with heap := s₂.heap, slotsUsed := s₂.slotsUsed } : State) = { U.setFrames U.frames with heap := s₂.heap, slotsUsed := s₂.slotsUsed }
      rw [State.setFrames_self ht]
    subst hg
    refine Or.inl ⟨v, ⟨(({ U with heap := s₂.heap, slotsUsed := s₂.slotsUsed } : State).setVm s₂.vm), Ls ++ L, c0 + mc, s0 + ms⟩,
      ⟨X.admits, X.cas, X.clock, X.frames, X.room, X.hears, X.method, X.code, (X.here.setHeapUsed s₂.heap s₂.slotsUsed).setVm hW'.alike, X.tail, State.WarmedH.trans X.warmed hW', X.limits, X.bytes, X.same.trans (hsame.setVm s.vm)⟩,
      ⟨g, mk, s₂, L, rfl, rfl, hqc, rfl, hL, rfl, rfl⟩, ?_⟩
    show Steps p.tables e below _ ((({ U with heap := s₂.heap, slotsUsed := s₂.slotsUsed } : State).setVm s₂.vm).setTop { g with pc := g.pc + len₂, stack := v.toList ++ g.stack })
    rw [← hs₂]
    exact hsteps
  · obtain ⟨e2, q2, q3, q4, q5, q6⟩ := id hsm
    have e3 : s₂ = ({ (U.calling g mk a).setFrames s₂.frames with heap := s₂.heap, slotsUsed := s₂.slotsUsed } : State).setVm s₂.vm := by
      have : s₂ = ({ s₂ with vm := (U.calling g mk a).vm } : State).setVm s₂.vm := rfl
      rw [e2] at this
      exact this
    have hf₂ : s₂.frames = .throwing q :: .java g :: U.frames.tail := hend
    have hW' : U.WarmedH s₂.vm := hW₂
    have hs₂ : s₂ = ((({ U with heap := s₂.heap, slotsUsed := s₂.slotsUsed } : State).setVm s₂.vm).setTop g).pushFrame (.throwing q) := by
      refine e3.trans ?_
      rw [hf₂, State.calling_eq h.top, State.setFrames_setFrames, State.pushFrame, State.frames_setTop _ hr', State.setTop_of_frames _ hr', State.setFrames_setFrames, hr]
      rfl
    have hsame : U.sameButNew ({ U with heap := s₂.heap, slotsUsed := s₂.slotsUsed } : State) L mc ms := by
      refine ⟨?_, q2, q3, q4, q5, q6⟩
      obtain ⟨t, ht, -⟩ := State.frames_cons hr
      show ({ U with heap := s₂.heap, slotsUsed := s₂.slotsUsed } : State) = { U.setFrames U.frames with heap := s₂.heap, slotsUsed := s₂.slotsUsed }
      rw [State.setFrames_self ht]
    subst hg
    refine Or.inr ⟨q, ⟨(({ U with heap := s₂.heap, slotsUsed := s₂.slotsUsed } : State).setVm s₂.vm), Ls ++ L, c0 + mc, s0 + ms⟩,
      ⟨X.admits, X.cas, X.clock, X.frames, X.room, X.hears, X.method, X.code, (X.here.setHeapUsed s₂.heap s₂.slotsUsed).setVm hW'.alike, X.tail, State.WarmedH.trans X.warmed hW', X.limits, X.bytes, X.same.trans (hsame.setVm s.vm)⟩,
      ⟨g, mk, s₂, L, E, ce, rfl, rfl, hx, hce, hcv, hcl, rfl, hL, rfl, rfl⟩, ?_⟩
    show Steps p.tables e below _ (((({ U with heap := s₂.heap, slotsUsed := s₂.slotsUsed } : State).setVm s₂.vm).setTop g).pushFrame (.throwing q))
    rw [← hs₂]
    exact hsteps
end Payer
section Calls
variable {p : Program} {l : Launch} {e : Env} {R : Room} {s : State} {m : MethodId} {args : Array Value} {below : List Frame} {meth : Method} {c : Code} {T : State} {locs : List Loc} {cells slots : Nat}
theorem vx_callV (X : Stand p l e R s m args below meth c T locs cells slots) (hexec : p.tables.exec = Jvm.exec) {own C : String} {index : Nat} {y : MethodName} {bytes : ByteArray} {maxL : Nat} {ret : Option FieldType}
    (hown : s.vm.findClass own = some m.cls) (hlink : (Cond.methodLink own index y).before args s = true) (hinst : (Cond.instanceMethod y).before args s = true) (hsel : (Cond.selects C y y).before args s = true)
    (hcode : (Cond.code y bytes maxL ret).before args s = true) (hy : y.cls ≠ "java/lang/invoke/MethodHandle" ∧ y.cls ≠ "java/lang/invoke/VarHandle")
    {W9 : Nat} {Pre : Pt → Array Value → Prop} {Post : Pt → Array Value → Option Value → Pt → Prop} {PostX : Pt → Array Value → Addr → Pt → Prop} (hK : vx_Back l R p e below s args y 3 W9 Pre Post PostX)
    {b : Addr} {cellB : Cell} (hcell : T.heap[b]? = some cellB) (hobj : cellB.vm.isStatics = false) (hcls : s.vm.findClass C = some cellB.cls)
    {g : JFrame} (hg : g.method = m) (hsize : g.locals.size = c.maxLocals) {argsL rest : List Value} (hlen : ∀ sig, parseMethodDescriptor y.desc = some sig → argsL.length = sig.parameters.length)
    (hstack : g.stack = argsL.reverse ++ .ref b :: rest) (hW : 2 * g.monitorRoom + (rest.map fun v => v.category).sum ≤ W9) (hdg : decode c.code g.pc = .ok (.invokevirtual index, 3))
    (hpre : ∀ vm₁, s.WarmedH vm₁ → Pre ⟨T.setVm vm₁, locs, cells, slots⟩ (Value.ref b :: argsL).toArray) :
    (∃ (v : Option Value) (vm₁ : Vm) (B : Pt), s.WarmedH vm₁ ∧ Stand p l e R s m args below meth c B.U B.locs B.cells B.slots ∧ Post ⟨T.setVm vm₁, locs, cells, slots⟩ (Value.ref b :: argsL).toArray v B ∧
      ∀ target, Steps p.tables e below (B.U.setTop { g with pc := g.pc + 3, stack := v.toList ++ rest }) target → Steps p.tables e below (T.setTop g) target) ∨
    (∃ (q : Addr) (vm₁ : Vm) (B : Pt), s.WarmedH vm₁ ∧ Stand p l e R s m args below meth c B.U B.locs B.cells B.slots ∧ PostX ⟨T.setVm vm₁, locs, cells, slots⟩ (Value.ref b :: argsL).toArray q B ∧
      Steps p.tables e below (T.setTop g) ((B.U.setTop { g with stack := rest }).pushFrame (.throwing q))) := by
  obtain ⟨mk, methM, hnamed, hmethM, hstM, habM⟩ := Cond.instanceMethod_spec hinst
  obtain ⟨methM', cM, hmethM', -, -, -, -, -, -, hsigM⟩ := Cond.code_spec hnamed hcode
  cases hmethM.symm.trans hmethM'
  obtain ⟨c2, r2, m2, q1, q2, q3, q4, kP, hkP, hkPi⟩ := Cond.selects_spec hsel
  cases hcls.symm.trans q1
  cases (State.methodFound?_of_named hnamed hy).symm.trans q2
  cases hnamed.symm.trans q3
  have hselP : selectMethod e.platform s.vm cellB.cls mk = .method mk := by rw [Launch.admits_selectMethod X.admits]; exact q4
  obtain ⟨vm₁, X₁, hstep₁⟩ := X.invokevirtual hexec hown hlink hnamed hmethM hstM hkP hkPi hy (a := b) (cell := cellB) hcell
    (fun z h => by rw [h] at hobj; cases hobj) hselP hmethM habM hkP hkPi (g := g) hg (argsL := argsL) (rest := rest) (hlen _ hsigM) hstack hdg
  rcases hK m meth c ⟨T.setVm vm₁, locs, cells, slots⟩ { g with stack := rest } (.invokevirtual index) mk (Value.ref b :: argsL).toArray X₁ hg hsize hdg hW (X₁.named hnamed) (hpre vm₁ X₁.warmed) with ⟨v, B, X', hpost, hsteps⟩ | ⟨q, B, X', hpost, hsteps⟩
  · exact Or.inl ⟨v, vm₁, B, X₁.warmed, X', hpost, fun target h => hstep₁ _ fun acts => by rw [doInvoke_state]; exact hsteps.trans h⟩
  · exact Or.inr ⟨q, vm₁, B, X₁.warmed, X', hpost, hstep₁ _ fun acts => by rw [doInvoke_state]; exact hsteps⟩
theorem vx_callS (X : Stand p l e R s m args below meth c T locs cells slots) (hexec : p.tables.exec = Jvm.exec) {own : String} {index : Nat} {y : MethodName} {bytes : ByteArray} {maxL : Nat} {ret : Option FieldType}
    (hown : s.vm.findClass own = some m.cls) (hlink : (Cond.methodLink own index y).before args s = true) (hstat : (Cond.static y).before args s = true) (hinit : (Cond.initialized y.cls).before args s = true)
    (hcode : (Cond.code y bytes maxL ret).before args s = true) (hy : y.cls ≠ "java/lang/invoke/MethodHandle" ∧ y.cls ≠ "java/lang/invoke/VarHandle")
    {W9 : Nat} {Pre : Pt → Array Value → Prop} {Post : Pt → Array Value → Option Value → Pt → Prop} {PostX : Pt → Array Value → Addr → Pt → Prop} (hK : vx_Back l R p e below s args y 3 W9 Pre Post PostX)
    {g : JFrame} (hg : g.method = m) (hsize : g.locals.size = c.maxLocals) {argsL rest : List Value} (hlen : ∀ sig, parseMethodDescriptor y.desc = some sig → argsL.length = sig.parameters.length)
    (hstack : g.stack = argsL.reverse ++ rest) (hW : 2 * g.monitorRoom + (rest.map fun v => v.category).sum ≤ W9) (hdg : decode c.code g.pc = .ok (.invokestatic index, 3))
    (hpre : ∀ vm₁, s.WarmedH vm₁ → Pre ⟨T.setVm vm₁, locs, cells, slots⟩ argsL.toArray) :
    (∃ (v : Option Value) (vm₁ : Vm) (B : Pt), s.WarmedH vm₁ ∧ Stand p l e R s m args below meth c B.U B.locs B.cells B.slots ∧ Post ⟨T.setVm vm₁, locs, cells, slots⟩ argsL.toArray v B ∧
      ∀ target, Steps p.tables e below (B.U.setTop { g with pc := g.pc + 3, stack := v.toList ++ rest }) target → Steps p.tables e below (T.setTop g) target) ∨
    (∃ (q : Addr) (vm₁ : Vm) (B : Pt), s.WarmedH vm₁ ∧ Stand p l e R s m args below meth c B.U B.locs B.cells B.slots ∧ PostX ⟨T.setVm vm₁, locs, cells, slots⟩ argsL.toArray q B ∧
      Steps p.tables e below (T.setTop g) ((B.U.setTop { g with stack := rest }).pushFrame (.throwing q))) := by
  obtain ⟨mk, hnamed⟩ := Cond.code_named hcode
  obtain ⟨methM, cM, hmethM, -, -, -, -, -, -, hsigM⟩ := Cond.code_spec hnamed hcode
  have hstatic : methM.isStatic = true := Cond.static_spec hnamed hmethM hstat
  obtain ⟨kP, hkP, -⟩ := className_of_methodNamed hnamed
  have hinitP : kP.init = .initialized := Cond.initialized_spec (findClass_of_methodNamed hnamed) hkP hinit
  obtain ⟨vm₁, X₁, hstep₁⟩ := X.invokestatic hexec hown hlink hnamed hmethM hstatic hkP hinitP hy (g := g) hg (argsL := argsL) (rest := rest) (hlen _ hsigM) hstack hdg
  rcases hK m meth c ⟨T.setVm vm₁, locs, cells, slots⟩ { g with stack := rest } (.invokestatic index) mk argsL.toArray X₁ hg hsize hdg hW (X₁.named hnamed) (hpre vm₁ X₁.warmed) with ⟨v, B, X', hpost, hsteps⟩ | ⟨q, B, X', hpost, hsteps⟩
  · exact Or.inl ⟨v, vm₁, B, X₁.warmed, X', hpost, fun target h => hstep₁ _ fun acts => by rw [doInvoke_state]; exact hsteps.trans h⟩
  · exact Or.inr ⟨q, vm₁, B, X₁.warmed, X', hpost, hstep₁ _ fun acts => by rw [doInvoke_state]; exact hsteps⟩
end Calls
theorem vx_cls {s : State} {T : State} {vm₁ : Vm} {E : String} {k : ClassId} (hW : s.WarmedH vm₁) (h : (T.setVm vm₁).vm.findClass E = some k) : s.vm.findClass E = some k := by
  have h1 : vm₁.findClass E = some k := h
  rw [hW.alike.findClass] at h1
  exact h1
/-- the method's frame g, with q thrown over it -/
def vx_W (p : Program) (l : Launch) (e : Env) (R : Room) (s : State) (m : MethodId) (args : Array Value) (below : List Frame) (meth : Method) (c : Code) (H : Heap) (locs : List Loc) (cells slots : Nat) (Q : State → Prop) (g : JFrame) (q : Addr) : Prop :=
  ∀ T : State, T.heap = H → Stand p l e R s m args below meth c T locs cells slots → ∃ t, Steps p.tables e below ((T.setTop g).pushFrame (.throwing q)) t ∧ Q t
def vx_Run (p : Program) (l : Launch) (e : Env) (R : Room) (s : State) (m : MethodId) (args : Array Value) (below : List Frame) (meth : Method) (c : Code) (H : Heap) (locs : List Loc) (cells slots mc ms : Nat) (g : JFrame) (rest : List Value) (Qa : State → Outcome → State → Prop) (XC : String → State → State → Prop) (free : Addr → Prop) : Prop :=
  ∀ T : State, T.heap = H → Stand p l e R s m args below meth c T locs cells slots →
    (∃ (v : Option Value) (st₀ t T' : State) (L : List Loc), st₀.heap = H ∧ Stand p l e R s m args below meth c T' (locs ++ L) (cells + mc) (slots + ms) ∧ (∀ q ∈ L, free q.base) ∧ T'.heap = t.heap ∧ T'.vm = t.vm ∧ Qa st₀ (.returned v) t ∧
      Goes p e below T g T' { g with pc := g.pc + 3, stack := v.toList ++ rest }) ∨
    (∃ (q : Addr) (st₀ t T' : State) (L : List Loc) (E : String) (ce : Cell), st₀.heap = H ∧ Stand p l e R s m args below meth c T' (locs ++ L) (cells + mc) (slots + ms) ∧ (∀ z ∈ L, free z.base) ∧ T'.heap = t.heap ∧ T'.vm = t.vm ∧ XC E st₀ t ∧ t.heap[q]? = some ce ∧ ce.vm = .none ∧ s.vm.findClass E = some ce.cls ∧
      Steps p.tables e below (T.setTop g) ((T'.setTop { g with stack := rest }).pushFrame (.throwing q)))
def vx_X {S : Type} (px : S → Prop) (B : String → S → State → Prop) (A : Nat → Prop) : String → State → State → Prop := fun E st t => ∃ u : S, px u ∧ B E u t ∧ va_F A st t
section Runs
variable {p : Program} {l : Launch} {e : Env} {R : Room} {s : State} {m : MethodId} {args : Array Value} {below : List Frame} {meth : Method} {c : Code} {H : Heap} {locs : List Loc} {cells slots : Nat}
variable {y : MethodName} {bytes cc : ByteArray} {maxL nL mc ms n index : Nat} {ret : Option FieldType} {ws : List Cond} {rm : Room} {Pc : Array Value → State → Prop} {Qc : Array Value → State → Outcome → State → Prop} {XC : String → State → State → Prop} {free : Addr → Prop} {Ts : List Cond} {own C : String} {b : Addr} {As rest : List Value} {g : JFrame}
theorem vx_callBack (cb : CallB R s args own index y bytes maxL ret ws rm mc ms n) (hM : vx_Met l y ws rm Pc Qc XC mc ms free) (hbl : FrameBlind Pc) : vx_Back l R p e below s args y 3 8 (PreOf R mc ms Pc) (PostOf Qc mc ms free) (vx_Post XC mc ms free) := by
  obtain ⟨hrc, hrs, hfr, hlo, hws, hcw, -, hini, -⟩ := cb
  exact vx_back (bytes := bytes) (maxL := maxL) (ret := ret) hM hbl hrc hrs hfr hlo hws hcw (fun a' U hW => word_at hW (Or.inl (by first | rfl | simp [Cond.onTables, Cond.keeps, Cond.steady])) hini)
theorem vx_runV (S : CallFix p m c cc nL s args Ts own) (hM : vx_Met l y ws rm Pc Qc XC mc ms free) (cw : CallW R s args own C index y bytes maxL ret ws rm mc ms n) (hp : PreV s H C b Pc As)
    (hg : g.method = m) (hn : As.length = n) (hsize : g.locals.size = nL) (hstack : g.stack = As.reverse ++ .ref b :: rest) (hW : 2 * g.monitorRoom + (rest.map fun v => v.category).sum ≤ 8) (hdg : decode cc g.pc = .ok (.invokevirtual index, 3)) (hf : cells + mc ≤ R.cells ∧ slots + ms ≤ R.slots) :
    vx_Run p l e R s m args below meth c H locs cells slots mc ms g rest (Qc (Value.ref b :: As).toArray) XC free := by
  have hK : vx_Back l R p e below s args y 3 8 (PreOf R mc ms Pc) (PostOf Qc mc ms free) (vx_Post XC mc ms free) := vx_callBack cw.1 hM hp.1
  obtain ⟨⟨-, -, -, -, -, -, hcode, -, hy, hlen, hl⟩, hin, hse⟩ := cw
  obtain ⟨hx, hb, hml, ho, -⟩ := S
  obtain ⟨-, ⟨cellB, hcB, hoB, hclB⟩, hPc⟩ := hp
  intro T hT X
  rcases vx_callV X hx (C := C) (bytes := bytes) (maxL := maxL) (ret := ret) ho hl hin hse hcode hy hK (by rw [hT]; exact hcB) hoB hclB hg (hsize.trans hml.symm) (argsL := As) (rest := rest) (fun sig h => hn.trans (hlen sig h)) hstack hW (by rw [hb]; exact hdg)
    (fun vm₁ hW₁ => ⟨hf.1, hf.2, hPc (T.setVm vm₁) hT hW₁⟩) with ⟨v, vm₁, ⟨U', l2, c2, s2⟩, hW₁, X', ⟨g', mk, t, L, e1, e2, hq, h1, hL, h2, h3⟩, st⟩ | ⟨q, vm₁, ⟨U', l2, c2, s2⟩, hW₁, X', ⟨g', mk, t, L, E, ce, e1, e2, hq, hce, hcv, hcl, h1, hL, h2, h3⟩, st⟩
  · dsimp only [Pt.U, Pt.locs, Pt.cells, Pt.slots] at X' e1 e2 h1 h2 h3 st
    subst h1; subst h2; subst h3
    exact Or.inl ⟨v, (T.setVm vm₁).calling g' mk (Value.ref b :: As).toArray, t, U', L, hT, X', hL, e1, e2, hq, st⟩
  · dsimp only [Pt.U, Pt.locs, Pt.cells, Pt.slots] at X' e1 e2 h1 h2 h3 st hcl
    subst h1; subst h2; subst h3
    exact Or.inr ⟨q, (T.setVm vm₁).calling g' mk (Value.ref b :: As).toArray, t, U', L, E, ce, hT, X', hL, e1, e2, hq, hce, hcv, vx_cls hW₁ hcl, st⟩
theorem vx_runS (S : CallFix p m c cc nL s args Ts own) (hM : vx_Met l y ws rm Pc Qc XC mc ms free) (cw : CallB R s args own index y bytes maxL ret ws rm mc ms n ∧ (Cond.static y).before args s = true) (hp : PreS s H Pc As)
    (hg : g.method = m) (hn : As.length = n) (hsize : g.locals.size = nL) (hstack : g.stack = As.reverse ++ rest) (hW : 2 * g.monitorRoom + (rest.map fun v => v.category).sum ≤ 8) (hdg : decode cc g.pc = .ok (.invokestatic index, 3)) (hf : cells + mc ≤ R.cells ∧ slots + ms ≤ R.slots) :
    vx_Run p l e R s m args below meth c H locs cells slots mc ms g rest (Qc As.toArray) XC free := by
  have hK : vx_Back l R p e below s args y 3 8 (PreOf R mc ms Pc) (PostOf Qc mc ms free) (vx_Post XC mc ms free) := vx_callBack cw.1 hM hp.1
  obtain ⟨⟨-, -, -, -, -, -, hcode, hini, hy, hlen, hl⟩, hstt⟩ := cw
  obtain ⟨hx, hb, hml, ho, -⟩ := S
  intro T hT X
  rcases vx_callS X hx (bytes := bytes) (maxL := maxL) (ret := ret) ho hl hstt hini hcode hy hK hg (hsize.trans hml.symm) (argsL := As) (rest := rest) (fun sig h => hn.trans (hlen sig h)) hstack hW (by rw [hb]; exact hdg)
    (fun vm₁ hW₁ => ⟨hf.1, hf.2, hp.2 (T.setVm vm₁) hT hW₁⟩) with ⟨v, vm₁, ⟨U', l2, c2, s2⟩, hW₁, X', ⟨g', mk, t, L, e1, e2, hq, h1, hL, h2, h3⟩, st⟩ | ⟨q, vm₁, ⟨U', l2, c2, s2⟩, hW₁, X', ⟨g', mk, t, L, E, ce, e1, e2, hq, hce, hcv, hcl, h1, hL, h2, h3⟩, st⟩
  · dsimp only [Pt.U, Pt.locs, Pt.cells, Pt.slots] at X' e1 e2 h1 h2 h3 st
    subst h1; subst h2; subst h3
    exact Or.inl ⟨v, (T.setVm vm₁).calling g' mk As.toArray, t, U', L, hT, X', hL, e1, e2, hq, st⟩
  · dsimp only [Pt.U, Pt.locs, Pt.cells, Pt.slots] at X' e1 e2 h1 h2 h3 st hcl
    subst h1; subst h2; subst h3
    exact Or.inr ⟨q, (T.setVm vm₁).calling g' mk As.toArray, t, U', L, E, ce, hT, X', hL, e1, e2, hq, hce, hcv, vx_cls hW₁ hcl, st⟩
end Runs
section Rows
variable {p : Program} {l : Launch} {e : Env} {R : Room} {s : State} {m : MethodId} {args : Array Value} {below : List Frame} {meth : Method} {c : Code} {H : Heap} {locs : List Loc} {cells slots : Nat} {Q : State → Prop}
variable {mc ms : Nat} {free : Addr → Prop} {A0 A1 : Nat → Prop} {H0 : Heap} {a : Array Value} {pc : Nat} {ls : Array Slot} {st0 rest : List Value}
theorem vx_keep {st₀ t T' : State} {L : List Loc} (h0 : st₀.heap = H) (e1 : T'.heap = t.heap) (hS : va_S A0 H0 H locs) (hA : ∀ q, q < H.size → A1 q → A0 q) (hf : ∀ q, free q → A0 q) (hL : ∀ q ∈ L, free q.base) (hF : va_F A1 st₀ t) :
    H.size ≤ T'.heap.size ∧ (∀ q : Nat, q < H.size → ¬ A1 q → T'.heap[q]? = H[q]?) ∧ va_S A0 H0 T'.heap (locs ++ L) := by
  obtain ⟨hz, hk⟩ := hF
  rw [h0] at hz hk
  exact ⟨by rw [e1]; exact hz, fun q h1 h2 => by rw [e1]; exact hk q h1 h2,
    ⟨Nat.le_trans hS.1 (by rw [e1]; exact hz), fun q h1 h2 => by rw [e1, hk q (Nat.lt_of_lt_of_le h1 hS.1) (fun z => h2 (hA q (Nat.lt_of_lt_of_le h1 hS.1) z))]; exact hS.2.1 q h1 h2, fun q hq => by
      rcases List.mem_append.mp hq with h | h
      · exact hS.2.2 q h
      · exact hf _ (hL q h)⟩⟩
theorem vx_calli {S SX : Type} {post : Int32 → S → Prop} {px : SX → Prop} {B : S → State → Prop} {BX : String → SX → State → Prop} {AX : Nat → Prop} (hr : vx_Run p l e R s m args below meth c H locs cells slots mc ms (F0 m pc ls st0) rest (va_Qi post B A1 a) (vx_X px BX AX) free) (hS : va_S A0 H0 H locs) (hA : ∀ q, q < H.size → A1 q → A0 q) (hf : ∀ q, free q → A0 q) (hAX : ∀ q, q < H.size → AX q → A0 q)
    (kx : ∀ (E : String) (ce : Cell) (q9 : Addr) (u : SX) (t : State) (H1 : Heap) (locs1 : List Loc), t.heap = H1 → s.vm.Alike t.vm → px u → BX E u t → H.size ≤ H1.size → (∀ q : Nat, q < H.size → ¬ AX q → H1[q]? = H[q]?) → va_S A0 H0 H1 locs1 → H1[q9]? = some ce → ce.vm = .none → s.vm.findClass E = some ce.cls → vx_W p l e R s m args below meth c H1 locs1 (cells + mc) (slots + ms) Q (F0 m pc ls rest) q9)
    (kk : ∀ (r : Int32) (u : S) (t : State) (H1 : Heap) (locs1 : List Loc), t.heap = H1 → s.vm.Alike t.vm → post r u → B u t → H.size ≤ H1.size → (∀ q : Nat, q < H.size → ¬ A1 q → H1[q]? = H[q]?) → va_S A0 H0 H1 locs1 → W p l e R s m args below meth c H1 locs1 (cells + mc) (slots + ms) Q (F0 m (pc + 3) ls (.int r :: rest))) : W p l e R s m args below meth c H locs cells slots Q (F0 m pc ls st0) := by
  intro T hT X
  rcases hr T hT X with ⟨v, st₀, t, T', L, h0, X', hL, e1, e2, ⟨⟨r, u, hv, hp, hb⟩, hF⟩, st⟩ | ⟨q, st₀, t, T', L, E, ce, h0, X', hL, e1, e2, ⟨u, hp, hb, hF⟩, hce, hcv, hcl, st⟩
  · cases hv
    obtain ⟨k1, k2, k3⟩ := vx_keep h0 e1 hS hA hf hL hF
    obtain ⟨t2, a1, b1⟩ := kk r u t T'.heap (locs ++ L) e1.symm (by rw [← e2]; exact X'.warmed.alike) hp hb k1 k2 k3 T' rfl X'
    exact ⟨t2, st t2 a1, b1⟩
  · obtain ⟨k1, k2, k3⟩ := vx_keep h0 e1 hS hAX hf hL hF
    obtain ⟨t2, a1, b1⟩ := kx E ce q u t T'.heap (locs ++ L) e1.symm (by rw [← e2]; exact X'.warmed.alike) hp hb k1 k2 k3 (by rw [e1]; exact hce) hcv hcl T' rfl X'
    exact ⟨t2, st.trans a1, b1⟩
theorem vx_calll {S SX : Type} {post : Int64 → S → Prop} {px : SX → Prop} {B : S → State → Prop} {BX : String → SX → State → Prop} {AX : Nat → Prop} (hr : vx_Run p l e R s m args below meth c H locs cells slots mc ms (F0 m pc ls st0) rest (va_Ql post B A1 a) (vx_X px BX AX) free) (hS : va_S A0 H0 H locs) (hA : ∀ q, q < H.size → A1 q → A0 q) (hf : ∀ q, free q → A0 q) (hAX : ∀ q, q < H.size → AX q → A0 q)
    (kx : ∀ (E : String) (ce : Cell) (q9 : Addr) (u : SX) (t : State) (H1 : Heap) (locs1 : List Loc), t.heap = H1 → s.vm.Alike t.vm → px u → BX E u t → H.size ≤ H1.size → (∀ q : Nat, q < H.size → ¬ AX q → H1[q]? = H[q]?) → va_S A0 H0 H1 locs1 → H1[q9]? = some ce → ce.vm = .none → s.vm.findClass E = some ce.cls → vx_W p l e R s m args below meth c H1 locs1 (cells + mc) (slots + ms) Q (F0 m pc ls rest) q9)
    (kk : ∀ (r : Int64) (u : S) (t : State) (H1 : Heap) (locs1 : List Loc), t.heap = H1 → s.vm.Alike t.vm → post r u → B u t → H.size ≤ H1.size → (∀ q : Nat, q < H.size → ¬ A1 q → H1[q]? = H[q]?) → va_S A0 H0 H1 locs1 → W p l e R s m args below meth c H1 locs1 (cells + mc) (slots + ms) Q (F0 m (pc + 3) ls (.long r :: rest))) : W p l e R s m args below meth c H locs cells slots Q (F0 m pc ls st0) := by
  intro T hT X
  rcases hr T hT X with ⟨v, st₀, t, T', L, h0, X', hL, e1, e2, ⟨⟨r, u, hv, hp, hb⟩, hF⟩, st⟩ | ⟨q, st₀, t, T', L, E, ce, h0, X', hL, e1, e2, ⟨u, hp, hb, hF⟩, hce, hcv, hcl, st⟩
  · cases hv
    obtain ⟨k1, k2, k3⟩ := vx_keep h0 e1 hS hA hf hL hF
    obtain ⟨t2, a1, b1⟩ := kk r u t T'.heap (locs ++ L) e1.symm (by rw [← e2]; exact X'.warmed.alike) hp hb k1 k2 k3 T' rfl X'
    exact ⟨t2, st t2 a1, b1⟩
  · obtain ⟨k1, k2, k3⟩ := vx_keep h0 e1 hS hAX hf hL hF
    obtain ⟨t2, a1, b1⟩ := kx E ce q u t T'.heap (locs ++ L) e1.symm (by rw [← e2]; exact X'.warmed.alike) hp hb k1 k2 k3 (by rw [e1]; exact hce) hcv hcl T' rfl X'
    exact ⟨t2, st.trans a1, b1⟩
theorem vx_callf {S SX : Type} {post : UInt32 → S → Prop} {px : SX → Prop} {B : S → State → Prop} {BX : String → SX → State → Prop} {AX : Nat → Prop} (hr : vx_Run p l e R s m args below meth c H locs cells slots mc ms (F0 m pc ls st0) rest (va_Qf post B A1 a) (vx_X px BX AX) free) (hS : va_S A0 H0 H locs) (hA : ∀ q, q < H.size → A1 q → A0 q) (hf : ∀ q, free q → A0 q) (hAX : ∀ q, q < H.size → AX q → A0 q)
    (kx : ∀ (E : String) (ce : Cell) (q9 : Addr) (u : SX) (t : State) (H1 : Heap) (locs1 : List Loc), t.heap = H1 → s.vm.Alike t.vm → px u → BX E u t → H.size ≤ H1.size → (∀ q : Nat, q < H.size → ¬ AX q → H1[q]? = H[q]?) → va_S A0 H0 H1 locs1 → H1[q9]? = some ce → ce.vm = .none → s.vm.findClass E = some ce.cls → vx_W p l e R s m args below meth c H1 locs1 (cells + mc) (slots + ms) Q (F0 m pc ls rest) q9)
    (kk : ∀ (r : UInt32) (u : S) (t : State) (H1 : Heap) (locs1 : List Loc), t.heap = H1 → s.vm.Alike t.vm → post r u → B u t → H.size ≤ H1.size → (∀ q : Nat, q < H.size → ¬ A1 q → H1[q]? = H[q]?) → va_S A0 H0 H1 locs1 → W p l e R s m args below meth c H1 locs1 (cells + mc) (slots + ms) Q (F0 m (pc + 3) ls (.float r :: rest))) : W p l e R s m args below meth c H locs cells slots Q (F0 m pc ls st0) := by
  intro T hT X
  rcases hr T hT X with ⟨v, st₀, t, T', L, h0, X', hL, e1, e2, ⟨⟨r, u, hv, hp, hb⟩, hF⟩, st⟩ | ⟨q, st₀, t, T', L, E, ce, h0, X', hL, e1, e2, ⟨u, hp, hb, hF⟩, hce, hcv, hcl, st⟩
  · cases hv
    obtain ⟨k1, k2, k3⟩ := vx_keep h0 e1 hS hA hf hL hF
    obtain ⟨t2, a1, b1⟩ := kk r u t T'.heap (locs ++ L) e1.symm (by rw [← e2]; exact X'.warmed.alike) hp hb k1 k2 k3 T' rfl X'
    exact ⟨t2, st t2 a1, b1⟩
  · obtain ⟨k1, k2, k3⟩ := vx_keep h0 e1 hS hAX hf hL hF
    obtain ⟨t2, a1, b1⟩ := kx E ce q u t T'.heap (locs ++ L) e1.symm (by rw [← e2]; exact X'.warmed.alike) hp hb k1 k2 k3 (by rw [e1]; exact hce) hcv hcl T' rfl X'
    exact ⟨t2, st.trans a1, b1⟩
theorem vx_calld {S SX : Type} {post : UInt64 → S → Prop} {px : SX → Prop} {B : S → State → Prop} {BX : String → SX → State → Prop} {AX : Nat → Prop} (hr : vx_Run p l e R s m args below meth c H locs cells slots mc ms (F0 m pc ls st0) rest (va_Qd post B A1 a) (vx_X px BX AX) free) (hS : va_S A0 H0 H locs) (hA : ∀ q, q < H.size → A1 q → A0 q) (hf : ∀ q, free q → A0 q) (hAX : ∀ q, q < H.size → AX q → A0 q)
    (kx : ∀ (E : String) (ce : Cell) (q9 : Addr) (u : SX) (t : State) (H1 : Heap) (locs1 : List Loc), t.heap = H1 → s.vm.Alike t.vm → px u → BX E u t → H.size ≤ H1.size → (∀ q : Nat, q < H.size → ¬ AX q → H1[q]? = H[q]?) → va_S A0 H0 H1 locs1 → H1[q9]? = some ce → ce.vm = .none → s.vm.findClass E = some ce.cls → vx_W p l e R s m args below meth c H1 locs1 (cells + mc) (slots + ms) Q (F0 m pc ls rest) q9)
    (kk : ∀ (r : UInt64) (u : S) (t : State) (H1 : Heap) (locs1 : List Loc), t.heap = H1 → s.vm.Alike t.vm → post r u → B u t → H.size ≤ H1.size → (∀ q : Nat, q < H.size → ¬ A1 q → H1[q]? = H[q]?) → va_S A0 H0 H1 locs1 → W p l e R s m args below meth c H1 locs1 (cells + mc) (slots + ms) Q (F0 m (pc + 3) ls (.double r :: rest))) : W p l e R s m args below meth c H locs cells slots Q (F0 m pc ls st0) := by
  intro T hT X
  rcases hr T hT X with ⟨v, st₀, t, T', L, h0, X', hL, e1, e2, ⟨⟨r, u, hv, hp, hb⟩, hF⟩, st⟩ | ⟨q, st₀, t, T', L, E, ce, h0, X', hL, e1, e2, ⟨u, hp, hb, hF⟩, hce, hcv, hcl, st⟩
  · cases hv
    obtain ⟨k1, k2, k3⟩ := vx_keep h0 e1 hS hA hf hL hF
    obtain ⟨t2, a1, b1⟩ := kk r u t T'.heap (locs ++ L) e1.symm (by rw [← e2]; exact X'.warmed.alike) hp hb k1 k2 k3 T' rfl X'
    exact ⟨t2, st t2 a1, b1⟩
  · obtain ⟨k1, k2, k3⟩ := vx_keep h0 e1 hS hAX hf hL hF
    obtain ⟨t2, a1, b1⟩ := kx E ce q u t T'.heap (locs ++ L) e1.symm (by rw [← e2]; exact X'.warmed.alike) hp hb k1 k2 k3 (by rw [e1]; exact hce) hcv hcl T' rfl X'
    exact ⟨t2, st.trans a1, b1⟩
theorem vx_callv {S SX : Type} {post : S → Prop} {px : SX → Prop} {B : S → State → Prop} {BX : String → SX → State → Prop} {AX : Nat → Prop} (hr : vx_Run p l e R s m args below meth c H locs cells slots mc ms (F0 m pc ls st0) rest (va_Qv post B A1 a) (vx_X px BX AX) free) (hS : va_S A0 H0 H locs) (hA : ∀ q, q < H.size → A1 q → A0 q) (hf : ∀ q, free q → A0 q) (hAX : ∀ q, q < H.size → AX q → A0 q)
    (kx : ∀ (E : String) (ce : Cell) (q9 : Addr) (u : SX) (t : State) (H1 : Heap) (locs1 : List Loc), t.heap = H1 → s.vm.Alike t.vm → px u → BX E u t → H.size ≤ H1.size → (∀ q : Nat, q < H.size → ¬ AX q → H1[q]? = H[q]?) → va_S A0 H0 H1 locs1 → H1[q9]? = some ce → ce.vm = .none → s.vm.findClass E = some ce.cls → vx_W p l e R s m args below meth c H1 locs1 (cells + mc) (slots + ms) Q (F0 m pc ls rest) q9)
    (kk : ∀ (u : S) (t : State) (H1 : Heap) (locs1 : List Loc), t.heap = H1 → s.vm.Alike t.vm → post u → B u t → H.size ≤ H1.size → (∀ q : Nat, q < H.size → ¬ A1 q → H1[q]? = H[q]?) → va_S A0 H0 H1 locs1 → W p l e R s m args below meth c H1 locs1 (cells + mc) (slots + ms) Q (F0 m (pc + 3) ls (rest))) : W p l e R s m args below meth c H locs cells slots Q (F0 m pc ls st0) := by
  intro T hT X
  rcases hr T hT X with ⟨v, st₀, t, T', L, h0, X', hL, e1, e2, ⟨⟨u, hv, hp, hb⟩, hF⟩, st⟩ | ⟨q, st₀, t, T', L, E, ce, h0, X', hL, e1, e2, ⟨u, hp, hb, hF⟩, hce, hcv, hcl, st⟩
  · cases hv
    obtain ⟨k1, k2, k3⟩ := vx_keep h0 e1 hS hA hf hL hF
    obtain ⟨t2, a1, b1⟩ := kk u t T'.heap (locs ++ L) e1.symm (by rw [← e2]; exact X'.warmed.alike) hp hb k1 k2 k3 T' rfl X'
    exact ⟨t2, st t2 a1, b1⟩
  · obtain ⟨k1, k2, k3⟩ := vx_keep h0 e1 hS hAX hf hL hF
    obtain ⟨t2, a1, b1⟩ := kx E ce q u t T'.heap (locs ++ L) e1.symm (by rw [← e2]; exact X'.warmed.alike) hp hb k1 k2 k3 (by rw [e1]; exact hce) hcv hcl T' rfl X'
    exact ⟨t2, st.trans a1, b1⟩
/-- caught by the row x of this method's table; the rows ahead don't take it -/
theorem vx_catch {own name : String} {E : String} {ce : Cell} {q : Addr} (hown : s.vm.findClass own = some m.cls) (pre : List ExceptionTableEntry) (x : ExceptionTableEntry) (suf : List ExceptionTableEntry) (hsplit : c.exceptionTable.toList = pre ++ x :: suf)
    (hpass : ∀ z ∈ pre, covers z pc = false ∨ (z.catchType ≠ 0 ∧ ∃ nm : String, (Cond.classLink own z.catchType nm).before args s = true ∧ va_Nc E nm s)) (hx : covers x pc = true) (h0 : x.catchType ≠ 0)
    (hlink : (Cond.classLink own x.catchType name).before args s = true) (hcast : (Cond.castable E name).before args s = true) (hcell : H[q]? = some ce) (hv : ce.vm = .none) (hcl : s.vm.findClass E = some ce.cls)
    (kk : W p l e R s m args below meth c H locs cells slots Q (F0 m x.handlerPc ls [.ref q])) : vx_W p l e R s m args below meth c H locs cells slots Q (F0 m pc ls rest) q := by
  intro T hT X
  have hpl : e.platform.magicAccessors = ({} : Platform).magicAccessors := by rw [X.admits.platform]
  obtain ⟨c3, c4, hc3, hc4, hasg⟩ := Cond.castable_spec hcast
  cases Option.some.inj (hc3.symm.trans hcl)
  obtain ⟨c5, hc5, hcl5⟩ := Cond.classLink_spec hown hlink e.platform hpl
  cases Option.some.inj (hc4.symm.trans hc5)
  obtain ⟨vm', X', st⟩ := X.thenCaughtThrough q (g := F0 m pc ls rest) rfl (Steps.refl _) (by rw [hT]; exact hcell) (by rw [hv]; rfl) (by obtain ⟨k9, h9, -⟩ := Vm.findClass_spec hcl; exact ⟨k9, h9⟩) pre x suf hsplit
    (fun z hz => by
      rcases hpass z hz with h | ⟨hz0, nm, hl1, hn1⟩
      · exact Or.inl h
      · obtain ⟨c6, hc6, hcl6⟩ := Cond.classLink_spec hown hl1 e.platform hpl
        obtain ⟨a8, b8, h1, h2, h3⟩ := hn1
        cases Option.some.inj (h1.symm.trans hcl)
        cases Option.some.inj (h2.symm.trans hc6)
        exact Or.inr ⟨hz0, _, hcl6, h3⟩) hx (Or.inr ⟨h0, c4, hcl5, hasg⟩)
  obtain ⟨t, a1, b1⟩ := kk (T.setVm vm') hT X'
  exact ⟨t, st.trans a1, b1⟩
end Rows
section Ends
variable {p : Program} {l : Launch} {e : Env} {R : Room} {s : State} {m : MethodId} {args : Array Value} {below : List Frame} {meth : Method} {c : Code} {H : Heap} {locs : List Loc} {cells slots : Nat} {Q : State → Prop}
variable {mc ms : Nat} {free : Addr → Prop} {A0 A1 : Nat → Prop} {H0 : Heap} {a : Array Value} {ls : Array Slot} {st0 rest : List Value}
variable {Qc : Array Value → State → Outcome → State → Prop} {XC : String → State → State → Prop}
/-- what a body that may throw owes at its end -/
def vx_MQ (below : List Frame) (Qc : Array Value → State → Outcome → State → Prop) (XC : String → State → State → Prop) (a : Array Value) (s : State) (mc ms : Nat) (free : Addr → Prop) : State → Prop := fun t =>
  ∃ o, t.status = .running ∧ Ended t below o ∧ vx_Q Qc XC mc ms free a s o t
theorem vx_ret {g : JFrame} {mc ms : Nat} (k : W p l e R s m args below meth c H locs cells slots (MQ below Qc args s mc ms free) g) : W p l e R s m args below meth c H locs cells slots (vx_MQ below Qc XC args s mc ms free) g := by
  intro T hT X
  obtain ⟨t, a1, o, b1, b2, b3, b4⟩ := k T hT X
  exact ⟨t, a1, o, b1, b2, Or.inl ⟨b3, b4⟩⟩
/-- not caught here: it goes on to the caller -/
theorem vx_widen {g : JFrame} {q : Addr} {k n : Nat} (h1 : cells ≤ k) (h2 : slots ≤ n) (kk : vx_W p l e R s m args below meth c H locs k n Q g q) : vx_W p l e R s m args below meth c H locs cells slots Q g q := fun T hT X => kk T hT (stand_widen X h1 h2)
theorem vx_out {pc : Nat} {E : String} {ce : Cell} {q : Addr} {mc ms : Nat} (hout : ∀ x ∈ c.exceptionTable.toList, covers x pc = false) (hlocks : meth.locks = false) (hcell : H[q]? = some ce) (hv : ce.vm = .none) (hcl : s.vm.findClass E = some ce.cls)
    (hx : ∀ t : State, t.heap = H → s.vm.Alike t.vm → XC E s t) (hf : ∀ z ∈ locs, free z.base) (hc : cells ≤ mc) (hs : slots ≤ ms) :
    vx_W p l e R s m args below meth c H locs cells slots (vx_MQ below Qc XC args s mc ms free) (F0 m pc ls rest) q := by
  intro T hT X
  obtain ⟨st1, hrun, hend, hW, hsm⟩ := X.leaveThrown q (g := F0 m pc ls rest) rfl rfl rfl hout hlocks
  have hcell9 : (T.setFrames (.throwing q :: below)).heap[q]? = some ce := by
    show T.heap[q]? = some ce
    rw [hT]; exact hcell
  exact ⟨_, st1, .threw q, hrun, hend, Or.inr ⟨q, rfl, E, ce, locs, hx _ hT hW.alike, hcell9, hv, hcl, hW, hsm.mono hc hs, hf⟩⟩
theorem vx_frame {U : State} {k n : Nat} (h : s.sameButNew ({ U with vm := s.vm } : State) locs k n) : s.heap.size ≤ U.heap.size ∧ ∀ q : Nat, q < s.heap.size → (∀ z ∈ locs, z.base ≠ q) → U.heap[q]? = s.heap[q]? := by
  obtain ⟨-, h2, -, -, -, h6⟩ := h
  refine ⟨h2, fun q hq hz => ?_⟩
  obtain ⟨c9, e1, e2, e3, e4⟩ := h6 q _ (Array.getElem?_eq_getElem hq)
  have hs : c9.slots = (s.heap[q]).slots := Array.ext_getElem? fun i => e4 i fun hm => hz _ hm rfl
  have h9 : c9 = s.heap[q] := by
    rw [hs] at e2
    exact e2
  have e5 : U.heap[q]? = some c9 := e1
  rw [e5, h9, Array.getElem?_eq_getElem hq]
/-- the words of a throw but the four that speak of the heap -/
def vx_no (w : Cond) : Bool := decide (w ≠ .isRef (.static Bundle.tN "UNASSIGNED_STACK" Bundle.steD)) && decide (w ≠ .isRef (.static Bundle.tN "SUPPRESSED_SENTINEL" Bundle.listD)) && decide (w ≠ .laysStatic Bundle.tN "UNASSIGNED_STACK" Bundle.steD) && decide (w ≠ .laysStatic Bundle.tN "SUPPRESSED_SENTINEL" Bundle.listD)
def vx_at0 (own : String) (ic : Nat) (X : String) (names : List String) : List Cond := (Bundle.ownAtoms0 own ic X names).filter vx_no
def vx_atS (own : String) (ic : Nat) (X : String) (names : List String) : List Cond := (Bundle.ownAtoms own ic X names).filter vx_no
/-- a word that the tables alone decide, or a good one -/
def vx_ot (w : Cond) : Bool := w.onTables || goodWord w
theorem vx_ot_at {args a' : Array Value} {s U : State} {w : Cond} (hW : s.WarmedH U.vm) (hvm : s.vm = U.vm) (hg : vx_ot w = true) (h : w.before args s = true) : w.before a' U = true := by
  simp only [vx_ot, Bool.or_eq_true] at hg
  rcases hg with hg | hg
  · exact va_tabs hg hvm h
  · exact word_at hW (good_of_word hg) h
/-- a list's words: the good ones out of the method's own list, the others by premises of their own -/
theorem vx_hat {args : Array Value} {s : State} {L B : List Cond} (h1 : ∀ w ∈ L.filter goodWord, w.before args s = true) (h2 : ∀ w ∈ L.filter (fun w => !goodWord w), w ∈ B) (h3 : ∀ w ∈ B, w.before args s = true) : ∀ w ∈ L, w.before args s = true := by
  intro w hw
  by_cases g : goodWord w = true
  · exact h1 w (List.mem_filter.mpr ⟨hw, g⟩)
  · refine h3 w (h2 w (List.mem_filter.mpr ⟨hw, ?_⟩))
    show (!goodWord w) = true
    cases hgw : goodWord w
    · rfl
    · exact absurd hgw g
theorem vx_c {args : Array Value} {s : State} {w : Cond} {B : List Cond} (h : w.before args s = true) (t : ∀ w ∈ B, w.before args s = true) : ∀ w' ∈ w :: B, w'.before args s = true := fun w' h' => (List.mem_cons.mp h').elim (fun e => by rw [e]; exact h) (t w')
theorem vx_n {args : Array Value} {s : State} : ∀ w ∈ ([] : List Cond), w.before args s = true := fun _ h => nomatch h
theorem vx_own {args : Array Value} {s : State} {L : List Cond} (h1 : ∀ w ∈ L.filter vx_no, w.before args s = true)
    (hU : (Cond.isRef (.static Bundle.tN "UNASSIGNED_STACK" Bundle.steD)).before args s = true) (hN : (Cond.isRef (.static Bundle.tN "SUPPRESSED_SENTINEL" Bundle.listD)).before args s = true)
    (lU : (Cond.laysStatic Bundle.tN "UNASSIGNED_STACK" Bundle.steD).before args s = true) (lN : (Cond.laysStatic Bundle.tN "SUPPRESSED_SENTINEL" Bundle.listD).before args s = true) : ∀ w ∈ L, w.before args s = true := by
  intro w hw
  by_cases e1 : w = .isRef (.static Bundle.tN "UNASSIGNED_STACK" Bundle.steD)
  · rw [e1]; exact hU
  · by_cases e2 : w = .isRef (.static Bundle.tN "SUPPRESSED_SENTINEL" Bundle.listD)
    · rw [e2]; exact hN
    · by_cases e3 : w = .laysStatic Bundle.tN "UNASSIGNED_STACK" Bundle.steD
      · rw [e3]; exact lU
      · by_cases e4 : w = .laysStatic Bundle.tN "SUPPRESSED_SENTINEL" Bundle.listD
        · rw [e4]; exact lN
        · exact h1 w (List.mem_filter.mpr ⟨hw, by unfold vx_no; rw [decide_eq_true e1, decide_eq_true e2, decide_eq_true e3, decide_eq_true e4]; rfl⟩)
/-- where a static field lies, its class's statics cell in H -/
def vx_L (C n d : String) (A : Nat → Prop) (U : State) (H : Heap) : Prop := ∃ (c : ClassId) (k : Class) (i : Nat) (f : Field) (a : Nat) (cell : Cell), U.vm.findClass C = some c ∧ U.fieldFound? C n d = some (c, k, i, f) ∧ f.isStatic = true ∧ k.statics = some a ∧ H[a]? = some cell ∧ cell.vm.isStatics = true ∧ cell.cls = c ∧ f.slot < cell.slots.size ∧ k.staticTypes[f.slot]? = some f.type ∧ ¬ A a
theorem vx_L.moved {C n d : String} {A : Nat → Prop} {u U : State} {H : Heap} (hvm : u.vm.Alike U.vm) (h : vx_L C n d A u H) : vx_L C n d A U H := by
  obtain ⟨c, k, i, f, a, cell, h1, h2, h3, h4, h5, h6, h7, h8, h9, h10⟩ := h
  obtain ⟨k', hi', he⟩ := State.fieldFound?_setVm hvm h2
  exact ⟨c, k', i, f, a, cell, by rw [hvm.findClass]; exact h1, hi', h3, by rw [he]; exact h4, h5, h6, h7, h8, by rw [he]; exact h9, h10⟩
theorem vx_L.kept {C n d : String} {A : Nat → Prop} {U : State} {H H1 : Heap} (h : vx_L C n d A U H) (hq : ∀ a : Nat, a < H.size → ¬ A a → H1[a]? = H[a]?) : vx_L C n d A U H1 := by
  obtain ⟨c, k, i, f, a, cell, h1, h2, h3, h4, h5, h6, h7, h8, h9, h10⟩ := h
  exact ⟨c, k, i, f, a, cell, h1, h2, h3, h4, by rw [hq a (Array.getElem?_eq_some_iff.mp h5).1 h10]; exact h5, h6, h7, h8, h9, h10⟩
theorem vx_L.narrow {C n d : String} {A B : Nat → Prop} {U : State} {H : Heap} (h : vx_L C n d A U H) (hAB : ∀ q, B q → A q) : vx_L C n d B U H := by
  obtain ⟨c, k, i, f, a, cell, h1, h2, h3, h4, h5, h6, h7, h8, h9, h10⟩ := h
  exact ⟨c, k, i, f, a, cell, h1, h2, h3, h4, h5, h6, h7, h8, h9, fun z => h10 (hAB _ z)⟩
theorem vx_L.word {C n d : String} {A : Nat → Prop} {s : State} {args : Array Value} (h : vx_L C n d A s s.heap) : (Cond.laysStatic C n d).before args s = true := by
  obtain ⟨c, k, i, f, a, cell, h1, h2, h3, h4, h5, h6, h7, h8, h9, -⟩ := h
  show (Cond.laysStatic C n d).holds args s none s [] = true
  exact Cond.laysStatic_of h1 h2 h3 h4 h5 h6 h7 h8 h9
/-- .. and what it holds: null or some reference -/
def vx_Zq (C n d : String) (A : Nat → Prop) (U : State) (H : Heap) : Prop := va_Zq C n d A U H ∧ vx_L C n d A U H
theorem vx_Zq.moved {C n d : String} {A : Nat → Prop} {u U : State} {H : Heap} (hvm : u.vm.Alike U.vm) (h : vx_Zq C n d A u H) : vx_Zq C n d A U H := ⟨va_Zq.moved hvm h.1, vx_L.moved hvm h.2⟩
theorem vx_Zq.kept {C n d : String} {A : Nat → Prop} {U : State} {H H1 : Heap} (h : vx_Zq C n d A U H) (hq : ∀ a : Nat, a < H.size → ¬ A a → H1[a]? = H[a]?) : vx_Zq C n d A U H1 := ⟨va_Zq.kept h.1 hq, vx_L.kept h.2 hq⟩
theorem vx_Zq.narrow {C n d : String} {A B : Nat → Prop} {U : State} {H : Heap} (h : vx_Zq C n d A U H) (hAB : ∀ q, B q → A q) : vx_Zq C n d B U H := ⟨va_Zq.narrow h.1 hAB, vx_L.narrow h.2 hAB⟩
theorem vx_Zqof {args : Array Value} {s : State} {C n d : String} {A : Nat → Prop} (hl : (Cond.laysStatic C n d).before args s = true) (hini : (Cond.initialized C).before args s = true) (h : (Cond.isRef (.static C n d)).before args s = true) (hA : ∀ a : Nat, a < s.heap.size → ¬ A a) : vx_Zq C n d A s s.heap := by
  refine ⟨va_Zqof hl hini h hA, ?_⟩
  obtain ⟨c, k, i, f, a, cell, h1, h2, h3, h4, h5, h6, h7, h8, h9⟩ := Cond.laysStatic_spec hl
  exact ⟨c, k, i, f, a, cell, h1, h2, h3, h4, h5, h6, h7, h8, h9, hA a (Array.getElem?_eq_some_iff.mp h5).1⟩
theorem vx_isRef {C n d : String} {v : Value} {A : Nat → Prop} {s : State} {args : Array Value} (h : va_Z C n d v A s s.heap) (hv : v.isRef = true) : (Cond.isRef (.static C n d)).before args s = true := by
  obtain ⟨cf, kf, fi, f, a, cell, h1, h2, h3, h4, h5, h6, h7, -⟩ := h
  have he : (Term.static C n d).eval args s none [] s = some v := by
    simp [Term.eval, State.fieldNamed?, h1, h2, h4, h5, h6, h7]
  simp only [Cond.before, Cond.holds, Cond.value, he]
  cases v <;> simp_all [Value.isRef]
theorem vx_isRefq {C n d : String} {A : Nat → Prop} {s : State} {args : Array Value} (h : va_Zq C n d A s s.heap) : (Cond.isRef (.static C n d)).before args s = true := by
  rcases h with h | ⟨t, h⟩
  · exact vx_isRef h rfl
  · exact vx_isRef h rfl
/-- the same frame, seen from here: as if the method were called anew in this heap -/
theorem vx_rebase {T : State} (X : Stand p l e R s m args below meth c T locs cells slots) {R' : Room} (hf : R'.frames ≤ R.frames) (hl : R'.locals ≤ R.locals) (hc : cells + R'.cells ≤ R.cells) (hs : slots + R'.slots ≤ R.slots) :
    Stand p l e R' ((T.setVm s.vm).setFrames (.invoking m args :: below)) m args below meth c T [] 0 0 := by
  have htop : (T.setVm s.vm).topJava?.isSome := X.here.top
  have hF : ((T.setVm s.vm).setFrames (.invoking m args :: below)).frames = .invoking m args :: below := State.frames_setFrames _ (State.cur_lt_of_top htop)
  obtain ⟨g₀, hg0⟩ := Option.isSome_iff_exists.mp htop
  obtain ⟨r, hr⟩ := State.topJava?_eq_some.mp hg0
  have hl9 : e.platform.stackLimits (T.setVm s.vm).me = e.platform.stackLimits s.me := X.limits
  have hb9 : (T.setVm s.vm).me.stackBytes = s.me.stackBytes := X.bytes
  refine ⟨X.admits, X.cas, X.clock, hF, ?_, X.hears, X.method, X.code, X.here, X.tail, X.warmed, ?_, ?_, ?_⟩
  · have h := X.room
    have hU : ((T.setVm s.vm).setFrames (.invoking m args :: below)).localsInUse = s.localsInUse := by
      rw [State.localsInUse_invoking hF (meth := meth) (c := c) X.method X.code, State.localsInUse_invoking X.frames X.method X.code]
    simp only [State.hasRoom, Bool.and_eq_true, decide_eq_true_eq] at h ⊢
    obtain ⟨⟨⟨⟨h1, h2, h3, h4, h5, h6⟩, h7⟩, h8⟩, h9⟩ := h
    rw [X.frames, List.length_cons] at h2 h3
    have q1 := X.heapSize
    have q2 := X.used
    simp only [hF, hU, List.length_cons, State.stackLimits_setFrames, State.stackBytes_setFrames, hl9, hb9]
    refine ⟨⟨⟨⟨by omega, by omega, by omega, by omega, by omega, h6⟩, ?_⟩, ?_⟩, X.book⟩
    · show T.heap.size + R'.cells ≤ e.platform.maxCells
      omega
    · show T.slotsUsed + R'.slots ≤ e.platform.maxSlots
      omega
  · rw [State.stackLimits_setFrames]; rfl
  · rw [State.stackBytes_setFrames]; rfl
  · refine ⟨?_, Nat.le_refl _, Nat.le_refl _, ?_, ?_, fun a c9 h9 => ⟨c9, h9, rfl, rfl, fun _ _ => rfl⟩⟩
    · obtain ⟨t, ht, -⟩ := State.frames_cons hr
      show T.setVm s.vm = { ((T.setVm s.vm).setFrames (.invoking m args :: below)).setFrames (T.setVm s.vm).frames with heap := T.heap, slotsUsed := T.slotsUsed }
      rw [State.setFrames_setFrames, State.setFrames_self ht]
      rfl
    · show T.slotsUsed = T.slotsUsed + ((T.heap.toList.drop T.heap.size).map (·.slots.size)).sum
      rw [List.drop_eq_nil_of_le (Nat.le_of_eq Array.length_toList)]
      rfl
    · show ((T.heap.toList.drop T.heap.size).map (·.slots.size)).sum ≤ 0
      rw [List.drop_eq_nil_of_le (Nat.le_of_eq Array.length_toList)]
      exact Nat.le_refl _
/-- 'throw new E()': new; dup; invokespecial; athrow -/
theorem vx_throw0 {cc : ByteArray} {pc : Nat} (hexec : p.tables.exec = Jvm.exec) (hb : c.code = cc) (hl : l.stackTraces = false) {own cls : String} {names : List String} {ik ic mc ms : Nat} {A : Nat → Prop}
    (hown : s.vm.findClass own = some m.cls) (hcls : Bundle.fit cls = true) (hnames : ∀ n ∈ names, Bundle.fit n = true)
    (hk : (Cond.classLink own ik cls).before args s = true) (hini : (Cond.initialized cls).before args s = true) (hat : ∀ w ∈ vx_at0 own ic cls names, w.before args s = true)
    (hgood : ∀ w ∈ Cond.classLink own ik cls :: Cond.initialized cls :: vx_at0 own ic cls names, vx_ot w = true)
    (hU : vx_Zq Bundle.tN "UNASSIGNED_STACK" Bundle.steD A s s.heap) (hN : vx_Zq Bundle.tN "SUPPRESSED_SENTINEL" Bundle.listD A s s.heap) (hS : va_S A s.heap H locs) (hsize : ls.size = c.maxLocals)
    (d0 : decode cc pc = .ok (.new ik, 3)) (d3 : decode cc (pc + 3) = .ok (.dup, 1)) (d4 : decode cc (pc + 4) = .ok (.invokespecial ic, 3)) (d7 : decode cc (pc + 7) = .ok (.athrow, 1))
    (hout : ∀ x ∈ c.exceptionTable.toList, covers x (pc + 7) = false)
    (hRframes : names.length + 3 < R.frames) (hRlocals : (rest.map fun v => v.category).sum + (13 * (names.length + 1) + 42) ≤ R.locals) (hRcells : cells + 1 ≤ R.cells) (hRslots : slots + 6 ≤ R.slots) (hlocks : meth.locks = false)
    (hx : ∀ t : State, s.vm.Alike t.vm → H.size ≤ t.heap.size → (∀ q : Nat, q < H.size → t.heap[q]? = H[q]?) → XC cls s t)
    (hf : ∀ z ∈ locs, free z.base) (hc : cells + 1 ≤ mc) (hs : slots + 6 ≤ ms) :
    W p l e R s m args below meth c H locs cells slots (vx_MQ below Qc XC args s mc ms free) (F0 m pc ls rest) := by
  intro T hT X
  have htr : e.platform.stackTraces = false := (show e.platform.stackTraces = l.stackTraces by rw [X.admits.platform]).trans hl
  have Y := vx_rebase X (R' := { frames := R.frames, locals := R.locals, cells := 1, slots := 6 }) (Nat.le_refl _) (Nat.le_refl _) hRcells hRslots
  obtain ⟨s', hA⟩ : ∃ z, z = (T.setVm s.vm).setFrames (.invoking m args :: below) := ⟨_, rfl⟩
  rw [← hA] at Y
  have hvm : s'.vm = s.vm := by rw [hA]; rfl
  have hhp : s'.heap = H := by rw [hA]; exact hT
  have hW0 : s.WarmedH s'.vm := by rw [hvm]; exact State.WarmedH.refl s
  have hat' : ∀ w ∈ vx_at0 own ic cls names, w.before args s' = true := fun w hw => vx_ot_at hW0 hvm.symm (hgood w (List.mem_cons_of_mem _ (List.mem_cons_of_mem _ hw))) (hat w hw)
  have hk' : (Cond.classLink own ik cls).before args s' = true := vx_ot_at hW0 hvm.symm (hgood _ List.mem_cons_self) hk
  have hini' : (Cond.initialized cls).before args s' = true := vx_ot_at hW0 hvm.symm (hgood _ (List.mem_cons_of_mem _ List.mem_cons_self)) hini
  have hU' : vx_Zq Bundle.tN "UNASSIGNED_STACK" Bundle.steD A s' s'.heap := by rw [hhp]; exact vx_Zq.moved hW0.alike (hU.kept hS.2.1)
  have hN' : vx_Zq Bundle.tN "SUPPRESSED_SENTINEL" Bundle.listD A s' s'.heap := by rw [hhp]; exact vx_Zq.moved hW0.alike (hN.kept hS.2.1)
  have h : ∀ w ∈ Bundle.ownAtoms0 own ic cls names, w.before args s' = true := vx_own hat' (vx_isRefq hU'.1) (vx_isRefq hN'.1) hU'.2.word hN'.2.word
  have hown' : s'.vm.findClass own = some m.cls := by rw [hvm]; exact hown
  have hins : (Cond.instantiable cls 6).before args s' = true := h _ (by simp [Bundle.ownAtoms0])
  obtain ⟨vm₁, cX, kX, hfX, hkX, -, -, X₁, st1⟩ := Y.newCold hexec (own := own) (C := cls) (index := ik) (n := 6) hown' hk' hins hini'
    (g := F0 m pc ls rest) rfl (by rw [hb]; exact d0) (Nat.le_refl _) (Nat.le_refl _)
  generalize hT1 : (T.setVm vm₁).pushCell { cls := cX, slots := kX.instanceTypes.map defaultValue, vm := .none } = T1 at X₁ st1
  have hcat : (Value.ref T.heap.size).category = 1 := rfl
  have hcellA : T1.heap[T.heap.size]? = some (freshCell cX kX) := by rw [← hT1]; exact State.heap_pushCell_size _ _
  have d3' : decode c.code (pc + 3) = .ok (.dup, 1) := by rw [hb]; exact d3
  obtain ⟨U, hsteps, hrun, hend, hW, hsame, ce, hce, hO⟩ := X₁.ctorThrow0 hexec htr (own := own) (cls := cls) (names := names) (ic := ic) hown' hcls hnames h (fun x hx => nomatch hx) hfX hkX hcellA (by rw [hhp, hT]; exact Nat.le_refl _)
    (g := { method := m, pc := pc + 4, locals := ls, stack := .ref T.heap.size :: .ref T.heap.size :: rest, locked := none }) rfl hsize rfl rfl (rest := rest) rfl
    (by rw [hb]; exact d4) (by rw [hb]; exact d7) hout hRframes (by simp only [List.map_cons, List.sum_cons, hcat]; omega) hlocks
  obtain ⟨f1, f2⟩ := vx_frame hsame
  rw [hhp] at f1 f2
  have hWs : s.WarmedH U.vm := State.WarmedH.trans hW0 hW
  have hcl : s.vm.findClass cls = some ce.cls := by
    have h9 := hO.cls
    rw [hvm] at h9
    exact h9
  have hall : s.sameButNew ({ U with vm := s.vm } : State) locs mc ms := by
    subst hA
    obtain ⟨e1, e2⟩ := hsame
    rw [State.setFrames_setFrames] at e1
    have h2 : (T.setVm s.vm).sameButNew ({ U with vm := s.vm } : State) [] (0 + 1) (0 + 6) := ⟨e1, e2⟩
    have h3 := X.same.trans h2
    rw [List.append_nil] at h3
    exact h3.mono hc hs
  refine ⟨U, ?_, .threw T.heap.size, hrun, hend, Or.inr ⟨T.heap.size, rfl, cls, ce, locs, hx U hWs.alike f1 (fun q hq => f2 q hq (fun z hz => nomatch hz)), hce, hO.vm, hcl, hWs, hall, hf⟩⟩
  refine st1 _ ?_
  show Steps p.tables e below (T1.setTop { method := m, pc := pc + 3, locals := ls, stack := .ref T.heap.size :: rest, locked := none }) _
  jvm_step X₁.here [X₁.here.top, hexec, d3', Value.category]
  exact hsteps
/-- 'throw new E("text")': new; dup; ldc; invokespecial; athrow -/
theorem vx_throwS {cc : ByteArray} {pc : Nat} (hexec : p.tables.exec = Jvm.exec) (hb : c.code = cc) (hl : l.stackTraces = false) {own cls text : String} {names : List String} {ik is ic mc ms sa : Nat} {A : Nat → Prop}
    (hown : s.vm.findClass own = some m.cls) (hcls : Bundle.fit cls = true) (hnames : ∀ n ∈ names, Bundle.fit n = true)
    (hk : (Cond.classLink own ik cls).before args s = true) (hini : (Cond.initialized cls).before args s = true) (hstr : vk_R own is text sa s) (hat : ∀ w ∈ vx_atS own ic cls names, w.before args s = true)
    (hgood : ∀ w ∈ Cond.classLink own ik cls :: Cond.initialized cls :: vx_atS own ic cls names, vx_ot w = true)
    (hU : vx_Zq Bundle.tN "UNASSIGNED_STACK" Bundle.steD A s s.heap) (hN : vx_Zq Bundle.tN "SUPPRESSED_SENTINEL" Bundle.listD A s s.heap) (hS : va_S A s.heap H locs) (hsize : ls.size = c.maxLocals)
    (d0 : decode cc pc = .ok (.new ik, 3)) (d3 : decode cc (pc + 3) = .ok (.dup, 1)) (d4 : decode cc (pc + 4) = .ok (.ldc is, 2)) (d6 : decode cc (pc + 6) = .ok (.invokespecial ic, 3)) (d9 : decode cc (pc + 9) = .ok (.athrow, 1))
    (hout : ∀ x ∈ c.exceptionTable.toList, covers x (pc + 9) = false)
    (hRframes : names.length + 3 < R.frames) (hRlocals : (rest.map fun v => v.category).sum + (13 * (names.length + 1) + 43) ≤ R.locals) (hRcells : cells + 1 ≤ R.cells) (hRslots : slots + 6 ≤ R.slots) (hlocks : meth.locks = false)
    (hx : ∀ t : State, s.vm.Alike t.vm → H.size ≤ t.heap.size → (∀ q : Nat, q < H.size → t.heap[q]? = H[q]?) → XC cls s t)
    (hf : ∀ z ∈ locs, free z.base) (hc : cells + 1 ≤ mc) (hs : slots + 6 ≤ ms) :
    W p l e R s m args below meth c H locs cells slots (vx_MQ below Qc XC args s mc ms free) (F0 m pc ls rest) := by
  intro T hT X
  have htr : e.platform.stackTraces = false := (show e.platform.stackTraces = l.stackTraces by rw [X.admits.platform]).trans hl
  have Y := vx_rebase X (R' := { frames := R.frames, locals := R.locals, cells := 1, slots := 6 }) (Nat.le_refl _) (Nat.le_refl _) hRcells hRslots
  obtain ⟨s', hA⟩ : ∃ z, z = (T.setVm s.vm).setFrames (.invoking m args :: below) := ⟨_, rfl⟩
  rw [← hA] at Y
  have hvm : s'.vm = s.vm := by rw [hA]; rfl
  have hhp : s'.heap = H := by rw [hA]; exact hT
  have hW0 : s.WarmedH s'.vm := by rw [hvm]; exact State.WarmedH.refl s
  have hat' : ∀ w ∈ vx_atS own ic cls names, w.before args s' = true := fun w hw => vx_ot_at hW0 hvm.symm (hgood w (List.mem_cons_of_mem _ (List.mem_cons_of_mem _ hw))) (hat w hw)
  have hk' : (Cond.classLink own ik cls).before args s' = true := vx_ot_at hW0 hvm.symm (hgood _ List.mem_cons_self) hk
  have hini' : (Cond.initialized cls).before args s' = true := vx_ot_at hW0 hvm.symm (hgood _ (List.mem_cons_of_mem _ List.mem_cons_self)) hini
  have hU' : vx_Zq Bundle.tN "UNASSIGNED_STACK" Bundle.steD A s' s'.heap := by rw [hhp]; exact vx_Zq.moved hW0.alike (hU.kept hS.2.1)
  have hN' : vx_Zq Bundle.tN "SUPPRESSED_SENTINEL" Bundle.listD A s' s'.heap := by rw [hhp]; exact vx_Zq.moved hW0.alike (hN.kept hS.2.1)
  have h : ∀ w ∈ Bundle.ownAtoms own ic cls names, w.before args s' = true := vx_own hat' (vx_isRefq hU'.1) (vx_isRefq hN'.1) hU'.2.word hN'.2.word
  have hown' : s'.vm.findClass own = some m.cls := by rw [hvm]; exact hown
  have hins : (Cond.instantiable cls 6).before args s' = true := h _ (by simp [Bundle.ownAtoms])
  obtain ⟨vm₁, cX, kX, hfX, hkX, -, -, X₁, st1⟩ := Y.newCold hexec (own := own) (C := cls) (index := ik) (n := 6) hown' hk' hins hini'
    (g := F0 m pc ls rest) rfl (by rw [hb]; exact d0) (Nat.le_refl _) (Nat.le_refl _)
  generalize hT1 : (T.setVm vm₁).pushCell { cls := cX, slots := kX.instanceTypes.map defaultValue, vm := .none } = T1 at X₁ st1
  have hcat : (Value.ref T.heap.size).category = 1 := rfl
  have hcellA : T1.heap[T.heap.size]? = some (freshCell cX kX) := by rw [← hT1]; exact State.heap_pushCell_size _ _
  have d3' : decode c.code (pc + 3) = .ok (.dup, 1) := by rw [hb]; exact d3
  have d4' : decode c.code (pc + 4) = .ok (.ldc is, 2) := by rw [hb]; exact d4
  have hstr' : vk_R own is text sa s' := vk_R.warm hW0 hstr
  obtain ⟨U, hsteps, hrun, hend, hW, hsame, ce, hce, hO⟩ := X₁.ctorThrowS hexec htr (own := own) (cls := cls) (names := names) (ic := ic) hown' hcls hnames h (fun x hx => nomatch hx) hfX hkX hcellA (by rw [hhp, hT]; exact Nat.le_refl _) (msg := .ref sa) rfl
    (g := { method := m, pc := pc + 6, locals := ls, stack := .ref sa :: .ref T.heap.size :: .ref T.heap.size :: rest, locked := none }) rfl hsize rfl rfl (rest := rest) rfl
    (by rw [hb]; exact d6) (by rw [hb]; exact d9) hout hRframes (by simp only [List.map_cons, List.sum_cons, hcat]; omega) hlocks
  obtain ⟨f1, f2⟩ := vx_frame hsame
  rw [hhp] at f1 f2
  have hWs : s.WarmedH U.vm := State.WarmedH.trans hW0 hW
  have hcl : s.vm.findClass cls = some ce.cls := by
    have h9 := hO.cls
    rw [hvm] at h9
    exact h9
  have hall : s.sameButNew ({ U with vm := s.vm } : State) locs mc ms := by
    subst hA
    obtain ⟨e1, e2⟩ := hsame
    rw [State.setFrames_setFrames] at e1
    have h2 : (T.setVm s.vm).sameButNew ({ U with vm := s.vm } : State) [] (0 + 1) (0 + 6) := ⟨e1, e2⟩
    have h3 := X.same.trans h2
    rw [List.append_nil] at h3
    exact h3.mono hc hs
  refine ⟨U, ?_, .threw T.heap.size, hrun, hend, Or.inr ⟨T.heap.size, rfl, cls, ce, locs, hx U hWs.alike f1 (fun q hq => f2 q hq (fun z hz => nomatch hz)), hce, hO.vm, hcl, hWs, hall, hf⟩⟩
  refine st1 _ ?_
  show Steps p.tables e below (T1.setTop { method := m, pc := pc + 3, locals := ls, stack := .ref T.heap.size :: rest, locked := none }) _
  jvm_step X₁.here [X₁.here.top, hexec, d3', Value.category]
  exact X₁.ldcString hexec (own := own) (text := text) (index := is) (a := sa) hown' hstr'.1 hstr'.2
    (g := { method := m, pc := pc + 4, locals := ls, stack := .ref T.heap.size :: .ref T.heap.size :: rest, locked := none }) rfl d4' _ hsteps
/-- 'throw new E("text")', the text by a wide index -/
theorem vx_throwSW {cc : ByteArray} {pc : Nat} (hexec : p.tables.exec = Jvm.exec) (hb : c.code = cc) (hl : l.stackTraces = false) {own cls text : String} {names : List String} {ik is ic mc ms sa : Nat} {A : Nat → Prop}
    (hown : s.vm.findClass own = some m.cls) (hcls : Bundle.fit cls = true) (hnames : ∀ n ∈ names, Bundle.fit n = true)
    (hk : (Cond.classLink own ik cls).before args s = true) (hini : (Cond.initialized cls).before args s = true) (hstr : vk_R own is text sa s) (hat : ∀ w ∈ vx_atS own ic cls names, w.before args s = true)
    (hgood : ∀ w ∈ Cond.classLink own ik cls :: Cond.initialized cls :: vx_atS own ic cls names, vx_ot w = true)
    (hU : vx_Zq Bundle.tN "UNASSIGNED_STACK" Bundle.steD A s s.heap) (hN : vx_Zq Bundle.tN "SUPPRESSED_SENTINEL" Bundle.listD A s s.heap) (hS : va_S A s.heap H locs) (hsize : ls.size = c.maxLocals)
    (d0 : decode cc pc = .ok (.new ik, 3)) (d3 : decode cc (pc + 3) = .ok (.dup, 1)) (d4 : decode cc (pc + 4) = .ok (.ldc_w is, 3)) (d7 : decode cc (pc + 7) = .ok (.invokespecial ic, 3)) (d10 : decode cc (pc + 10) = .ok (.athrow, 1))
    (hout : ∀ x ∈ c.exceptionTable.toList, covers x (pc + 10) = false)
    (hRframes : names.length + 3 < R.frames) (hRlocals : (rest.map fun v => v.category).sum + (13 * (names.length + 1) + 43) ≤ R.locals) (hRcells : cells + 1 ≤ R.cells) (hRslots : slots + 6 ≤ R.slots) (hlocks : meth.locks = false)
    (hx : ∀ t : State, s.vm.Alike t.vm → H.size ≤ t.heap.size → (∀ q : Nat, q < H.size → t.heap[q]? = H[q]?) → XC cls s t)
    (hf : ∀ z ∈ locs, free z.base) (hc : cells + 1 ≤ mc) (hs : slots + 6 ≤ ms) :
    W p l e R s m args below meth c H locs cells slots (vx_MQ below Qc XC args s mc ms free) (F0 m pc ls rest) := by
  intro T hT X
  have htr : e.platform.stackTraces = false := (show e.platform.stackTraces = l.stackTraces by rw [X.admits.platform]).trans hl
  have Y := vx_rebase X (R' := { frames := R.frames, locals := R.locals, cells := 1, slots := 6 }) (Nat.le_refl _) (Nat.le_refl _) hRcells hRslots
  obtain ⟨s', hA⟩ : ∃ z, z = (T.setVm s.vm).setFrames (.invoking m args :: below) := ⟨_, rfl⟩
  rw [← hA] at Y
  have hvm : s'.vm = s.vm := by rw [hA]; rfl
  have hhp : s'.heap = H := by rw [hA]; exact hT
  have hW0 : s.WarmedH s'.vm := by rw [hvm]; exact State.WarmedH.refl s
  have hat' : ∀ w ∈ vx_atS own ic cls names, w.before args s' = true := fun w hw => vx_ot_at hW0 hvm.symm (hgood w (List.mem_cons_of_mem _ (List.mem_cons_of_mem _ hw))) (hat w hw)
  have hk' : (Cond.classLink own ik cls).before args s' = true := vx_ot_at hW0 hvm.symm (hgood _ List.mem_cons_self) hk
  have hini' : (Cond.initialized cls).before args s' = true := vx_ot_at hW0 hvm.symm (hgood _ (List.mem_cons_of_mem _ List.mem_cons_self)) hini
  have hU' : vx_Zq Bundle.tN "UNASSIGNED_STACK" Bundle.steD A s' s'.heap := by rw [hhp]; exact vx_Zq.moved hW0.alike (hU.kept hS.2.1)
  have hN' : vx_Zq Bundle.tN "SUPPRESSED_SENTINEL" Bundle.listD A s' s'.heap := by rw [hhp]; exact vx_Zq.moved hW0.alike (hN.kept hS.2.1)
  have h : ∀ w ∈ Bundle.ownAtoms own ic cls names, w.before args s' = true := vx_own hat' (vx_isRefq hU'.1) (vx_isRefq hN'.1) hU'.2.word hN'.2.word
  have hown' : s'.vm.findClass own = some m.cls := by rw [hvm]; exact hown
  have hins : (Cond.instantiable cls 6).before args s' = true := h _ (by simp [Bundle.ownAtoms])
  obtain ⟨vm₁, cX, kX, hfX, hkX, -, -, X₁, st1⟩ := Y.newCold hexec (own := own) (C := cls) (index := ik) (n := 6) hown' hk' hins hini'
    (g := F0 m pc ls rest) rfl (by rw [hb]; exact d0) (Nat.le_refl _) (Nat.le_refl _)
  generalize hT1 : (T.setVm vm₁).pushCell { cls := cX, slots := kX.instanceTypes.map defaultValue, vm := .none } = T1 at X₁ st1
  have hcat : (Value.ref T.heap.size).category = 1 := rfl
  have hcellA : T1.heap[T.heap.size]? = some (freshCell cX kX) := by rw [← hT1]; exact State.heap_pushCell_size _ _
  have d3' : decode c.code (pc + 3) = .ok (.dup, 1) := by rw [hb]; exact d3
  have d4' : decode c.code (pc + 4) = .ok (.ldc_w is, 3) := by rw [hb]; exact d4
  have hstr' : vk_R own is text sa s' := vk_R.warm hW0 hstr
  obtain ⟨U, hsteps, hrun, hend, hW, hsame, ce, hce, hO⟩ := X₁.ctorThrowS hexec htr (own := own) (cls := cls) (names := names) (ic := ic) hown' hcls hnames h (fun x hx => nomatch hx) hfX hkX hcellA (by rw [hhp, hT]; exact Nat.le_refl _) (msg := .ref sa) rfl
    (g := { method := m, pc := pc + 7, locals := ls, stack := .ref sa :: .ref T.heap.size :: .ref T.heap.size :: rest, locked := none }) rfl hsize rfl rfl (rest := rest) rfl
    (by rw [hb]; exact d7) (by rw [hb]; exact d10) hout hRframes (by simp only [List.map_cons, List.sum_cons, hcat]; omega) hlocks
  obtain ⟨f1, f2⟩ := vx_frame hsame
  rw [hhp] at f1 f2
  have hWs : s.WarmedH U.vm := State.WarmedH.trans hW0 hW
  have hcl : s.vm.findClass cls = some ce.cls := by
    have h9 := hO.cls
    rw [hvm] at h9
    exact h9
  have hall : s.sameButNew ({ U with vm := s.vm } : State) locs mc ms := by
    subst hA
    obtain ⟨e1, e2⟩ := hsame
    rw [State.setFrames_setFrames] at e1
    have h2 : (T.setVm s.vm).sameButNew ({ U with vm := s.vm } : State) [] (0 + 1) (0 + 6) := ⟨e1, e2⟩
    have h3 := X.same.trans h2
    rw [List.append_nil] at h3
    exact h3.mono hc hs
  refine ⟨U, ?_, .threw T.heap.size, hrun, hend, Or.inr ⟨T.heap.size, rfl, cls, ce, locs, hx U hWs.alike f1 (fun q hq => f2 q hq (fun z hz => nomatch hz)), hce, hO.vm, hcl, hWs, hall, hf⟩⟩
  refine st1 _ ?_
  show Steps p.tables e below (T1.setTop { method := m, pc := pc + 3, locals := ls, stack := .ref T.heap.size :: rest, locked := none }) _
  jvm_step X₁.here [X₁.here.top, hexec, d3', Value.category]
  exact X₁.ldcStringW hexec (own := own) (text := text) (index := is) (a := sa) hown' hstr'.1 hstr'.2
    (g := { method := m, pc := pc + 4, locals := ls, stack := .ref T.heap.size :: .ref T.heap.size :: rest, locked := none }) rfl d4' _ hsteps
end Ends
section Bodies
variable {l : Launch}
theorem vx_ofW {y : MethodName} {ws ws' : List Cond} {rm : Room} {Pc : Array Value → State → Prop} {Qc : Array Value → State → Outcome → State → Prop} {XC : String → State → State → Prop} {mc ms : Nat} {free : Addr → Prop} {cc : ByteArray} {maxL : Nat} {ret : Option FieldType}
    (hy : plainName y.cls = true) (hw : ws = Cond.code y cc maxL ret :: ws')
    (body : ∀ p e s m args below meth c s₁, BodyLoose p l y (headSpec ws rm) cc maxL ret e s m args below meth c s₁ → c.maxLocals = maxL → (∀ x ∈ c.exceptionTable.toList, False) → Pc args s →
      W p l e (headSpec ws rm).room s m args below meth c s.heap [] 0 0 (vx_MQ below Qc XC args s mc ms free) (entryFrame m args maxL)) : vx_Met l y ws rm Pc Qc XC mc ms free := by
  refine MetFree.of_bodyS (code := cc) (maxLocals := maxL) (ret := ret) hy ?_ ?_
  · intro args s m h hn
    obtain ⟨meth, c, h1, h2, h3, h4, h5, h6, -, -⟩ := Cond.code_spec hn (atoms_spec (ws := ws) h _ (by rw [hw]; exact List.mem_cons_self))
    exact ⟨meth, c, h1, h2, h3, h4, h5, h6⟩
  · intro p e s m args below meth c s₁ B hml hP _
    have hh0 : s₁.heap = s.heap := by rw [B.state]; rfl
    have ht : ∀ x ∈ c.exceptionTable.toList, False := by
      obtain ⟨meth9, c9, h1, h2, -, -, -, -, h7, -⟩ := Cond.code_spec B.named (atoms_spec (ws := ws) B.pre _ (by rw [hw]; exact List.mem_cons_self))
      cases Option.some.inj (h1.symm.trans B.method)
      cases Option.some.inj (h2.symm.trans (Stand.of_body B).code)
      intro x hx
      rw [Array.isEmpty_iff.mp h7] at hx
      cases hx
    obtain ⟨t, a1, o, b1, b2, b3⟩ := body p e s m args below meth c s₁ B hml ht hP s₁ hh0 (Stand.of_body B)
    exact ⟨t, o, a1, b1, b2, b3⟩
/-- the table of a body with handlers -/
theorem vx_table {p : Program} {x y : MethodName} {S : Spec} {cc bytes : ByteArray} {maxL maxL' : Nat} {ret ret' : Option FieldType} {e : Env} {s s₁ : State} {m : MethodId} {args : Array Value} {below : List Frame} {meth : Method} {c : Code} {hh : List (Nat × Nat × Nat × Nat)}
    (B : BodyLoose p l y S cc maxL ret e s m args below meth c s₁) (h : (Cond.codeWith y bytes maxL' ret' hh).before args s = true) : c.exceptionTable.toList = tableOf hh := by
  obtain ⟨m9, meth9, c9, hn9, h1, h2, -, -, h6, -⟩ := Cond.codeWith_spec h
  cases Option.some.inj (hn9.symm.trans B.named)
  cases Option.some.inj (h1.symm.trans B.method)
  cases Option.some.inj (h2.symm.trans (Stand.of_body B).code)
  rw [← h6, table_eq]
end Bodies
end VXA
/-! ===== END ===== -/
/-! ===== BEGIN a static call of a method with an exception table ===== -/
section VXS
variable {p : Program} {l : Launch} {e : Env} {R : Room} {s : State} {m : MethodId} {args : Array Value} {below : List Frame} {meth : Method} {c : Code} {T : State} {H : Heap} {locs : List Loc} {cells slots : Nat}
abbrev vx_CSW (R : Room) (s : State) (args : Array Value) (own : String) (index : Nat) (y : MethodName) (bytes : ByteArray) (maxL : Nat) (ret : Option FieldType) (hh : List (Nat × Nat × Nat × Nat)) (ws : List Cond) (rm : Room) (mc ms n : Nat) : Prop :=
  (rm.cells = mc ∧ rm.slots = ms ∧ rm.frames + 1 ≤ R.frames ∧ 8 + (maxL + 11) + rm.locals ≤ R.locals ∧ (∀ w ∈ ws, ∀ (a' : Array Value) (U : State), s.WarmedH U.vm → w.before a' U = true) ∧ Cond.codeWith y bytes maxL ret hh ∈ ws) ∧
  (Cond.codeWith y bytes maxL ret hh).before args s = true ∧ (Cond.initialized y.cls).before args s = true ∧ (y.cls ≠ "java/lang/invoke/MethodHandle" ∧ y.cls ≠ "java/lang/invoke/VarHandle") ∧
  (∀ sig, parseMethodDescriptor y.desc = some sig → n = sig.parameters.length) ∧ (Cond.methodLink own index y).before args s = true ∧ (Cond.static y).before args s = true
theorem vx_cwSW {own : String} {index maxL mc ms : Nat} {y : MethodName} {bytes : ByteArray} {ret : Option FieldType} {hh : List (Nat × Nat × Nat × Nat)} {Ts ws ws' : List Cond} {rm : Room} (n : Nat) (ht : ∀ w ∈ Ts, w.before args s = true) (hT : GoodIn Ts (va_wsS own index y ws)) (hw : ws = Cond.codeWith y bytes maxL ret hh :: ws') (hrc : rm.cells = mc) (hrs : rm.slots = ms)
    (hd : y.cls ≠ "java/lang/invoke/MethodHandle" ∧ y.cls ≠ "java/lang/invoke/VarHandle" ∧ (parseMethodDescriptor y.desc).map (fun d => d.parameters.length) = some n) (hR : rm.frames + 1 ≤ R.frames ∧ 8 + (maxL + 11) + rm.locals ≤ R.locals) :
    vx_CSW R s args own index y bytes maxL ret hh ws rm mc ms n := by
  have ok : ∀ w ∈ va_wsS own index y ws, w.before args s = true := fun w h => ht w (hT w h).1
  have hG : GoodIn Ts ws := fun w h => hT w (by unfold va_wsS; exact List.mem_append_right _ h)
  have hc : Cond.codeWith y bytes maxL ret hh ∈ ws := by rw [hw]; exact List.mem_cons_self
  refine ⟨⟨hrc, hrs, hR.1, hR.2, pay_in ht hG, hc⟩, ht _ (hG _ hc).1, ok _ (by simp [va_wsS]), ⟨hd.1, hd.2.1⟩, fun sig h => ?_, ok _ (by simp [va_wsS]), ok _ (by simp [va_wsS])⟩
  have h2 := hd.2.2
  rw [h] at h2
  exact (Option.some.inj h2).symm
theorem vx_callSW (X : Stand p l e R s m args below meth c T locs cells slots) (hexec : p.tables.exec = Jvm.exec) {own : String} {index : Nat} {y : MethodName} {bytes : ByteArray} {maxL : Nat} {ret : Option FieldType} {hh : List (Nat × Nat × Nat × Nat)}
    (hown : s.vm.findClass own = some m.cls) (hlink : (Cond.methodLink own index y).before args s = true) (hstat : (Cond.static y).before args s = true) (hinit : (Cond.initialized y.cls).before args s = true)
    (hcode : (Cond.codeWith y bytes maxL ret hh).before args s = true) (hy : y.cls ≠ "java/lang/invoke/MethodHandle" ∧ y.cls ≠ "java/lang/invoke/VarHandle")
    {W9 : Nat} {Pre : Pt → Array Value → Prop} {Post : Pt → Array Value → Option Value → Pt → Prop} (hK : Back l R p e below s args y 3 W9 Pre Post)
    {g : JFrame} (hg : g.method = m) (hsize : g.locals.size = c.maxLocals) {argsL rest : List Value} (hlen : ∀ sig, parseMethodDescriptor y.desc = some sig → argsL.length = sig.parameters.length)
    (hstack : g.stack = argsL.reverse ++ rest) (hW : 2 * g.monitorRoom + (rest.map fun v => v.category).sum ≤ W9) (hdg : decode c.code g.pc = .ok (.invokestatic index, 3))
    (hpre : ∀ vm₁, s.WarmedH vm₁ → Pre ⟨T.setVm vm₁, locs, cells, slots⟩ argsL.toArray) :
    ∃ (v : Option Value) (vm₁ : Vm) (B : Pt), s.WarmedH vm₁ ∧ Stand p l e R s m args below meth c B.U B.locs B.cells B.slots ∧ Post ⟨T.setVm vm₁, locs, cells, slots⟩ argsL.toArray v B ∧
      ∀ target, Steps p.tables e below (B.U.setTop { g with pc := g.pc + 3, stack := v.toList ++ rest }) target → Steps p.tables e below (T.setTop g) target := by
  obtain ⟨mk, methM, cM, hnamed, hmethM, -, -, -, -, -, -, hsigM⟩ := Cond.codeWith_spec hcode
  have hstatic : methM.isStatic = true := Cond.static_spec hnamed hmethM hstat
  obtain ⟨kP, hkP, -⟩ := className_of_methodNamed hnamed
  have hinitP : kP.init = .initialized := Cond.initialized_spec (findClass_of_methodNamed hnamed) hkP hinit
  obtain ⟨vm₁, X₁, hstep₁⟩ := X.invokestatic hexec hown hlink hnamed hmethM hstatic hkP hinitP hy (g := g) hg (argsL := argsL) (rest := rest) (hlen _ hsigM) hstack hdg
  obtain ⟨v, B, X', hpost, hsteps⟩ := hK m meth c ⟨T.setVm vm₁, locs, cells, slots⟩ { g with stack := rest } (.invokestatic index) mk argsL.toArray X₁ hg hsize hdg hW (X₁.named hnamed) (hpre vm₁ X₁.warmed)
  exact ⟨v, vm₁, B, X₁.warmed, X', hpost, fun target h => hstep₁ _ fun acts => by rw [doInvoke_state]; exact hsteps.trans h⟩
theorem vx_runSW {y : MethodName} {bytes cc : ByteArray} {maxL nL mc ms n index : Nat} {ret : Option FieldType} {hh : List (Nat × Nat × Nat × Nat)} {ws : List Cond} {rm : Room} {Pc : Array Value → State → Prop} {Qc : Array Value → State → Outcome → State → Prop} {free : Addr → Prop} {Ts : List Cond} {own : String} {As rest : List Value} {g : JFrame}
    (S : CallFix p m c cc nL s args Ts own) (hM : Met l y ws rm Pc Qc mc ms free) (cw : vx_CSW R s args own index y bytes maxL ret hh ws rm mc ms n) (hp : PreS s H Pc As)
    (hg : g.method = m) (hn : As.length = n) (hsize : g.locals.size = nL) (hstack : g.stack = As.reverse ++ rest) (hW : 2 * g.monitorRoom + (rest.map fun v => v.category).sum ≤ 8) (hdg : decode cc g.pc = .ok (.invokestatic index, 3)) (hf : cells + mc ≤ R.cells ∧ slots + ms ≤ R.slots) :
    va_Run p l e R s m args below meth c H locs cells slots mc ms g rest (Qc As.toArray) (free) := by
  obtain ⟨⟨hrc, hrs, hfr, hlo, hws, hcw⟩, hcode, hini, hy, hlen, hl, hstt⟩ := cw
  have hK : Back l R p e below s args y 3 8 (PreOf R mc ms Pc) (PostOf Qc mc ms free) := va_backW (hh := hh) (bytes := bytes) (maxL := maxL) (ret := ret) hM hp.1 hrc hrs hfr hlo hws hcw (fun a' U hW => word_at hW (Or.inl (by first | rfl | simp [Cond.onTables, Cond.keeps, Cond.steady])) hini)
  obtain ⟨hx, hb, hml, ho, -⟩ := S
  intro T hT X
  obtain ⟨v, vm₁, ⟨U', l2, c2, s2⟩, hW₁, X', ⟨g', mk, t, L, e1, e2, hq, h1, hL, h2, h3⟩, st⟩ := vx_callSW X hx (hh := hh) (bytes := bytes) (maxL := maxL) (ret := ret) ho hl hstt hini hcode hy hK hg (hsize.trans hml.symm) (argsL := As) (rest := rest) (fun sig h => hn.trans (hlen sig h)) hstack hW (by rw [hb]; exact hdg)
    (fun vm₁ hW₁ => ⟨hf.1, hf.2, hp.2 (T.setVm vm₁) hT hW₁⟩)
  dsimp only [Pt.U, Pt.locs, Pt.cells, Pt.slots] at X' e1 e2 h1 h2 h3 st
  subst h1; subst h2; subst h3
  exact ⟨v, (T.setVm vm₁).calling g' mk As.toArray, t, U', L, hT, X', hL, e1, e2, hq, st⟩
/-- not caught here, past rows that name other classes: it goes on to the caller -/
theorem vx_outP {p : Program} {l : Launch} {e : Env} {R : Room} {s : State} {m : MethodId} {args : Array Value} {below : List Frame} {meth : Method} {c : Code} {H : Heap} {locs : List Loc} {cells slots : Nat} {free : Addr → Prop} {ls : Array Slot} {rest : List Value} {Qc : Array Value → State → Outcome → State → Prop} {XC : String → State → State → Prop}
    {pc : Nat} {own E : String} {ce : Cell} {q : Addr} {mc ms : Nat} (hown : s.vm.findClass own = some m.cls) (hlocks : meth.locks = false)
    (hpass : ∀ z ∈ c.exceptionTable.toList, covers z pc = false ∨ (z.catchType ≠ 0 ∧ ∃ nm : String, (Cond.classLink own z.catchType nm).before args s = true ∧ va_Nc E nm s)) (hcell : H[q]? = some ce) (hv : ce.vm = .none) (hcl : s.vm.findClass E = some ce.cls)
    (hx : ∀ t : State, t.heap = H → s.vm.Alike t.vm → XC E s t) (hf : ∀ z ∈ locs, free z.base) (hc : cells ≤ mc) (hs : slots ≤ ms) :
    vx_W p l e R s m args below meth c H locs cells slots (vx_MQ below Qc XC args s mc ms free) (F0 m pc ls rest) q := by
  intro T hT X
  have hpl : e.platform.magicAccessors = ({} : Platform).magicAccessors := by rw [X.admits.platform]
  obtain ⟨vm', hW', X', st⟩ := X.outThrough hlocks q (g := F0 m pc ls rest) rfl rfl rfl (cell := ce) (by rw [hT]; exact hcell) (by rw [hv]; rfl)
    (by obtain ⟨k9, h9, -⟩ := Vm.findClass_spec hcl; exact ⟨k9, h9⟩) (fun z hz => by
      rcases hpass z hz with h | ⟨hz0, nm, hl1, hn1⟩
      · exact Or.inl h
      · obtain ⟨c6, hc6, hcl6⟩ := Cond.classLink_spec hown hl1 e.platform hpl
        obtain ⟨a8, b8, h1, h2, h3⟩ := hn1
        cases Option.some.inj (h1.symm.trans hcl)
        cases Option.some.inj (h2.symm.trans hc6)
        exact Or.inr ⟨hz0, _, hcl6, h3⟩)
  obtain ⟨g₀, hfr⟩ := X'.frames_eq
  have hcell9 : ((T.setVm vm').setFrames (.throwing q :: below)).heap[q]? = some ce := by
    show T.heap[q]? = some ce
    rw [hT]; exact hcell
  have hend : Ended ((T.setVm vm').setFrames (.throwing q :: below)) below (.threw q) := State.frames_setFrames _ (State.cur_lt_of_frames hfr)
  refine ⟨(T.setVm vm').setFrames (.throwing q :: below), ?_, .threw q, X'.here.running, hend, Or.inr ⟨q, rfl, E, ce, locs, hx _ hT (X'.ends _).1.alike, hcell9, hv, hcl, (X'.ends _).1, (X'.ends _).2.mono hc hs, hf⟩⟩
  rw [X.pushThrowing_eq]
  exact st
/-- a thing of a world lies in the heap -/
theorem vx_lt {D : va_G} {cl : List vw_C} {ws : va_W} {H1 : Heap} (h : va_P D cl ws H1) {k : Nat} {q : Nat × va_E} (hk : ws[k]? = some q) : q.1 < H1.size := (h k q hk).lt
end VXS
/-! ===== END ===== -/
/-! ===== BEGIN methods with a table of their own: called by a name, returning or throwing ===== -/
section VXH
/-! vx_backW, vx_callVX, vx_callSX, vx_callVW, vx_runVW, vx_runVX, vx_runSX, vx_ofWH follow the same proofs as their sisters above (Free/Laws.lean, Shelf42/LK1.lean); vx_outP calls Shelf42/NT130.lean (outThrough). -/
section
variable {l : Launch} {R : Room} {p : Program} {e : Env} {below : List Frame} {s : State} {sargs : Array Value} {y : MethodName} {len W9 : Nat}
theorem vx_backW {ws : List Cond} {rm : Room} {Pc : Array Value → State → Prop} {Qc : Array Value → State → Outcome → State → Prop} {XC : String → State → State → Prop} {mc ms : Nat} {free : Addr → Prop} {bytes : ByteArray} {maxL : Nat} {ret : Option FieldType} {hh : List (Nat × Nat × Nat × Nat)}
    (hM : vx_Met l y ws rm Pc Qc XC mc ms free) (hblind : FrameBlind Pc) (hrc : rm.cells = mc) (hrs : rm.slots = ms)
    (hframes : rm.frames + 1 ≤ R.frames) (hlocals : W9 + (maxL + 11) + rm.locals ≤ R.locals)
    (hws : ∀ w ∈ ws, ∀ a' U, s.WarmedH U.vm → w.before a' U = true) (hcode : Cond.codeWith y bytes maxL ret hh ∈ ws) (hinit : ∀ a' U, s.WarmedH U.vm → (Cond.initialized y.cls).before a' U = true) :
    vx_Back l R p e below s sargs y len W9 (PreOf R mc ms Pc) (PostOf Qc mc ms free) (vx_Post XC mc ms free) := by
  intro m meth c A g ig mk a X hg hsize hdg hW hn hp
  have h1 : (headSpec ws rm).pre.before a A.U = true := atoms_intro fun w hw => hws w hw _ _ X.warmed
  have h2 : (Cond.codeWith y bytes maxL ret hh).before a A.U = true := hws _ hcode _ _ X.warmed
  have h3 : (Cond.initialized y.cls).before a A.U = true := hinit _ _ X.warmed
  have h4 : A.cells + (headSpec ws rm).room.cells ≤ R.cells := by rw [show (headSpec ws rm).room.cells = mc from hrc]; exact hp.1
  have h5 : A.slots + (headSpec ws rm).room.slots ≤ R.slots := by rw [show (headSpec ws rm).room.slots = ms from hrs]; exact hp.2.1
  have hPc : Pc a (A.U.calling g mk a) := hblind _ _ _ _ hp.2.2
  obtain ⟨U, Ls, c0, s0⟩ := A
  dsimp only [Pt.U, Pt.locs, Pt.cells, Pt.slots] at h1 h2 h3 h4 h5 X hn hPc ⊢
  obtain ⟨m9, methY, cY, hn9, hmY, hcY, -, hlY, -⟩ := Cond.codeWith_spec h2
  cases Option.some.inj (hn9.symm.trans hn)
  obtain ⟨kY, hkY, -⟩ := className_of_methodNamed hn
  have hinitY : kY.init = .initialized := Cond.initialized_spec (findClass_of_methodNamed hn) hkY h3
  have h : At U g.method c below := by rw [hg]; exact X.here
  have hlocals9 : W9 + (maxL + 11) + (headSpec ws rm).room.locals ≤ R.locals := hlocals
  have happ : (headSpec ws rm).appliesLoose y e.platform (U.calling g mk a) = true :=
    Spec.appliesLoose_calling (g := g) h hdg hn hkY hinitY
      (X.room_calling (g := g) (R' := (headSpec ws rm).room) hsize hmY hcY hframes (by rw [hlY]; omega) h4 h5) h1
  obtain ⟨mid, hmid⟩ := h.above
  have hfr : (U.setTop g).frames = (.java g :: mid) ++ below := by rw [State.frames_setTop' g h.top, hmid]; rfl
  obtain ⟨o, s₂, hsteps, -, hend, hq⟩ := Steps.callFree hM p X.admits X.cas X.clock (acts := []) hfr happ hPc trivial
  have hq' : vx_Q Qc XC mc ms free a (U.calling g mk a) o s₂ := hq
  rw [State.frames_setTop' g h.top] at hend
  obtain ⟨g₀, hg0⟩ := Option.isSome_iff_exists.mp h.top
  obtain ⟨r, hr⟩ := State.topJava?_eq_some.mp hg0
  have hr' : (({ U with heap := s₂.heap, slotsUsed := s₂.slotsUsed } : State).setVm s₂.vm).frames = .java g₀ :: r := hr
  rcases hq' with ⟨hqc, L, hfe, hL⟩ | ⟨q, rfl, E, ce, L, hx, hce, hcv, hcl, hW₂, hsm, hL⟩
  · obtain ⟨⟨v, rfl⟩, hW₂, e2, q2, q3, q4, q5, q6⟩ := id hfe
    have e3 : s₂ = ({ (U.calling g mk a).setFrames s₂.frames with heap := s₂.heap, slotsUsed := s₂.slotsUsed } : State).setVm s₂.vm := by
      have : s₂ = ({ s₂ with vm := (U.calling g mk a).vm } : State).setVm s₂.vm := rfl
      rw [e2] at this
      exact this
    obtain ⟨c₂, i₂, len₂, hc₂, hd₂, hf₂⟩ := hend
    have hW' : U.WarmedH s₂.vm := hW₂
    have hcc : c₂ = c := by
      have h1 : s₂.code? g.method = U.code? g.method := by
        rw [State.code?_eq, State.code?_eq, hW'.alike.method?]
      exact Option.some.inj (hc₂.symm.trans (h1.trans h.code))
    subst hcc
    have hlen : len₂ = len := by rw [hdg] at hd₂; cases hd₂; rfl
    subst hlen
    have hs₂ : s₂ = (({ U with heap := s₂.heap, slotsUsed := s₂.slotsUsed } : State).setVm s₂.vm).setTop { g with pc := g.pc + len₂, stack := v.toList ++ g.stack } := by
      refine e3.trans ?_
      rw [hf₂, State.calling_eq h.top, State.setFrames_setFrames, State.setTop_of_frames _ hr', hr]
      rfl
    have hsame : U.sameButNew ({ U with heap := s₂.heap, slotsUsed := s₂.slotsUsed } : State) L mc ms := by
      refine ⟨?_, q2, q3, q4, q5, q6⟩
      obtain ⟨t, ht, -⟩ := State.frames_cons hr
      show ({ U with heap := s₂.heap, slotsUsed := s₂.slotsUsed } : State) = { U.setFrames U.frames with heap := s₂.heap, slotsUsed := s₂.slotsUsed }
      rw [State.setFrames_self ht]
    subst hg
    refine Or.inl ⟨v, ⟨(({ U with heap := s₂.heap, slotsUsed := s₂.slotsUsed } : State).setVm s₂.vm), Ls ++ L, c0 + mc, s0 + ms⟩,
      ⟨X.admits, X.cas, X.clock, X.frames, X.room, X.hears, X.method, X.code, (X.here.setHeapUsed s₂.heap s₂.slotsUsed).setVm hW'.alike, X.tail, State.WarmedH.trans X.warmed hW', X.limits, X.bytes, X.same.trans (hsame.setVm s.vm)⟩,
      ⟨g, mk, s₂, L, rfl, rfl, hqc, rfl, hL, rfl, rfl⟩, ?_⟩
    show Steps p.tables e below _ ((({ U with heap := s₂.heap, slotsUsed := s₂.slotsUsed } : State).setVm s₂.vm).setTop { g with pc := g.pc + len₂, stack := v.toList ++ g.stack })
    rw [← hs₂]
    exact hsteps
  · obtain ⟨e2, q2, q3, q4, q5, q6⟩ := id hsm
    have e3 : s₂ = ({ (U.calling g mk a).setFrames s₂.frames with heap := s₂.heap, slotsUsed := s₂.slotsUsed } : State).setVm s₂.vm := by
      have : s₂ = ({ s₂ with vm := (U.calling g mk a).vm } : State).setVm s₂.vm := rfl
      rw [e2] at this
      exact this
    have hf₂ : s₂.frames = .throwing q :: .java g :: U.frames.tail := hend
    have hW' : U.WarmedH s₂.vm := hW₂
    have hs₂ : s₂ = ((({ U with heap := s₂.heap, slotsUsed := s₂.slotsUsed } : State).setVm s₂.vm).setTop g).pushFrame (.throwing q) := by
      refine e3.trans ?_
      rw [hf₂, State.calling_eq h.top, State.setFrames_setFrames, State.pushFrame, State.frames_setTop _ hr', State.setTop_of_frames _ hr', State.setFrames_setFrames, hr]
      rfl
    have hsame : U.sameButNew ({ U with heap := s₂.heap, slotsUsed := s₂.slotsUsed } : State) L mc ms := by
      refine ⟨?_, q2, q3, q4, q5, q6⟩
      obtain ⟨t, ht, -⟩ := State.frames_cons hr
      show ({ U with heap := s₂.heap, slotsUsed := s₂.slotsUsed } : State) = { U.setFrames U.frames with heap := s₂.heap, slotsUsed := s₂.slotsUsed }
      rw [State.setFrames_self ht]
    subst hg
    refine Or.inr ⟨q, ⟨(({ U with heap := s₂.heap, slotsUsed := s₂.slotsUsed } : State).setVm s₂.vm), Ls ++ L, c0 + mc, s0 + ms⟩,
      ⟨X.admits, X.cas, X.clock, X.frames, X.room, X.hears, X.method, X.code, (X.here.setHeapUsed s₂.heap s₂.slotsUsed).setVm hW'.alike, X.tail, State.WarmedH.trans X.warmed hW', X.limits, X.bytes, X.same.trans (hsame.setVm s.vm)⟩,
      ⟨g, mk, s₂, L, E, ce, rfl, rfl, hx, hce, hcv, hcl, rfl, hL, rfl, rfl⟩, ?_⟩
    show Steps p.tables e below _ (((({ U with heap := s₂.heap, slotsUsed := s₂.slotsUsed } : State).setVm s₂.vm).setTop g).pushFrame (.throwing q))
    rw [← hs₂]
    exact hsteps
end
variable {p : Program} {l : Launch} {e : Env} {R : Room} {s : State} {m : MethodId} {args : Array Value} {below : List Frame} {meth : Method} {c : Code} {T : State} {H : Heap} {locs : List Loc} {cells slots : Nat}
theorem vx_callVX (X : Stand p l e R s m args below meth c T locs cells slots) (hexec : p.tables.exec = Jvm.exec) {own C : String} {index : Nat} {y : MethodName} {bytes : ByteArray} {maxL : Nat} {ret : Option FieldType} {hh : List (Nat × Nat × Nat × Nat)}
    (hown : s.vm.findClass own = some m.cls) (hlink : (Cond.methodLink own index y).before args s = true) (hinst : (Cond.instanceMethod y).before args s = true) (hsel : (Cond.selects C y y).before args s = true)
    (hcode : (Cond.codeWith y bytes maxL ret hh).before args s = true) (hy : y.cls ≠ "java/lang/invoke/MethodHandle" ∧ y.cls ≠ "java/lang/invoke/VarHandle")
    {W9 : Nat} {Pre : Pt → Array Value → Prop} {Post : Pt → Array Value → Option Value → Pt → Prop} {PostX : Pt → Array Value → Addr → Pt → Prop} (hK : vx_Back l R p e below s args y 3 W9 Pre Post PostX)
    {b : Addr} {cellB : Cell} (hcell : T.heap[b]? = some cellB) (hobj : cellB.vm.isStatics = false) (hcls : s.vm.findClass C = some cellB.cls)
    {g : JFrame} (hg : g.method = m) (hsize : g.locals.size = c.maxLocals) {argsL rest : List Value} (hlen : ∀ sig, parseMethodDescriptor y.desc = some sig → argsL.length = sig.parameters.length)
    (hstack : g.stack = argsL.reverse ++ .ref b :: rest) (hW : 2 * g.monitorRoom + (rest.map fun v => v.category).sum ≤ W9) (hdg : decode c.code g.pc = .ok (.invokevirtual index, 3))
    (hpre : ∀ vm₁, s.WarmedH vm₁ → Pre ⟨T.setVm vm₁, locs, cells, slots⟩ (Value.ref b :: argsL).toArray) :
    (∃ (v : Option Value) (vm₁ : Vm) (B : Pt), s.WarmedH vm₁ ∧ Stand p l e R s m args below meth c B.U B.locs B.cells B.slots ∧ Post ⟨T.setVm vm₁, locs, cells, slots⟩ (Value.ref b :: argsL).toArray v B ∧
      ∀ target, Steps p.tables e below (B.U.setTop { g with pc := g.pc + 3, stack := v.toList ++ rest }) target → Steps p.tables e below (T.setTop g) target) ∨
    (∃ (q : Addr) (vm₁ : Vm) (B : Pt), s.WarmedH vm₁ ∧ Stand p l e R s m args below meth c B.U B.locs B.cells B.slots ∧ PostX ⟨T.setVm vm₁, locs, cells, slots⟩ (Value.ref b :: argsL).toArray q B ∧
      Steps p.tables e below (T.setTop g) ((B.U.setTop { g with stack := rest }).pushFrame (.throwing q))) := by
  obtain ⟨mk, methM, hnamed, hmethM, hstM, habM⟩ := Cond.instanceMethod_spec hinst
  obtain ⟨m8, methM', cM, hn8, hmethM', -, -, -, -, -, -, hsigM⟩ := Cond.codeWith_spec hcode
  cases Option.some.inj (hn8.symm.trans hnamed)
  cases hmethM.symm.trans hmethM'
  obtain ⟨c2, r2, m2, q1, q2, q3, q4, kP, hkP, hkPi⟩ := Cond.selects_spec hsel
  cases hcls.symm.trans q1
  cases (State.methodFound?_of_named hnamed hy).symm.trans q2
  cases hnamed.symm.trans q3
  have hselP : selectMethod e.platform s.vm cellB.cls mk = .method mk := by rw [Launch.admits_selectMethod X.admits]; exact q4
  obtain ⟨vm₁, X₁, hstep₁⟩ := X.invokevirtual hexec hown hlink hnamed hmethM hstM hkP hkPi hy (a := b) (cell := cellB) hcell
    (fun z h => by rw [h] at hobj; cases hobj) hselP hmethM habM hkP hkPi (g := g) hg (argsL := argsL) (rest := rest) (hlen _ hsigM) hstack hdg
  rcases hK m meth c ⟨T.setVm vm₁, locs, cells, slots⟩ { g with stack := rest } (.invokevirtual index) mk (Value.ref b :: argsL).toArray X₁ hg hsize hdg hW (X₁.named hnamed) (hpre vm₁ X₁.warmed) with ⟨v, B, X', hpost, hsteps⟩ | ⟨q, B, X', hpost, hsteps⟩
  · exact Or.inl ⟨v, vm₁, B, X₁.warmed, X', hpost, fun target h => hstep₁ _ fun acts => by rw [doInvoke_state]; exact hsteps.trans h⟩
  · exact Or.inr ⟨q, vm₁, B, X₁.warmed, X', hpost, hstep₁ _ fun acts => by rw [doInvoke_state]; exact hsteps⟩
theorem vx_callSX (X : Stand p l e R s m args below meth c T locs cells slots) (hexec : p.tables.exec = Jvm.exec) {own : String} {index : Nat} {y : MethodName} {bytes : ByteArray} {maxL : Nat} {ret : Option FieldType} {hh : List (Nat × Nat × Nat × Nat)}
    (hown : s.vm.findClass own = some m.cls) (hlink : (Cond.methodLink own index y).before args s = true) (hstat : (Cond.static y).before args s = true) (hinit : (Cond.initialized y.cls).before args s = true)
    (hcode : (Cond.codeWith y bytes maxL ret hh).before args s = true) (hy : y.cls ≠ "java/lang/invoke/MethodHandle" ∧ y.cls ≠ "java/lang/invoke/VarHandle")
    {W9 : Nat} {Pre : Pt → Array Value → Prop} {Post : Pt → Array Value → Option Value → Pt → Prop} {PostX : Pt → Array Value → Addr → Pt → Prop} (hK : vx_Back l R p e below s args y 3 W9 Pre Post PostX)
    {g : JFrame} (hg : g.method = m) (hsize : g.locals.size = c.maxLocals) {argsL rest : List Value} (hlen : ∀ sig, parseMethodDescriptor y.desc = some sig → argsL.length = sig.parameters.length)
    (hstack : g.stack = argsL.reverse ++ rest) (hW : 2 * g.monitorRoom + (rest.map fun v => v.category).sum ≤ W9) (hdg : decode c.code g.pc = .ok (.invokestatic index, 3))
    (hpre : ∀ vm₁, s.WarmedH vm₁ → Pre ⟨T.setVm vm₁, locs, cells, slots⟩ argsL.toArray) :
    (∃ (v : Option Value) (vm₁ : Vm) (B : Pt), s.WarmedH vm₁ ∧ Stand p l e R s m args below meth c B.U B.locs B.cells B.slots ∧ Post ⟨T.setVm vm₁, locs, cells, slots⟩ argsL.toArray v B ∧
      ∀ target, Steps p.tables e below (B.U.setTop { g with pc := g.pc + 3, stack := v.toList ++ rest }) target → Steps p.tables e below (T.setTop g) target) ∨
    (∃ (q : Addr) (vm₁ : Vm) (B : Pt), s.WarmedH vm₁ ∧ Stand p l e R s m args below meth c B.U B.locs B.cells B.slots ∧ PostX ⟨T.setVm vm₁, locs, cells, slots⟩ argsL.toArray q B ∧
      Steps p.tables e below (T.setTop g) ((B.U.setTop { g with stack := rest }).pushFrame (.throwing q))) := by
  obtain ⟨mk, methM, cM, hnamed, hmethM, -, -, -, -, -, -, hsigM⟩ := Cond.codeWith_spec hcode
  have hstatic : methM.isStatic = true := Cond.static_spec hnamed hmethM hstat
  obtain ⟨kP, hkP, -⟩ := className_of_methodNamed hnamed
  have hinitP : kP.init = .initialized := Cond.initialized_spec (findClass_of_methodNamed hnamed) hkP hinit
  obtain ⟨vm₁, X₁, hstep₁⟩ := X.invokestatic hexec hown hlink hnamed hmethM hstatic hkP hinitP hy (g := g) hg (argsL := argsL) (rest := rest) (hlen _ hsigM) hstack hdg
  rcases hK m meth c ⟨T.setVm vm₁, locs, cells, slots⟩ { g with stack := rest } (.invokestatic index) mk argsL.toArray X₁ hg hsize hdg hW (X₁.named hnamed) (hpre vm₁ X₁.warmed) with ⟨v, B, X', hpost, hsteps⟩ | ⟨q, B, X', hpost, hsteps⟩
  · exact Or.inl ⟨v, vm₁, B, X₁.warmed, X', hpost, fun target h => hstep₁ _ fun acts => by rw [doInvoke_state]; exact hsteps.trans h⟩
  · exact Or.inr ⟨q, vm₁, B, X₁.warmed, X', hpost, hstep₁ _ fun acts => by rw [doInvoke_state]; exact hsteps⟩
theorem vx_callVW (X : Stand p l e R s m args below meth c T locs cells slots) (hexec : p.tables.exec = Jvm.exec) {own C : String} {index : Nat} {y : MethodName} {bytes : ByteArray} {maxL : Nat} {ret : Option FieldType} {hh : List (Nat × Nat × Nat × Nat)}
    (hown : s.vm.findClass own = some m.cls) (hlink : (Cond.methodLink own index y).before args s = true) (hinst : (Cond.instanceMethod y).before args s = true) (hsel : (Cond.selects C y y).before args s = true)
    (hcode : (Cond.codeWith y bytes maxL ret hh).before args s = true) (hy : y.cls ≠ "java/lang/invoke/MethodHandle" ∧ y.cls ≠ "java/lang/invoke/VarHandle")
    {W9 : Nat} {Pre : Pt → Array Value → Prop} {Post : Pt → Array Value → Option Value → Pt → Prop} (hK : Back l R p e below s args y 3 W9 Pre Post)
    {b : Addr} {cellB : Cell} (hcell : T.heap[b]? = some cellB) (hobj : cellB.vm.isStatics = false) (hcls : s.vm.findClass C = some cellB.cls)
    {g : JFrame} (hg : g.method = m) (hsize : g.locals.size = c.maxLocals) {argsL rest : List Value} (hlen : ∀ sig, parseMethodDescriptor y.desc = some sig → argsL.length = sig.parameters.length)
    (hstack : g.stack = argsL.reverse ++ .ref b :: rest) (hW : 2 * g.monitorRoom + (rest.map fun v => v.category).sum ≤ W9) (hdg : decode c.code g.pc = .ok (.invokevirtual index, 3))
    (hpre : ∀ vm₁, s.WarmedH vm₁ → Pre ⟨T.setVm vm₁, locs, cells, slots⟩ (Value.ref b :: argsL).toArray) :
    ∃ (v : Option Value) (vm₁ : Vm) (B : Pt), s.WarmedH vm₁ ∧ Stand p l e R s m args below meth c B.U B.locs B.cells B.slots ∧ Post ⟨T.setVm vm₁, locs, cells, slots⟩ (Value.ref b :: argsL).toArray v B ∧
      ∀ target, Steps p.tables e below (B.U.setTop { g with pc := g.pc + 3, stack := v.toList ++ rest }) target → Steps p.tables e below (T.setTop g) target := by
  obtain ⟨mk, methM, hnamed, hmethM, hstM, habM⟩ := Cond.instanceMethod_spec hinst
  obtain ⟨m8, methM', cM, hn8, hmethM', -, -, -, -, -, -, hsigM⟩ := Cond.codeWith_spec hcode
  cases Option.some.inj (hn8.symm.trans hnamed)
  cases hmethM.symm.trans hmethM'
  obtain ⟨c2, r2, m2, q1, q2, q3, q4, kP, hkP, hkPi⟩ := Cond.selects_spec hsel
  cases hcls.symm.trans q1
  cases (State.methodFound?_of_named hnamed hy).symm.trans q2
  cases hnamed.symm.trans q3
  have hselP : selectMethod e.platform s.vm cellB.cls mk = .method mk := by rw [Launch.admits_selectMethod X.admits]; exact q4
  obtain ⟨vm₁, X₁, hstep₁⟩ := X.invokevirtual hexec hown hlink hnamed hmethM hstM hkP hkPi hy (a := b) (cell := cellB) hcell
    (fun z h => by rw [h] at hobj; cases hobj) hselP hmethM habM hkP hkPi (g := g) hg (argsL := argsL) (rest := rest) (hlen _ hsigM) hstack hdg
  obtain ⟨v, B, X', hpost, hsteps⟩ := hK m meth c ⟨T.setVm vm₁, locs, cells, slots⟩ { g with stack := rest } (.invokevirtual index) mk (Value.ref b :: argsL).toArray X₁ hg hsize hdg hW (X₁.named hnamed) (hpre vm₁ X₁.warmed)
  exact ⟨v, vm₁, B, X₁.warmed, X', hpost, fun target h => hstep₁ _ fun acts => by rw [doInvoke_state]; exact hsteps.trans h⟩
abbrev vx_CVW (R : Room) (s : State) (args : Array Value) (own C : String) (index : Nat) (y : MethodName) (bytes : ByteArray) (maxL : Nat) (ret : Option FieldType) (hh : List (Nat × Nat × Nat × Nat)) (ws : List Cond) (rm : Room) (mc ms n : Nat) : Prop :=
  (rm.cells = mc ∧ rm.slots = ms ∧ rm.frames + 1 ≤ R.frames ∧ 8 + (maxL + 11) + rm.locals ≤ R.locals ∧ (∀ w ∈ ws, ∀ (a' : Array Value) (U : State), s.WarmedH U.vm → w.before a' U = true) ∧ Cond.codeWith y bytes maxL ret hh ∈ ws) ∧
  (Cond.codeWith y bytes maxL ret hh).before args s = true ∧ (Cond.initialized y.cls).before args s = true ∧ (y.cls ≠ "java/lang/invoke/MethodHandle" ∧ y.cls ≠ "java/lang/invoke/VarHandle") ∧
  (∀ sig, parseMethodDescriptor y.desc = some sig → n = sig.parameters.length) ∧ (Cond.methodLink own index y).before args s = true ∧ (Cond.instanceMethod y).before args s = true ∧ (Cond.selects C y y).before args s = true
theorem vx_cwVW {own C : String} {index maxL mc ms : Nat} {y : MethodName} {bytes : ByteArray} {ret : Option FieldType} {hh : List (Nat × Nat × Nat × Nat)} {Ts ws ws' : List Cond} {rm : Room} (n : Nat) (ht : ∀ w ∈ Ts, w.before args s = true) (hT : GoodIn Ts (wsV own index C y ws)) (hw : ws = Cond.codeWith y bytes maxL ret hh :: ws') (hrc : rm.cells = mc) (hrs : rm.slots = ms)
    (hd : y.cls = C ∧ y.cls ≠ "java/lang/invoke/MethodHandle" ∧ y.cls ≠ "java/lang/invoke/VarHandle" ∧ (parseMethodDescriptor y.desc).map (fun d => d.parameters.length) = some n) (hR : rm.frames + 1 ≤ R.frames ∧ 8 + (maxL + 11) + rm.locals ≤ R.locals) :
    vx_CVW R s args own C index y bytes maxL ret hh ws rm mc ms n := by
  obtain ⟨hC, hd⟩ := hd
  subst hC
  have ok : ∀ w ∈ wsV own index y.cls y ws, w.before args s = true := fun w h => ht w (hT w h).1
  have hG : GoodIn Ts ws := fun w h => hT w (by unfold wsV; exact List.mem_append_right _ h)
  have hc : Cond.codeWith y bytes maxL ret hh ∈ ws := by rw [hw]; exact List.mem_cons_self
  refine ⟨⟨hrc, hrs, hR.1, hR.2, pay_in ht hG, hc⟩, ht _ (hG _ hc).1, ok _ (by simp [wsV]), ⟨hd.1, hd.2.1⟩, fun sig h => ?_, ok _ (by simp [wsV]), ok _ (by simp [wsV]), ok _ (by simp [wsV])⟩
  have h2 := hd.2.2
  rw [h] at h2
  exact (Option.some.inj h2).symm
theorem vx_runVW {y : MethodName} {bytes cc : ByteArray} {maxL nL mc ms n index : Nat} {ret : Option FieldType} {hh : List (Nat × Nat × Nat × Nat)} {ws : List Cond} {rm : Room} {Pc : Array Value → State → Prop} {Qc : Array Value → State → Outcome → State → Prop} {free : Addr → Prop} {Ts : List Cond} {own C : String} {b : Addr} {As rest : List Value} {g : JFrame}
    (S : CallFix p m c cc nL s args Ts own) (hM : Met l y ws rm Pc Qc mc ms free) (cw : vx_CVW R s args own C index y bytes maxL ret hh ws rm mc ms n) (hp : PreV s H C b Pc As)
    (hg : g.method = m) (hn : As.length = n) (hsize : g.locals.size = nL) (hstack : g.stack = As.reverse ++ .ref b :: rest) (hW : 2 * g.monitorRoom + (rest.map fun v => v.category).sum ≤ 8) (hdg : decode cc g.pc = .ok (.invokevirtual index, 3)) (hf : cells + mc ≤ R.cells ∧ slots + ms ≤ R.slots) :
    va_Run p l e R s m args below meth c H locs cells slots mc ms g rest (Qc (Value.ref b :: As).toArray) free := by
  obtain ⟨⟨hrc, hrs, hfr, hlo, hws, hcw⟩, hcode, hini, hy, hlen, hl, hin, hse⟩ := cw
  have hK : Back l R p e below s args y 3 8 (PreOf R mc ms Pc) (PostOf Qc mc ms free) := va_backW (hh := hh) (bytes := bytes) (maxL := maxL) (ret := ret) hM hp.1 hrc hrs hfr hlo hws hcw (fun a' U hW => word_at hW (Or.inl (by first | rfl | simp [Cond.onTables, Cond.keeps, Cond.steady])) hini)
  obtain ⟨hx, hb, hml, ho, -⟩ := S
  obtain ⟨-, ⟨cellB, hcB, hoB, hclB⟩, hPc⟩ := hp
  intro T hT X
  obtain ⟨v, vm₁, ⟨U', l2, c2, s2⟩, hW₁, X', ⟨g', mk, t, L, e1, e2, hq, h1, hL, h2, h3⟩, st⟩ := vx_callVW X hx (C := C) (hh := hh) (bytes := bytes) (maxL := maxL) (ret := ret) ho hl hin hse hcode hy hK (by rw [hT]; exact hcB) hoB hclB hg (hsize.trans hml.symm) (argsL := As) (rest := rest) (fun sig h => hn.trans (hlen sig h)) hstack hW (by rw [hb]; exact hdg)
    (fun vm₁ hW₁ => ⟨hf.1, hf.2, hPc (T.setVm vm₁) hT hW₁⟩)
  dsimp only [Pt.U, Pt.locs, Pt.cells, Pt.slots] at X' e1 e2 h1 h2 h3 st
  subst h1; subst h2; subst h3
  exact ⟨v, (T.setVm vm₁).calling g' mk (Value.ref b :: As).toArray, t, U', L, hT, X', hL, e1, e2, hq, st⟩
section
variable {y : MethodName} {bytes cc : ByteArray} {maxL nL mc ms n index : Nat} {ret : Option FieldType} {ws : List Cond} {rm : Room} {Pc : Array Value → State → Prop} {Qc : Array Value → State → Outcome → State → Prop} {XC : String → State → State → Prop} {free : Addr → Prop} {Ts : List Cond} {own C : String} {b : Addr} {As rest : List Value} {g : JFrame}
theorem vx_runVX {hh : List (Nat × Nat × Nat × Nat)} (S : CallFix p m c cc nL s args Ts own) (hM : vx_Met l y ws rm Pc Qc XC mc ms free) (cw : vx_CVW R s args own C index y bytes maxL ret hh ws rm mc ms n) (hp : PreV s H C b Pc As)
    (hg : g.method = m) (hn : As.length = n) (hsize : g.locals.size = nL) (hstack : g.stack = As.reverse ++ .ref b :: rest) (hW : 2 * g.monitorRoom + (rest.map fun v => v.category).sum ≤ 8) (hdg : decode cc g.pc = .ok (.invokevirtual index, 3)) (hf : cells + mc ≤ R.cells ∧ slots + ms ≤ R.slots) :
    vx_Run p l e R s m args below meth c H locs cells slots mc ms g rest (Qc (Value.ref b :: As).toArray) XC free := by
  obtain ⟨⟨hrc, hrs, hfr, hlo, hws, hcw⟩, hcode, hini, hy, hlen, hl, hin, hse⟩ := cw
  have hK : vx_Back l R p e below s args y 3 8 (PreOf R mc ms Pc) (PostOf Qc mc ms free) (vx_Post XC mc ms free) := vx_backW (hh := hh) (bytes := bytes) (maxL := maxL) (ret := ret) hM hp.1 hrc hrs hfr hlo hws hcw (fun a' U hW => word_at hW (Or.inl (by first | rfl | simp [Cond.onTables, Cond.keeps, Cond.steady])) hini)
  obtain ⟨hx, hb, hml, ho, -⟩ := S
  obtain ⟨-, ⟨cellB, hcB, hoB, hclB⟩, hPc⟩ := hp
  intro T hT X
  rcases vx_callVX X hx (C := C) (hh := hh) (bytes := bytes) (maxL := maxL) (ret := ret) ho hl hin hse hcode hy hK (by rw [hT]; exact hcB) hoB hclB hg (hsize.trans hml.symm) (argsL := As) (rest := rest) (fun sig h => hn.trans (hlen sig h)) hstack hW (by rw [hb]; exact hdg)
    (fun vm₁ hW₁ => ⟨hf.1, hf.2, hPc (T.setVm vm₁) hT hW₁⟩) with ⟨v, vm₁, ⟨U', l2, c2, s2⟩, hW₁, X', ⟨g', mk, t, L, e1, e2, hq, h1, hL, h2, h3⟩, st⟩ | ⟨q, vm₁, ⟨U', l2, c2, s2⟩, hW₁, X', ⟨g', mk, t, L, E, ce, e1, e2, hq, hce, hcv, hcl, h1, hL, h2, h3⟩, st⟩
  · dsimp only [Pt.U, Pt.locs, Pt.cells, Pt.slots] at X' e1 e2 h1 h2 h3 st
    subst h1; subst h2; subst h3
    exact Or.inl ⟨v, (T.setVm vm₁).calling g' mk (Value.ref b :: As).toArray, t, U', L, hT, X', hL, e1, e2, hq, st⟩
  · dsimp only [Pt.U, Pt.locs, Pt.cells, Pt.slots] at X' e1 e2 h1 h2 h3 st hcl
    subst h1; subst h2; subst h3
    exact Or.inr ⟨q, (T.setVm vm₁).calling g' mk (Value.ref b :: As).toArray, t, U', L, E, ce, hT, X', hL, e1, e2, hq, hce, hcv, vx_cls hW₁ hcl, st⟩
theorem vx_runSX {hh : List (Nat × Nat × Nat × Nat)} (S : CallFix p m c cc nL s args Ts own) (hM : vx_Met l y ws rm Pc Qc XC mc ms free) (cw : vx_CSW R s args own index y bytes maxL ret hh ws rm mc ms n) (hp : PreS s H Pc As)
    (hg : g.method = m) (hn : As.length = n) (hsize : g.locals.size = nL) (hstack : g.stack = As.reverse ++ rest) (hW : 2 * g.monitorRoom + (rest.map fun v => v.category).sum ≤ 8) (hdg : decode cc g.pc = .ok (.invokestatic index, 3)) (hf : cells + mc ≤ R.cells ∧ slots + ms ≤ R.slots) :
    vx_Run p l e R s m args below meth c H locs cells slots mc ms g rest (Qc As.toArray) XC free := by
  obtain ⟨⟨hrc, hrs, hfr, hlo, hws, hcw⟩, hcode, hini, hy, hlen, hl, hstt⟩ := cw
  have hK : vx_Back l R p e below s args y 3 8 (PreOf R mc ms Pc) (PostOf Qc mc ms free) (vx_Post XC mc ms free) := vx_backW (hh := hh) (bytes := bytes) (maxL := maxL) (ret := ret) hM hp.1 hrc hrs hfr hlo hws hcw (fun a' U hW => word_at hW (Or.inl (by first | rfl | simp [Cond.onTables, Cond.keeps, Cond.steady])) hini)
  obtain ⟨hx, hb, hml, ho, -⟩ := S
  intro T hT X
  rcases vx_callSX X hx (hh := hh) (bytes := bytes) (maxL := maxL) (ret := ret) ho hl hstt hini hcode hy hK hg (hsize.trans hml.symm) (argsL := As) (rest := rest) (fun sig h => hn.trans (hlen sig h)) hstack hW (by rw [hb]; exact hdg)
    (fun vm₁ hW₁ => ⟨hf.1, hf.2, hp.2 (T.setVm vm₁) hT hW₁⟩) with ⟨v, vm₁, ⟨U', l2, c2, s2⟩, hW₁, X', ⟨g', mk, t, L, e1, e2, hq, h1, hL, h2, h3⟩, st⟩ | ⟨q, vm₁, ⟨U', l2, c2, s2⟩, hW₁, X', ⟨g', mk, t, L, E, ce, e1, e2, hq, hce, hcv, hcl, h1, hL, h2, h3⟩, st⟩
  · dsimp only [Pt.U, Pt.locs, Pt.cells, Pt.slots] at X' e1 e2 h1 h2 h3 st
    subst h1; subst h2; subst h3
    exact Or.inl ⟨v, (T.setVm vm₁).calling g' mk As.toArray, t, U', L, hT, X', hL, e1, e2, hq, st⟩
  · dsimp only [Pt.U, Pt.locs, Pt.cells, Pt.slots] at X' e1 e2 h1 h2 h3 st hcl
    subst h1; subst h2; subst h3
    exact Or.inr ⟨q, (T.setVm vm₁).calling g' mk As.toArray, t, U', L, E, ce, hT, X', hL, e1, e2, hq, hce, hcv, vx_cls hW₁ hcl, st⟩
end
end VXH
theorem vx_ofWH {l : Launch} {y : MethodName} {ws ws' : List Cond} {rm : Room} {Pc : Array Value → State → Prop} {Qc : Array Value → State → Outcome → State → Prop} {XC : String → State → State → Prop} {mc ms : Nat} {free : Addr → Prop} {cc : ByteArray} {maxL : Nat} {ret : Option FieldType} {hh : List (Nat × Nat × Nat × Nat)}
    (hy : plainName y.cls = true) (hw : ws = Cond.codeWith y cc maxL ret hh :: ws')
    (body : ∀ p e s m args below meth c s₁, BodyLoose p l y (headSpec ws rm) cc maxL ret e s m args below meth c s₁ → c.maxLocals = maxL → Pc args s →
      W p l e (headSpec ws rm).room s m args below meth c s.heap [] 0 0 (vx_MQ below Qc XC args s mc ms free) (entryFrame m args maxL)) : vx_Met l y ws rm Pc Qc XC mc ms free := by
  refine MetFree.of_bodyS (code := cc) (maxLocals := maxL) (ret := ret) hy ?_ ?_
  · intro args s m h hn
    obtain ⟨m9, meth, c, hn9, h1, h2, h3, h4, -, h5, h6, -⟩ := Cond.codeWith_spec (atoms_spec (ws := ws) h _ (by rw [hw]; exact List.mem_cons_self))
    cases hn.symm.trans hn9
    exact ⟨meth, c, h1, h2, h3, h4, h5, h6⟩
  · intro p e s m args below meth c s₁ B hml hP _
    have hh0 : s₁.heap = s.heap := by rw [B.state]; rfl
    obtain ⟨t, a1, o, b1, b2, b3⟩ := body p e s m args below meth c s₁ B hml hP s₁ hh0 (Stand.of_body B)
    exact ⟨t, o, a1, b1, b2, b3⟩
/-! ===== END ===== -/
end
section
-- ===== PART A: goes FIRST, ahead of the names: the tables' words, and 'selects' of the private methods out of them =====
/-- a private method of a class that the tables say can be made, by its rows of tables_1 -/
def lw_okq (q : MethodName × Nat) : Prop := (q.1.cls ≠ "java/lang/invoke/MethodHandle" ∧ q.1.cls ≠ "java/lang/invoke/VarHandle") ∧ Cond.instantiable q.1.cls q.2 ∈ tables_1 ∧ Cond.privateMethod q.1 ∈ tables_1 ∧ Cond.instanceMethod q.1 ∈ tables_1
theorem lw_p0 : lw_okq (⟨"Copperleaf", "requireReader", "(I)V"⟩, 7) := ⟨⟨by decide +kernel, by decide +kernel⟩, List.mem_of_getElem? (i := 13) (by decide +kernel), List.mem_of_getElem? (i := 173) (by decide +kernel), List.mem_of_getElem? (i := 174) (by decide +kernel)⟩
theorem lw_p1 : lw_okq (⟨"Copperleaf", "isOpen", "(I)Z"⟩, 7) := ⟨⟨by decide +kernel, by decide +kernel⟩, List.mem_of_getElem? (i := 13) (by decide +kernel), List.mem_of_getElem? (i := 177) (by decide +kernel), List.mem_of_getElem? (i := 178) (by decide +kernel)⟩
theorem lw_p2 : lw_okq (⟨"java/lang/Throwable", "fillInStackTrace", "(I)Ljava/lang/Throwable;"⟩, 6) := ⟨⟨by decide +kernel, by decide +kernel⟩, List.mem_of_getElem? (i := 220) (by decide +kernel), List.mem_of_getElem? (i := 218) (by decide +kernel), List.mem_of_getElem? (i := 219) (by decide +kernel)⟩
theorem lw_p3 : lw_okq (⟨"Copperleaf", "keepStates", "([ZI)V"⟩, 7) := ⟨⟨by decide +kernel, by decide +kernel⟩, List.mem_of_getElem? (i := 13) (by decide +kernel), List.mem_of_getElem? (i := 258) (by decide +kernel), List.mem_of_getElem? (i := 259) (by decide +kernel)⟩
theorem lw_p4 : lw_okq (⟨"Copperleaf", "sumsUp", "(I)Z"⟩, 7) := ⟨⟨by decide +kernel, by decide +kernel⟩, List.mem_of_getElem? (i := 13) (by decide +kernel), List.mem_of_getElem? (i := 265) (by decide +kernel), List.mem_of_getElem? (i := 266) (by decide +kernel)⟩
theorem lw_p5 : lw_okq (⟨"Copperleaf", "wordIn", "(II)J"⟩, 7) := ⟨⟨by decide +kernel, by decide +kernel⟩, List.mem_of_getElem? (i := 13) (by decide +kernel), List.mem_of_getElem? (i := 269) (by decide +kernel), List.mem_of_getElem? (i := 270) (by decide +kernel)⟩
theorem lw_p6 : lw_okq (⟨"Copperleaf", "requirePage", "(I)V"⟩, 7) := ⟨⟨by decide +kernel, by decide +kernel⟩, List.mem_of_getElem? (i := 13) (by decide +kernel), List.mem_of_getElem? (i := 294) (by decide +kernel), List.mem_of_getElem? (i := 295) (by decide +kernel)⟩
theorem lw_p7 : lw_okq (⟨"Copperleaf", "viewed", "(I)LCopperleaf$State;"⟩, 7) := ⟨⟨by decide +kernel, by decide +kernel⟩, List.mem_of_getElem? (i := 13) (by decide +kernel), List.mem_of_getElem? (i := 366) (by decide +kernel), List.mem_of_getElem? (i := 367) (by decide +kernel)⟩
theorem lw_p8 : lw_okq (⟨"Copperleaf", "requireEntry", "(II)V"⟩, 7) := ⟨⟨by decide +kernel, by decide +kernel⟩, List.mem_of_getElem? (i := 13) (by decide +kernel), List.mem_of_getElem? (i := 391) (by decide +kernel), List.mem_of_getElem? (i := 392) (by decide +kernel)⟩
theorem lw_p9 : lw_okq (⟨"Copperleaf", "valueIn", "(LCopperleaf$State;I)I"⟩, 7) := ⟨⟨by decide +kernel, by decide +kernel⟩, List.mem_of_getElem? (i := 13) (by decide +kernel), List.mem_of_getElem? (i := 500) (by decide +kernel), List.mem_of_getElem? (i := 501) (by decide +kernel)⟩
theorem lw_p10 : lw_okq (⟨"Copperleaf", "requireBatch", "()V"⟩, 7) := ⟨⟨by decide +kernel, by decide +kernel⟩, List.mem_of_getElem? (i := 13) (by decide +kernel), List.mem_of_getElem? (i := 599) (by decide +kernel), List.mem_of_getElem? (i := 600) (by decide +kernel)⟩
theorem lw_p11 : lw_okq (⟨"Copperleaf", "latestWholeSlot", "()I"⟩, 7) := ⟨⟨by decide +kernel, by decide +kernel⟩, List.mem_of_getElem? (i := 13) (by decide +kernel), List.mem_of_getElem? (i := 724) (by decide +kernel), List.mem_of_getElem? (i := 725) (by decide +kernel)⟩
theorem lw_p12 : lw_okq (⟨"Copperleaf", "endBatch", "()V"⟩, 7) := ⟨⟨by decide +kernel, by decide +kernel⟩, List.mem_of_getElem? (i := 13) (by decide +kernel), List.mem_of_getElem? (i := 728) (by decide +kernel), List.mem_of_getElem? (i := 729) (by decide +kernel)⟩
theorem lw_p13 : lw_okq (⟨"Copperleaf", "writeSlot", "(II)V"⟩, 7) := ⟨⟨by decide +kernel, by decide +kernel⟩, List.mem_of_getElem? (i := 13) (by decide +kernel), List.mem_of_getElem? (i := 744) (by decide +kernel), List.mem_of_getElem? (i := 745) (by decide +kernel)⟩
theorem lw_p14 : lw_okq (⟨"Copperleaf", "wordOfBatch", "(I)J"⟩, 7) := ⟨⟨by decide +kernel, by decide +kernel⟩, List.mem_of_getElem? (i := 13) (by decide +kernel), List.mem_of_getElem? (i := 748) (by decide +kernel), List.mem_of_getElem? (i := 749) (by decide +kernel)⟩
def lw_privs_1 : List (MethodName × Nat) := [(⟨"Copperleaf", "requireReader", "(I)V"⟩, 7), (⟨"Copperleaf", "isOpen", "(I)Z"⟩, 7), (⟨"java/lang/Throwable", "fillInStackTrace", "(I)Ljava/lang/Throwable;"⟩, 6), (⟨"Copperleaf", "keepStates", "([ZI)V"⟩, 7), (⟨"Copperleaf", "sumsUp", "(I)Z"⟩, 7), (⟨"Copperleaf", "wordIn", "(II)J"⟩, 7), (⟨"Copperleaf", "requirePage", "(I)V"⟩, 7), (⟨"Copperleaf", "viewed", "(I)LCopperleaf$State;"⟩, 7), (⟨"Copperleaf", "requireEntry", "(II)V"⟩, 7), (⟨"Copperleaf", "valueIn", "(LCopperleaf$State;I)I"⟩, 7), (⟨"Copperleaf", "requireBatch", "()V"⟩, 7), (⟨"Copperleaf", "latestWholeSlot", "()I"⟩, 7), (⟨"Copperleaf", "endBatch", "()V"⟩, 7), (⟨"Copperleaf", "writeSlot", "(II)V"⟩, 7), (⟨"Copperleaf", "wordOfBatch", "(I)J"⟩, 7)]
theorem lw_r1 : ∀ q ∈ lw_privs_1, lw_okq q := List.forall_mem_cons.mpr ⟨lw_p0, List.forall_mem_cons.mpr ⟨lw_p1, List.forall_mem_cons.mpr ⟨lw_p2, List.forall_mem_cons.mpr ⟨lw_p3, List.forall_mem_cons.mpr ⟨lw_p4, List.forall_mem_cons.mpr ⟨lw_p5, List.forall_mem_cons.mpr ⟨lw_p6, List.forall_mem_cons.mpr ⟨lw_p7, List.forall_mem_cons.mpr ⟨lw_p8, List.forall_mem_cons.mpr ⟨lw_p9, List.forall_mem_cons.mpr ⟨lw_p10, List.forall_mem_cons.mpr ⟨lw_p11, List.forall_mem_cons.mpr ⟨lw_p12, List.forall_mem_cons.mpr ⟨lw_p13, List.forall_mem_cons.mpr ⟨lw_p14, fun _ h => absurd h List.not_mem_nil⟩⟩⟩⟩⟩⟩⟩⟩⟩⟩⟩⟩⟩⟩⟩
def lw_privs : List (MethodName × Nat) := lw_privs_1
def lw_tbl : List Cond := k2_sels lw_privs ++ tables_1
theorem lw_privs_ok : ∀ q ∈ lw_privs, lw_okq q := lw_r1
end
section
/-! names, out of claim/NAMES.whole.lean.txt -/
def RX0 : String := "Copperleaf$Pages"
def TX0 : u_T := fun k => match k with
  | 0 => ("Copperleaf$Pages", "counts", "[I", true)
  | 1 => ("Copperleaf$Pages", "inner", "[Z", true)
  | 2 => ("Copperleaf$Pages", "leafKeys", "[I", true)
  | 3 => ("Copperleaf$Pages", "words", "[I", true)
  | 4 => ("Copperleaf$Pages", "kept", "[Z", true)
  | 5 => ("Copperleaf$Pages", "written", "[Z", true)
  | 6 => ("Copperleaf$Pages", "marked", "[Z", true)
  | _ => ("Copperleaf$Pages", "listed", "[I", true)
def tyX0 : Nat → FieldType := fun k => match k with
  | 0 => .array .int
  | 1 => .array .boolean
  | 2 => .array .int
  | 3 => .array .int
  | 4 => .array .boolean
  | 5 => .array .boolean
  | 6 => .array .boolean
  | _ => .array .int
abbrev wsX00 : List Cond := u_ws RX0 TX0 8
theorem nmX0 : ∀ a, a < 8 → ∀ b, b < 8 → a ≠ b → (TX0 a).2.1 ≠ (TX0 b).2.1 := by decide +kernel
theorem tyX0_ok : ∀ k, k < 8 → parseFieldDescriptor (TX0 k).2.2.1 = some (tyX0 k) := by decide +kernel
abbrev cX0_init : ByteArray := prog_2_method_1_code
def yX0_init : MethodName := ⟨RX0, "<init>", "()V"⟩
abbrev cX0_isCell : ByteArray := prog_2_method_2_code
def yX0_isCell : MethodName := ⟨RX0, "isCell", "(II)Z"⟩
abbrev cX0_isVacant : ByteArray := prog_2_method_3_code
def yX0_isVacant : MethodName := ⟨RX0, "isVacant", "(I)Z"⟩
abbrev cX0_leastVacant : ByteArray := prog_2_method_4_code
def yX0_leastVacant : MethodName := ⟨RX0, "leastVacant", "()I"⟩
abbrev cX0_countOf : ByteArray := prog_2_method_5_code
def yX0_countOf : MethodName := ⟨RX0, "countOf", "(I)I"⟩
abbrev cX0_isLeaf : ByteArray := prog_2_method_6_code
def yX0_isLeaf : MethodName := ⟨RX0, "isLeaf", "(I)Z"⟩
abbrev cX0_wordOf : ByteArray := prog_2_method_7_code
def yX0_wordOf : MethodName := ⟨RX0, "wordOf", "(II)I"⟩
abbrev cX0_setWord : ByteArray := prog_2_method_8_code
def yX0_setWord : MethodName := ⟨RX0, "setWord", "(III)V"⟩
abbrev cX0_keyOf : ByteArray := prog_2_method_9_code
def yX0_keyOf : MethodName := ⟨RX0, "keyOf", "(II)I"⟩
abbrev cX0_placeOf : ByteArray := prog_2_method_10_code
def yX0_placeOf : MethodName := ⟨RX0, "placeOf", "(II)I"⟩
abbrev cX0_holds : ByteArray := prog_2_method_11_code
def yX0_holds : MethodName := ⟨RX0, "holds", "(III)Z"⟩
abbrev cX0_entryFor : ByteArray := prog_2_method_12_code
def yX0_entryFor : MethodName := ⟨RX0, "entryFor", "(II)I"⟩
abbrev cX0_leafFor : ByteArray := prog_2_method_13_code
def yX0_leafFor : MethodName := ⟨RX0, "leafFor", "(II)I"⟩
abbrev cX0_levelsFrom : ByteArray := prog_2_method_14_code
def yX0_levelsFrom : MethodName := ⟨RX0, "levelsFrom", "(I)I"⟩
abbrev cX0_listTree : ByteArray := prog_2_method_15_code
def yX0_listTree : MethodName := ⟨RX0, "listTree", "(I)I"⟩
abbrev cX0_unmark : ByteArray := prog_2_method_16_code
def yX0_unmark : MethodName := ⟨RX0, "unmark", "([Z)V"⟩
abbrev cX0_markTree : ByteArray := prog_2_method_17_code
def yX0_markTree : MethodName := ⟨RX0, "markTree", "([ZI)V"⟩
abbrev cX0_countMarked : ByteArray := prog_2_method_18_code
def yX0_countMarked : MethodName := ⟨RX0, "countMarked", "(I)I"⟩
abbrev cX0_leastKeyFrom : ByteArray := prog_2_method_19_code
def yX0_leastKeyFrom : MethodName := ⟨RX0, "leastKeyFrom", "(II)I"⟩
abbrev cX0_keysBelow : ByteArray := prog_2_method_20_code
def yX0_keysBelow : MethodName := ⟨RX0, "keysBelow", "(II)I"⟩
abbrev cX0_take : ByteArray := prog_2_method_21_code
def yX0_take : MethodName := ⟨RX0, "take", "(Z)I"⟩
abbrev cX0_leave : ByteArray := prog_2_method_22_code
def yX0_leave : MethodName := ⟨RX0, "leave", "(I)V"⟩
abbrev cX0_writeAnew : ByteArray := prog_2_method_23_code
def yX0_writeAnew : MethodName := ⟨RX0, "writeAnew", "(I)I"⟩
abbrev cX0_insert : ByteArray := prog_2_method_24_code
def yX0_insert : MethodName := ⟨RX0, "insert", "(IIII)V"⟩
abbrev cX0_remove : ByteArray := prog_2_method_25_code
def yX0_remove : MethodName := ⟨RX0, "remove", "(II)V"⟩
abbrev cX0_append : ByteArray := prog_2_method_26_code
def yX0_append : MethodName := ⟨RX0, "append", "(II)V"⟩
abbrev cX0_move : ByteArray := prog_2_method_27_code
def yX0_move : MethodName := ⟨RX0, "move", "(IIII)V"⟩
def RX1 : String := "Copperleaf$State"
def TX1 : u_T := fun k => match k with
  | 0 => ("Copperleaf$State", "epoch", "I", false)
  | 1 => ("Copperleaf$State", "root", "I", false)
  | 2 => ("Copperleaf$State", "keys", "I", false)
  | _ => ("Copperleaf$State", "open", "Z", false)
def tyX1 : Nat → FieldType := fun k => match k with
  | 0 => .int
  | 1 => .int
  | 2 => .int
  | _ => .boolean
abbrev wsX10 : List Cond := u_ws RX1 TX1 4
theorem nmX1 : ∀ a, a < 4 → ∀ b, b < 4 → a ≠ b → (TX1 a).2.1 ≠ (TX1 b).2.1 := by decide +kernel
theorem tyX1_ok : ∀ k, k < 4 → parseFieldDescriptor (TX1 k).2.2.1 = some (tyX1 k) := by decide +kernel
abbrev cX1_init : ByteArray := prog_3_method_1_code
def yX1_init : MethodName := ⟨RX1, "<init>", "()V"⟩
abbrev cX1_become : ByteArray := prog_3_method_2_code
def yX1_become : MethodName := ⟨RX1, "become", "(LCopperleaf$State;)V"⟩
def RX2 : String := "Copperleaf$Writer"
def TX2 : u_T := fun k => match k with
  | 0 => ("Copperleaf$Writer", "pages", "LCopperleaf$Pages;", true)
  | 1 => ("Copperleaf$Writer", "batch", "LCopperleaf$State;", true)
  | 2 => ("Copperleaf$Writer", "path", "[I", true)
  | 3 => ("Copperleaf$Writer", "taken", "[I", true)
  | _ => ("Copperleaf$Writer", "bottom", "I", false)
def tyX2 : Nat → FieldType := fun k => match k with
  | 0 => .object "Copperleaf$Pages"
  | 1 => .object "Copperleaf$State"
  | 2 => .array .int
  | 3 => .array .int
  | _ => .int
abbrev wsX20 : List Cond := u_ws RX2 TX2 5
theorem nmX2 : ∀ a, a < 5 → ∀ b, b < 5 → a ≠ b → (TX2 a).2.1 ≠ (TX2 b).2.1 := by decide +kernel
theorem tyX2_ok : ∀ k, k < 5 → parseFieldDescriptor (TX2 k).2.2.1 = some (tyX2 k) := by decide +kernel
abbrev cX2_init : ByteArray := prog_4_method_1_code
def yX2_init : MethodName := ⟨RX2, "<init>", "(LCopperleaf$Pages;LCopperleaf$State;)V"⟩
abbrev cX2_store : ByteArray := prog_4_method_2_code
def yX2_store : MethodName := ⟨RX2, "store", "(II)Z"⟩
abbrev cX2_drop : ByteArray := prog_4_method_3_code
def yX2_drop : MethodName := ⟨RX2, "drop", "(I)V"⟩
abbrev cX2_writePath : ByteArray := prog_4_method_4_code
def yX2_writePath : MethodName := ⟨RX2, "writePath", "(I)I"⟩
abbrev cX2_splitUpwards : ByteArray := prog_4_method_5_code
def yX2_splitUpwards : MethodName := ⟨RX2, "splitUpwards", "()V"⟩
abbrev cX2_splitOff : ByteArray := prog_4_method_6_code
def yX2_splitOff : MethodName := ⟨RX2, "splitOff", "(I)I"⟩
abbrev cX2_growRoot : ByteArray := prog_4_method_7_code
def yX2_growRoot : MethodName := ⟨RX2, "growRoot", "(II)V"⟩
abbrev cX2_mend : ByteArray := prog_4_method_8_code
def yX2_mend : MethodName := ⟨RX2, "mend", "(II)V"⟩
abbrev cX2_writeBelow : ByteArray := prog_4_method_9_code
def yX2_writeBelow : MethodName := ⟨RX2, "writeBelow", "(II)V"⟩
abbrev cX2_lend : ByteArray := prog_4_method_10_code
def yX2_lend : MethodName := ⟨RX2, "lend", "(III)V"⟩
abbrev cX2_join : ByteArray := prog_4_method_11_code
def yX2_join : MethodName := ⟨RX2, "join", "(II)V"⟩
abbrev cX2_shrinkRoot : ByteArray := prog_4_method_12_code
def yX2_shrinkRoot : MethodName := ⟨RX2, "shrinkRoot", "()V"⟩
def RX3 : String := "Copperleaf"
def TX3 : u_T := fun k => match k with
  | 0 => ("Copperleaf", "pages", "LCopperleaf$Pages;", true)
  | 1 => ("Copperleaf", "current", "LCopperleaf$State;", true)
  | 2 => ("Copperleaf", "batch", "LCopperleaf$State;", true)
  | 3 => ("Copperleaf", "writer", "LCopperleaf$Writer;", true)
  | 4 => ("Copperleaf", "readerStates", "[LCopperleaf$State;", true)
  | 5 => ("Copperleaf", "slotWords", "[J", true)
  | _ => ("Copperleaf", "slotInUse", "I", false)
def tyX3 : Nat → FieldType := fun k => match k with
  | 0 => .object "Copperleaf$Pages"
  | 1 => .object "Copperleaf$State"
  | 2 => .object "Copperleaf$State"
  | 3 => .object "Copperleaf$Writer"
  | 4 => .array (.object "Copperleaf$State")
  | 5 => .array .long
  | _ => .int
abbrev wsX30 : List Cond := u_ws RX3 TX3 7
theorem nmX3 : ∀ a, a < 7 → ∀ b, b < 7 → a ≠ b → (TX3 a).2.1 ≠ (TX3 b).2.1 := by decide +kernel
theorem tyX3_ok : ∀ k, k < 7 → parseFieldDescriptor (TX3 k).2.2.1 = some (tyX3 k) := by decide +kernel
abbrev cX3_init : ByteArray := prog_1_method_1_code
def yX3_init : MethodName := ⟨RX3, "<init>", "()V"⟩
abbrev cX3_beginBatch : ByteArray := prog_1_method_2_code
def yX3_beginBatch : MethodName := ⟨RX3, "beginBatch", "()I"⟩
abbrev cX3_hasBatch : ByteArray := prog_1_method_3_code
def yX3_hasBatch : MethodName := ⟨RX3, "hasBatch", "()Z"⟩
abbrev cX3_put : ByteArray := prog_1_method_4_code
def yX3_put : MethodName := ⟨RX3, "put", "(II)Z"⟩
abbrev cX3_delete : ByteArray := prog_1_method_5_code
def yX3_delete : MethodName := ⟨RX3, "delete", "(I)I"⟩
abbrev cX3_commit : ByteArray := prog_1_method_6_code
def yX3_commit : MethodName := ⟨RX3, "commit", "()I"⟩
abbrev cX3_abandon : ByteArray := prog_1_method_7_code
def yX3_abandon : MethodName := ⟨RX3, "abandon", "()I"⟩
abbrev cX3_openReader : ByteArray := prog_1_method_8_code
def yX3_openReader : MethodName := ⟨RX3, "openReader", "()I"⟩
abbrev cX3_closeReader : ByteArray := prog_1_method_9_code
def yX3_closeReader : MethodName := ⟨RX3, "closeReader", "(I)I"⟩
abbrev cX3_readers : ByteArray := prog_1_method_10_code
def yX3_readers : MethodName := ⟨RX3, "readers", "()I"⟩
abbrev cX3_heldBy : ByteArray := prog_1_method_11_code
def yX3_heldBy : MethodName := ⟨RX3, "heldBy", "(I)I"⟩
abbrev cX3_epochOf : ByteArray := prog_1_method_12_code
def yX3_epochOf : MethodName := ⟨RX3, "epochOf", "(I)I"⟩
abbrev cX3_get : ByteArray := prog_1_method_13_code
def yX3_get : MethodName := ⟨RX3, "get", "(II)I"⟩
abbrev cX3_next : ByteArray := prog_1_method_14_code
def yX3_next : MethodName := ⟨RX3, "next", "(II)I"⟩
abbrev cX3_rank : ByteArray := prog_1_method_15_code
def yX3_rank : MethodName := ⟨RX3, "rank", "(II)I"⟩
abbrev cX3_size : ByteArray := prog_1_method_16_code
def yX3_size : MethodName := ⟨RX3, "size", "(I)I"⟩
abbrev cX3_depth : ByteArray := prog_1_method_17_code
def yX3_depth : MethodName := ⟨RX3, "depth", "(I)I"⟩
abbrev cX3_rootOf : ByteArray := prog_1_method_18_code
def yX3_rootOf : MethodName := ⟨RX3, "rootOf", "(I)I"⟩
abbrev cX3_sharedPages : ByteArray := prog_1_method_19_code
def yX3_sharedPages : MethodName := ⟨RX3, "sharedPages", "(II)I"⟩
abbrev cX3_isFree : ByteArray := prog_1_method_20_code
def yX3_isFree : MethodName := ⟨RX3, "isFree", "(I)Z"⟩
abbrev cX3_pagesInUse : ByteArray := prog_1_method_21_code
def yX3_pagesInUse : MethodName := ⟨RX3, "pagesInUse", "()I"⟩
abbrev cX3_leastFree : ByteArray := prog_1_method_22_code
def yX3_leastFree : MethodName := ⟨RX3, "leastFree", "()I"⟩
abbrev cX3_entries : ByteArray := prog_1_method_23_code
def yX3_entries : MethodName := ⟨RX3, "entries", "(I)I"⟩
abbrev cX3_keyAt : ByteArray := prog_1_method_24_code
def yX3_keyAt : MethodName := ⟨RX3, "keyAt", "(II)I"⟩
abbrev cX3_pageAt : ByteArray := prog_1_method_25_code
def yX3_pageAt : MethodName := ⟨RX3, "pageAt", "(II)I"⟩
abbrev cX3_currentSlot : ByteArray := prog_1_method_26_code
def yX3_currentSlot : MethodName := ⟨RX3, "currentSlot", "()I"⟩
abbrev cX3_slotWord : ByteArray := prog_1_method_27_code
def yX3_slotWord : MethodName := ⟨RX3, "slotWord", "(II)J"⟩
abbrev cX3_isWhole : ByteArray := prog_1_method_28_code
def yX3_isWhole : MethodName := ⟨RX3, "isWhole", "(I)Z"⟩
abbrev cX3_tear : ByteArray := prog_1_method_29_code
def yX3_tear : MethodName := ⟨RX3, "tear", "(I)I"⟩
abbrev cX3_crash : ByteArray := prog_1_method_30_code
def yX3_crash : MethodName := ⟨RX3, "crash", "()I"⟩
abbrev cX3_crashInCommit : ByteArray := prog_1_method_31_code
def yX3_crashInCommit : MethodName := ⟨RX3, "crashInCommit", "(I)I"⟩
abbrev cX3_requireKey : ByteArray := prog_1_method_32_code
def yX3_requireKey : MethodName := ⟨RX3, "requireKey", "(I)V"⟩
abbrev cX3_requireBatch : ByteArray := prog_1_method_33_code
def yX3_requireBatch : MethodName := ⟨RX3, "requireBatch", "()V"⟩
abbrev cX3_requireReader : ByteArray := prog_1_method_34_code
def yX3_requireReader : MethodName := ⟨RX3, "requireReader", "(I)V"⟩
abbrev cX3_requirePage : ByteArray := prog_1_method_35_code
def yX3_requirePage : MethodName := ⟨RX3, "requirePage", "(I)V"⟩
abbrev cX3_requireEntry : ByteArray := prog_1_method_36_code
def yX3_requireEntry : MethodName := ⟨RX3, "requireEntry", "(II)V"⟩
abbrev cX3_requireSlot : ByteArray := prog_1_method_37_code
def yX3_requireSlot : MethodName := ⟨RX3, "requireSlot", "(I)V"⟩
abbrev cX3_viewed : ByteArray := prog_1_method_38_code
def yX3_viewed : MethodName := ⟨RX3, "viewed", "(I)LCopperleaf$State;"⟩
abbrev cX3_valueIn : ByteArray := prog_1_method_39_code
def yX3_valueIn : MethodName := ⟨RX3, "valueIn", "(LCopperleaf$State;I)I"⟩
abbrev cX3_isOpen : ByteArray := prog_1_method_40_code
def yX3_isOpen : MethodName := ⟨RX3, "isOpen", "(I)Z"⟩
abbrev cX3_endBatch : ByteArray := prog_1_method_41_code
def yX3_endBatch : MethodName := ⟨RX3, "endBatch", "()V"⟩
abbrev cX3_keepStates : ByteArray := prog_1_method_42_code
def yX3_keepStates : MethodName := ⟨RX3, "keepStates", "([ZI)V"⟩
abbrev cX3_otherSlot : ByteArray := prog_1_method_43_code
def yX3_otherSlot : MethodName := ⟨RX3, "otherSlot", "(I)I"⟩
abbrev cX3_wordIn : ByteArray := prog_1_method_44_code
def yX3_wordIn : MethodName := ⟨RX3, "wordIn", "(II)J"⟩
abbrev cX3_sumsUp : ByteArray := prog_1_method_45_code
def yX3_sumsUp : MethodName := ⟨RX3, "sumsUp", "(I)Z"⟩
abbrev cX3_sumOf : ByteArray := prog_1_method_46_code
def yX3_sumOf : MethodName := ⟨RX3, "sumOf", "(JJJ)J"⟩
abbrev cX3_writeSlot : ByteArray := prog_1_method_47_code
def yX3_writeSlot : MethodName := ⟨RX3, "writeSlot", "(II)V"⟩
abbrev cX3_wordOfBatch : ByteArray := prog_1_method_48_code
def yX3_wordOfBatch : MethodName := ⟨RX3, "wordOfBatch", "(I)J"⟩
abbrev cX3_latestWholeSlot : ByteArray := prog_1_method_49_code
def yX3_latestWholeSlot : MethodName := ⟨RX3, "latestWholeSlot", "()I"⟩
def RX4 : String := "CopperleafModel"
def TX4 : u_T := fun k => match k with
  | _ => ("", "", "", false)
def tyX4 : Nat → FieldType := fun k => match k with
  | _ => .int
abbrev wsX40 : List Cond := u_ws RX4 TX4 0
theorem nmX4 : ∀ a, a < 0 → ∀ b, b < 0 → a ≠ b → (TX4 a).2.1 ≠ (TX4 b).2.1 := by decide +kernel
theorem tyX4_ok : ∀ k, k < 0 → parseFieldDescriptor (TX4 k).2.2.1 = some (tyX4 k) := by decide +kernel
def RL : String := "CopperleafLaw"
abbrev cL_at : ByteArray := method_2_code
def yL_at : MethodName := ⟨RL, "at", "([II)I"⟩
abbrev cL_low : ByteArray := method_3_code
def yL_low : MethodName := ⟨RL, "low", "(II)I"⟩
abbrev cL_key : ByteArray := method_4_code
def yL_key : MethodName := ⟨RL, "key", "(I)I"⟩
abbrev cL_turn : ByteArray := method_5_code
def yL_turn : MethodName := ⟨RL, "turn", "([JII)I"⟩
abbrev cL_sets : ByteArray := method_6_code
def yL_sets : MethodName := ⟨RL, "sets", "([JIII)V"⟩
abbrev cL_value : ByteArray := method_7_code
def yL_value : MethodName := ⟨RL, "value", "(II)I"⟩
abbrev cL_begin : ByteArray := method_8_code
def yL_begin : MethodName := ⟨RL, "begin", "(LCopperleaf;)I"⟩
abbrev cL_put : ByteArray := method_9_code
def yL_put : MethodName := ⟨RL, "put", "(LCopperleaf;II)I"⟩
abbrev cL_delete : ByteArray := method_10_code
def yL_delete : MethodName := ⟨RL, "delete", "(LCopperleaf;I)I"⟩
abbrev cL_commit : ByteArray := method_11_code
def yL_commit : MethodName := ⟨RL, "commit", "(LCopperleaf;)I"⟩
abbrev cL_abandon : ByteArray := method_12_code
def yL_abandon : MethodName := ⟨RL, "abandon", "(LCopperleaf;)I"⟩
abbrev cL_open : ByteArray := method_13_code
def yL_open : MethodName := ⟨RL, "open", "(LCopperleaf;)I"⟩
abbrev cL_close : ByteArray := method_14_code
def yL_close : MethodName := ⟨RL, "close", "(LCopperleaf;I)I"⟩
abbrev cL_heldBy : ByteArray := method_15_code
def yL_heldBy : MethodName := ⟨RL, "heldBy", "(LCopperleaf;I)I"⟩
abbrev cL_epochOf : ByteArray := method_16_code
def yL_epochOf : MethodName := ⟨RL, "epochOf", "(LCopperleaf;I)I"⟩
abbrev cL_get : ByteArray := method_17_code
def yL_get : MethodName := ⟨RL, "get", "(LCopperleaf;II)I"⟩
abbrev cL_next : ByteArray := method_18_code
def yL_next : MethodName := ⟨RL, "next", "(LCopperleaf;II)I"⟩
abbrev cL_rank : ByteArray := method_19_code
def yL_rank : MethodName := ⟨RL, "rank", "(LCopperleaf;II)I"⟩
abbrev cL_size : ByteArray := method_20_code
def yL_size : MethodName := ⟨RL, "size", "(LCopperleaf;I)I"⟩
abbrev cL_depth : ByteArray := method_21_code
def yL_depth : MethodName := ⟨RL, "depth", "(LCopperleaf;I)I"⟩
abbrev cL_rootOf : ByteArray := method_22_code
def yL_rootOf : MethodName := ⟨RL, "rootOf", "(LCopperleaf;I)I"⟩
abbrev cL_shared : ByteArray := method_23_code
def yL_shared : MethodName := ⟨RL, "shared", "(LCopperleaf;II)I"⟩
abbrev cL_isFree : ByteArray := method_24_code
def yL_isFree : MethodName := ⟨RL, "isFree", "(LCopperleaf;I)I"⟩
abbrev cL_entries : ByteArray := method_25_code
def yL_entries : MethodName := ⟨RL, "entries", "(LCopperleaf;I)I"⟩
abbrev cL_keyAt : ByteArray := method_26_code
def yL_keyAt : MethodName := ⟨RL, "keyAt", "(LCopperleaf;II)I"⟩
abbrev cL_pageAt : ByteArray := method_27_code
def yL_pageAt : MethodName := ⟨RL, "pageAt", "(LCopperleaf;II)I"⟩
abbrev cL_slotWord : ByteArray := method_28_code
def yL_slotWord : MethodName := ⟨RL, "slotWord", "(LCopperleaf;II)J"⟩
abbrev cL_isWhole : ByteArray := method_29_code
def yL_isWhole : MethodName := ⟨RL, "isWhole", "(LCopperleaf;I)I"⟩
abbrev cL_tear : ByteArray := method_30_code
def yL_tear : MethodName := ⟨RL, "tear", "(LCopperleaf;I)I"⟩
abbrev cL_crashInCommit : ByteArray := method_31_code
def yL_crashInCommit : MethodName := ⟨RL, "crashInCommit", "(LCopperleaf;I)I"⟩
abbrev cL_print : ByteArray := method_32_code
def yL_print : MethodName := ⟨RL, "print", "(LCopperleaf;)J"⟩
abbrev cL_first : ByteArray := method_33_code
def yL_first : MethodName := ⟨RL, "first", "(LCopperleaf;I)I"⟩
abbrev cL_walks : ByteArray := method_34_code
def yL_walks : MethodName := ⟨RL, "walks", "(LCopperleaf;I[I[J)I"⟩
abbrev cL_holds : ByteArray := method_35_code
def yL_holds : MethodName := ⟨RL, "holds", "(LCopperleaf;II[JI[I[J)Z"⟩
abbrev cL_shows : ByteArray := method_36_code
def yL_shows : MethodName := ⟨RL, "shows", "(LCopperleaf;I[JI[I[JI)Z"⟩
abbrev cL_bits : ByteArray := method_37_code
def yL_bits : MethodName := ⟨RL, "bits", "(J)I"⟩
abbrev cL_shares : ByteArray := method_38_code
def yL_shares : MethodName := ⟨RL, "shares", "(LCopperleaf;II)Z"⟩
abbrev cL_slots : ByteArray := method_39_code
def yL_slots : MethodName := ⟨RL, "slots", "(LCopperleaf;[J[I[I[I[J)Z"⟩
abbrev cL_isSo : ByteArray := method_40_code
def yL_isSo : MethodName := ⟨RL, "isSo", "(LCopperleaf;[J[I[II)Z"⟩
abbrev cL_copies : ByteArray := method_41_code
def yL_copies : MethodName := ⟨RL, "copies", "([J[III)V"⟩
abbrev cL_wakes : ByteArray := method_42_code
def yL_wakes : MethodName := ⟨RL, "wakes", "(LCopperleaf;I[J[I[I)Z"⟩
abbrev cL_writes : ByteArray := method_43_code
def yL_writes : MethodName := ⟨RL, "writes", "(LCopperleaf;III[J[I[I)Z"⟩
abbrev cL_reads : ByteArray := method_44_code
def yL_reads : MethodName := ⟨RL, "reads", "(LCopperleaf;II[J[I[I)Z"⟩
abbrev cL_tears : ByteArray := method_45_code
def yL_tears : MethodName := ⟨RL, "tears", "(LCopperleaf;I[I)Z"⟩
abbrev cL_ends : ByteArray := method_46_code
def yL_ends : MethodName := ⟨RL, "ends", "(LCopperleaf;II[J[I[I)Z"⟩
abbrev cL_law : ByteArray := code
def yL_law : MethodName := ⟨RL, "law", "([I)Z"⟩
abbrev vwCl : List vw_C := [(RX0, TX0, 8), (RX1, TX1, 4), (RX2, TX2, 5), (RX3, TX3, 7)]
end
section
/-! decode rows, out of claim/NAMES.whole.lean.txt -/
theorem dX0_init_0 : decode cX0_init 0 = .ok (.aload_n 0, 1) := by decide +kernel
theorem dX0_init_1 : decode cX0_init 1 = .ok (.invokespecial 3, 3) := by decide +kernel
theorem dX0_init_4 : decode cX0_init 4 = .ok (.aload_n 0, 1) := by decide +kernel
theorem dX0_init_5 : decode cX0_init 5 = .ok (.sipush 800, 3) := by decide +kernel
theorem dX0_init_8 : decode cX0_init 8 = .ok (.newarray .int, 2) := by decide +kernel
theorem dX0_init_10 : decode cX0_init 10 = .ok (.putfield 9, 3) := by decide +kernel
theorem dX0_init_13 : decode cX0_init 13 = .ok (.aload_n 0, 1) := by decide +kernel
theorem dX0_init_14 : decode cX0_init 14 = .ok (.sipush 800, 3) := by decide +kernel
theorem dX0_init_17 : decode cX0_init 17 = .ok (.newarray .boolean, 2) := by decide +kernel
theorem dX0_init_19 : decode cX0_init 19 = .ok (.putfield 15, 3) := by decide +kernel
theorem dX0_init_22 : decode cX0_init 22 = .ok (.aload_n 0, 1) := by decide +kernel
theorem dX0_init_23 : decode cX0_init 23 = .ok (.sipush 4000, 3) := by decide +kernel
theorem dX0_init_26 : decode cX0_init 26 = .ok (.newarray .int, 2) := by decide +kernel
theorem dX0_init_28 : decode cX0_init 28 = .ok (.putfield 19, 3) := by decide +kernel
theorem dX0_init_31 : decode cX0_init 31 = .ok (.aload_n 0, 1) := by decide +kernel
theorem dX0_init_32 : decode cX0_init 32 = .ok (.sipush 4000, 3) := by decide +kernel
theorem dX0_init_35 : decode cX0_init 35 = .ok (.newarray .int, 2) := by decide +kernel
theorem dX0_init_37 : decode cX0_init 37 = .ok (.putfield 22, 3) := by decide +kernel
theorem dX0_init_40 : decode cX0_init 40 = .ok (.aload_n 0, 1) := by decide +kernel
theorem dX0_init_41 : decode cX0_init 41 = .ok (.sipush 800, 3) := by decide +kernel
theorem dX0_init_44 : decode cX0_init 44 = .ok (.newarray .boolean, 2) := by decide +kernel
theorem dX0_init_46 : decode cX0_init 46 = .ok (.putfield 25, 3) := by decide +kernel
theorem dX0_init_49 : decode cX0_init 49 = .ok (.aload_n 0, 1) := by decide +kernel
theorem dX0_init_50 : decode cX0_init 50 = .ok (.sipush 800, 3) := by decide +kernel
theorem dX0_init_53 : decode cX0_init 53 = .ok (.newarray .boolean, 2) := by decide +kernel
theorem dX0_init_55 : decode cX0_init 55 = .ok (.putfield 28, 3) := by decide +kernel
theorem dX0_init_58 : decode cX0_init 58 = .ok (.aload_n 0, 1) := by decide +kernel
theorem dX0_init_59 : decode cX0_init 59 = .ok (.sipush 800, 3) := by decide +kernel
theorem dX0_init_62 : decode cX0_init 62 = .ok (.newarray .boolean, 2) := by decide +kernel
theorem dX0_init_64 : decode cX0_init 64 = .ok (.putfield 31, 3) := by decide +kernel
theorem dX0_init_67 : decode cX0_init 67 = .ok (.aload_n 0, 1) := by decide +kernel
theorem dX0_init_68 : decode cX0_init 68 = .ok (.sipush 800, 3) := by decide +kernel
theorem dX0_init_71 : decode cX0_init 71 = .ok (.newarray .int, 2) := by decide +kernel
theorem dX0_init_73 : decode cX0_init 73 = .ok (.putfield 34, 3) := by decide +kernel
theorem dX0_init_76 : decode cX0_init 76 = .ok (.return_, 1) := by decide +kernel
theorem dX0_isCell_0 : decode cX0_isCell 0 = .ok (.iload_n 0, 1) := by decide +kernel
theorem dX0_isCell_1 : decode cX0_isCell 1 = .ok (.ifCond .lt 23, 3) := by decide +kernel
theorem dX0_isCell_4 : decode cX0_isCell 4 = .ok (.iload_n 0, 1) := by decide +kernel
theorem dX0_isCell_5 : decode cX0_isCell 5 = .ok (.sipush 800, 3) := by decide +kernel
theorem dX0_isCell_8 : decode cX0_isCell 8 = .ok (.if_icmp .ge 16, 3) := by decide +kernel
theorem dX0_isCell_11 : decode cX0_isCell 11 = .ok (.iload_n 1, 1) := by decide +kernel
theorem dX0_isCell_12 : decode cX0_isCell 12 = .ok (.ifCond .lt 12, 3) := by decide +kernel
theorem dX0_isCell_15 : decode cX0_isCell 15 = .ok (.iload_n 1, 1) := by decide +kernel
theorem dX0_isCell_16 : decode cX0_isCell 16 = .ok (.iconst 5, 1) := by decide +kernel
theorem dX0_isCell_17 : decode cX0_isCell 17 = .ok (.if_icmp .ge 7, 3) := by decide +kernel
theorem dX0_isCell_20 : decode cX0_isCell 20 = .ok (.iconst 1, 1) := by decide +kernel
theorem dX0_isCell_21 : decode cX0_isCell 21 = .ok (.goto 4, 3) := by decide +kernel
theorem dX0_isCell_24 : decode cX0_isCell 24 = .ok (.iconst 0, 1) := by decide +kernel
theorem dX0_isCell_25 : decode cX0_isCell 25 = .ok (.ireturn, 1) := by decide +kernel
theorem dX0_isVacant_0 : decode cX0_isVacant 0 = .ok (.iload_n 1, 1) := by decide +kernel
theorem dX0_isVacant_1 : decode cX0_isVacant 1 = .ok (.ifCond .lt 28, 3) := by decide +kernel
theorem dX0_isVacant_4 : decode cX0_isVacant 4 = .ok (.iload_n 1, 1) := by decide +kernel
theorem dX0_isVacant_5 : decode cX0_isVacant 5 = .ok (.sipush 800, 3) := by decide +kernel
theorem dX0_isVacant_8 : decode cX0_isVacant 8 = .ok (.if_icmp .ge 21, 3) := by decide +kernel
theorem dX0_isVacant_11 : decode cX0_isVacant 11 = .ok (.aload_n 0, 1) := by decide +kernel
theorem dX0_isVacant_12 : decode cX0_isVacant 12 = .ok (.getfield 25, 3) := by decide +kernel
theorem dX0_isVacant_15 : decode cX0_isVacant 15 = .ok (.iload_n 1, 1) := by decide +kernel
theorem dX0_isVacant_16 : decode cX0_isVacant 16 = .ok (.baload, 1) := by decide +kernel
theorem dX0_isVacant_17 : decode cX0_isVacant 17 = .ok (.ifCond .ne 16, 3) := by decide +kernel
theorem dX0_isVacant_20 : decode cX0_isVacant 20 = .ok (.aload_n 0, 1) := by decide +kernel
theorem dX0_isVacant_21 : decode cX0_isVacant 21 = .ok (.getfield 28, 3) := by decide +kernel
theorem dX0_isVacant_24 : decode cX0_isVacant 24 = .ok (.iload_n 1, 1) := by decide +kernel
theorem dX0_isVacant_25 : decode cX0_isVacant 25 = .ok (.baload, 1) := by decide +kernel
theorem dX0_isVacant_26 : decode cX0_isVacant 26 = .ok (.ifCond .ne 7, 3) := by decide +kernel
theorem dX0_isVacant_29 : decode cX0_isVacant 29 = .ok (.iconst 1, 1) := by decide +kernel
theorem dX0_isVacant_30 : decode cX0_isVacant 30 = .ok (.goto 4, 3) := by decide +kernel
theorem dX0_isVacant_33 : decode cX0_isVacant 33 = .ok (.iconst 0, 1) := by decide +kernel
theorem dX0_isVacant_34 : decode cX0_isVacant 34 = .ok (.ireturn, 1) := by decide +kernel
theorem dX0_leastVacant_0 : decode cX0_leastVacant 0 = .ok (.iconst 0, 1) := by decide +kernel
theorem dX0_leastVacant_1 : decode cX0_leastVacant 1 = .ok (.istore_n 1, 1) := by decide +kernel
theorem dX0_leastVacant_2 : decode cX0_leastVacant 2 = .ok (.iload_n 1, 1) := by decide +kernel
theorem dX0_leastVacant_3 : decode cX0_leastVacant 3 = .ok (.sipush 800, 3) := by decide +kernel
theorem dX0_leastVacant_6 : decode cX0_leastVacant 6 = .ok (.if_icmp .ge 29, 3) := by decide +kernel
theorem dX0_leastVacant_9 : decode cX0_leastVacant 9 = .ok (.aload_n 0, 1) := by decide +kernel
theorem dX0_leastVacant_10 : decode cX0_leastVacant 10 = .ok (.getfield 25, 3) := by decide +kernel
theorem dX0_leastVacant_13 : decode cX0_leastVacant 13 = .ok (.iload_n 1, 1) := by decide +kernel
theorem dX0_leastVacant_14 : decode cX0_leastVacant 14 = .ok (.baload, 1) := by decide +kernel
theorem dX0_leastVacant_15 : decode cX0_leastVacant 15 = .ok (.ifCond .ne 14, 3) := by decide +kernel
theorem dX0_leastVacant_18 : decode cX0_leastVacant 18 = .ok (.aload_n 0, 1) := by decide +kernel
theorem dX0_leastVacant_19 : decode cX0_leastVacant 19 = .ok (.getfield 28, 3) := by decide +kernel
theorem dX0_leastVacant_22 : decode cX0_leastVacant 22 = .ok (.iload_n 1, 1) := by decide +kernel
theorem dX0_leastVacant_23 : decode cX0_leastVacant 23 = .ok (.baload, 1) := by decide +kernel
theorem dX0_leastVacant_24 : decode cX0_leastVacant 24 = .ok (.ifCond .ne 5, 3) := by decide +kernel
theorem dX0_leastVacant_27 : decode cX0_leastVacant 27 = .ok (.iload_n 1, 1) := by decide +kernel
theorem dX0_leastVacant_28 : decode cX0_leastVacant 28 = .ok (.ireturn, 1) := by decide +kernel
theorem dX0_leastVacant_29 : decode cX0_leastVacant 29 = .ok (.iinc 1 1, 3) := by decide +kernel
theorem dX0_leastVacant_32 : decode cX0_leastVacant 32 = .ok (.goto (-30), 3) := by decide +kernel
theorem dX0_leastVacant_35 : decode cX0_leastVacant 35 = .ok (.sipush 800, 3) := by decide +kernel
theorem dX0_leastVacant_38 : decode cX0_leastVacant 38 = .ok (.ireturn, 1) := by decide +kernel
theorem dX0_countOf_0 : decode cX0_countOf 0 = .ok (.iload_n 1, 1) := by decide +kernel
theorem dX0_countOf_1 : decode cX0_countOf 1 = .ok (.ifCond .lt 19, 3) := by decide +kernel
theorem dX0_countOf_4 : decode cX0_countOf 4 = .ok (.iload_n 1, 1) := by decide +kernel
theorem dX0_countOf_5 : decode cX0_countOf 5 = .ok (.sipush 800, 3) := by decide +kernel
theorem dX0_countOf_8 : decode cX0_countOf 8 = .ok (.if_icmp .ge 12, 3) := by decide +kernel
theorem dX0_countOf_11 : decode cX0_countOf 11 = .ok (.aload_n 0, 1) := by decide +kernel
theorem dX0_countOf_12 : decode cX0_countOf 12 = .ok (.getfield 9, 3) := by decide +kernel
theorem dX0_countOf_15 : decode cX0_countOf 15 = .ok (.iload_n 1, 1) := by decide +kernel
theorem dX0_countOf_16 : decode cX0_countOf 16 = .ok (.iaload, 1) := by decide +kernel
theorem dX0_countOf_17 : decode cX0_countOf 17 = .ok (.goto 4, 3) := by decide +kernel
theorem dX0_countOf_20 : decode cX0_countOf 20 = .ok (.iconst 0, 1) := by decide +kernel
theorem dX0_countOf_21 : decode cX0_countOf 21 = .ok (.ireturn, 1) := by decide +kernel
theorem dX0_isLeaf_0 : decode cX0_isLeaf 0 = .ok (.iload_n 1, 1) := by decide +kernel
theorem dX0_isLeaf_1 : decode cX0_isLeaf 1 = .ok (.ifCond .lt 19, 3) := by decide +kernel
theorem dX0_isLeaf_4 : decode cX0_isLeaf 4 = .ok (.iload_n 1, 1) := by decide +kernel
theorem dX0_isLeaf_5 : decode cX0_isLeaf 5 = .ok (.sipush 800, 3) := by decide +kernel
theorem dX0_isLeaf_8 : decode cX0_isLeaf 8 = .ok (.if_icmp .ge 12, 3) := by decide +kernel
theorem dX0_isLeaf_11 : decode cX0_isLeaf 11 = .ok (.aload_n 0, 1) := by decide +kernel
theorem dX0_isLeaf_12 : decode cX0_isLeaf 12 = .ok (.getfield 15, 3) := by decide +kernel
theorem dX0_isLeaf_15 : decode cX0_isLeaf 15 = .ok (.iload_n 1, 1) := by decide +kernel
theorem dX0_isLeaf_16 : decode cX0_isLeaf 16 = .ok (.baload, 1) := by decide +kernel
theorem dX0_isLeaf_17 : decode cX0_isLeaf 17 = .ok (.ifCond .ne 7, 3) := by decide +kernel
theorem dX0_isLeaf_20 : decode cX0_isLeaf 20 = .ok (.iconst 1, 1) := by decide +kernel
theorem dX0_isLeaf_21 : decode cX0_isLeaf 21 = .ok (.goto 4, 3) := by decide +kernel
theorem dX0_isLeaf_24 : decode cX0_isLeaf 24 = .ok (.iconst 0, 1) := by decide +kernel
theorem dX0_isLeaf_25 : decode cX0_isLeaf 25 = .ok (.ireturn, 1) := by decide +kernel
theorem dX0_wordOf_0 : decode cX0_wordOf 0 = .ok (.iload_n 1, 1) := by decide +kernel
theorem dX0_wordOf_1 : decode cX0_wordOf 1 = .ok (.ifCond .lt 23, 3) := by decide +kernel
theorem dX0_wordOf_4 : decode cX0_wordOf 4 = .ok (.iload_n 1, 1) := by decide +kernel
theorem dX0_wordOf_5 : decode cX0_wordOf 5 = .ok (.sipush 800, 3) := by decide +kernel
theorem dX0_wordOf_8 : decode cX0_wordOf 8 = .ok (.if_icmp .ge 16, 3) := by decide +kernel
theorem dX0_wordOf_11 : decode cX0_wordOf 11 = .ok (.iload_n 2, 1) := by decide +kernel
theorem dX0_wordOf_12 : decode cX0_wordOf 12 = .ok (.ifCond .lt 12, 3) := by decide +kernel
theorem dX0_wordOf_15 : decode cX0_wordOf 15 = .ok (.iload_n 2, 1) := by decide +kernel
theorem dX0_wordOf_16 : decode cX0_wordOf 16 = .ok (.iconst 5, 1) := by decide +kernel
theorem dX0_wordOf_17 : decode cX0_wordOf 17 = .ok (.if_icmp .ge 7, 3) := by decide +kernel
theorem dX0_wordOf_20 : decode cX0_wordOf 20 = .ok (.iconst 1, 1) := by decide +kernel
theorem dX0_wordOf_21 : decode cX0_wordOf 21 = .ok (.goto 4, 3) := by decide +kernel
theorem dX0_wordOf_24 : decode cX0_wordOf 24 = .ok (.iconst 0, 1) := by decide +kernel
theorem dX0_wordOf_25 : decode cX0_wordOf 25 = .ok (.istore_n 3, 1) := by decide +kernel
theorem dX0_wordOf_26 : decode cX0_wordOf 26 = .ok (.iload_n 3, 1) := by decide +kernel
theorem dX0_wordOf_27 : decode cX0_wordOf 27 = .ok (.ifCond .eq 16, 3) := by decide +kernel
theorem dX0_wordOf_30 : decode cX0_wordOf 30 = .ok (.aload_n 0, 1) := by decide +kernel
theorem dX0_wordOf_31 : decode cX0_wordOf 31 = .ok (.getfield 22, 3) := by decide +kernel
theorem dX0_wordOf_34 : decode cX0_wordOf 34 = .ok (.iload_n 1, 1) := by decide +kernel
theorem dX0_wordOf_35 : decode cX0_wordOf 35 = .ok (.iconst 5, 1) := by decide +kernel
theorem dX0_wordOf_36 : decode cX0_wordOf 36 = .ok (.imul, 1) := by decide +kernel
theorem dX0_wordOf_37 : decode cX0_wordOf 37 = .ok (.iload_n 2, 1) := by decide +kernel
theorem dX0_wordOf_38 : decode cX0_wordOf 38 = .ok (.iadd, 1) := by decide +kernel
theorem dX0_wordOf_39 : decode cX0_wordOf 39 = .ok (.iaload, 1) := by decide +kernel
theorem dX0_wordOf_40 : decode cX0_wordOf 40 = .ok (.goto 4, 3) := by decide +kernel
theorem dX0_wordOf_43 : decode cX0_wordOf 43 = .ok (.iconst (-1), 1) := by decide +kernel
theorem dX0_wordOf_44 : decode cX0_wordOf 44 = .ok (.ireturn, 1) := by decide +kernel
theorem dX0_setWord_0 : decode cX0_setWord 0 = .ok (.iload_n 1, 1) := by decide +kernel
theorem dX0_setWord_1 : decode cX0_setWord 1 = .ok (.iload_n 2, 1) := by decide +kernel
theorem dX0_setWord_2 : decode cX0_setWord 2 = .ok (.invokestatic 37, 3) := by decide +kernel
theorem dX0_setWord_5 : decode cX0_setWord 5 = .ok (.ifCond .eq 14, 3) := by decide +kernel
theorem dX0_setWord_8 : decode cX0_setWord 8 = .ok (.aload_n 0, 1) := by decide +kernel
theorem dX0_setWord_9 : decode cX0_setWord 9 = .ok (.getfield 22, 3) := by decide +kernel
theorem dX0_setWord_12 : decode cX0_setWord 12 = .ok (.iload_n 1, 1) := by decide +kernel
theorem dX0_setWord_13 : decode cX0_setWord 13 = .ok (.iconst 5, 1) := by decide +kernel
theorem dX0_setWord_14 : decode cX0_setWord 14 = .ok (.imul, 1) := by decide +kernel
theorem dX0_setWord_15 : decode cX0_setWord 15 = .ok (.iload_n 2, 1) := by decide +kernel
theorem dX0_setWord_16 : decode cX0_setWord 16 = .ok (.iadd, 1) := by decide +kernel
theorem dX0_setWord_17 : decode cX0_setWord 17 = .ok (.iload_n 3, 1) := by decide +kernel
theorem dX0_setWord_18 : decode cX0_setWord 18 = .ok (.iastore, 1) := by decide +kernel
theorem dX0_setWord_19 : decode cX0_setWord 19 = .ok (.return_, 1) := by decide +kernel
theorem dX0_keyOf_0 : decode cX0_keyOf 0 = .ok (.iload_n 1, 1) := by decide +kernel
theorem dX0_keyOf_1 : decode cX0_keyOf 1 = .ok (.istore_n 3, 1) := by decide +kernel
theorem dX0_keyOf_2 : decode cX0_keyOf 2 = .ok (.iload_n 2, 1) := by decide +kernel
theorem dX0_keyOf_3 : decode cX0_keyOf 3 = .ok (.istore 4, 2) := by decide +kernel
theorem dX0_keyOf_5 : decode cX0_keyOf 5 = .ok (.iconst 0, 1) := by decide +kernel
theorem dX0_keyOf_6 : decode cX0_keyOf 6 = .ok (.istore 5, 2) := by decide +kernel
theorem dX0_keyOf_8 : decode cX0_keyOf 8 = .ok (.iload 5, 2) := by decide +kernel
theorem dX0_keyOf_10 : decode cX0_keyOf 10 = .ok (.bipush 8, 2) := by decide +kernel
theorem dX0_keyOf_12 : decode cX0_keyOf 12 = .ok (.if_icmp .ge 28, 3) := by decide +kernel
theorem dX0_keyOf_15 : decode cX0_keyOf 15 = .ok (.aload_n 0, 1) := by decide +kernel
theorem dX0_keyOf_16 : decode cX0_keyOf 16 = .ok (.iload_n 3, 1) := by decide +kernel
theorem dX0_keyOf_17 : decode cX0_keyOf 17 = .ok (.invokevirtual 41, 3) := by decide +kernel
theorem dX0_keyOf_20 : decode cX0_keyOf 20 = .ok (.ifCond .ne 20, 3) := by decide +kernel
theorem dX0_keyOf_23 : decode cX0_keyOf 23 = .ok (.aload_n 0, 1) := by decide +kernel
theorem dX0_keyOf_24 : decode cX0_keyOf 24 = .ok (.iload_n 3, 1) := by decide +kernel
theorem dX0_keyOf_25 : decode cX0_keyOf 25 = .ok (.iload 4, 2) := by decide +kernel
theorem dX0_keyOf_27 : decode cX0_keyOf 27 = .ok (.invokevirtual 45, 3) := by decide +kernel
theorem dX0_keyOf_30 : decode cX0_keyOf 30 = .ok (.istore_n 3, 1) := by decide +kernel
theorem dX0_keyOf_31 : decode cX0_keyOf 31 = .ok (.iconst 0, 1) := by decide +kernel
theorem dX0_keyOf_32 : decode cX0_keyOf 32 = .ok (.istore 4, 2) := by decide +kernel
theorem dX0_keyOf_34 : decode cX0_keyOf 34 = .ok (.iinc 5 1, 3) := by decide +kernel
theorem dX0_keyOf_37 : decode cX0_keyOf 37 = .ok (.goto (-29), 3) := by decide +kernel
theorem dX0_keyOf_40 : decode cX0_keyOf 40 = .ok (.iload_n 3, 1) := by decide +kernel
theorem dX0_keyOf_41 : decode cX0_keyOf 41 = .ok (.iload 4, 2) := by decide +kernel
theorem dX0_keyOf_43 : decode cX0_keyOf 43 = .ok (.invokestatic 37, 3) := by decide +kernel
theorem dX0_keyOf_46 : decode cX0_keyOf 46 = .ok (.ifCond .eq 17, 3) := by decide +kernel
theorem dX0_keyOf_49 : decode cX0_keyOf 49 = .ok (.aload_n 0, 1) := by decide +kernel
theorem dX0_keyOf_50 : decode cX0_keyOf 50 = .ok (.getfield 19, 3) := by decide +kernel
theorem dX0_keyOf_53 : decode cX0_keyOf 53 = .ok (.iload_n 3, 1) := by decide +kernel
theorem dX0_keyOf_54 : decode cX0_keyOf 54 = .ok (.iconst 5, 1) := by decide +kernel
theorem dX0_keyOf_55 : decode cX0_keyOf 55 = .ok (.imul, 1) := by decide +kernel
theorem dX0_keyOf_56 : decode cX0_keyOf 56 = .ok (.iload 4, 2) := by decide +kernel
theorem dX0_keyOf_58 : decode cX0_keyOf 58 = .ok (.iadd, 1) := by decide +kernel
theorem dX0_keyOf_59 : decode cX0_keyOf 59 = .ok (.iaload, 1) := by decide +kernel
theorem dX0_keyOf_60 : decode cX0_keyOf 60 = .ok (.goto 4, 3) := by decide +kernel
theorem dX0_keyOf_63 : decode cX0_keyOf 63 = .ok (.iconst (-1), 1) := by decide +kernel
theorem dX0_keyOf_64 : decode cX0_keyOf 64 = .ok (.ireturn, 1) := by decide +kernel
theorem dX0_placeOf_0 : decode cX0_placeOf 0 = .ok (.iconst 0, 1) := by decide +kernel
theorem dX0_placeOf_1 : decode cX0_placeOf 1 = .ok (.istore_n 3, 1) := by decide +kernel
theorem dX0_placeOf_2 : decode cX0_placeOf 2 = .ok (.iload_n 3, 1) := by decide +kernel
theorem dX0_placeOf_3 : decode cX0_placeOf 3 = .ok (.iconst 5, 1) := by decide +kernel
theorem dX0_placeOf_4 : decode cX0_placeOf 4 = .ok (.if_icmp .ge 28, 3) := by decide +kernel
theorem dX0_placeOf_7 : decode cX0_placeOf 7 = .ok (.iload_n 3, 1) := by decide +kernel
theorem dX0_placeOf_8 : decode cX0_placeOf 8 = .ok (.aload_n 0, 1) := by decide +kernel
theorem dX0_placeOf_9 : decode cX0_placeOf 9 = .ok (.iload_n 1, 1) := by decide +kernel
theorem dX0_placeOf_10 : decode cX0_placeOf 10 = .ok (.invokevirtual 49, 3) := by decide +kernel
theorem dX0_placeOf_13 : decode cX0_placeOf 13 = .ok (.if_icmp .ge 19, 3) := by decide +kernel
theorem dX0_placeOf_16 : decode cX0_placeOf 16 = .ok (.aload_n 0, 1) := by decide +kernel
theorem dX0_placeOf_17 : decode cX0_placeOf 17 = .ok (.iload_n 1, 1) := by decide +kernel
theorem dX0_placeOf_18 : decode cX0_placeOf 18 = .ok (.iload_n 3, 1) := by decide +kernel
theorem dX0_placeOf_19 : decode cX0_placeOf 19 = .ok (.invokevirtual 53, 3) := by decide +kernel
theorem dX0_placeOf_22 : decode cX0_placeOf 22 = .ok (.iload_n 2, 1) := by decide +kernel
theorem dX0_placeOf_23 : decode cX0_placeOf 23 = .ok (.if_icmp .ge 9, 3) := by decide +kernel
theorem dX0_placeOf_26 : decode cX0_placeOf 26 = .ok (.iinc 3 1, 3) := by decide +kernel
theorem dX0_placeOf_29 : decode cX0_placeOf 29 = .ok (.goto (-27), 3) := by decide +kernel
theorem dX0_placeOf_32 : decode cX0_placeOf 32 = .ok (.iload_n 3, 1) := by decide +kernel
theorem dX0_placeOf_33 : decode cX0_placeOf 33 = .ok (.ireturn, 1) := by decide +kernel
theorem dX0_holds_0 : decode cX0_holds 0 = .ok (.iload_n 2, 1) := by decide +kernel
theorem dX0_holds_1 : decode cX0_holds 1 = .ok (.aload_n 0, 1) := by decide +kernel
theorem dX0_holds_2 : decode cX0_holds 2 = .ok (.iload_n 1, 1) := by decide +kernel
theorem dX0_holds_3 : decode cX0_holds 3 = .ok (.invokevirtual 49, 3) := by decide +kernel
theorem dX0_holds_6 : decode cX0_holds 6 = .ok (.if_icmp .ge 17, 3) := by decide +kernel
theorem dX0_holds_9 : decode cX0_holds 9 = .ok (.aload_n 0, 1) := by decide +kernel
theorem dX0_holds_10 : decode cX0_holds 10 = .ok (.iload_n 1, 1) := by decide +kernel
theorem dX0_holds_11 : decode cX0_holds 11 = .ok (.iload_n 2, 1) := by decide +kernel
theorem dX0_holds_12 : decode cX0_holds 12 = .ok (.invokevirtual 53, 3) := by decide +kernel
theorem dX0_holds_15 : decode cX0_holds 15 = .ok (.iload_n 3, 1) := by decide +kernel
theorem dX0_holds_16 : decode cX0_holds 16 = .ok (.if_icmp .ne 7, 3) := by decide +kernel
theorem dX0_holds_19 : decode cX0_holds 19 = .ok (.iconst 1, 1) := by decide +kernel
theorem dX0_holds_20 : decode cX0_holds 20 = .ok (.goto 4, 3) := by decide +kernel
theorem dX0_holds_23 : decode cX0_holds 23 = .ok (.iconst 0, 1) := by decide +kernel
theorem dX0_holds_24 : decode cX0_holds 24 = .ok (.ireturn, 1) := by decide +kernel
theorem dX0_entryFor_0 : decode cX0_entryFor 0 = .ok (.iconst 0, 1) := by decide +kernel
theorem dX0_entryFor_1 : decode cX0_entryFor 1 = .ok (.istore_n 3, 1) := by decide +kernel
theorem dX0_entryFor_2 : decode cX0_entryFor 2 = .ok (.iload_n 3, 1) := by decide +kernel
theorem dX0_entryFor_3 : decode cX0_entryFor 3 = .ok (.iconst 1, 1) := by decide +kernel
theorem dX0_entryFor_4 : decode cX0_entryFor 4 = .ok (.iadd, 1) := by decide +kernel
theorem dX0_entryFor_5 : decode cX0_entryFor 5 = .ok (.iconst 5, 1) := by decide +kernel
theorem dX0_entryFor_6 : decode cX0_entryFor 6 = .ok (.if_icmp .ge 32, 3) := by decide +kernel
theorem dX0_entryFor_9 : decode cX0_entryFor 9 = .ok (.iload_n 3, 1) := by decide +kernel
theorem dX0_entryFor_10 : decode cX0_entryFor 10 = .ok (.iconst 1, 1) := by decide +kernel
theorem dX0_entryFor_11 : decode cX0_entryFor 11 = .ok (.iadd, 1) := by decide +kernel
theorem dX0_entryFor_12 : decode cX0_entryFor 12 = .ok (.aload_n 0, 1) := by decide +kernel
theorem dX0_entryFor_13 : decode cX0_entryFor 13 = .ok (.iload_n 1, 1) := by decide +kernel
theorem dX0_entryFor_14 : decode cX0_entryFor 14 = .ok (.invokevirtual 49, 3) := by decide +kernel
theorem dX0_entryFor_17 : decode cX0_entryFor 17 = .ok (.if_icmp .ge 21, 3) := by decide +kernel
theorem dX0_entryFor_20 : decode cX0_entryFor 20 = .ok (.aload_n 0, 1) := by decide +kernel
theorem dX0_entryFor_21 : decode cX0_entryFor 21 = .ok (.iload_n 1, 1) := by decide +kernel
theorem dX0_entryFor_22 : decode cX0_entryFor 22 = .ok (.iload_n 3, 1) := by decide +kernel
theorem dX0_entryFor_23 : decode cX0_entryFor 23 = .ok (.iconst 1, 1) := by decide +kernel
theorem dX0_entryFor_24 : decode cX0_entryFor 24 = .ok (.iadd, 1) := by decide +kernel
theorem dX0_entryFor_25 : decode cX0_entryFor 25 = .ok (.invokevirtual 53, 3) := by decide +kernel
theorem dX0_entryFor_28 : decode cX0_entryFor 28 = .ok (.iload_n 2, 1) := by decide +kernel
theorem dX0_entryFor_29 : decode cX0_entryFor 29 = .ok (.if_icmp .gt 9, 3) := by decide +kernel
theorem dX0_entryFor_32 : decode cX0_entryFor 32 = .ok (.iinc 3 1, 3) := by decide +kernel
theorem dX0_entryFor_35 : decode cX0_entryFor 35 = .ok (.goto (-33), 3) := by decide +kernel
theorem dX0_entryFor_38 : decode cX0_entryFor 38 = .ok (.iload_n 3, 1) := by decide +kernel
theorem dX0_entryFor_39 : decode cX0_entryFor 39 = .ok (.ireturn, 1) := by decide +kernel
theorem dX0_leafFor_0 : decode cX0_leafFor 0 = .ok (.iload_n 1, 1) := by decide +kernel
theorem dX0_leafFor_1 : decode cX0_leafFor 1 = .ok (.istore_n 3, 1) := by decide +kernel
theorem dX0_leafFor_2 : decode cX0_leafFor 2 = .ok (.iconst 0, 1) := by decide +kernel
theorem dX0_leafFor_3 : decode cX0_leafFor 3 = .ok (.istore 4, 2) := by decide +kernel
theorem dX0_leafFor_5 : decode cX0_leafFor 5 = .ok (.iload 4, 2) := by decide +kernel
theorem dX0_leafFor_7 : decode cX0_leafFor 7 = .ok (.bipush 8, 2) := by decide +kernel
theorem dX0_leafFor_9 : decode cX0_leafFor 9 = .ok (.if_icmp .ge 29, 3) := by decide +kernel
theorem dX0_leafFor_12 : decode cX0_leafFor 12 = .ok (.aload_n 0, 1) := by decide +kernel
theorem dX0_leafFor_13 : decode cX0_leafFor 13 = .ok (.iload_n 3, 1) := by decide +kernel
theorem dX0_leafFor_14 : decode cX0_leafFor 14 = .ok (.invokevirtual 41, 3) := by decide +kernel
theorem dX0_leafFor_17 : decode cX0_leafFor 17 = .ok (.ifCond .ne 21, 3) := by decide +kernel
theorem dX0_leafFor_20 : decode cX0_leafFor 20 = .ok (.aload_n 0, 1) := by decide +kernel
theorem dX0_leafFor_21 : decode cX0_leafFor 21 = .ok (.iload_n 3, 1) := by decide +kernel
theorem dX0_leafFor_22 : decode cX0_leafFor 22 = .ok (.aload_n 0, 1) := by decide +kernel
theorem dX0_leafFor_23 : decode cX0_leafFor 23 = .ok (.iload_n 3, 1) := by decide +kernel
theorem dX0_leafFor_24 : decode cX0_leafFor 24 = .ok (.iload_n 2, 1) := by decide +kernel
theorem dX0_leafFor_25 : decode cX0_leafFor 25 = .ok (.invokevirtual 56, 3) := by decide +kernel
theorem dX0_leafFor_28 : decode cX0_leafFor 28 = .ok (.invokevirtual 45, 3) := by decide +kernel
theorem dX0_leafFor_31 : decode cX0_leafFor 31 = .ok (.istore_n 3, 1) := by decide +kernel
theorem dX0_leafFor_32 : decode cX0_leafFor 32 = .ok (.iinc 4 1, 3) := by decide +kernel
theorem dX0_leafFor_35 : decode cX0_leafFor 35 = .ok (.goto (-30), 3) := by decide +kernel
theorem dX0_leafFor_38 : decode cX0_leafFor 38 = .ok (.iload_n 3, 1) := by decide +kernel
theorem dX0_leafFor_39 : decode cX0_leafFor 39 = .ok (.ireturn, 1) := by decide +kernel
theorem dX0_levelsFrom_0 : decode cX0_levelsFrom 0 = .ok (.iconst 1, 1) := by decide +kernel
theorem dX0_levelsFrom_1 : decode cX0_levelsFrom 1 = .ok (.istore_n 2, 1) := by decide +kernel
theorem dX0_levelsFrom_2 : decode cX0_levelsFrom 2 = .ok (.iload_n 1, 1) := by decide +kernel
theorem dX0_levelsFrom_3 : decode cX0_levelsFrom 3 = .ok (.istore_n 3, 1) := by decide +kernel
theorem dX0_levelsFrom_4 : decode cX0_levelsFrom 4 = .ok (.iload_n 2, 1) := by decide +kernel
theorem dX0_levelsFrom_5 : decode cX0_levelsFrom 5 = .ok (.bipush 8, 2) := by decide +kernel
theorem dX0_levelsFrom_7 : decode cX0_levelsFrom 7 = .ok (.if_icmp .ge 24, 3) := by decide +kernel
theorem dX0_levelsFrom_10 : decode cX0_levelsFrom 10 = .ok (.aload_n 0, 1) := by decide +kernel
theorem dX0_levelsFrom_11 : decode cX0_levelsFrom 11 = .ok (.iload_n 3, 1) := by decide +kernel
theorem dX0_levelsFrom_12 : decode cX0_levelsFrom 12 = .ok (.invokevirtual 41, 3) := by decide +kernel
theorem dX0_levelsFrom_15 : decode cX0_levelsFrom 15 = .ok (.ifCond .ne 16, 3) := by decide +kernel
theorem dX0_levelsFrom_18 : decode cX0_levelsFrom 18 = .ok (.aload_n 0, 1) := by decide +kernel
theorem dX0_levelsFrom_19 : decode cX0_levelsFrom 19 = .ok (.iload_n 3, 1) := by decide +kernel
theorem dX0_levelsFrom_20 : decode cX0_levelsFrom 20 = .ok (.iconst 0, 1) := by decide +kernel
theorem dX0_levelsFrom_21 : decode cX0_levelsFrom 21 = .ok (.invokevirtual 45, 3) := by decide +kernel
theorem dX0_levelsFrom_24 : decode cX0_levelsFrom 24 = .ok (.istore_n 3, 1) := by decide +kernel
theorem dX0_levelsFrom_25 : decode cX0_levelsFrom 25 = .ok (.iinc 2 1, 3) := by decide +kernel
theorem dX0_levelsFrom_28 : decode cX0_levelsFrom 28 = .ok (.goto (-24), 3) := by decide +kernel
theorem dX0_levelsFrom_31 : decode cX0_levelsFrom 31 = .ok (.iload_n 2, 1) := by decide +kernel
theorem dX0_levelsFrom_32 : decode cX0_levelsFrom 32 = .ok (.ireturn, 1) := by decide +kernel
theorem dX0_listTree_0 : decode cX0_listTree 0 = .ok (.aload_n 0, 1) := by decide +kernel
theorem dX0_listTree_1 : decode cX0_listTree 1 = .ok (.getfield 34, 3) := by decide +kernel
theorem dX0_listTree_4 : decode cX0_listTree 4 = .ok (.iconst 0, 1) := by decide +kernel
theorem dX0_listTree_5 : decode cX0_listTree 5 = .ok (.iload_n 1, 1) := by decide +kernel
theorem dX0_listTree_6 : decode cX0_listTree 6 = .ok (.iastore, 1) := by decide +kernel
theorem dX0_listTree_7 : decode cX0_listTree 7 = .ok (.iconst 1, 1) := by decide +kernel
theorem dX0_listTree_8 : decode cX0_listTree 8 = .ok (.istore_n 2, 1) := by decide +kernel
theorem dX0_listTree_9 : decode cX0_listTree 9 = .ok (.iconst 0, 1) := by decide +kernel
theorem dX0_listTree_10 : decode cX0_listTree 10 = .ok (.istore_n 3, 1) := by decide +kernel
theorem dX0_listTree_11 : decode cX0_listTree 11 = .ok (.iload_n 3, 1) := by decide +kernel
theorem dX0_listTree_12 : decode cX0_listTree 12 = .ok (.sipush 800, 3) := by decide +kernel
theorem dX0_listTree_15 : decode cX0_listTree 15 = .ok (.if_icmp .ge 83, 3) := by decide +kernel
theorem dX0_listTree_18 : decode cX0_listTree 18 = .ok (.iload_n 3, 1) := by decide +kernel
theorem dX0_listTree_19 : decode cX0_listTree 19 = .ok (.iload_n 2, 1) := by decide +kernel
theorem dX0_listTree_20 : decode cX0_listTree 20 = .ok (.if_icmp .ge 78, 3) := by decide +kernel
theorem dX0_listTree_23 : decode cX0_listTree 23 = .ok (.aload_n 0, 1) := by decide +kernel
theorem dX0_listTree_24 : decode cX0_listTree 24 = .ok (.getfield 34, 3) := by decide +kernel
theorem dX0_listTree_27 : decode cX0_listTree 27 = .ok (.iload_n 3, 1) := by decide +kernel
theorem dX0_listTree_28 : decode cX0_listTree 28 = .ok (.iaload, 1) := by decide +kernel
theorem dX0_listTree_29 : decode cX0_listTree 29 = .ok (.istore 4, 2) := by decide +kernel
theorem dX0_listTree_31 : decode cX0_listTree 31 = .ok (.aload_n 0, 1) := by decide +kernel
theorem dX0_listTree_32 : decode cX0_listTree 32 = .ok (.iload 4, 2) := by decide +kernel
theorem dX0_listTree_34 : decode cX0_listTree 34 = .ok (.invokevirtual 41, 3) := by decide +kernel
theorem dX0_listTree_37 : decode cX0_listTree 37 = .ok (.ifCond .eq 7, 3) := by decide +kernel
theorem dX0_listTree_40 : decode cX0_listTree 40 = .ok (.iconst 0, 1) := by decide +kernel
theorem dX0_listTree_41 : decode cX0_listTree 41 = .ok (.goto 9, 3) := by decide +kernel
theorem dX0_listTree_44 : decode cX0_listTree 44 = .ok (.aload_n 0, 1) := by decide +kernel
theorem dX0_listTree_45 : decode cX0_listTree 45 = .ok (.iload 4, 2) := by decide +kernel
theorem dX0_listTree_47 : decode cX0_listTree 47 = .ok (.invokevirtual 49, 3) := by decide +kernel
theorem dX0_listTree_50 : decode cX0_listTree 50 = .ok (.istore 5, 2) := by decide +kernel
theorem dX0_listTree_52 : decode cX0_listTree 52 = .ok (.iconst 0, 1) := by decide +kernel
theorem dX0_listTree_53 : decode cX0_listTree 53 = .ok (.istore 6, 2) := by decide +kernel
theorem dX0_listTree_55 : decode cX0_listTree 55 = .ok (.iload 6, 2) := by decide +kernel
theorem dX0_listTree_57 : decode cX0_listTree 57 = .ok (.iload 5, 2) := by decide +kernel
theorem dX0_listTree_59 : decode cX0_listTree 59 = .ok (.if_icmp .ge 33, 3) := by decide +kernel
theorem dX0_listTree_62 : decode cX0_listTree 62 = .ok (.iload_n 2, 1) := by decide +kernel
theorem dX0_listTree_63 : decode cX0_listTree 63 = .ok (.sipush 800, 3) := by decide +kernel
theorem dX0_listTree_66 : decode cX0_listTree 66 = .ok (.if_icmp .ge 26, 3) := by decide +kernel
theorem dX0_listTree_69 : decode cX0_listTree 69 = .ok (.aload_n 0, 1) := by decide +kernel
theorem dX0_listTree_70 : decode cX0_listTree 70 = .ok (.getfield 34, 3) := by decide +kernel
theorem dX0_listTree_73 : decode cX0_listTree 73 = .ok (.iload_n 2, 1) := by decide +kernel
theorem dX0_listTree_74 : decode cX0_listTree 74 = .ok (.aload_n 0, 1) := by decide +kernel
theorem dX0_listTree_75 : decode cX0_listTree 75 = .ok (.iload 4, 2) := by decide +kernel
theorem dX0_listTree_77 : decode cX0_listTree 77 = .ok (.iload 6, 2) := by decide +kernel
theorem dX0_listTree_79 : decode cX0_listTree 79 = .ok (.invokevirtual 45, 3) := by decide +kernel
theorem dX0_listTree_82 : decode cX0_listTree 82 = .ok (.iastore, 1) := by decide +kernel
theorem dX0_listTree_83 : decode cX0_listTree 83 = .ok (.iinc 2 1, 3) := by decide +kernel
theorem dX0_listTree_86 : decode cX0_listTree 86 = .ok (.iinc 6 1, 3) := by decide +kernel
theorem dX0_listTree_89 : decode cX0_listTree 89 = .ok (.goto (-34), 3) := by decide +kernel
theorem dX0_listTree_92 : decode cX0_listTree 92 = .ok (.iinc 3 1, 3) := by decide +kernel
theorem dX0_listTree_95 : decode cX0_listTree 95 = .ok (.goto (-84), 3) := by decide +kernel
theorem dX0_listTree_98 : decode cX0_listTree 98 = .ok (.iload_n 2, 1) := by decide +kernel
theorem dX0_listTree_99 : decode cX0_listTree 99 = .ok (.ireturn, 1) := by decide +kernel
theorem dX0_unmark_0 : decode cX0_unmark 0 = .ok (.iconst 0, 1) := by decide +kernel
theorem dX0_unmark_1 : decode cX0_unmark 1 = .ok (.istore_n 1, 1) := by decide +kernel
theorem dX0_unmark_2 : decode cX0_unmark 2 = .ok (.iload_n 1, 1) := by decide +kernel
theorem dX0_unmark_3 : decode cX0_unmark 3 = .ok (.aload_n 0, 1) := by decide +kernel
theorem dX0_unmark_4 : decode cX0_unmark 4 = .ok (.arraylength, 1) := by decide +kernel
theorem dX0_unmark_5 : decode cX0_unmark 5 = .ok (.if_icmp .ge 13, 3) := by decide +kernel
theorem dX0_unmark_8 : decode cX0_unmark 8 = .ok (.aload_n 0, 1) := by decide +kernel
theorem dX0_unmark_9 : decode cX0_unmark 9 = .ok (.iload_n 1, 1) := by decide +kernel
theorem dX0_unmark_10 : decode cX0_unmark 10 = .ok (.iconst 0, 1) := by decide +kernel
theorem dX0_unmark_11 : decode cX0_unmark 11 = .ok (.bastore, 1) := by decide +kernel
theorem dX0_unmark_12 : decode cX0_unmark 12 = .ok (.iinc 1 1, 3) := by decide +kernel
theorem dX0_unmark_15 : decode cX0_unmark 15 = .ok (.goto (-13), 3) := by decide +kernel
theorem dX0_unmark_18 : decode cX0_unmark 18 = .ok (.return_, 1) := by decide +kernel
theorem dX0_markTree_0 : decode cX0_markTree 0 = .ok (.aload_n 0, 1) := by decide +kernel
theorem dX0_markTree_1 : decode cX0_markTree 1 = .ok (.iload_n 2, 1) := by decide +kernel
theorem dX0_markTree_2 : decode cX0_markTree 2 = .ok (.invokevirtual 59, 3) := by decide +kernel
theorem dX0_markTree_5 : decode cX0_markTree 5 = .ok (.istore_n 3, 1) := by decide +kernel
theorem dX0_markTree_6 : decode cX0_markTree 6 = .ok (.iconst 0, 1) := by decide +kernel
theorem dX0_markTree_7 : decode cX0_markTree 7 = .ok (.istore 4, 2) := by decide +kernel
theorem dX0_markTree_9 : decode cX0_markTree 9 = .ok (.iload 4, 2) := by decide +kernel
theorem dX0_markTree_11 : decode cX0_markTree 11 = .ok (.sipush 800, 3) := by decide +kernel
theorem dX0_markTree_14 : decode cX0_markTree 14 = .ok (.if_icmp .ge 41, 3) := by decide +kernel
theorem dX0_markTree_17 : decode cX0_markTree 17 = .ok (.iload 4, 2) := by decide +kernel
theorem dX0_markTree_19 : decode cX0_markTree 19 = .ok (.iload_n 3, 1) := by decide +kernel
theorem dX0_markTree_20 : decode cX0_markTree 20 = .ok (.if_icmp .ge 35, 3) := by decide +kernel
theorem dX0_markTree_23 : decode cX0_markTree 23 = .ok (.aload_n 0, 1) := by decide +kernel
theorem dX0_markTree_24 : decode cX0_markTree 24 = .ok (.getfield 34, 3) := by decide +kernel
theorem dX0_markTree_27 : decode cX0_markTree 27 = .ok (.iload 4, 2) := by decide +kernel
theorem dX0_markTree_29 : decode cX0_markTree 29 = .ok (.iaload, 1) := by decide +kernel
theorem dX0_markTree_30 : decode cX0_markTree 30 = .ok (.istore 5, 2) := by decide +kernel
theorem dX0_markTree_32 : decode cX0_markTree 32 = .ok (.iload 5, 2) := by decide +kernel
theorem dX0_markTree_34 : decode cX0_markTree 34 = .ok (.ifCond .lt 15, 3) := by decide +kernel
theorem dX0_markTree_37 : decode cX0_markTree 37 = .ok (.iload 5, 2) := by decide +kernel
theorem dX0_markTree_39 : decode cX0_markTree 39 = .ok (.aload_n 1, 1) := by decide +kernel
theorem dX0_markTree_40 : decode cX0_markTree 40 = .ok (.arraylength, 1) := by decide +kernel
theorem dX0_markTree_41 : decode cX0_markTree 41 = .ok (.if_icmp .ge 8, 3) := by decide +kernel
theorem dX0_markTree_44 : decode cX0_markTree 44 = .ok (.aload_n 1, 1) := by decide +kernel
theorem dX0_markTree_45 : decode cX0_markTree 45 = .ok (.iload 5, 2) := by decide +kernel
theorem dX0_markTree_47 : decode cX0_markTree 47 = .ok (.iconst 1, 1) := by decide +kernel
theorem dX0_markTree_48 : decode cX0_markTree 48 = .ok (.bastore, 1) := by decide +kernel
theorem dX0_markTree_49 : decode cX0_markTree 49 = .ok (.iinc 4 1, 3) := by decide +kernel
theorem dX0_markTree_52 : decode cX0_markTree 52 = .ok (.goto (-43), 3) := by decide +kernel
theorem dX0_markTree_55 : decode cX0_markTree 55 = .ok (.return_, 1) := by decide +kernel
theorem dX0_countMarked_0 : decode cX0_countMarked 0 = .ok (.aload_n 0, 1) := by decide +kernel
theorem dX0_countMarked_1 : decode cX0_countMarked 1 = .ok (.iload_n 1, 1) := by decide +kernel
theorem dX0_countMarked_2 : decode cX0_countMarked 2 = .ok (.invokevirtual 59, 3) := by decide +kernel
theorem dX0_countMarked_5 : decode cX0_countMarked 5 = .ok (.istore_n 2, 1) := by decide +kernel
theorem dX0_countMarked_6 : decode cX0_countMarked 6 = .ok (.iconst 0, 1) := by decide +kernel
theorem dX0_countMarked_7 : decode cX0_countMarked 7 = .ok (.istore_n 3, 1) := by decide +kernel
theorem dX0_countMarked_8 : decode cX0_countMarked 8 = .ok (.iconst 0, 1) := by decide +kernel
theorem dX0_countMarked_9 : decode cX0_countMarked 9 = .ok (.istore 4, 2) := by decide +kernel
theorem dX0_countMarked_11 : decode cX0_countMarked 11 = .ok (.iload 4, 2) := by decide +kernel
theorem dX0_countMarked_13 : decode cX0_countMarked 13 = .ok (.sipush 800, 3) := by decide +kernel
theorem dX0_countMarked_16 : decode cX0_countMarked 16 = .ok (.if_icmp .ge 50, 3) := by decide +kernel
theorem dX0_countMarked_19 : decode cX0_countMarked 19 = .ok (.iload 4, 2) := by decide +kernel
theorem dX0_countMarked_21 : decode cX0_countMarked 21 = .ok (.iload_n 2, 1) := by decide +kernel
theorem dX0_countMarked_22 : decode cX0_countMarked 22 = .ok (.if_icmp .ge 44, 3) := by decide +kernel
theorem dX0_countMarked_25 : decode cX0_countMarked 25 = .ok (.aload_n 0, 1) := by decide +kernel
theorem dX0_countMarked_26 : decode cX0_countMarked 26 = .ok (.getfield 34, 3) := by decide +kernel
theorem dX0_countMarked_29 : decode cX0_countMarked 29 = .ok (.iload 4, 2) := by decide +kernel
theorem dX0_countMarked_31 : decode cX0_countMarked 31 = .ok (.iaload, 1) := by decide +kernel
theorem dX0_countMarked_32 : decode cX0_countMarked 32 = .ok (.istore 5, 2) := by decide +kernel
theorem dX0_countMarked_34 : decode cX0_countMarked 34 = .ok (.iload 5, 2) := by decide +kernel
theorem dX0_countMarked_36 : decode cX0_countMarked 36 = .ok (.ifCond .lt 24, 3) := by decide +kernel
theorem dX0_countMarked_39 : decode cX0_countMarked 39 = .ok (.iload 5, 2) := by decide +kernel
theorem dX0_countMarked_41 : decode cX0_countMarked 41 = .ok (.sipush 800, 3) := by decide +kernel
theorem dX0_countMarked_44 : decode cX0_countMarked 44 = .ok (.if_icmp .ge 16, 3) := by decide +kernel
theorem dX0_countMarked_47 : decode cX0_countMarked 47 = .ok (.aload_n 0, 1) := by decide +kernel
theorem dX0_countMarked_48 : decode cX0_countMarked 48 = .ok (.getfield 31, 3) := by decide +kernel
theorem dX0_countMarked_51 : decode cX0_countMarked 51 = .ok (.iload 5, 2) := by decide +kernel
theorem dX0_countMarked_53 : decode cX0_countMarked 53 = .ok (.baload, 1) := by decide +kernel
theorem dX0_countMarked_54 : decode cX0_countMarked 54 = .ok (.ifCond .eq 6, 3) := by decide +kernel
theorem dX0_countMarked_57 : decode cX0_countMarked 57 = .ok (.iinc 3 1, 3) := by decide +kernel
theorem dX0_countMarked_60 : decode cX0_countMarked 60 = .ok (.iinc 4 1, 3) := by decide +kernel
theorem dX0_countMarked_63 : decode cX0_countMarked 63 = .ok (.goto (-52), 3) := by decide +kernel
theorem dX0_countMarked_66 : decode cX0_countMarked 66 = .ok (.iload_n 3, 1) := by decide +kernel
theorem dX0_countMarked_67 : decode cX0_countMarked 67 = .ok (.ireturn, 1) := by decide +kernel
theorem dX0_leastKeyFrom_0 : decode cX0_leastKeyFrom 0 = .ok (.aload_n 0, 1) := by decide +kernel
theorem dX0_leastKeyFrom_1 : decode cX0_leastKeyFrom 1 = .ok (.iload_n 1, 1) := by decide +kernel
theorem dX0_leastKeyFrom_2 : decode cX0_leastKeyFrom 2 = .ok (.invokevirtual 59, 3) := by decide +kernel
theorem dX0_leastKeyFrom_5 : decode cX0_leastKeyFrom 5 = .ok (.istore_n 3, 1) := by decide +kernel
theorem dX0_leastKeyFrom_6 : decode cX0_leastKeyFrom 6 = .ok (.iconst 0, 1) := by decide +kernel
theorem dX0_leastKeyFrom_7 : decode cX0_leastKeyFrom 7 = .ok (.istore 4, 2) := by decide +kernel
theorem dX0_leastKeyFrom_9 : decode cX0_leastKeyFrom 9 = .ok (.iload 4, 2) := by decide +kernel
theorem dX0_leastKeyFrom_11 : decode cX0_leastKeyFrom 11 = .ok (.sipush 800, 3) := by decide +kernel
theorem dX0_leastKeyFrom_14 : decode cX0_leastKeyFrom 14 = .ok (.if_icmp .ge 66, 3) := by decide +kernel
theorem dX0_leastKeyFrom_17 : decode cX0_leastKeyFrom 17 = .ok (.iload 4, 2) := by decide +kernel
theorem dX0_leastKeyFrom_19 : decode cX0_leastKeyFrom 19 = .ok (.iload_n 3, 1) := by decide +kernel
theorem dX0_leastKeyFrom_20 : decode cX0_leastKeyFrom 20 = .ok (.if_icmp .ge 60, 3) := by decide +kernel
theorem dX0_leastKeyFrom_23 : decode cX0_leastKeyFrom 23 = .ok (.aload_n 0, 1) := by decide +kernel
theorem dX0_leastKeyFrom_24 : decode cX0_leastKeyFrom 24 = .ok (.getfield 34, 3) := by decide +kernel
theorem dX0_leastKeyFrom_27 : decode cX0_leastKeyFrom 27 = .ok (.iload 4, 2) := by decide +kernel
theorem dX0_leastKeyFrom_29 : decode cX0_leastKeyFrom 29 = .ok (.iaload, 1) := by decide +kernel
theorem dX0_leastKeyFrom_30 : decode cX0_leastKeyFrom 30 = .ok (.istore 5, 2) := by decide +kernel
theorem dX0_leastKeyFrom_32 : decode cX0_leastKeyFrom 32 = .ok (.aload_n 0, 1) := by decide +kernel
theorem dX0_leastKeyFrom_33 : decode cX0_leastKeyFrom 33 = .ok (.iload 5, 2) := by decide +kernel
theorem dX0_leastKeyFrom_35 : decode cX0_leastKeyFrom 35 = .ok (.invokevirtual 41, 3) := by decide +kernel
theorem dX0_leastKeyFrom_38 : decode cX0_leastKeyFrom 38 = .ok (.ifCond .eq 13, 3) := by decide +kernel
theorem dX0_leastKeyFrom_41 : decode cX0_leastKeyFrom 41 = .ok (.aload_n 0, 1) := by decide +kernel
theorem dX0_leastKeyFrom_42 : decode cX0_leastKeyFrom 42 = .ok (.iload 5, 2) := by decide +kernel
theorem dX0_leastKeyFrom_44 : decode cX0_leastKeyFrom 44 = .ok (.iload_n 2, 1) := by decide +kernel
theorem dX0_leastKeyFrom_45 : decode cX0_leastKeyFrom 45 = .ok (.invokevirtual 62, 3) := by decide +kernel
theorem dX0_leastKeyFrom_48 : decode cX0_leastKeyFrom 48 = .ok (.goto 4, 3) := by decide +kernel
theorem dX0_leastKeyFrom_51 : decode cX0_leastKeyFrom 51 = .ok (.iconst 5, 1) := by decide +kernel
theorem dX0_leastKeyFrom_52 : decode cX0_leastKeyFrom 52 = .ok (.istore 6, 2) := by decide +kernel
theorem dX0_leastKeyFrom_54 : decode cX0_leastKeyFrom 54 = .ok (.iload 6, 2) := by decide +kernel
theorem dX0_leastKeyFrom_56 : decode cX0_leastKeyFrom 56 = .ok (.aload_n 0, 1) := by decide +kernel
theorem dX0_leastKeyFrom_57 : decode cX0_leastKeyFrom 57 = .ok (.iload 5, 2) := by decide +kernel
theorem dX0_leastKeyFrom_59 : decode cX0_leastKeyFrom 59 = .ok (.invokevirtual 49, 3) := by decide +kernel
theorem dX0_leastKeyFrom_62 : decode cX0_leastKeyFrom 62 = .ok (.if_icmp .ge 12, 3) := by decide +kernel
theorem dX0_leastKeyFrom_65 : decode cX0_leastKeyFrom 65 = .ok (.aload_n 0, 1) := by decide +kernel
theorem dX0_leastKeyFrom_66 : decode cX0_leastKeyFrom 66 = .ok (.iload 5, 2) := by decide +kernel
theorem dX0_leastKeyFrom_68 : decode cX0_leastKeyFrom 68 = .ok (.iload 6, 2) := by decide +kernel
theorem dX0_leastKeyFrom_70 : decode cX0_leastKeyFrom 70 = .ok (.invokevirtual 53, 3) := by decide +kernel
theorem dX0_leastKeyFrom_73 : decode cX0_leastKeyFrom 73 = .ok (.ireturn, 1) := by decide +kernel
theorem dX0_leastKeyFrom_74 : decode cX0_leastKeyFrom 74 = .ok (.iinc 4 1, 3) := by decide +kernel
theorem dX0_leastKeyFrom_77 : decode cX0_leastKeyFrom 77 = .ok (.goto (-68), 3) := by decide +kernel
theorem dX0_leastKeyFrom_80 : decode cX0_leastKeyFrom 80 = .ok (.iconst (-1), 1) := by decide +kernel
theorem dX0_leastKeyFrom_81 : decode cX0_leastKeyFrom 81 = .ok (.ireturn, 1) := by decide +kernel
theorem dX0_keysBelow_0 : decode cX0_keysBelow 0 = .ok (.aload_n 0, 1) := by decide +kernel
theorem dX0_keysBelow_1 : decode cX0_keysBelow 1 = .ok (.iload_n 1, 1) := by decide +kernel
theorem dX0_keysBelow_2 : decode cX0_keysBelow 2 = .ok (.invokevirtual 59, 3) := by decide +kernel
theorem dX0_keysBelow_5 : decode cX0_keysBelow 5 = .ok (.istore_n 3, 1) := by decide +kernel
theorem dX0_keysBelow_6 : decode cX0_keysBelow 6 = .ok (.iconst 0, 1) := by decide +kernel
theorem dX0_keysBelow_7 : decode cX0_keysBelow 7 = .ok (.istore 4, 2) := by decide +kernel
theorem dX0_keysBelow_9 : decode cX0_keysBelow 9 = .ok (.iconst 0, 1) := by decide +kernel
theorem dX0_keysBelow_10 : decode cX0_keysBelow 10 = .ok (.istore 5, 2) := by decide +kernel
theorem dX0_keysBelow_12 : decode cX0_keysBelow 12 = .ok (.iload 5, 2) := by decide +kernel
theorem dX0_keysBelow_14 : decode cX0_keysBelow 14 = .ok (.sipush 800, 3) := by decide +kernel
theorem dX0_keysBelow_17 : decode cX0_keysBelow 17 = .ok (.if_icmp .ge 46, 3) := by decide +kernel
theorem dX0_keysBelow_20 : decode cX0_keysBelow 20 = .ok (.iload 5, 2) := by decide +kernel
theorem dX0_keysBelow_22 : decode cX0_keysBelow 22 = .ok (.iload_n 3, 1) := by decide +kernel
theorem dX0_keysBelow_23 : decode cX0_keysBelow 23 = .ok (.if_icmp .ge 40, 3) := by decide +kernel
theorem dX0_keysBelow_26 : decode cX0_keysBelow 26 = .ok (.aload_n 0, 1) := by decide +kernel
theorem dX0_keysBelow_27 : decode cX0_keysBelow 27 = .ok (.aload_n 0, 1) := by decide +kernel
theorem dX0_keysBelow_28 : decode cX0_keysBelow 28 = .ok (.getfield 34, 3) := by decide +kernel
theorem dX0_keysBelow_31 : decode cX0_keysBelow 31 = .ok (.iload 5, 2) := by decide +kernel
theorem dX0_keysBelow_33 : decode cX0_keysBelow 33 = .ok (.iaload, 1) := by decide +kernel
theorem dX0_keysBelow_34 : decode cX0_keysBelow 34 = .ok (.invokevirtual 41, 3) := by decide +kernel
theorem dX0_keysBelow_37 : decode cX0_keysBelow 37 = .ok (.ifCond .eq 20, 3) := by decide +kernel
theorem dX0_keysBelow_40 : decode cX0_keysBelow 40 = .ok (.iload 4, 2) := by decide +kernel
theorem dX0_keysBelow_42 : decode cX0_keysBelow 42 = .ok (.aload_n 0, 1) := by decide +kernel
theorem dX0_keysBelow_43 : decode cX0_keysBelow 43 = .ok (.aload_n 0, 1) := by decide +kernel
theorem dX0_keysBelow_44 : decode cX0_keysBelow 44 = .ok (.getfield 34, 3) := by decide +kernel
theorem dX0_keysBelow_47 : decode cX0_keysBelow 47 = .ok (.iload 5, 2) := by decide +kernel
theorem dX0_keysBelow_49 : decode cX0_keysBelow 49 = .ok (.iaload, 1) := by decide +kernel
theorem dX0_keysBelow_50 : decode cX0_keysBelow 50 = .ok (.iload_n 2, 1) := by decide +kernel
theorem dX0_keysBelow_51 : decode cX0_keysBelow 51 = .ok (.invokevirtual 62, 3) := by decide +kernel
theorem dX0_keysBelow_54 : decode cX0_keysBelow 54 = .ok (.iadd, 1) := by decide +kernel
theorem dX0_keysBelow_55 : decode cX0_keysBelow 55 = .ok (.istore 4, 2) := by decide +kernel
theorem dX0_keysBelow_57 : decode cX0_keysBelow 57 = .ok (.iinc 5 1, 3) := by decide +kernel
theorem dX0_keysBelow_60 : decode cX0_keysBelow 60 = .ok (.goto (-48), 3) := by decide +kernel
theorem dX0_keysBelow_63 : decode cX0_keysBelow 63 = .ok (.iload 4, 2) := by decide +kernel
theorem dX0_keysBelow_65 : decode cX0_keysBelow 65 = .ok (.ireturn, 1) := by decide +kernel
theorem dX0_take_0 : decode cX0_take 0 = .ok (.aload_n 0, 1) := by decide +kernel
theorem dX0_take_1 : decode cX0_take 1 = .ok (.invokevirtual 65, 3) := by decide +kernel
theorem dX0_take_4 : decode cX0_take 4 = .ok (.istore_n 2, 1) := by decide +kernel
theorem dX0_take_5 : decode cX0_take 5 = .ok (.iload_n 2, 1) := by decide +kernel
theorem dX0_take_6 : decode cX0_take 6 = .ok (.sipush 800, 3) := by decide +kernel
theorem dX0_take_9 : decode cX0_take 9 = .ok (.if_icmp .ge 32, 3) := by decide +kernel
theorem dX0_take_12 : decode cX0_take 12 = .ok (.aload_n 0, 1) := by decide +kernel
theorem dX0_take_13 : decode cX0_take 13 = .ok (.getfield 28, 3) := by decide +kernel
theorem dX0_take_16 : decode cX0_take 16 = .ok (.iload_n 2, 1) := by decide +kernel
theorem dX0_take_17 : decode cX0_take 17 = .ok (.iconst 1, 1) := by decide +kernel
theorem dX0_take_18 : decode cX0_take 18 = .ok (.bastore, 1) := by decide +kernel
theorem dX0_take_19 : decode cX0_take 19 = .ok (.aload_n 0, 1) := by decide +kernel
theorem dX0_take_20 : decode cX0_take 20 = .ok (.getfield 15, 3) := by decide +kernel
theorem dX0_take_23 : decode cX0_take 23 = .ok (.iload_n 2, 1) := by decide +kernel
theorem dX0_take_24 : decode cX0_take 24 = .ok (.iload_n 1, 1) := by decide +kernel
theorem dX0_take_25 : decode cX0_take 25 = .ok (.ifCond .ne 7, 3) := by decide +kernel
theorem dX0_take_28 : decode cX0_take 28 = .ok (.iconst 1, 1) := by decide +kernel
theorem dX0_take_29 : decode cX0_take 29 = .ok (.goto 4, 3) := by decide +kernel
theorem dX0_take_32 : decode cX0_take 32 = .ok (.iconst 0, 1) := by decide +kernel
theorem dX0_take_33 : decode cX0_take 33 = .ok (.bastore, 1) := by decide +kernel
theorem dX0_take_34 : decode cX0_take 34 = .ok (.aload_n 0, 1) := by decide +kernel
theorem dX0_take_35 : decode cX0_take 35 = .ok (.getfield 9, 3) := by decide +kernel
theorem dX0_take_38 : decode cX0_take 38 = .ok (.iload_n 2, 1) := by decide +kernel
theorem dX0_take_39 : decode cX0_take 39 = .ok (.iconst 0, 1) := by decide +kernel
theorem dX0_take_40 : decode cX0_take 40 = .ok (.iastore, 1) := by decide +kernel
theorem dX0_take_41 : decode cX0_take 41 = .ok (.iload_n 2, 1) := by decide +kernel
theorem dX0_take_42 : decode cX0_take 42 = .ok (.ireturn, 1) := by decide +kernel
theorem dX0_leave_0 : decode cX0_leave 0 = .ok (.iload_n 1, 1) := by decide +kernel
theorem dX0_leave_1 : decode cX0_leave 1 = .ok (.ifCond .lt 17, 3) := by decide +kernel
theorem dX0_leave_4 : decode cX0_leave 4 = .ok (.iload_n 1, 1) := by decide +kernel
theorem dX0_leave_5 : decode cX0_leave 5 = .ok (.sipush 800, 3) := by decide +kernel
theorem dX0_leave_8 : decode cX0_leave 8 = .ok (.if_icmp .ge 10, 3) := by decide +kernel
theorem dX0_leave_11 : decode cX0_leave 11 = .ok (.aload_n 0, 1) := by decide +kernel
theorem dX0_leave_12 : decode cX0_leave 12 = .ok (.getfield 28, 3) := by decide +kernel
theorem dX0_leave_15 : decode cX0_leave 15 = .ok (.iload_n 1, 1) := by decide +kernel
theorem dX0_leave_16 : decode cX0_leave 16 = .ok (.iconst 0, 1) := by decide +kernel
theorem dX0_leave_17 : decode cX0_leave 17 = .ok (.bastore, 1) := by decide +kernel
theorem dX0_leave_18 : decode cX0_leave 18 = .ok (.return_, 1) := by decide +kernel
theorem dX0_writeAnew_0 : decode cX0_writeAnew 0 = .ok (.iload_n 1, 1) := by decide +kernel
theorem dX0_writeAnew_1 : decode cX0_writeAnew 1 = .ok (.ifCond .lt 19, 3) := by decide +kernel
theorem dX0_writeAnew_4 : decode cX0_writeAnew 4 = .ok (.iload_n 1, 1) := by decide +kernel
theorem dX0_writeAnew_5 : decode cX0_writeAnew 5 = .ok (.sipush 800, 3) := by decide +kernel
theorem dX0_writeAnew_8 : decode cX0_writeAnew 8 = .ok (.if_icmp .ge 12, 3) := by decide +kernel
theorem dX0_writeAnew_11 : decode cX0_writeAnew 11 = .ok (.aload_n 0, 1) := by decide +kernel
theorem dX0_writeAnew_12 : decode cX0_writeAnew 12 = .ok (.getfield 28, 3) := by decide +kernel
theorem dX0_writeAnew_15 : decode cX0_writeAnew 15 = .ok (.iload_n 1, 1) := by decide +kernel
theorem dX0_writeAnew_16 : decode cX0_writeAnew 16 = .ok (.baload, 1) := by decide +kernel
theorem dX0_writeAnew_17 : decode cX0_writeAnew 17 = .ok (.ifCond .eq 5, 3) := by decide +kernel
theorem dX0_writeAnew_20 : decode cX0_writeAnew 20 = .ok (.iload_n 1, 1) := by decide +kernel
theorem dX0_writeAnew_21 : decode cX0_writeAnew 21 = .ok (.ireturn, 1) := by decide +kernel
theorem dX0_writeAnew_22 : decode cX0_writeAnew 22 = .ok (.aload_n 0, 1) := by decide +kernel
theorem dX0_writeAnew_23 : decode cX0_writeAnew 23 = .ok (.aload_n 0, 1) := by decide +kernel
theorem dX0_writeAnew_24 : decode cX0_writeAnew 24 = .ok (.iload_n 1, 1) := by decide +kernel
theorem dX0_writeAnew_25 : decode cX0_writeAnew 25 = .ok (.invokevirtual 41, 3) := by decide +kernel
theorem dX0_writeAnew_28 : decode cX0_writeAnew 28 = .ok (.invokevirtual 69, 3) := by decide +kernel
theorem dX0_writeAnew_31 : decode cX0_writeAnew 31 = .ok (.istore_n 2, 1) := by decide +kernel
theorem dX0_writeAnew_32 : decode cX0_writeAnew 32 = .ok (.aload_n 0, 1) := by decide +kernel
theorem dX0_writeAnew_33 : decode cX0_writeAnew 33 = .ok (.iload_n 1, 1) := by decide +kernel
theorem dX0_writeAnew_34 : decode cX0_writeAnew 34 = .ok (.iload_n 2, 1) := by decide +kernel
theorem dX0_writeAnew_35 : decode cX0_writeAnew 35 = .ok (.invokevirtual 73, 3) := by decide +kernel
theorem dX0_writeAnew_38 : decode cX0_writeAnew 38 = .ok (.iload_n 2, 1) := by decide +kernel
theorem dX0_writeAnew_39 : decode cX0_writeAnew 39 = .ok (.ireturn, 1) := by decide +kernel
theorem dX0_insert_0 : decode cX0_insert 0 = .ok (.aload_n 0, 1) := by decide +kernel
theorem dX0_insert_1 : decode cX0_insert 1 = .ok (.iload_n 1, 1) := by decide +kernel
theorem dX0_insert_2 : decode cX0_insert 2 = .ok (.invokevirtual 49, 3) := by decide +kernel
theorem dX0_insert_5 : decode cX0_insert 5 = .ok (.istore 5, 2) := by decide +kernel
theorem dX0_insert_7 : decode cX0_insert 7 = .ok (.iload_n 1, 1) := by decide +kernel
theorem dX0_insert_8 : decode cX0_insert 8 = .ok (.iload_n 2, 1) := by decide +kernel
theorem dX0_insert_9 : decode cX0_insert 9 = .ok (.invokestatic 37, 3) := by decide +kernel
theorem dX0_insert_12 : decode cX0_insert 12 = .ok (.ifCond .eq 15, 3) := by decide +kernel
theorem dX0_insert_15 : decode cX0_insert 15 = .ok (.iload_n 2, 1) := by decide +kernel
theorem dX0_insert_16 : decode cX0_insert 16 = .ok (.iload 5, 2) := by decide +kernel
theorem dX0_insert_18 : decode cX0_insert 18 = .ok (.if_icmp .gt 9, 3) := by decide +kernel
theorem dX0_insert_21 : decode cX0_insert 21 = .ok (.iload 5, 2) := by decide +kernel
theorem dX0_insert_23 : decode cX0_insert 23 = .ok (.iconst 5, 1) := by decide +kernel
theorem dX0_insert_24 : decode cX0_insert 24 = .ok (.if_icmp .lt 4, 3) := by decide +kernel
theorem dX0_insert_27 : decode cX0_insert 27 = .ok (.return_, 1) := by decide +kernel
theorem dX0_insert_28 : decode cX0_insert 28 = .ok (.iload_n 1, 1) := by decide +kernel
theorem dX0_insert_29 : decode cX0_insert 29 = .ok (.iconst 5, 1) := by decide +kernel
theorem dX0_insert_30 : decode cX0_insert 30 = .ok (.imul, 1) := by decide +kernel
theorem dX0_insert_31 : decode cX0_insert 31 = .ok (.istore 6, 2) := by decide +kernel
theorem dX0_insert_33 : decode cX0_insert 33 = .ok (.iload 5, 2) := by decide +kernel
theorem dX0_insert_35 : decode cX0_insert 35 = .ok (.istore 7, 2) := by decide +kernel
theorem dX0_insert_37 : decode cX0_insert 37 = .ok (.iload 7, 2) := by decide +kernel
theorem dX0_insert_39 : decode cX0_insert 39 = .ok (.iload_n 2, 1) := by decide +kernel
theorem dX0_insert_40 : decode cX0_insert 40 = .ok (.if_icmp .le 53, 3) := by decide +kernel
theorem dX0_insert_43 : decode cX0_insert 43 = .ok (.aload_n 0, 1) := by decide +kernel
theorem dX0_insert_44 : decode cX0_insert 44 = .ok (.getfield 19, 3) := by decide +kernel
theorem dX0_insert_47 : decode cX0_insert 47 = .ok (.iload 6, 2) := by decide +kernel
theorem dX0_insert_49 : decode cX0_insert 49 = .ok (.iload 7, 2) := by decide +kernel
theorem dX0_insert_51 : decode cX0_insert 51 = .ok (.iadd, 1) := by decide +kernel
theorem dX0_insert_52 : decode cX0_insert 52 = .ok (.aload_n 0, 1) := by decide +kernel
theorem dX0_insert_53 : decode cX0_insert 53 = .ok (.getfield 19, 3) := by decide +kernel
theorem dX0_insert_56 : decode cX0_insert 56 = .ok (.iload 6, 2) := by decide +kernel
theorem dX0_insert_58 : decode cX0_insert 58 = .ok (.iload 7, 2) := by decide +kernel
theorem dX0_insert_60 : decode cX0_insert 60 = .ok (.iadd, 1) := by decide +kernel
theorem dX0_insert_61 : decode cX0_insert 61 = .ok (.iconst 1, 1) := by decide +kernel
theorem dX0_insert_62 : decode cX0_insert 62 = .ok (.isub, 1) := by decide +kernel
theorem dX0_insert_63 : decode cX0_insert 63 = .ok (.iaload, 1) := by decide +kernel
theorem dX0_insert_64 : decode cX0_insert 64 = .ok (.iastore, 1) := by decide +kernel
theorem dX0_insert_65 : decode cX0_insert 65 = .ok (.aload_n 0, 1) := by decide +kernel
theorem dX0_insert_66 : decode cX0_insert 66 = .ok (.getfield 22, 3) := by decide +kernel
theorem dX0_insert_69 : decode cX0_insert 69 = .ok (.iload 6, 2) := by decide +kernel
theorem dX0_insert_71 : decode cX0_insert 71 = .ok (.iload 7, 2) := by decide +kernel
theorem dX0_insert_73 : decode cX0_insert 73 = .ok (.iadd, 1) := by decide +kernel
theorem dX0_insert_74 : decode cX0_insert 74 = .ok (.aload_n 0, 1) := by decide +kernel
theorem dX0_insert_75 : decode cX0_insert 75 = .ok (.getfield 22, 3) := by decide +kernel
theorem dX0_insert_78 : decode cX0_insert 78 = .ok (.iload 6, 2) := by decide +kernel
theorem dX0_insert_80 : decode cX0_insert 80 = .ok (.iload 7, 2) := by decide +kernel
theorem dX0_insert_82 : decode cX0_insert 82 = .ok (.iadd, 1) := by decide +kernel
theorem dX0_insert_83 : decode cX0_insert 83 = .ok (.iconst 1, 1) := by decide +kernel
theorem dX0_insert_84 : decode cX0_insert 84 = .ok (.isub, 1) := by decide +kernel
theorem dX0_insert_85 : decode cX0_insert 85 = .ok (.iaload, 1) := by decide +kernel
theorem dX0_insert_86 : decode cX0_insert 86 = .ok (.iastore, 1) := by decide +kernel
theorem dX0_insert_87 : decode cX0_insert 87 = .ok (.iinc 7 (-1), 3) := by decide +kernel
theorem dX0_insert_90 : decode cX0_insert 90 = .ok (.goto (-53), 3) := by decide +kernel
theorem dX0_insert_93 : decode cX0_insert 93 = .ok (.aload_n 0, 1) := by decide +kernel
theorem dX0_insert_94 : decode cX0_insert 94 = .ok (.getfield 19, 3) := by decide +kernel
theorem dX0_insert_97 : decode cX0_insert 97 = .ok (.iload 6, 2) := by decide +kernel
theorem dX0_insert_99 : decode cX0_insert 99 = .ok (.iload_n 2, 1) := by decide +kernel
theorem dX0_insert_100 : decode cX0_insert 100 = .ok (.iadd, 1) := by decide +kernel
theorem dX0_insert_101 : decode cX0_insert 101 = .ok (.iload_n 3, 1) := by decide +kernel
theorem dX0_insert_102 : decode cX0_insert 102 = .ok (.iastore, 1) := by decide +kernel
theorem dX0_insert_103 : decode cX0_insert 103 = .ok (.aload_n 0, 1) := by decide +kernel
theorem dX0_insert_104 : decode cX0_insert 104 = .ok (.getfield 22, 3) := by decide +kernel
theorem dX0_insert_107 : decode cX0_insert 107 = .ok (.iload 6, 2) := by decide +kernel
theorem dX0_insert_109 : decode cX0_insert 109 = .ok (.iload_n 2, 1) := by decide +kernel
theorem dX0_insert_110 : decode cX0_insert 110 = .ok (.iadd, 1) := by decide +kernel
theorem dX0_insert_111 : decode cX0_insert 111 = .ok (.iload 4, 2) := by decide +kernel
theorem dX0_insert_113 : decode cX0_insert 113 = .ok (.iastore, 1) := by decide +kernel
theorem dX0_insert_114 : decode cX0_insert 114 = .ok (.aload_n 0, 1) := by decide +kernel
theorem dX0_insert_115 : decode cX0_insert 115 = .ok (.getfield 9, 3) := by decide +kernel
theorem dX0_insert_118 : decode cX0_insert 118 = .ok (.iload_n 1, 1) := by decide +kernel
theorem dX0_insert_119 : decode cX0_insert 119 = .ok (.iload 5, 2) := by decide +kernel
theorem dX0_insert_121 : decode cX0_insert 121 = .ok (.iconst 1, 1) := by decide +kernel
theorem dX0_insert_122 : decode cX0_insert 122 = .ok (.iadd, 1) := by decide +kernel
theorem dX0_insert_123 : decode cX0_insert 123 = .ok (.iastore, 1) := by decide +kernel
theorem dX0_insert_124 : decode cX0_insert 124 = .ok (.return_, 1) := by decide +kernel
theorem dX0_remove_0 : decode cX0_remove 0 = .ok (.aload_n 0, 1) := by decide +kernel
theorem dX0_remove_1 : decode cX0_remove 1 = .ok (.iload_n 1, 1) := by decide +kernel
theorem dX0_remove_2 : decode cX0_remove 2 = .ok (.invokevirtual 49, 3) := by decide +kernel
theorem dX0_remove_5 : decode cX0_remove 5 = .ok (.istore_n 3, 1) := by decide +kernel
theorem dX0_remove_6 : decode cX0_remove 6 = .ok (.iload_n 1, 1) := by decide +kernel
theorem dX0_remove_7 : decode cX0_remove 7 = .ok (.iload_n 2, 1) := by decide +kernel
theorem dX0_remove_8 : decode cX0_remove 8 = .ok (.invokestatic 37, 3) := by decide +kernel
theorem dX0_remove_11 : decode cX0_remove 11 = .ok (.ifCond .eq 13, 3) := by decide +kernel
theorem dX0_remove_14 : decode cX0_remove 14 = .ok (.iload_n 2, 1) := by decide +kernel
theorem dX0_remove_15 : decode cX0_remove 15 = .ok (.iload_n 3, 1) := by decide +kernel
theorem dX0_remove_16 : decode cX0_remove 16 = .ok (.if_icmp .ge 8, 3) := by decide +kernel
theorem dX0_remove_19 : decode cX0_remove 19 = .ok (.iload_n 3, 1) := by decide +kernel
theorem dX0_remove_20 : decode cX0_remove 20 = .ok (.iconst 5, 1) := by decide +kernel
theorem dX0_remove_21 : decode cX0_remove 21 = .ok (.if_icmp .le 4, 3) := by decide +kernel
theorem dX0_remove_24 : decode cX0_remove 24 = .ok (.return_, 1) := by decide +kernel
theorem dX0_remove_25 : decode cX0_remove 25 = .ok (.iload_n 1, 1) := by decide +kernel
theorem dX0_remove_26 : decode cX0_remove 26 = .ok (.iconst 5, 1) := by decide +kernel
theorem dX0_remove_27 : decode cX0_remove 27 = .ok (.imul, 1) := by decide +kernel
theorem dX0_remove_28 : decode cX0_remove 28 = .ok (.istore 4, 2) := by decide +kernel
theorem dX0_remove_30 : decode cX0_remove 30 = .ok (.iload_n 2, 1) := by decide +kernel
theorem dX0_remove_31 : decode cX0_remove 31 = .ok (.istore 5, 2) := by decide +kernel
theorem dX0_remove_33 : decode cX0_remove 33 = .ok (.iload 5, 2) := by decide +kernel
theorem dX0_remove_35 : decode cX0_remove 35 = .ok (.iconst 1, 1) := by decide +kernel
theorem dX0_remove_36 : decode cX0_remove 36 = .ok (.iadd, 1) := by decide +kernel
theorem dX0_remove_37 : decode cX0_remove 37 = .ok (.iload_n 3, 1) := by decide +kernel
theorem dX0_remove_38 : decode cX0_remove 38 = .ok (.if_icmp .ge 53, 3) := by decide +kernel
theorem dX0_remove_41 : decode cX0_remove 41 = .ok (.aload_n 0, 1) := by decide +kernel
theorem dX0_remove_42 : decode cX0_remove 42 = .ok (.getfield 19, 3) := by decide +kernel
theorem dX0_remove_45 : decode cX0_remove 45 = .ok (.iload 4, 2) := by decide +kernel
theorem dX0_remove_47 : decode cX0_remove 47 = .ok (.iload 5, 2) := by decide +kernel
theorem dX0_remove_49 : decode cX0_remove 49 = .ok (.iadd, 1) := by decide +kernel
theorem dX0_remove_50 : decode cX0_remove 50 = .ok (.aload_n 0, 1) := by decide +kernel
theorem dX0_remove_51 : decode cX0_remove 51 = .ok (.getfield 19, 3) := by decide +kernel
theorem dX0_remove_54 : decode cX0_remove 54 = .ok (.iload 4, 2) := by decide +kernel
theorem dX0_remove_56 : decode cX0_remove 56 = .ok (.iload 5, 2) := by decide +kernel
theorem dX0_remove_58 : decode cX0_remove 58 = .ok (.iadd, 1) := by decide +kernel
theorem dX0_remove_59 : decode cX0_remove 59 = .ok (.iconst 1, 1) := by decide +kernel
theorem dX0_remove_60 : decode cX0_remove 60 = .ok (.iadd, 1) := by decide +kernel
theorem dX0_remove_61 : decode cX0_remove 61 = .ok (.iaload, 1) := by decide +kernel
theorem dX0_remove_62 : decode cX0_remove 62 = .ok (.iastore, 1) := by decide +kernel
theorem dX0_remove_63 : decode cX0_remove 63 = .ok (.aload_n 0, 1) := by decide +kernel
theorem dX0_remove_64 : decode cX0_remove 64 = .ok (.getfield 22, 3) := by decide +kernel
theorem dX0_remove_67 : decode cX0_remove 67 = .ok (.iload 4, 2) := by decide +kernel
theorem dX0_remove_69 : decode cX0_remove 69 = .ok (.iload 5, 2) := by decide +kernel
theorem dX0_remove_71 : decode cX0_remove 71 = .ok (.iadd, 1) := by decide +kernel
theorem dX0_remove_72 : decode cX0_remove 72 = .ok (.aload_n 0, 1) := by decide +kernel
theorem dX0_remove_73 : decode cX0_remove 73 = .ok (.getfield 22, 3) := by decide +kernel
theorem dX0_remove_76 : decode cX0_remove 76 = .ok (.iload 4, 2) := by decide +kernel
theorem dX0_remove_78 : decode cX0_remove 78 = .ok (.iload 5, 2) := by decide +kernel
theorem dX0_remove_80 : decode cX0_remove 80 = .ok (.iadd, 1) := by decide +kernel
theorem dX0_remove_81 : decode cX0_remove 81 = .ok (.iconst 1, 1) := by decide +kernel
theorem dX0_remove_82 : decode cX0_remove 82 = .ok (.iadd, 1) := by decide +kernel
theorem dX0_remove_83 : decode cX0_remove 83 = .ok (.iaload, 1) := by decide +kernel
theorem dX0_remove_84 : decode cX0_remove 84 = .ok (.iastore, 1) := by decide +kernel
theorem dX0_remove_85 : decode cX0_remove 85 = .ok (.iinc 5 1, 3) := by decide +kernel
theorem dX0_remove_88 : decode cX0_remove 88 = .ok (.goto (-55), 3) := by decide +kernel
theorem dX0_remove_91 : decode cX0_remove 91 = .ok (.aload_n 0, 1) := by decide +kernel
theorem dX0_remove_92 : decode cX0_remove 92 = .ok (.getfield 9, 3) := by decide +kernel
theorem dX0_remove_95 : decode cX0_remove 95 = .ok (.iload_n 1, 1) := by decide +kernel
theorem dX0_remove_96 : decode cX0_remove 96 = .ok (.iload_n 3, 1) := by decide +kernel
theorem dX0_remove_97 : decode cX0_remove 97 = .ok (.iconst 1, 1) := by decide +kernel
theorem dX0_remove_98 : decode cX0_remove 98 = .ok (.isub, 1) := by decide +kernel
theorem dX0_remove_99 : decode cX0_remove 99 = .ok (.iastore, 1) := by decide +kernel
theorem dX0_remove_100 : decode cX0_remove 100 = .ok (.return_, 1) := by decide +kernel
theorem dX0_append_0 : decode cX0_append 0 = .ok (.aload_n 0, 1) := by decide +kernel
theorem dX0_append_1 : decode cX0_append 1 = .ok (.iload_n 2, 1) := by decide +kernel
theorem dX0_append_2 : decode cX0_append 2 = .ok (.invokevirtual 49, 3) := by decide +kernel
theorem dX0_append_5 : decode cX0_append 5 = .ok (.istore_n 3, 1) := by decide +kernel
theorem dX0_append_6 : decode cX0_append 6 = .ok (.aload_n 0, 1) := by decide +kernel
theorem dX0_append_7 : decode cX0_append 7 = .ok (.iload_n 1, 1) := by decide +kernel
theorem dX0_append_8 : decode cX0_append 8 = .ok (.invokevirtual 49, 3) := by decide +kernel
theorem dX0_append_11 : decode cX0_append 11 = .ok (.istore 4, 2) := by decide +kernel
theorem dX0_append_13 : decode cX0_append 13 = .ok (.iload_n 1, 1) := by decide +kernel
theorem dX0_append_14 : decode cX0_append 14 = .ok (.iload 4, 2) := by decide +kernel
theorem dX0_append_16 : decode cX0_append 16 = .ok (.iconst 1, 1) := by decide +kernel
theorem dX0_append_17 : decode cX0_append 17 = .ok (.isub, 1) := by decide +kernel
theorem dX0_append_18 : decode cX0_append 18 = .ok (.invokestatic 37, 3) := by decide +kernel
theorem dX0_append_21 : decode cX0_append 21 = .ok (.ifCond .eq 16, 3) := by decide +kernel
theorem dX0_append_24 : decode cX0_append 24 = .ok (.iload_n 2, 1) := by decide +kernel
theorem dX0_append_25 : decode cX0_append 25 = .ok (.iload_n 3, 1) := by decide +kernel
theorem dX0_append_26 : decode cX0_append 26 = .ok (.iload 4, 2) := by decide +kernel
theorem dX0_append_28 : decode cX0_append 28 = .ok (.iadd, 1) := by decide +kernel
theorem dX0_append_29 : decode cX0_append 29 = .ok (.iconst 1, 1) := by decide +kernel
theorem dX0_append_30 : decode cX0_append 30 = .ok (.isub, 1) := by decide +kernel
theorem dX0_append_31 : decode cX0_append 31 = .ok (.invokestatic 37, 3) := by decide +kernel
theorem dX0_append_34 : decode cX0_append 34 = .ok (.ifCond .ne 4, 3) := by decide +kernel
theorem dX0_append_37 : decode cX0_append 37 = .ok (.return_, 1) := by decide +kernel
theorem dX0_append_38 : decode cX0_append 38 = .ok (.iconst 0, 1) := by decide +kernel
theorem dX0_append_39 : decode cX0_append 39 = .ok (.istore 5, 2) := by decide +kernel
theorem dX0_append_41 : decode cX0_append 41 = .ok (.iload 5, 2) := by decide +kernel
theorem dX0_append_43 : decode cX0_append 43 = .ok (.iload 4, 2) := by decide +kernel
theorem dX0_append_45 : decode cX0_append 45 = .ok (.if_icmp .ge 57, 3) := by decide +kernel
theorem dX0_append_48 : decode cX0_append 48 = .ok (.aload_n 0, 1) := by decide +kernel
theorem dX0_append_49 : decode cX0_append 49 = .ok (.getfield 19, 3) := by decide +kernel
theorem dX0_append_52 : decode cX0_append 52 = .ok (.iload_n 2, 1) := by decide +kernel
theorem dX0_append_53 : decode cX0_append 53 = .ok (.iconst 5, 1) := by decide +kernel
theorem dX0_append_54 : decode cX0_append 54 = .ok (.imul, 1) := by decide +kernel
theorem dX0_append_55 : decode cX0_append 55 = .ok (.iload_n 3, 1) := by decide +kernel
theorem dX0_append_56 : decode cX0_append 56 = .ok (.iadd, 1) := by decide +kernel
theorem dX0_append_57 : decode cX0_append 57 = .ok (.iload 5, 2) := by decide +kernel
theorem dX0_append_59 : decode cX0_append 59 = .ok (.iadd, 1) := by decide +kernel
theorem dX0_append_60 : decode cX0_append 60 = .ok (.aload_n 0, 1) := by decide +kernel
theorem dX0_append_61 : decode cX0_append 61 = .ok (.getfield 19, 3) := by decide +kernel
theorem dX0_append_64 : decode cX0_append 64 = .ok (.iload_n 1, 1) := by decide +kernel
theorem dX0_append_65 : decode cX0_append 65 = .ok (.iconst 5, 1) := by decide +kernel
theorem dX0_append_66 : decode cX0_append 66 = .ok (.imul, 1) := by decide +kernel
theorem dX0_append_67 : decode cX0_append 67 = .ok (.iload 5, 2) := by decide +kernel
theorem dX0_append_69 : decode cX0_append 69 = .ok (.iadd, 1) := by decide +kernel
theorem dX0_append_70 : decode cX0_append 70 = .ok (.iaload, 1) := by decide +kernel
theorem dX0_append_71 : decode cX0_append 71 = .ok (.iastore, 1) := by decide +kernel
theorem dX0_append_72 : decode cX0_append 72 = .ok (.aload_n 0, 1) := by decide +kernel
theorem dX0_append_73 : decode cX0_append 73 = .ok (.getfield 22, 3) := by decide +kernel
theorem dX0_append_76 : decode cX0_append 76 = .ok (.iload_n 2, 1) := by decide +kernel
theorem dX0_append_77 : decode cX0_append 77 = .ok (.iconst 5, 1) := by decide +kernel
theorem dX0_append_78 : decode cX0_append 78 = .ok (.imul, 1) := by decide +kernel
theorem dX0_append_79 : decode cX0_append 79 = .ok (.iload_n 3, 1) := by decide +kernel
theorem dX0_append_80 : decode cX0_append 80 = .ok (.iadd, 1) := by decide +kernel
theorem dX0_append_81 : decode cX0_append 81 = .ok (.iload 5, 2) := by decide +kernel
theorem dX0_append_83 : decode cX0_append 83 = .ok (.iadd, 1) := by decide +kernel
theorem dX0_append_84 : decode cX0_append 84 = .ok (.aload_n 0, 1) := by decide +kernel
theorem dX0_append_85 : decode cX0_append 85 = .ok (.getfield 22, 3) := by decide +kernel
theorem dX0_append_88 : decode cX0_append 88 = .ok (.iload_n 1, 1) := by decide +kernel
theorem dX0_append_89 : decode cX0_append 89 = .ok (.iconst 5, 1) := by decide +kernel
theorem dX0_append_90 : decode cX0_append 90 = .ok (.imul, 1) := by decide +kernel
theorem dX0_append_91 : decode cX0_append 91 = .ok (.iload 5, 2) := by decide +kernel
theorem dX0_append_93 : decode cX0_append 93 = .ok (.iadd, 1) := by decide +kernel
theorem dX0_append_94 : decode cX0_append 94 = .ok (.iaload, 1) := by decide +kernel
theorem dX0_append_95 : decode cX0_append 95 = .ok (.iastore, 1) := by decide +kernel
theorem dX0_append_96 : decode cX0_append 96 = .ok (.iinc 5 1, 3) := by decide +kernel
theorem dX0_append_99 : decode cX0_append 99 = .ok (.goto (-58), 3) := by decide +kernel
theorem dX0_append_102 : decode cX0_append 102 = .ok (.aload_n 0, 1) := by decide +kernel
theorem dX0_append_103 : decode cX0_append 103 = .ok (.getfield 9, 3) := by decide +kernel
theorem dX0_append_106 : decode cX0_append 106 = .ok (.iload_n 2, 1) := by decide +kernel
theorem dX0_append_107 : decode cX0_append 107 = .ok (.iload_n 3, 1) := by decide +kernel
theorem dX0_append_108 : decode cX0_append 108 = .ok (.iload 4, 2) := by decide +kernel
theorem dX0_append_110 : decode cX0_append 110 = .ok (.iadd, 1) := by decide +kernel
theorem dX0_append_111 : decode cX0_append 111 = .ok (.iastore, 1) := by decide +kernel
theorem dX0_append_112 : decode cX0_append 112 = .ok (.return_, 1) := by decide +kernel
theorem dX0_move_0 : decode cX0_move 0 = .ok (.aload_n 0, 1) := by decide +kernel
theorem dX0_move_1 : decode cX0_move 1 = .ok (.iload_n 3, 1) := by decide +kernel
theorem dX0_move_2 : decode cX0_move 2 = .ok (.iload 4, 2) := by decide +kernel
theorem dX0_move_4 : decode cX0_move 4 = .ok (.aload_n 0, 1) := by decide +kernel
theorem dX0_move_5 : decode cX0_move 5 = .ok (.iload_n 1, 1) := by decide +kernel
theorem dX0_move_6 : decode cX0_move 6 = .ok (.iload_n 2, 1) := by decide +kernel
theorem dX0_move_7 : decode cX0_move 7 = .ok (.invokevirtual 53, 3) := by decide +kernel
theorem dX0_move_10 : decode cX0_move 10 = .ok (.aload_n 0, 1) := by decide +kernel
theorem dX0_move_11 : decode cX0_move 11 = .ok (.iload_n 1, 1) := by decide +kernel
theorem dX0_move_12 : decode cX0_move 12 = .ok (.iload_n 2, 1) := by decide +kernel
theorem dX0_move_13 : decode cX0_move 13 = .ok (.invokevirtual 45, 3) := by decide +kernel
theorem dX0_move_16 : decode cX0_move 16 = .ok (.invokevirtual 77, 3) := by decide +kernel
theorem dX0_move_19 : decode cX0_move 19 = .ok (.aload_n 0, 1) := by decide +kernel
theorem dX0_move_20 : decode cX0_move 20 = .ok (.iload_n 1, 1) := by decide +kernel
theorem dX0_move_21 : decode cX0_move 21 = .ok (.iload_n 2, 1) := by decide +kernel
theorem dX0_move_22 : decode cX0_move 22 = .ok (.invokevirtual 81, 3) := by decide +kernel
theorem dX0_move_25 : decode cX0_move 25 = .ok (.return_, 1) := by decide +kernel
theorem dX1_init_0 : decode cX1_init 0 = .ok (.aload_n 0, 1) := by decide +kernel
theorem dX1_init_1 : decode cX1_init 1 = .ok (.invokespecial 1, 3) := by decide +kernel
theorem dX1_init_4 : decode cX1_init 4 = .ok (.return_, 1) := by decide +kernel
theorem dX1_become_0 : decode cX1_become 0 = .ok (.aload_n 0, 1) := by decide +kernel
theorem dX1_become_1 : decode cX1_become 1 = .ok (.aload_n 1, 1) := by decide +kernel
theorem dX1_become_2 : decode cX1_become 2 = .ok (.getfield 7, 3) := by decide +kernel
theorem dX1_become_5 : decode cX1_become 5 = .ok (.putfield 7, 3) := by decide +kernel
theorem dX1_become_8 : decode cX1_become 8 = .ok (.aload_n 0, 1) := by decide +kernel
theorem dX1_become_9 : decode cX1_become 9 = .ok (.aload_n 1, 1) := by decide +kernel
theorem dX1_become_10 : decode cX1_become 10 = .ok (.getfield 13, 3) := by decide +kernel
theorem dX1_become_13 : decode cX1_become 13 = .ok (.putfield 13, 3) := by decide +kernel
theorem dX1_become_16 : decode cX1_become 16 = .ok (.aload_n 0, 1) := by decide +kernel
theorem dX1_become_17 : decode cX1_become 17 = .ok (.aload_n 1, 1) := by decide +kernel
theorem dX1_become_18 : decode cX1_become 18 = .ok (.getfield 16, 3) := by decide +kernel
theorem dX1_become_21 : decode cX1_become 21 = .ok (.putfield 16, 3) := by decide +kernel
theorem dX1_become_24 : decode cX1_become 24 = .ok (.aload_n 0, 1) := by decide +kernel
theorem dX1_become_25 : decode cX1_become 25 = .ok (.iconst 1, 1) := by decide +kernel
theorem dX1_become_26 : decode cX1_become 26 = .ok (.putfield 19, 3) := by decide +kernel
theorem dX1_become_29 : decode cX1_become 29 = .ok (.return_, 1) := by decide +kernel
theorem dX2_init_0 : decode cX2_init 0 = .ok (.aload_n 0, 1) := by decide +kernel
theorem dX2_init_1 : decode cX2_init 1 = .ok (.invokespecial 3, 3) := by decide +kernel
theorem dX2_init_4 : decode cX2_init 4 = .ok (.aload_n 0, 1) := by decide +kernel
theorem dX2_init_5 : decode cX2_init 5 = .ok (.bipush 8, 2) := by decide +kernel
theorem dX2_init_7 : decode cX2_init 7 = .ok (.newarray .int, 2) := by decide +kernel
theorem dX2_init_9 : decode cX2_init 9 = .ok (.putfield 9, 3) := by decide +kernel
theorem dX2_init_12 : decode cX2_init 12 = .ok (.aload_n 0, 1) := by decide +kernel
theorem dX2_init_13 : decode cX2_init 13 = .ok (.bipush 8, 2) := by decide +kernel
theorem dX2_init_15 : decode cX2_init 15 = .ok (.newarray .int, 2) := by decide +kernel
theorem dX2_init_17 : decode cX2_init 17 = .ok (.putfield 15, 3) := by decide +kernel
theorem dX2_init_20 : decode cX2_init 20 = .ok (.aload_n 0, 1) := by decide +kernel
theorem dX2_init_21 : decode cX2_init 21 = .ok (.aload_n 1, 1) := by decide +kernel
theorem dX2_init_22 : decode cX2_init 22 = .ok (.putfield 18, 3) := by decide +kernel
theorem dX2_init_25 : decode cX2_init 25 = .ok (.aload_n 0, 1) := by decide +kernel
theorem dX2_init_26 : decode cX2_init 26 = .ok (.aload_n 2, 1) := by decide +kernel
theorem dX2_init_27 : decode cX2_init 27 = .ok (.putfield 22, 3) := by decide +kernel
theorem dX2_init_30 : decode cX2_init 30 = .ok (.return_, 1) := by decide +kernel
theorem dX2_store_0 : decode cX2_store 0 = .ok (.aload_n 0, 1) := by decide +kernel
theorem dX2_store_1 : decode cX2_store 1 = .ok (.iload_n 1, 1) := by decide +kernel
theorem dX2_store_2 : decode cX2_store 2 = .ok (.invokevirtual 26, 3) := by decide +kernel
theorem dX2_store_5 : decode cX2_store 5 = .ok (.istore_n 3, 1) := by decide +kernel
theorem dX2_store_6 : decode cX2_store 6 = .ok (.aload_n 0, 1) := by decide +kernel
theorem dX2_store_7 : decode cX2_store 7 = .ok (.getfield 18, 3) := by decide +kernel
theorem dX2_store_10 : decode cX2_store 10 = .ok (.iload_n 3, 1) := by decide +kernel
theorem dX2_store_11 : decode cX2_store 11 = .ok (.iload_n 1, 1) := by decide +kernel
theorem dX2_store_12 : decode cX2_store 12 = .ok (.invokevirtual 30, 3) := by decide +kernel
theorem dX2_store_15 : decode cX2_store 15 = .ok (.istore 4, 2) := by decide +kernel
theorem dX2_store_17 : decode cX2_store 17 = .ok (.aload_n 0, 1) := by decide +kernel
theorem dX2_store_18 : decode cX2_store 18 = .ok (.getfield 18, 3) := by decide +kernel
theorem dX2_store_21 : decode cX2_store 21 = .ok (.iload_n 3, 1) := by decide +kernel
theorem dX2_store_22 : decode cX2_store 22 = .ok (.iload 4, 2) := by decide +kernel
theorem dX2_store_24 : decode cX2_store 24 = .ok (.iload_n 1, 1) := by decide +kernel
theorem dX2_store_25 : decode cX2_store 25 = .ok (.invokevirtual 36, 3) := by decide +kernel
theorem dX2_store_28 : decode cX2_store 28 = .ok (.ifCond .eq 16, 3) := by decide +kernel
theorem dX2_store_31 : decode cX2_store 31 = .ok (.aload_n 0, 1) := by decide +kernel
theorem dX2_store_32 : decode cX2_store 32 = .ok (.getfield 18, 3) := by decide +kernel
theorem dX2_store_35 : decode cX2_store 35 = .ok (.iload_n 3, 1) := by decide +kernel
theorem dX2_store_36 : decode cX2_store 36 = .ok (.iload 4, 2) := by decide +kernel
theorem dX2_store_38 : decode cX2_store 38 = .ok (.iload_n 2, 1) := by decide +kernel
theorem dX2_store_39 : decode cX2_store 39 = .ok (.invokevirtual 40, 3) := by decide +kernel
theorem dX2_store_42 : decode cX2_store 42 = .ok (.iconst 0, 1) := by decide +kernel
theorem dX2_store_43 : decode cX2_store 43 = .ok (.ireturn, 1) := by decide +kernel
theorem dX2_store_44 : decode cX2_store 44 = .ok (.aload_n 0, 1) := by decide +kernel
theorem dX2_store_45 : decode cX2_store 45 = .ok (.getfield 18, 3) := by decide +kernel
theorem dX2_store_48 : decode cX2_store 48 = .ok (.iload_n 3, 1) := by decide +kernel
theorem dX2_store_49 : decode cX2_store 49 = .ok (.iload 4, 2) := by decide +kernel
theorem dX2_store_51 : decode cX2_store 51 = .ok (.iload_n 1, 1) := by decide +kernel
theorem dX2_store_52 : decode cX2_store 52 = .ok (.iload_n 2, 1) := by decide +kernel
theorem dX2_store_53 : decode cX2_store 53 = .ok (.invokevirtual 44, 3) := by decide +kernel
theorem dX2_store_56 : decode cX2_store 56 = .ok (.aload_n 0, 1) := by decide +kernel
theorem dX2_store_57 : decode cX2_store 57 = .ok (.getfield 22, 3) := by decide +kernel
theorem dX2_store_60 : decode cX2_store 60 = .ok (.dup, 1) := by decide +kernel
theorem dX2_store_61 : decode cX2_store 61 = .ok (.getfield 48, 3) := by decide +kernel
theorem dX2_store_64 : decode cX2_store 64 = .ok (.iconst 1, 1) := by decide +kernel
theorem dX2_store_65 : decode cX2_store 65 = .ok (.iadd, 1) := by decide +kernel
theorem dX2_store_66 : decode cX2_store 66 = .ok (.putfield 48, 3) := by decide +kernel
theorem dX2_store_69 : decode cX2_store 69 = .ok (.aload_n 0, 1) := by decide +kernel
theorem dX2_store_70 : decode cX2_store 70 = .ok (.invokevirtual 54, 3) := by decide +kernel
theorem dX2_store_73 : decode cX2_store 73 = .ok (.iconst 1, 1) := by decide +kernel
theorem dX2_store_74 : decode cX2_store 74 = .ok (.ireturn, 1) := by decide +kernel
theorem dX2_drop_0 : decode cX2_drop 0 = .ok (.aload_n 0, 1) := by decide +kernel
theorem dX2_drop_1 : decode cX2_drop 1 = .ok (.iload_n 1, 1) := by decide +kernel
theorem dX2_drop_2 : decode cX2_drop 2 = .ok (.invokevirtual 26, 3) := by decide +kernel
theorem dX2_drop_5 : decode cX2_drop 5 = .ok (.istore_n 2, 1) := by decide +kernel
theorem dX2_drop_6 : decode cX2_drop 6 = .ok (.aload_n 0, 1) := by decide +kernel
theorem dX2_drop_7 : decode cX2_drop 7 = .ok (.getfield 18, 3) := by decide +kernel
theorem dX2_drop_10 : decode cX2_drop 10 = .ok (.iload_n 2, 1) := by decide +kernel
theorem dX2_drop_11 : decode cX2_drop 11 = .ok (.aload_n 0, 1) := by decide +kernel
theorem dX2_drop_12 : decode cX2_drop 12 = .ok (.getfield 18, 3) := by decide +kernel
theorem dX2_drop_15 : decode cX2_drop 15 = .ok (.iload_n 2, 1) := by decide +kernel
theorem dX2_drop_16 : decode cX2_drop 16 = .ok (.iload_n 1, 1) := by decide +kernel
theorem dX2_drop_17 : decode cX2_drop 17 = .ok (.invokevirtual 30, 3) := by decide +kernel
theorem dX2_drop_20 : decode cX2_drop 20 = .ok (.invokevirtual 57, 3) := by decide +kernel
theorem dX2_drop_23 : decode cX2_drop 23 = .ok (.aload_n 0, 1) := by decide +kernel
theorem dX2_drop_24 : decode cX2_drop 24 = .ok (.getfield 22, 3) := by decide +kernel
theorem dX2_drop_27 : decode cX2_drop 27 = .ok (.dup, 1) := by decide +kernel
theorem dX2_drop_28 : decode cX2_drop 28 = .ok (.getfield 48, 3) := by decide +kernel
theorem dX2_drop_31 : decode cX2_drop 31 = .ok (.iconst 1, 1) := by decide +kernel
theorem dX2_drop_32 : decode cX2_drop 32 = .ok (.isub, 1) := by decide +kernel
theorem dX2_drop_33 : decode cX2_drop 33 = .ok (.putfield 48, 3) := by decide +kernel
theorem dX2_drop_36 : decode cX2_drop 36 = .ok (.aload_n 0, 1) := by decide +kernel
theorem dX2_drop_37 : decode cX2_drop 37 = .ok (.getfield 61, 3) := by decide +kernel
theorem dX2_drop_40 : decode cX2_drop 40 = .ok (.istore_n 3, 1) := by decide +kernel
theorem dX2_drop_41 : decode cX2_drop 41 = .ok (.iload_n 3, 1) := by decide +kernel
theorem dX2_drop_42 : decode cX2_drop 42 = .ok (.ifCond .le 52, 3) := by decide +kernel
theorem dX2_drop_45 : decode cX2_drop 45 = .ok (.iload_n 3, 1) := by decide +kernel
theorem dX2_drop_46 : decode cX2_drop 46 = .ok (.bipush 8, 2) := by decide +kernel
theorem dX2_drop_48 : decode cX2_drop 48 = .ok (.if_icmp .ge 46, 3) := by decide +kernel
theorem dX2_drop_51 : decode cX2_drop 51 = .ok (.aload_n 0, 1) := by decide +kernel
theorem dX2_drop_52 : decode cX2_drop 52 = .ok (.getfield 18, 3) := by decide +kernel
theorem dX2_drop_55 : decode cX2_drop 55 = .ok (.aload_n 0, 1) := by decide +kernel
theorem dX2_drop_56 : decode cX2_drop 56 = .ok (.getfield 9, 3) := by decide +kernel
theorem dX2_drop_59 : decode cX2_drop 59 = .ok (.iload_n 3, 1) := by decide +kernel
theorem dX2_drop_60 : decode cX2_drop 60 = .ok (.iaload, 1) := by decide +kernel
theorem dX2_drop_61 : decode cX2_drop 61 = .ok (.invokevirtual 64, 3) := by decide +kernel
theorem dX2_drop_64 : decode cX2_drop 64 = .ok (.iconst 2, 1) := by decide +kernel
theorem dX2_drop_65 : decode cX2_drop 65 = .ok (.if_icmp .ge 23, 3) := by decide +kernel
theorem dX2_drop_68 : decode cX2_drop 68 = .ok (.aload_n 0, 1) := by decide +kernel
theorem dX2_drop_69 : decode cX2_drop 69 = .ok (.aload_n 0, 1) := by decide +kernel
theorem dX2_drop_70 : decode cX2_drop 70 = .ok (.getfield 9, 3) := by decide +kernel
theorem dX2_drop_73 : decode cX2_drop 73 = .ok (.iload_n 3, 1) := by decide +kernel
theorem dX2_drop_74 : decode cX2_drop 74 = .ok (.iconst 1, 1) := by decide +kernel
theorem dX2_drop_75 : decode cX2_drop 75 = .ok (.isub, 1) := by decide +kernel
theorem dX2_drop_76 : decode cX2_drop 76 = .ok (.iaload, 1) := by decide +kernel
theorem dX2_drop_77 : decode cX2_drop 77 = .ok (.aload_n 0, 1) := by decide +kernel
theorem dX2_drop_78 : decode cX2_drop 78 = .ok (.getfield 15, 3) := by decide +kernel
theorem dX2_drop_81 : decode cX2_drop 81 = .ok (.iload_n 3, 1) := by decide +kernel
theorem dX2_drop_82 : decode cX2_drop 82 = .ok (.iconst 1, 1) := by decide +kernel
theorem dX2_drop_83 : decode cX2_drop 83 = .ok (.isub, 1) := by decide +kernel
theorem dX2_drop_84 : decode cX2_drop 84 = .ok (.iaload, 1) := by decide +kernel
theorem dX2_drop_85 : decode cX2_drop 85 = .ok (.invokevirtual 67, 3) := by decide +kernel
theorem dX2_drop_88 : decode cX2_drop 88 = .ok (.iinc 3 (-1), 3) := by decide +kernel
theorem dX2_drop_91 : decode cX2_drop 91 = .ok (.goto (-50), 3) := by decide +kernel
theorem dX2_drop_94 : decode cX2_drop 94 = .ok (.aload_n 0, 1) := by decide +kernel
theorem dX2_drop_95 : decode cX2_drop 95 = .ok (.invokevirtual 70, 3) := by decide +kernel
theorem dX2_drop_98 : decode cX2_drop 98 = .ok (.return_, 1) := by decide +kernel
theorem dX2_writePath_0 : decode cX2_writePath 0 = .ok (.aload_n 0, 1) := by decide +kernel
theorem dX2_writePath_1 : decode cX2_writePath 1 = .ok (.getfield 22, 3) := by decide +kernel
theorem dX2_writePath_4 : decode cX2_writePath 4 = .ok (.aload_n 0, 1) := by decide +kernel
theorem dX2_writePath_5 : decode cX2_writePath 5 = .ok (.getfield 18, 3) := by decide +kernel
theorem dX2_writePath_8 : decode cX2_writePath 8 = .ok (.aload_n 0, 1) := by decide +kernel
theorem dX2_writePath_9 : decode cX2_writePath 9 = .ok (.getfield 22, 3) := by decide +kernel
theorem dX2_writePath_12 : decode cX2_writePath 12 = .ok (.getfield 73, 3) := by decide +kernel
theorem dX2_writePath_15 : decode cX2_writePath 15 = .ok (.invokevirtual 76, 3) := by decide +kernel
theorem dX2_writePath_18 : decode cX2_writePath 18 = .ok (.putfield 73, 3) := by decide +kernel
theorem dX2_writePath_21 : decode cX2_writePath 21 = .ok (.aload_n 0, 1) := by decide +kernel
theorem dX2_writePath_22 : decode cX2_writePath 22 = .ok (.getfield 22, 3) := by decide +kernel
theorem dX2_writePath_25 : decode cX2_writePath 25 = .ok (.getfield 73, 3) := by decide +kernel
theorem dX2_writePath_28 : decode cX2_writePath 28 = .ok (.istore_n 2, 1) := by decide +kernel
theorem dX2_writePath_29 : decode cX2_writePath 29 = .ok (.iconst 0, 1) := by decide +kernel
theorem dX2_writePath_30 : decode cX2_writePath 30 = .ok (.istore_n 3, 1) := by decide +kernel
theorem dX2_writePath_31 : decode cX2_writePath 31 = .ok (.aload_n 0, 1) := by decide +kernel
theorem dX2_writePath_32 : decode cX2_writePath 32 = .ok (.getfield 9, 3) := by decide +kernel
theorem dX2_writePath_35 : decode cX2_writePath 35 = .ok (.iconst 0, 1) := by decide +kernel
theorem dX2_writePath_36 : decode cX2_writePath 36 = .ok (.iload_n 2, 1) := by decide +kernel
theorem dX2_writePath_37 : decode cX2_writePath 37 = .ok (.iastore, 1) := by decide +kernel
theorem dX2_writePath_38 : decode cX2_writePath 38 = .ok (.iload_n 3, 1) := by decide +kernel
theorem dX2_writePath_39 : decode cX2_writePath 39 = .ok (.iconst 1, 1) := by decide +kernel
theorem dX2_writePath_40 : decode cX2_writePath 40 = .ok (.iadd, 1) := by decide +kernel
theorem dX2_writePath_41 : decode cX2_writePath 41 = .ok (.bipush 8, 2) := by decide +kernel
theorem dX2_writePath_43 : decode cX2_writePath 43 = .ok (.if_icmp .ge 64, 3) := by decide +kernel
theorem dX2_writePath_46 : decode cX2_writePath 46 = .ok (.aload_n 0, 1) := by decide +kernel
theorem dX2_writePath_47 : decode cX2_writePath 47 = .ok (.getfield 18, 3) := by decide +kernel
theorem dX2_writePath_50 : decode cX2_writePath 50 = .ok (.iload_n 2, 1) := by decide +kernel
theorem dX2_writePath_51 : decode cX2_writePath 51 = .ok (.invokevirtual 79, 3) := by decide +kernel
theorem dX2_writePath_54 : decode cX2_writePath 54 = .ok (.ifCond .ne 53, 3) := by decide +kernel
theorem dX2_writePath_57 : decode cX2_writePath 57 = .ok (.aload_n 0, 1) := by decide +kernel
theorem dX2_writePath_58 : decode cX2_writePath 58 = .ok (.getfield 18, 3) := by decide +kernel
theorem dX2_writePath_61 : decode cX2_writePath 61 = .ok (.iload_n 2, 1) := by decide +kernel
theorem dX2_writePath_62 : decode cX2_writePath 62 = .ok (.iload_n 1, 1) := by decide +kernel
theorem dX2_writePath_63 : decode cX2_writePath 63 = .ok (.invokevirtual 83, 3) := by decide +kernel
theorem dX2_writePath_66 : decode cX2_writePath 66 = .ok (.istore 4, 2) := by decide +kernel
theorem dX2_writePath_68 : decode cX2_writePath 68 = .ok (.aload_n 0, 1) := by decide +kernel
theorem dX2_writePath_69 : decode cX2_writePath 69 = .ok (.iload_n 2, 1) := by decide +kernel
theorem dX2_writePath_70 : decode cX2_writePath 70 = .ok (.iload 4, 2) := by decide +kernel
theorem dX2_writePath_72 : decode cX2_writePath 72 = .ok (.invokevirtual 86, 3) := by decide +kernel
theorem dX2_writePath_75 : decode cX2_writePath 75 = .ok (.aload_n 0, 1) := by decide +kernel
theorem dX2_writePath_76 : decode cX2_writePath 76 = .ok (.getfield 18, 3) := by decide +kernel
theorem dX2_writePath_79 : decode cX2_writePath 79 = .ok (.iload_n 2, 1) := by decide +kernel
theorem dX2_writePath_80 : decode cX2_writePath 80 = .ok (.iload 4, 2) := by decide +kernel
theorem dX2_writePath_82 : decode cX2_writePath 82 = .ok (.invokevirtual 89, 3) := by decide +kernel
theorem dX2_writePath_85 : decode cX2_writePath 85 = .ok (.istore_n 2, 1) := by decide +kernel
theorem dX2_writePath_86 : decode cX2_writePath 86 = .ok (.aload_n 0, 1) := by decide +kernel
theorem dX2_writePath_87 : decode cX2_writePath 87 = .ok (.getfield 15, 3) := by decide +kernel
theorem dX2_writePath_90 : decode cX2_writePath 90 = .ok (.iload_n 3, 1) := by decide +kernel
theorem dX2_writePath_91 : decode cX2_writePath 91 = .ok (.iload 4, 2) := by decide +kernel
theorem dX2_writePath_93 : decode cX2_writePath 93 = .ok (.iastore, 1) := by decide +kernel
theorem dX2_writePath_94 : decode cX2_writePath 94 = .ok (.iinc 3 1, 3) := by decide +kernel
theorem dX2_writePath_97 : decode cX2_writePath 97 = .ok (.aload_n 0, 1) := by decide +kernel
theorem dX2_writePath_98 : decode cX2_writePath 98 = .ok (.getfield 9, 3) := by decide +kernel
theorem dX2_writePath_101 : decode cX2_writePath 101 = .ok (.iload_n 3, 1) := by decide +kernel
theorem dX2_writePath_102 : decode cX2_writePath 102 = .ok (.iload_n 2, 1) := by decide +kernel
theorem dX2_writePath_103 : decode cX2_writePath 103 = .ok (.iastore, 1) := by decide +kernel
theorem dX2_writePath_104 : decode cX2_writePath 104 = .ok (.goto (-66), 3) := by decide +kernel
theorem dX2_writePath_107 : decode cX2_writePath 107 = .ok (.aload_n 0, 1) := by decide +kernel
theorem dX2_writePath_108 : decode cX2_writePath 108 = .ok (.iload_n 3, 1) := by decide +kernel
theorem dX2_writePath_109 : decode cX2_writePath 109 = .ok (.putfield 61, 3) := by decide +kernel
theorem dX2_writePath_112 : decode cX2_writePath 112 = .ok (.iload_n 2, 1) := by decide +kernel
theorem dX2_writePath_113 : decode cX2_writePath 113 = .ok (.ireturn, 1) := by decide +kernel
theorem dX2_splitUpwards_0 : decode cX2_splitUpwards 0 = .ok (.aload_n 0, 1) := by decide +kernel
theorem dX2_splitUpwards_1 : decode cX2_splitUpwards 1 = .ok (.getfield 61, 3) := by decide +kernel
theorem dX2_splitUpwards_4 : decode cX2_splitUpwards 4 = .ok (.istore_n 1, 1) := by decide +kernel
theorem dX2_splitUpwards_5 : decode cX2_splitUpwards 5 = .ok (.iload_n 1, 1) := by decide +kernel
theorem dX2_splitUpwards_6 : decode cX2_splitUpwards 6 = .ok (.ifCond .lt 81, 3) := by decide +kernel
theorem dX2_splitUpwards_9 : decode cX2_splitUpwards 9 = .ok (.iload_n 1, 1) := by decide +kernel
theorem dX2_splitUpwards_10 : decode cX2_splitUpwards 10 = .ok (.bipush 8, 2) := by decide +kernel
theorem dX2_splitUpwards_12 : decode cX2_splitUpwards 12 = .ok (.if_icmp .ge 75, 3) := by decide +kernel
theorem dX2_splitUpwards_15 : decode cX2_splitUpwards 15 = .ok (.aload_n 0, 1) := by decide +kernel
theorem dX2_splitUpwards_16 : decode cX2_splitUpwards 16 = .ok (.getfield 9, 3) := by decide +kernel
theorem dX2_splitUpwards_19 : decode cX2_splitUpwards 19 = .ok (.iload_n 1, 1) := by decide +kernel
theorem dX2_splitUpwards_20 : decode cX2_splitUpwards 20 = .ok (.iaload, 1) := by decide +kernel
theorem dX2_splitUpwards_21 : decode cX2_splitUpwards 21 = .ok (.istore_n 2, 1) := by decide +kernel
theorem dX2_splitUpwards_22 : decode cX2_splitUpwards 22 = .ok (.aload_n 0, 1) := by decide +kernel
theorem dX2_splitUpwards_23 : decode cX2_splitUpwards 23 = .ok (.getfield 18, 3) := by decide +kernel
theorem dX2_splitUpwards_26 : decode cX2_splitUpwards 26 = .ok (.iload_n 2, 1) := by decide +kernel
theorem dX2_splitUpwards_27 : decode cX2_splitUpwards 27 = .ok (.invokevirtual 64, 3) := by decide +kernel
theorem dX2_splitUpwards_30 : decode cX2_splitUpwards 30 = .ok (.iconst 4, 1) := by decide +kernel
theorem dX2_splitUpwards_31 : decode cX2_splitUpwards 31 = .ok (.if_icmp .gt 4, 3) := by decide +kernel
theorem dX2_splitUpwards_34 : decode cX2_splitUpwards 34 = .ok (.return_, 1) := by decide +kernel
theorem dX2_splitUpwards_35 : decode cX2_splitUpwards 35 = .ok (.aload_n 0, 1) := by decide +kernel
theorem dX2_splitUpwards_36 : decode cX2_splitUpwards 36 = .ok (.iload_n 2, 1) := by decide +kernel
theorem dX2_splitUpwards_37 : decode cX2_splitUpwards 37 = .ok (.invokevirtual 92, 3) := by decide +kernel
theorem dX2_splitUpwards_40 : decode cX2_splitUpwards 40 = .ok (.istore_n 3, 1) := by decide +kernel
theorem dX2_splitUpwards_41 : decode cX2_splitUpwards 41 = .ok (.iload_n 1, 1) := by decide +kernel
theorem dX2_splitUpwards_42 : decode cX2_splitUpwards 42 = .ok (.ifCond .le 33, 3) := by decide +kernel
theorem dX2_splitUpwards_45 : decode cX2_splitUpwards 45 = .ok (.aload_n 0, 1) := by decide +kernel
theorem dX2_splitUpwards_46 : decode cX2_splitUpwards 46 = .ok (.getfield 18, 3) := by decide +kernel
theorem dX2_splitUpwards_49 : decode cX2_splitUpwards 49 = .ok (.aload_n 0, 1) := by decide +kernel
theorem dX2_splitUpwards_50 : decode cX2_splitUpwards 50 = .ok (.getfield 9, 3) := by decide +kernel
theorem dX2_splitUpwards_53 : decode cX2_splitUpwards 53 = .ok (.iload_n 1, 1) := by decide +kernel
theorem dX2_splitUpwards_54 : decode cX2_splitUpwards 54 = .ok (.iconst 1, 1) := by decide +kernel
theorem dX2_splitUpwards_55 : decode cX2_splitUpwards 55 = .ok (.isub, 1) := by decide +kernel
theorem dX2_splitUpwards_56 : decode cX2_splitUpwards 56 = .ok (.iaload, 1) := by decide +kernel
theorem dX2_splitUpwards_57 : decode cX2_splitUpwards 57 = .ok (.aload_n 0, 1) := by decide +kernel
theorem dX2_splitUpwards_58 : decode cX2_splitUpwards 58 = .ok (.getfield 15, 3) := by decide +kernel
theorem dX2_splitUpwards_61 : decode cX2_splitUpwards 61 = .ok (.iload_n 1, 1) := by decide +kernel
theorem dX2_splitUpwards_62 : decode cX2_splitUpwards 62 = .ok (.iconst 1, 1) := by decide +kernel
theorem dX2_splitUpwards_63 : decode cX2_splitUpwards 63 = .ok (.isub, 1) := by decide +kernel
theorem dX2_splitUpwards_64 : decode cX2_splitUpwards 64 = .ok (.iaload, 1) := by decide +kernel
theorem dX2_splitUpwards_65 : decode cX2_splitUpwards 65 = .ok (.iconst 1, 1) := by decide +kernel
theorem dX2_splitUpwards_66 : decode cX2_splitUpwards 66 = .ok (.iadd, 1) := by decide +kernel
theorem dX2_splitUpwards_67 : decode cX2_splitUpwards 67 = .ok (.iconst (-1), 1) := by decide +kernel
theorem dX2_splitUpwards_68 : decode cX2_splitUpwards 68 = .ok (.iload_n 3, 1) := by decide +kernel
theorem dX2_splitUpwards_69 : decode cX2_splitUpwards 69 = .ok (.invokevirtual 44, 3) := by decide +kernel
theorem dX2_splitUpwards_72 : decode cX2_splitUpwards 72 = .ok (.goto 9, 3) := by decide +kernel
theorem dX2_splitUpwards_75 : decode cX2_splitUpwards 75 = .ok (.aload_n 0, 1) := by decide +kernel
theorem dX2_splitUpwards_76 : decode cX2_splitUpwards 76 = .ok (.iload_n 2, 1) := by decide +kernel
theorem dX2_splitUpwards_77 : decode cX2_splitUpwards 77 = .ok (.iload_n 3, 1) := by decide +kernel
theorem dX2_splitUpwards_78 : decode cX2_splitUpwards 78 = .ok (.invokevirtual 95, 3) := by decide +kernel
theorem dX2_splitUpwards_81 : decode cX2_splitUpwards 81 = .ok (.iinc 1 (-1), 3) := by decide +kernel
theorem dX2_splitUpwards_84 : decode cX2_splitUpwards 84 = .ok (.goto (-79), 3) := by decide +kernel
theorem dX2_splitUpwards_87 : decode cX2_splitUpwards 87 = .ok (.return_, 1) := by decide +kernel
theorem dX2_splitOff_0 : decode cX2_splitOff 0 = .ok (.aload_n 0, 1) := by decide +kernel
theorem dX2_splitOff_1 : decode cX2_splitOff 1 = .ok (.getfield 18, 3) := by decide +kernel
theorem dX2_splitOff_4 : decode cX2_splitOff 4 = .ok (.aload_n 0, 1) := by decide +kernel
theorem dX2_splitOff_5 : decode cX2_splitOff 5 = .ok (.getfield 18, 3) := by decide +kernel
theorem dX2_splitOff_8 : decode cX2_splitOff 8 = .ok (.iload_n 1, 1) := by decide +kernel
theorem dX2_splitOff_9 : decode cX2_splitOff 9 = .ok (.invokevirtual 79, 3) := by decide +kernel
theorem dX2_splitOff_12 : decode cX2_splitOff 12 = .ok (.invokevirtual 98, 3) := by decide +kernel
theorem dX2_splitOff_15 : decode cX2_splitOff 15 = .ok (.istore_n 2, 1) := by decide +kernel
theorem dX2_splitOff_16 : decode cX2_splitOff 16 = .ok (.iconst 0, 1) := by decide +kernel
theorem dX2_splitOff_17 : decode cX2_splitOff 17 = .ok (.istore_n 3, 1) := by decide +kernel
theorem dX2_splitOff_18 : decode cX2_splitOff 18 = .ok (.iload_n 3, 1) := by decide +kernel
theorem dX2_splitOff_19 : decode cX2_splitOff 19 = .ok (.iconst 2, 1) := by decide +kernel
theorem dX2_splitOff_20 : decode cX2_splitOff 20 = .ok (.if_icmp .ge 20, 3) := by decide +kernel
theorem dX2_splitOff_23 : decode cX2_splitOff 23 = .ok (.aload_n 0, 1) := by decide +kernel
theorem dX2_splitOff_24 : decode cX2_splitOff 24 = .ok (.getfield 18, 3) := by decide +kernel
theorem dX2_splitOff_27 : decode cX2_splitOff 27 = .ok (.iload_n 1, 1) := by decide +kernel
theorem dX2_splitOff_28 : decode cX2_splitOff 28 = .ok (.iconst 3, 1) := by decide +kernel
theorem dX2_splitOff_29 : decode cX2_splitOff 29 = .ok (.iload_n 2, 1) := by decide +kernel
theorem dX2_splitOff_30 : decode cX2_splitOff 30 = .ok (.iload_n 3, 1) := by decide +kernel
theorem dX2_splitOff_31 : decode cX2_splitOff 31 = .ok (.invokevirtual 102, 3) := by decide +kernel
theorem dX2_splitOff_34 : decode cX2_splitOff 34 = .ok (.iinc 3 1, 3) := by decide +kernel
theorem dX2_splitOff_37 : decode cX2_splitOff 37 = .ok (.goto (-19), 3) := by decide +kernel
theorem dX2_splitOff_40 : decode cX2_splitOff 40 = .ok (.iload_n 2, 1) := by decide +kernel
theorem dX2_splitOff_41 : decode cX2_splitOff 41 = .ok (.ireturn, 1) := by decide +kernel
theorem dX2_growRoot_0 : decode cX2_growRoot 0 = .ok (.aload_n 0, 1) := by decide +kernel
theorem dX2_growRoot_1 : decode cX2_growRoot 1 = .ok (.getfield 18, 3) := by decide +kernel
theorem dX2_growRoot_4 : decode cX2_growRoot 4 = .ok (.iconst 0, 1) := by decide +kernel
theorem dX2_growRoot_5 : decode cX2_growRoot 5 = .ok (.invokevirtual 98, 3) := by decide +kernel
theorem dX2_growRoot_8 : decode cX2_growRoot 8 = .ok (.istore_n 3, 1) := by decide +kernel
theorem dX2_growRoot_9 : decode cX2_growRoot 9 = .ok (.aload_n 0, 1) := by decide +kernel
theorem dX2_growRoot_10 : decode cX2_growRoot 10 = .ok (.getfield 18, 3) := by decide +kernel
theorem dX2_growRoot_13 : decode cX2_growRoot 13 = .ok (.iload_n 3, 1) := by decide +kernel
theorem dX2_growRoot_14 : decode cX2_growRoot 14 = .ok (.iconst 0, 1) := by decide +kernel
theorem dX2_growRoot_15 : decode cX2_growRoot 15 = .ok (.iconst (-1), 1) := by decide +kernel
theorem dX2_growRoot_16 : decode cX2_growRoot 16 = .ok (.iload_n 1, 1) := by decide +kernel
theorem dX2_growRoot_17 : decode cX2_growRoot 17 = .ok (.invokevirtual 44, 3) := by decide +kernel
theorem dX2_growRoot_20 : decode cX2_growRoot 20 = .ok (.aload_n 0, 1) := by decide +kernel
theorem dX2_growRoot_21 : decode cX2_growRoot 21 = .ok (.getfield 18, 3) := by decide +kernel
theorem dX2_growRoot_24 : decode cX2_growRoot 24 = .ok (.iload_n 3, 1) := by decide +kernel
theorem dX2_growRoot_25 : decode cX2_growRoot 25 = .ok (.iconst 1, 1) := by decide +kernel
theorem dX2_growRoot_26 : decode cX2_growRoot 26 = .ok (.iconst (-1), 1) := by decide +kernel
theorem dX2_growRoot_27 : decode cX2_growRoot 27 = .ok (.iload_n 2, 1) := by decide +kernel
theorem dX2_growRoot_28 : decode cX2_growRoot 28 = .ok (.invokevirtual 44, 3) := by decide +kernel
theorem dX2_growRoot_31 : decode cX2_growRoot 31 = .ok (.aload_n 0, 1) := by decide +kernel
theorem dX2_growRoot_32 : decode cX2_growRoot 32 = .ok (.getfield 22, 3) := by decide +kernel
theorem dX2_growRoot_35 : decode cX2_growRoot 35 = .ok (.iload_n 3, 1) := by decide +kernel
theorem dX2_growRoot_36 : decode cX2_growRoot 36 = .ok (.putfield 73, 3) := by decide +kernel
theorem dX2_growRoot_39 : decode cX2_growRoot 39 = .ok (.return_, 1) := by decide +kernel
theorem dX2_mend_0 : decode cX2_mend 0 = .ok (.iload_n 2, 1) := by decide +kernel
theorem dX2_mend_1 : decode cX2_mend 1 = .ok (.ifCond .le 9, 3) := by decide +kernel
theorem dX2_mend_4 : decode cX2_mend 4 = .ok (.iload_n 2, 1) := by decide +kernel
theorem dX2_mend_5 : decode cX2_mend 5 = .ok (.iconst 1, 1) := by decide +kernel
theorem dX2_mend_6 : decode cX2_mend 6 = .ok (.isub, 1) := by decide +kernel
theorem dX2_mend_7 : decode cX2_mend 7 = .ok (.goto 6, 3) := by decide +kernel
theorem dX2_mend_10 : decode cX2_mend 10 = .ok (.iload_n 2, 1) := by decide +kernel
theorem dX2_mend_11 : decode cX2_mend 11 = .ok (.iconst 1, 1) := by decide +kernel
theorem dX2_mend_12 : decode cX2_mend 12 = .ok (.iadd, 1) := by decide +kernel
theorem dX2_mend_13 : decode cX2_mend 13 = .ok (.istore_n 3, 1) := by decide +kernel
theorem dX2_mend_14 : decode cX2_mend 14 = .ok (.iload_n 2, 1) := by decide +kernel
theorem dX2_mend_15 : decode cX2_mend 15 = .ok (.ifCond .le 7, 3) := by decide +kernel
theorem dX2_mend_18 : decode cX2_mend 18 = .ok (.iload_n 3, 1) := by decide +kernel
theorem dX2_mend_19 : decode cX2_mend 19 = .ok (.goto 4, 3) := by decide +kernel
theorem dX2_mend_22 : decode cX2_mend 22 = .ok (.iload_n 2, 1) := by decide +kernel
theorem dX2_mend_23 : decode cX2_mend 23 = .ok (.istore 4, 2) := by decide +kernel
theorem dX2_mend_25 : decode cX2_mend 25 = .ok (.aload_n 0, 1) := by decide +kernel
theorem dX2_mend_26 : decode cX2_mend 26 = .ok (.getfield 18, 3) := by decide +kernel
theorem dX2_mend_29 : decode cX2_mend 29 = .ok (.aload_n 0, 1) := by decide +kernel
theorem dX2_mend_30 : decode cX2_mend 30 = .ok (.getfield 18, 3) := by decide +kernel
theorem dX2_mend_33 : decode cX2_mend 33 = .ok (.iload_n 1, 1) := by decide +kernel
theorem dX2_mend_34 : decode cX2_mend 34 = .ok (.iload_n 3, 1) := by decide +kernel
theorem dX2_mend_35 : decode cX2_mend 35 = .ok (.invokevirtual 89, 3) := by decide +kernel
theorem dX2_mend_38 : decode cX2_mend 38 = .ok (.invokevirtual 64, 3) := by decide +kernel
theorem dX2_mend_41 : decode cX2_mend 41 = .ok (.iconst 2, 1) := by decide +kernel
theorem dX2_mend_42 : decode cX2_mend 42 = .ok (.if_icmp .le 19, 3) := by decide +kernel
theorem dX2_mend_45 : decode cX2_mend 45 = .ok (.aload_n 0, 1) := by decide +kernel
theorem dX2_mend_46 : decode cX2_mend 46 = .ok (.iload_n 1, 1) := by decide +kernel
theorem dX2_mend_47 : decode cX2_mend 47 = .ok (.iload_n 3, 1) := by decide +kernel
theorem dX2_mend_48 : decode cX2_mend 48 = .ok (.invokevirtual 86, 3) := by decide +kernel
theorem dX2_mend_51 : decode cX2_mend 51 = .ok (.aload_n 0, 1) := by decide +kernel
theorem dX2_mend_52 : decode cX2_mend 52 = .ok (.iload_n 1, 1) := by decide +kernel
theorem dX2_mend_53 : decode cX2_mend 53 = .ok (.iload_n 3, 1) := by decide +kernel
theorem dX2_mend_54 : decode cX2_mend 54 = .ok (.iload_n 2, 1) := by decide +kernel
theorem dX2_mend_55 : decode cX2_mend 55 = .ok (.invokevirtual 105, 3) := by decide +kernel
theorem dX2_mend_58 : decode cX2_mend 58 = .ok (.goto 17, 3) := by decide +kernel
theorem dX2_mend_61 : decode cX2_mend 61 = .ok (.aload_n 0, 1) := by decide +kernel
theorem dX2_mend_62 : decode cX2_mend 62 = .ok (.iload_n 1, 1) := by decide +kernel
theorem dX2_mend_63 : decode cX2_mend 63 = .ok (.iload 4, 2) := by decide +kernel
theorem dX2_mend_65 : decode cX2_mend 65 = .ok (.invokevirtual 86, 3) := by decide +kernel
theorem dX2_mend_68 : decode cX2_mend 68 = .ok (.aload_n 0, 1) := by decide +kernel
theorem dX2_mend_69 : decode cX2_mend 69 = .ok (.iload_n 1, 1) := by decide +kernel
theorem dX2_mend_70 : decode cX2_mend 70 = .ok (.iload 4, 2) := by decide +kernel
theorem dX2_mend_72 : decode cX2_mend 72 = .ok (.invokevirtual 108, 3) := by decide +kernel
theorem dX2_mend_75 : decode cX2_mend 75 = .ok (.return_, 1) := by decide +kernel
theorem dX2_writeBelow_0 : decode cX2_writeBelow 0 = .ok (.aload_n 0, 1) := by decide +kernel
theorem dX2_writeBelow_1 : decode cX2_writeBelow 1 = .ok (.getfield 18, 3) := by decide +kernel
theorem dX2_writeBelow_4 : decode cX2_writeBelow 4 = .ok (.iload_n 1, 1) := by decide +kernel
theorem dX2_writeBelow_5 : decode cX2_writeBelow 5 = .ok (.iload_n 2, 1) := by decide +kernel
theorem dX2_writeBelow_6 : decode cX2_writeBelow 6 = .ok (.aload_n 0, 1) := by decide +kernel
theorem dX2_writeBelow_7 : decode cX2_writeBelow 7 = .ok (.getfield 18, 3) := by decide +kernel
theorem dX2_writeBelow_10 : decode cX2_writeBelow 10 = .ok (.aload_n 0, 1) := by decide +kernel
theorem dX2_writeBelow_11 : decode cX2_writeBelow 11 = .ok (.getfield 18, 3) := by decide +kernel
theorem dX2_writeBelow_14 : decode cX2_writeBelow 14 = .ok (.iload_n 1, 1) := by decide +kernel
theorem dX2_writeBelow_15 : decode cX2_writeBelow 15 = .ok (.iload_n 2, 1) := by decide +kernel
theorem dX2_writeBelow_16 : decode cX2_writeBelow 16 = .ok (.invokevirtual 89, 3) := by decide +kernel
theorem dX2_writeBelow_19 : decode cX2_writeBelow 19 = .ok (.invokevirtual 76, 3) := by decide +kernel
theorem dX2_writeBelow_22 : decode cX2_writeBelow 22 = .ok (.invokevirtual 40, 3) := by decide +kernel
theorem dX2_writeBelow_25 : decode cX2_writeBelow 25 = .ok (.return_, 1) := by decide +kernel
theorem dX2_lend_0 : decode cX2_lend 0 = .ok (.aload_n 0, 1) := by decide +kernel
theorem dX2_lend_1 : decode cX2_lend 1 = .ok (.getfield 18, 3) := by decide +kernel
theorem dX2_lend_4 : decode cX2_lend 4 = .ok (.iload_n 1, 1) := by decide +kernel
theorem dX2_lend_5 : decode cX2_lend 5 = .ok (.iload_n 2, 1) := by decide +kernel
theorem dX2_lend_6 : decode cX2_lend 6 = .ok (.invokevirtual 89, 3) := by decide +kernel
theorem dX2_lend_9 : decode cX2_lend 9 = .ok (.istore 4, 2) := by decide +kernel
theorem dX2_lend_11 : decode cX2_lend 11 = .ok (.aload_n 0, 1) := by decide +kernel
theorem dX2_lend_12 : decode cX2_lend 12 = .ok (.getfield 18, 3) := by decide +kernel
theorem dX2_lend_15 : decode cX2_lend 15 = .ok (.iload_n 1, 1) := by decide +kernel
theorem dX2_lend_16 : decode cX2_lend 16 = .ok (.iload_n 3, 1) := by decide +kernel
theorem dX2_lend_17 : decode cX2_lend 17 = .ok (.invokevirtual 89, 3) := by decide +kernel
theorem dX2_lend_20 : decode cX2_lend 20 = .ok (.istore 5, 2) := by decide +kernel
theorem dX2_lend_22 : decode cX2_lend 22 = .ok (.iload_n 2, 1) := by decide +kernel
theorem dX2_lend_23 : decode cX2_lend 23 = .ok (.iload_n 3, 1) := by decide +kernel
theorem dX2_lend_24 : decode cX2_lend 24 = .ok (.if_icmp .ge 29, 3) := by decide +kernel
theorem dX2_lend_27 : decode cX2_lend 27 = .ok (.aload_n 0, 1) := by decide +kernel
theorem dX2_lend_28 : decode cX2_lend 28 = .ok (.getfield 18, 3) := by decide +kernel
theorem dX2_lend_31 : decode cX2_lend 31 = .ok (.iload 4, 2) := by decide +kernel
theorem dX2_lend_33 : decode cX2_lend 33 = .ok (.aload_n 0, 1) := by decide +kernel
theorem dX2_lend_34 : decode cX2_lend 34 = .ok (.getfield 18, 3) := by decide +kernel
theorem dX2_lend_37 : decode cX2_lend 37 = .ok (.iload 4, 2) := by decide +kernel
theorem dX2_lend_39 : decode cX2_lend 39 = .ok (.invokevirtual 64, 3) := by decide +kernel
theorem dX2_lend_42 : decode cX2_lend 42 = .ok (.iconst 1, 1) := by decide +kernel
theorem dX2_lend_43 : decode cX2_lend 43 = .ok (.isub, 1) := by decide +kernel
theorem dX2_lend_44 : decode cX2_lend 44 = .ok (.iload 5, 2) := by decide +kernel
theorem dX2_lend_46 : decode cX2_lend 46 = .ok (.iconst 0, 1) := by decide +kernel
theorem dX2_lend_47 : decode cX2_lend 47 = .ok (.invokevirtual 102, 3) := by decide +kernel
theorem dX2_lend_50 : decode cX2_lend 50 = .ok (.goto 24, 3) := by decide +kernel
theorem dX2_lend_53 : decode cX2_lend 53 = .ok (.aload_n 0, 1) := by decide +kernel
theorem dX2_lend_54 : decode cX2_lend 54 = .ok (.getfield 18, 3) := by decide +kernel
theorem dX2_lend_57 : decode cX2_lend 57 = .ok (.iload 4, 2) := by decide +kernel
theorem dX2_lend_59 : decode cX2_lend 59 = .ok (.iconst 0, 1) := by decide +kernel
theorem dX2_lend_60 : decode cX2_lend 60 = .ok (.iload 5, 2) := by decide +kernel
theorem dX2_lend_62 : decode cX2_lend 62 = .ok (.aload_n 0, 1) := by decide +kernel
theorem dX2_lend_63 : decode cX2_lend 63 = .ok (.getfield 18, 3) := by decide +kernel
theorem dX2_lend_66 : decode cX2_lend 66 = .ok (.iload 5, 2) := by decide +kernel
theorem dX2_lend_68 : decode cX2_lend 68 = .ok (.invokevirtual 64, 3) := by decide +kernel
theorem dX2_lend_71 : decode cX2_lend 71 = .ok (.invokevirtual 102, 3) := by decide +kernel
theorem dX2_lend_74 : decode cX2_lend 74 = .ok (.return_, 1) := by decide +kernel
theorem dX2_join_0 : decode cX2_join 0 = .ok (.aload_n 0, 1) := by decide +kernel
theorem dX2_join_1 : decode cX2_join 1 = .ok (.getfield 18, 3) := by decide +kernel
theorem dX2_join_4 : decode cX2_join 4 = .ok (.iload_n 1, 1) := by decide +kernel
theorem dX2_join_5 : decode cX2_join 5 = .ok (.iload_n 2, 1) := by decide +kernel
theorem dX2_join_6 : decode cX2_join 6 = .ok (.iconst 1, 1) := by decide +kernel
theorem dX2_join_7 : decode cX2_join 7 = .ok (.iadd, 1) := by decide +kernel
theorem dX2_join_8 : decode cX2_join 8 = .ok (.invokevirtual 89, 3) := by decide +kernel
theorem dX2_join_11 : decode cX2_join 11 = .ok (.istore_n 3, 1) := by decide +kernel
theorem dX2_join_12 : decode cX2_join 12 = .ok (.aload_n 0, 1) := by decide +kernel
theorem dX2_join_13 : decode cX2_join 13 = .ok (.getfield 18, 3) := by decide +kernel
theorem dX2_join_16 : decode cX2_join 16 = .ok (.iload_n 3, 1) := by decide +kernel
theorem dX2_join_17 : decode cX2_join 17 = .ok (.aload_n 0, 1) := by decide +kernel
theorem dX2_join_18 : decode cX2_join 18 = .ok (.getfield 18, 3) := by decide +kernel
theorem dX2_join_21 : decode cX2_join 21 = .ok (.iload_n 1, 1) := by decide +kernel
theorem dX2_join_22 : decode cX2_join 22 = .ok (.iload_n 2, 1) := by decide +kernel
theorem dX2_join_23 : decode cX2_join 23 = .ok (.invokevirtual 89, 3) := by decide +kernel
theorem dX2_join_26 : decode cX2_join 26 = .ok (.invokevirtual 111, 3) := by decide +kernel
theorem dX2_join_29 : decode cX2_join 29 = .ok (.aload_n 0, 1) := by decide +kernel
theorem dX2_join_30 : decode cX2_join 30 = .ok (.getfield 18, 3) := by decide +kernel
theorem dX2_join_33 : decode cX2_join 33 = .ok (.iload_n 1, 1) := by decide +kernel
theorem dX2_join_34 : decode cX2_join 34 = .ok (.iload_n 2, 1) := by decide +kernel
theorem dX2_join_35 : decode cX2_join 35 = .ok (.iconst 1, 1) := by decide +kernel
theorem dX2_join_36 : decode cX2_join 36 = .ok (.iadd, 1) := by decide +kernel
theorem dX2_join_37 : decode cX2_join 37 = .ok (.invokevirtual 57, 3) := by decide +kernel
theorem dX2_join_40 : decode cX2_join 40 = .ok (.aload_n 0, 1) := by decide +kernel
theorem dX2_join_41 : decode cX2_join 41 = .ok (.getfield 18, 3) := by decide +kernel
theorem dX2_join_44 : decode cX2_join 44 = .ok (.iload_n 3, 1) := by decide +kernel
theorem dX2_join_45 : decode cX2_join 45 = .ok (.invokevirtual 114, 3) := by decide +kernel
theorem dX2_join_48 : decode cX2_join 48 = .ok (.return_, 1) := by decide +kernel
theorem dX2_shrinkRoot_0 : decode cX2_shrinkRoot 0 = .ok (.aload_n 0, 1) := by decide +kernel
theorem dX2_shrinkRoot_1 : decode cX2_shrinkRoot 1 = .ok (.getfield 22, 3) := by decide +kernel
theorem dX2_shrinkRoot_4 : decode cX2_shrinkRoot 4 = .ok (.getfield 73, 3) := by decide +kernel
theorem dX2_shrinkRoot_7 : decode cX2_shrinkRoot 7 = .ok (.istore_n 1, 1) := by decide +kernel
theorem dX2_shrinkRoot_8 : decode cX2_shrinkRoot 8 = .ok (.aload_n 0, 1) := by decide +kernel
theorem dX2_shrinkRoot_9 : decode cX2_shrinkRoot 9 = .ok (.getfield 18, 3) := by decide +kernel
theorem dX2_shrinkRoot_12 : decode cX2_shrinkRoot 12 = .ok (.iload_n 1, 1) := by decide +kernel
theorem dX2_shrinkRoot_13 : decode cX2_shrinkRoot 13 = .ok (.invokevirtual 79, 3) := by decide +kernel
theorem dX2_shrinkRoot_16 : decode cX2_shrinkRoot 16 = .ok (.ifCond .ne 39, 3) := by decide +kernel
theorem dX2_shrinkRoot_19 : decode cX2_shrinkRoot 19 = .ok (.aload_n 0, 1) := by decide +kernel
theorem dX2_shrinkRoot_20 : decode cX2_shrinkRoot 20 = .ok (.getfield 18, 3) := by decide +kernel
theorem dX2_shrinkRoot_23 : decode cX2_shrinkRoot 23 = .ok (.iload_n 1, 1) := by decide +kernel
theorem dX2_shrinkRoot_24 : decode cX2_shrinkRoot 24 = .ok (.invokevirtual 64, 3) := by decide +kernel
theorem dX2_shrinkRoot_27 : decode cX2_shrinkRoot 27 = .ok (.iconst 1, 1) := by decide +kernel
theorem dX2_shrinkRoot_28 : decode cX2_shrinkRoot 28 = .ok (.if_icmp .ne 27, 3) := by decide +kernel
theorem dX2_shrinkRoot_31 : decode cX2_shrinkRoot 31 = .ok (.aload_n 0, 1) := by decide +kernel
theorem dX2_shrinkRoot_32 : decode cX2_shrinkRoot 32 = .ok (.getfield 22, 3) := by decide +kernel
theorem dX2_shrinkRoot_35 : decode cX2_shrinkRoot 35 = .ok (.aload_n 0, 1) := by decide +kernel
theorem dX2_shrinkRoot_36 : decode cX2_shrinkRoot 36 = .ok (.getfield 18, 3) := by decide +kernel
theorem dX2_shrinkRoot_39 : decode cX2_shrinkRoot 39 = .ok (.iload_n 1, 1) := by decide +kernel
theorem dX2_shrinkRoot_40 : decode cX2_shrinkRoot 40 = .ok (.iconst 0, 1) := by decide +kernel
theorem dX2_shrinkRoot_41 : decode cX2_shrinkRoot 41 = .ok (.invokevirtual 89, 3) := by decide +kernel
theorem dX2_shrinkRoot_44 : decode cX2_shrinkRoot 44 = .ok (.putfield 73, 3) := by decide +kernel
theorem dX2_shrinkRoot_47 : decode cX2_shrinkRoot 47 = .ok (.aload_n 0, 1) := by decide +kernel
theorem dX2_shrinkRoot_48 : decode cX2_shrinkRoot 48 = .ok (.getfield 18, 3) := by decide +kernel
theorem dX2_shrinkRoot_51 : decode cX2_shrinkRoot 51 = .ok (.iload_n 1, 1) := by decide +kernel
theorem dX2_shrinkRoot_52 : decode cX2_shrinkRoot 52 = .ok (.invokevirtual 114, 3) := by decide +kernel
theorem dX2_shrinkRoot_55 : decode cX2_shrinkRoot 55 = .ok (.return_, 1) := by decide +kernel
end
section
/-! decode rows, out of claim/NAMES.whole.lean.txt -/
theorem dX3_init_0 : decode cX3_init 0 = .ok (.aload_n 0, 1) := by decide +kernel
theorem dX3_init_1 : decode cX3_init 1 = .ok (.invokespecial 3, 3) := by decide +kernel
theorem dX3_init_4 : decode cX3_init 4 = .ok (.aload_n 0, 1) := by decide +kernel
theorem dX3_init_5 : decode cX3_init 5 = .ok (.new 9, 3) := by decide +kernel
theorem dX3_init_8 : decode cX3_init 8 = .ok (.dup, 1) := by decide +kernel
theorem dX3_init_9 : decode cX3_init 9 = .ok (.invokespecial 11, 3) := by decide +kernel
theorem dX3_init_12 : decode cX3_init 12 = .ok (.putfield 12, 3) := by decide +kernel
theorem dX3_init_15 : decode cX3_init 15 = .ok (.aload_n 0, 1) := by decide +kernel
theorem dX3_init_16 : decode cX3_init 16 = .ok (.new 16, 3) := by decide +kernel
theorem dX3_init_19 : decode cX3_init 19 = .ok (.dup, 1) := by decide +kernel
theorem dX3_init_20 : decode cX3_init 20 = .ok (.invokespecial 18, 3) := by decide +kernel
theorem dX3_init_23 : decode cX3_init 23 = .ok (.putfield 19, 3) := by decide +kernel
theorem dX3_init_26 : decode cX3_init 26 = .ok (.aload_n 0, 1) := by decide +kernel
theorem dX3_init_27 : decode cX3_init 27 = .ok (.new 16, 3) := by decide +kernel
theorem dX3_init_30 : decode cX3_init 30 = .ok (.dup, 1) := by decide +kernel
theorem dX3_init_31 : decode cX3_init 31 = .ok (.invokespecial 18, 3) := by decide +kernel
theorem dX3_init_34 : decode cX3_init 34 = .ok (.putfield 23, 3) := by decide +kernel
theorem dX3_init_37 : decode cX3_init 37 = .ok (.aload_n 0, 1) := by decide +kernel
theorem dX3_init_38 : decode cX3_init 38 = .ok (.new 26, 3) := by decide +kernel
theorem dX3_init_41 : decode cX3_init 41 = .ok (.dup, 1) := by decide +kernel
theorem dX3_init_42 : decode cX3_init 42 = .ok (.aload_n 0, 1) := by decide +kernel
theorem dX3_init_43 : decode cX3_init 43 = .ok (.getfield 12, 3) := by decide +kernel
theorem dX3_init_46 : decode cX3_init 46 = .ok (.aload_n 0, 1) := by decide +kernel
theorem dX3_init_47 : decode cX3_init 47 = .ok (.getfield 23, 3) := by decide +kernel
theorem dX3_init_50 : decode cX3_init 50 = .ok (.invokespecial 28, 3) := by decide +kernel
theorem dX3_init_53 : decode cX3_init 53 = .ok (.putfield 31, 3) := by decide +kernel
theorem dX3_init_56 : decode cX3_init 56 = .ok (.aload_n 0, 1) := by decide +kernel
theorem dX3_init_57 : decode cX3_init 57 = .ok (.iconst 4, 1) := by decide +kernel
theorem dX3_init_58 : decode cX3_init 58 = .ok (.anewarray 16, 3) := by decide +kernel
theorem dX3_init_61 : decode cX3_init 61 = .ok (.putfield 35, 3) := by decide +kernel
theorem dX3_init_64 : decode cX3_init 64 = .ok (.iconst 0, 1) := by decide +kernel
theorem dX3_init_65 : decode cX3_init 65 = .ok (.istore_n 1, 1) := by decide +kernel
theorem dX3_init_66 : decode cX3_init 66 = .ok (.iload_n 1, 1) := by decide +kernel
theorem dX3_init_67 : decode cX3_init 67 = .ok (.iconst 4, 1) := by decide +kernel
theorem dX3_init_68 : decode cX3_init 68 = .ok (.if_icmp .ge 22, 3) := by decide +kernel
theorem dX3_init_71 : decode cX3_init 71 = .ok (.aload_n 0, 1) := by decide +kernel
theorem dX3_init_72 : decode cX3_init 72 = .ok (.getfield 35, 3) := by decide +kernel
theorem dX3_init_75 : decode cX3_init 75 = .ok (.iload_n 1, 1) := by decide +kernel
theorem dX3_init_76 : decode cX3_init 76 = .ok (.new 16, 3) := by decide +kernel
theorem dX3_init_79 : decode cX3_init 79 = .ok (.dup, 1) := by decide +kernel
theorem dX3_init_80 : decode cX3_init 80 = .ok (.invokespecial 18, 3) := by decide +kernel
theorem dX3_init_83 : decode cX3_init 83 = .ok (.aastore, 1) := by decide +kernel
theorem dX3_init_84 : decode cX3_init 84 = .ok (.iinc 1 1, 3) := by decide +kernel
theorem dX3_init_87 : decode cX3_init 87 = .ok (.goto (-21), 3) := by decide +kernel
theorem dX3_init_90 : decode cX3_init 90 = .ok (.aload_n 0, 1) := by decide +kernel
theorem dX3_init_91 : decode cX3_init 91 = .ok (.bipush 8, 2) := by decide +kernel
theorem dX3_init_93 : decode cX3_init 93 = .ok (.newarray .long, 2) := by decide +kernel
theorem dX3_init_95 : decode cX3_init 95 = .ok (.putfield 39, 3) := by decide +kernel
theorem dX3_init_98 : decode cX3_init 98 = .ok (.aload_n 0, 1) := by decide +kernel
theorem dX3_init_99 : decode cX3_init 99 = .ok (.iconst 0, 1) := by decide +kernel
theorem dX3_init_100 : decode cX3_init 100 = .ok (.putfield 43, 3) := by decide +kernel
theorem dX3_init_103 : decode cX3_init 103 = .ok (.aload_n 0, 1) := by decide +kernel
theorem dX3_init_104 : decode cX3_init 104 = .ok (.getfield 12, 3) := by decide +kernel
theorem dX3_init_107 : decode cX3_init 107 = .ok (.aload_n 0, 1) := by decide +kernel
theorem dX3_init_108 : decode cX3_init 108 = .ok (.getfield 12, 3) := by decide +kernel
theorem dX3_init_111 : decode cX3_init 111 = .ok (.getfield 47, 3) := by decide +kernel
theorem dX3_init_114 : decode cX3_init 114 = .ok (.aload_n 0, 1) := by decide +kernel
theorem dX3_init_115 : decode cX3_init 115 = .ok (.getfield 19, 3) := by decide +kernel
theorem dX3_init_118 : decode cX3_init 118 = .ok (.getfield 51, 3) := by decide +kernel
theorem dX3_init_121 : decode cX3_init 121 = .ok (.invokevirtual 54, 3) := by decide +kernel
theorem dX3_init_124 : decode cX3_init 124 = .ok (.return_, 1) := by decide +kernel
theorem dX3_beginBatch_0 : decode cX3_beginBatch 0 = .ok (.aload_n 0, 1) := by decide +kernel
theorem dX3_beginBatch_1 : decode cX3_beginBatch 1 = .ok (.getfield 23, 3) := by decide +kernel
theorem dX3_beginBatch_4 : decode cX3_beginBatch 4 = .ok (.getfield 58, 3) := by decide +kernel
theorem dX3_beginBatch_7 : decode cX3_beginBatch 7 = .ok (.ifCond .eq 13, 3) := by decide +kernel
theorem dX3_beginBatch_10 : decode cX3_beginBatch 10 = .ok (.new 62, 3) := by decide +kernel
theorem dX3_beginBatch_13 : decode cX3_beginBatch 13 = .ok (.dup, 1) := by decide +kernel
theorem dX3_beginBatch_14 : decode cX3_beginBatch 14 = .ok (.ldc 64, 2) := by decide +kernel
theorem dX3_beginBatch_16 : decode cX3_beginBatch 16 = .ok (.invokespecial 66, 3) := by decide +kernel
theorem dX3_beginBatch_19 : decode cX3_beginBatch 19 = .ok (.athrow, 1) := by decide +kernel
theorem dX3_beginBatch_20 : decode cX3_beginBatch 20 = .ok (.aload_n 0, 1) := by decide +kernel
theorem dX3_beginBatch_21 : decode cX3_beginBatch 21 = .ok (.getfield 23, 3) := by decide +kernel
theorem dX3_beginBatch_24 : decode cX3_beginBatch 24 = .ok (.aload_n 0, 1) := by decide +kernel
theorem dX3_beginBatch_25 : decode cX3_beginBatch 25 = .ok (.getfield 19, 3) := by decide +kernel
theorem dX3_beginBatch_28 : decode cX3_beginBatch 28 = .ok (.invokevirtual 69, 3) := by decide +kernel
theorem dX3_beginBatch_31 : decode cX3_beginBatch 31 = .ok (.aload_n 0, 1) := by decide +kernel
theorem dX3_beginBatch_32 : decode cX3_beginBatch 32 = .ok (.getfield 23, 3) := by decide +kernel
theorem dX3_beginBatch_35 : decode cX3_beginBatch 35 = .ok (.aload_n 0, 1) := by decide +kernel
theorem dX3_beginBatch_36 : decode cX3_beginBatch 36 = .ok (.getfield 19, 3) := by decide +kernel
theorem dX3_beginBatch_39 : decode cX3_beginBatch 39 = .ok (.getfield 73, 3) := by decide +kernel
theorem dX3_beginBatch_42 : decode cX3_beginBatch 42 = .ok (.iconst 1, 1) := by decide +kernel
theorem dX3_beginBatch_43 : decode cX3_beginBatch 43 = .ok (.iadd, 1) := by decide +kernel
theorem dX3_beginBatch_44 : decode cX3_beginBatch 44 = .ok (.putfield 73, 3) := by decide +kernel
theorem dX3_beginBatch_47 : decode cX3_beginBatch 47 = .ok (.aload_n 0, 1) := by decide +kernel
theorem dX3_beginBatch_48 : decode cX3_beginBatch 48 = .ok (.getfield 23, 3) := by decide +kernel
theorem dX3_beginBatch_51 : decode cX3_beginBatch 51 = .ok (.getfield 73, 3) := by decide +kernel
theorem dX3_beginBatch_54 : decode cX3_beginBatch 54 = .ok (.ireturn, 1) := by decide +kernel
theorem dX3_hasBatch_0 : decode cX3_hasBatch 0 = .ok (.aload_n 0, 1) := by decide +kernel
theorem dX3_hasBatch_1 : decode cX3_hasBatch 1 = .ok (.getfield 23, 3) := by decide +kernel
theorem dX3_hasBatch_4 : decode cX3_hasBatch 4 = .ok (.getfield 58, 3) := by decide +kernel
theorem dX3_hasBatch_7 : decode cX3_hasBatch 7 = .ok (.ireturn, 1) := by decide +kernel
theorem dX3_put_0 : decode cX3_put 0 = .ok (.iload_n 1, 1) := by decide +kernel
theorem dX3_put_1 : decode cX3_put 1 = .ok (.invokestatic 76, 3) := by decide +kernel
theorem dX3_put_4 : decode cX3_put 4 = .ok (.aload_n 0, 1) := by decide +kernel
theorem dX3_put_5 : decode cX3_put 5 = .ok (.invokevirtual 80, 3) := by decide +kernel
theorem dX3_put_8 : decode cX3_put 8 = .ok (.aload_n 0, 1) := by decide +kernel
theorem dX3_put_9 : decode cX3_put 9 = .ok (.getfield 31, 3) := by decide +kernel
theorem dX3_put_12 : decode cX3_put 12 = .ok (.iload_n 1, 1) := by decide +kernel
theorem dX3_put_13 : decode cX3_put 13 = .ok (.iload_n 2, 1) := by decide +kernel
theorem dX3_put_14 : decode cX3_put 14 = .ok (.invokevirtual 83, 3) := by decide +kernel
theorem dX3_put_17 : decode cX3_put 17 = .ok (.ireturn, 1) := by decide +kernel
theorem dX3_delete_0 : decode cX3_delete 0 = .ok (.iload_n 1, 1) := by decide +kernel
theorem dX3_delete_1 : decode cX3_delete 1 = .ok (.invokestatic 76, 3) := by decide +kernel
theorem dX3_delete_4 : decode cX3_delete 4 = .ok (.aload_n 0, 1) := by decide +kernel
theorem dX3_delete_5 : decode cX3_delete 5 = .ok (.invokevirtual 80, 3) := by decide +kernel
theorem dX3_delete_8 : decode cX3_delete 8 = .ok (.aload_n 0, 1) := by decide +kernel
theorem dX3_delete_9 : decode cX3_delete 9 = .ok (.aload_n 0, 1) := by decide +kernel
theorem dX3_delete_10 : decode cX3_delete 10 = .ok (.getfield 23, 3) := by decide +kernel
theorem dX3_delete_13 : decode cX3_delete 13 = .ok (.iload_n 1, 1) := by decide +kernel
theorem dX3_delete_14 : decode cX3_delete 14 = .ok (.invokevirtual 87, 3) := by decide +kernel
theorem dX3_delete_17 : decode cX3_delete 17 = .ok (.istore_n 2, 1) := by decide +kernel
theorem dX3_delete_18 : decode cX3_delete 18 = .ok (.aload_n 0, 1) := by decide +kernel
theorem dX3_delete_19 : decode cX3_delete 19 = .ok (.getfield 31, 3) := by decide +kernel
theorem dX3_delete_22 : decode cX3_delete 22 = .ok (.iload_n 1, 1) := by decide +kernel
theorem dX3_delete_23 : decode cX3_delete 23 = .ok (.invokevirtual 91, 3) := by decide +kernel
theorem dX3_delete_26 : decode cX3_delete 26 = .ok (.iload_n 2, 1) := by decide +kernel
theorem dX3_delete_27 : decode cX3_delete 27 = .ok (.ireturn, 1) := by decide +kernel
theorem dX3_commit_0 : decode cX3_commit 0 = .ok (.aload_n 0, 1) := by decide +kernel
theorem dX3_commit_1 : decode cX3_commit 1 = .ok (.invokevirtual 80, 3) := by decide +kernel
theorem dX3_commit_4 : decode cX3_commit 4 = .ok (.aload_n 0, 1) := by decide +kernel
theorem dX3_commit_5 : decode cX3_commit 5 = .ok (.getfield 43, 3) := by decide +kernel
theorem dX3_commit_8 : decode cX3_commit 8 = .ok (.invokestatic 94, 3) := by decide +kernel
theorem dX3_commit_11 : decode cX3_commit 11 = .ok (.istore_n 1, 1) := by decide +kernel
theorem dX3_commit_12 : decode cX3_commit 12 = .ok (.aload_n 0, 1) := by decide +kernel
theorem dX3_commit_13 : decode cX3_commit 13 = .ok (.iload_n 1, 1) := by decide +kernel
theorem dX3_commit_14 : decode cX3_commit 14 = .ok (.iconst 4, 1) := by decide +kernel
theorem dX3_commit_15 : decode cX3_commit 15 = .ok (.invokevirtual 98, 3) := by decide +kernel
theorem dX3_commit_18 : decode cX3_commit 18 = .ok (.aload_n 0, 1) := by decide +kernel
theorem dX3_commit_19 : decode cX3_commit 19 = .ok (.iload_n 1, 1) := by decide +kernel
theorem dX3_commit_20 : decode cX3_commit 20 = .ok (.putfield 43, 3) := by decide +kernel
theorem dX3_commit_23 : decode cX3_commit 23 = .ok (.aload_n 0, 1) := by decide +kernel
theorem dX3_commit_24 : decode cX3_commit 24 = .ok (.getfield 19, 3) := by decide +kernel
theorem dX3_commit_27 : decode cX3_commit 27 = .ok (.aload_n 0, 1) := by decide +kernel
theorem dX3_commit_28 : decode cX3_commit 28 = .ok (.getfield 23, 3) := by decide +kernel
theorem dX3_commit_31 : decode cX3_commit 31 = .ok (.invokevirtual 69, 3) := by decide +kernel
theorem dX3_commit_34 : decode cX3_commit 34 = .ok (.aload_n 0, 1) := by decide +kernel
theorem dX3_commit_35 : decode cX3_commit 35 = .ok (.invokevirtual 102, 3) := by decide +kernel
theorem dX3_commit_38 : decode cX3_commit 38 = .ok (.aload_n 0, 1) := by decide +kernel
theorem dX3_commit_39 : decode cX3_commit 39 = .ok (.getfield 19, 3) := by decide +kernel
theorem dX3_commit_42 : decode cX3_commit 42 = .ok (.getfield 73, 3) := by decide +kernel
theorem dX3_commit_45 : decode cX3_commit 45 = .ok (.ireturn, 1) := by decide +kernel
theorem dX3_abandon_0 : decode cX3_abandon 0 = .ok (.aload_n 0, 1) := by decide +kernel
theorem dX3_abandon_1 : decode cX3_abandon 1 = .ok (.invokevirtual 80, 3) := by decide +kernel
theorem dX3_abandon_4 : decode cX3_abandon 4 = .ok (.aload_n 0, 1) := by decide +kernel
theorem dX3_abandon_5 : decode cX3_abandon 5 = .ok (.invokevirtual 105, 3) := by decide +kernel
theorem dX3_abandon_8 : decode cX3_abandon 8 = .ok (.istore_n 1, 1) := by decide +kernel
theorem dX3_abandon_9 : decode cX3_abandon 9 = .ok (.aload_n 0, 1) := by decide +kernel
theorem dX3_abandon_10 : decode cX3_abandon 10 = .ok (.invokevirtual 102, 3) := by decide +kernel
theorem dX3_abandon_13 : decode cX3_abandon 13 = .ok (.iload_n 1, 1) := by decide +kernel
theorem dX3_abandon_14 : decode cX3_abandon 14 = .ok (.aload_n 0, 1) := by decide +kernel
theorem dX3_abandon_15 : decode cX3_abandon 15 = .ok (.invokevirtual 105, 3) := by decide +kernel
theorem dX3_abandon_18 : decode cX3_abandon 18 = .ok (.isub, 1) := by decide +kernel
theorem dX3_abandon_19 : decode cX3_abandon 19 = .ok (.ireturn, 1) := by decide +kernel
theorem dX3_openReader_0 : decode cX3_openReader 0 = .ok (.iconst 0, 1) := by decide +kernel
theorem dX3_openReader_1 : decode cX3_openReader 1 = .ok (.istore_n 1, 1) := by decide +kernel
theorem dX3_openReader_2 : decode cX3_openReader 2 = .ok (.iload_n 1, 1) := by decide +kernel
theorem dX3_openReader_3 : decode cX3_openReader 3 = .ok (.iconst 4, 1) := by decide +kernel
theorem dX3_openReader_4 : decode cX3_openReader 4 = .ok (.if_icmp .ge 32, 3) := by decide +kernel
theorem dX3_openReader_7 : decode cX3_openReader 7 = .ok (.aload_n 0, 1) := by decide +kernel
theorem dX3_openReader_8 : decode cX3_openReader 8 = .ok (.iload_n 1, 1) := by decide +kernel
theorem dX3_openReader_9 : decode cX3_openReader 9 = .ok (.invokevirtual 109, 3) := by decide +kernel
theorem dX3_openReader_12 : decode cX3_openReader 12 = .ok (.ifCond .ne 18, 3) := by decide +kernel
theorem dX3_openReader_15 : decode cX3_openReader 15 = .ok (.aload_n 0, 1) := by decide +kernel
theorem dX3_openReader_16 : decode cX3_openReader 16 = .ok (.getfield 35, 3) := by decide +kernel
theorem dX3_openReader_19 : decode cX3_openReader 19 = .ok (.iload_n 1, 1) := by decide +kernel
theorem dX3_openReader_20 : decode cX3_openReader 20 = .ok (.aaload, 1) := by decide +kernel
theorem dX3_openReader_21 : decode cX3_openReader 21 = .ok (.aload_n 0, 1) := by decide +kernel
theorem dX3_openReader_22 : decode cX3_openReader 22 = .ok (.getfield 19, 3) := by decide +kernel
theorem dX3_openReader_25 : decode cX3_openReader 25 = .ok (.invokevirtual 69, 3) := by decide +kernel
theorem dX3_openReader_28 : decode cX3_openReader 28 = .ok (.iload_n 1, 1) := by decide +kernel
theorem dX3_openReader_29 : decode cX3_openReader 29 = .ok (.ireturn, 1) := by decide +kernel
theorem dX3_openReader_30 : decode cX3_openReader 30 = .ok (.iinc 1 1, 3) := by decide +kernel
theorem dX3_openReader_33 : decode cX3_openReader 33 = .ok (.goto (-31), 3) := by decide +kernel
theorem dX3_openReader_36 : decode cX3_openReader 36 = .ok (.new 62, 3) := by decide +kernel
theorem dX3_openReader_39 : decode cX3_openReader 39 = .ok (.dup, 1) := by decide +kernel
theorem dX3_openReader_40 : decode cX3_openReader 40 = .ok (.ldc 113, 2) := by decide +kernel
theorem dX3_openReader_42 : decode cX3_openReader 42 = .ok (.invokespecial 66, 3) := by decide +kernel
theorem dX3_openReader_45 : decode cX3_openReader 45 = .ok (.athrow, 1) := by decide +kernel
theorem dX3_closeReader_0 : decode cX3_closeReader 0 = .ok (.aload_n 0, 1) := by decide +kernel
theorem dX3_closeReader_1 : decode cX3_closeReader 1 = .ok (.iload_n 1, 1) := by decide +kernel
theorem dX3_closeReader_2 : decode cX3_closeReader 2 = .ok (.invokevirtual 115, 3) := by decide +kernel
theorem dX3_closeReader_5 : decode cX3_closeReader 5 = .ok (.aload_n 0, 1) := by decide +kernel
theorem dX3_closeReader_6 : decode cX3_closeReader 6 = .ok (.invokevirtual 105, 3) := by decide +kernel
theorem dX3_closeReader_9 : decode cX3_closeReader 9 = .ok (.istore_n 2, 1) := by decide +kernel
theorem dX3_closeReader_10 : decode cX3_closeReader 10 = .ok (.aload_n 0, 1) := by decide +kernel
theorem dX3_closeReader_11 : decode cX3_closeReader 11 = .ok (.getfield 35, 3) := by decide +kernel
theorem dX3_closeReader_14 : decode cX3_closeReader 14 = .ok (.iload_n 1, 1) := by decide +kernel
theorem dX3_closeReader_15 : decode cX3_closeReader 15 = .ok (.aaload, 1) := by decide +kernel
theorem dX3_closeReader_16 : decode cX3_closeReader 16 = .ok (.iconst 0, 1) := by decide +kernel
theorem dX3_closeReader_17 : decode cX3_closeReader 17 = .ok (.putfield 58, 3) := by decide +kernel
theorem dX3_closeReader_20 : decode cX3_closeReader 20 = .ok (.aload_n 0, 1) := by decide +kernel
theorem dX3_closeReader_21 : decode cX3_closeReader 21 = .ok (.aload_n 0, 1) := by decide +kernel
theorem dX3_closeReader_22 : decode cX3_closeReader 22 = .ok (.getfield 12, 3) := by decide +kernel
theorem dX3_closeReader_25 : decode cX3_closeReader 25 = .ok (.getfield 47, 3) := by decide +kernel
theorem dX3_closeReader_28 : decode cX3_closeReader 28 = .ok (.iconst (-1), 1) := by decide +kernel
theorem dX3_closeReader_29 : decode cX3_closeReader 29 = .ok (.invokevirtual 118, 3) := by decide +kernel
theorem dX3_closeReader_32 : decode cX3_closeReader 32 = .ok (.iload_n 2, 1) := by decide +kernel
theorem dX3_closeReader_33 : decode cX3_closeReader 33 = .ok (.aload_n 0, 1) := by decide +kernel
theorem dX3_closeReader_34 : decode cX3_closeReader 34 = .ok (.invokevirtual 105, 3) := by decide +kernel
theorem dX3_closeReader_37 : decode cX3_closeReader 37 = .ok (.isub, 1) := by decide +kernel
theorem dX3_closeReader_38 : decode cX3_closeReader 38 = .ok (.ireturn, 1) := by decide +kernel
theorem dX3_readers_0 : decode cX3_readers 0 = .ok (.iconst 0, 1) := by decide +kernel
theorem dX3_readers_1 : decode cX3_readers 1 = .ok (.istore_n 1, 1) := by decide +kernel
theorem dX3_readers_2 : decode cX3_readers 2 = .ok (.iconst 0, 1) := by decide +kernel
theorem dX3_readers_3 : decode cX3_readers 3 = .ok (.istore_n 2, 1) := by decide +kernel
theorem dX3_readers_4 : decode cX3_readers 4 = .ok (.iload_n 2, 1) := by decide +kernel
theorem dX3_readers_5 : decode cX3_readers 5 = .ok (.iconst 4, 1) := by decide +kernel
theorem dX3_readers_6 : decode cX3_readers 6 = .ok (.if_icmp .ge 20, 3) := by decide +kernel
theorem dX3_readers_9 : decode cX3_readers 9 = .ok (.aload_n 0, 1) := by decide +kernel
theorem dX3_readers_10 : decode cX3_readers 10 = .ok (.iload_n 2, 1) := by decide +kernel
theorem dX3_readers_11 : decode cX3_readers 11 = .ok (.invokevirtual 109, 3) := by decide +kernel
theorem dX3_readers_14 : decode cX3_readers 14 = .ok (.ifCond .eq 6, 3) := by decide +kernel
theorem dX3_readers_17 : decode cX3_readers 17 = .ok (.iinc 1 1, 3) := by decide +kernel
theorem dX3_readers_20 : decode cX3_readers 20 = .ok (.iinc 2 1, 3) := by decide +kernel
theorem dX3_readers_23 : decode cX3_readers 23 = .ok (.goto (-19), 3) := by decide +kernel
theorem dX3_readers_26 : decode cX3_readers 26 = .ok (.iload_n 1, 1) := by decide +kernel
theorem dX3_readers_27 : decode cX3_readers 27 = .ok (.ireturn, 1) := by decide +kernel
theorem dX3_heldBy_0 : decode cX3_heldBy 0 = .ok (.aload_n 0, 1) := by decide +kernel
theorem dX3_heldBy_1 : decode cX3_heldBy 1 = .ok (.iload_n 1, 1) := by decide +kernel
theorem dX3_heldBy_2 : decode cX3_heldBy 2 = .ok (.invokevirtual 115, 3) := by decide +kernel
theorem dX3_heldBy_5 : decode cX3_heldBy 5 = .ok (.aload_n 0, 1) := by decide +kernel
theorem dX3_heldBy_6 : decode cX3_heldBy 6 = .ok (.aload_n 0, 1) := by decide +kernel
theorem dX3_heldBy_7 : decode cX3_heldBy 7 = .ok (.getfield 12, 3) := by decide +kernel
theorem dX3_heldBy_10 : decode cX3_heldBy 10 = .ok (.getfield 121, 3) := by decide +kernel
theorem dX3_heldBy_13 : decode cX3_heldBy 13 = .ok (.iload_n 1, 1) := by decide +kernel
theorem dX3_heldBy_14 : decode cX3_heldBy 14 = .ok (.invokevirtual 118, 3) := by decide +kernel
theorem dX3_heldBy_17 : decode cX3_heldBy 17 = .ok (.iconst 0, 1) := by decide +kernel
theorem dX3_heldBy_18 : decode cX3_heldBy 18 = .ok (.istore_n 2, 1) := by decide +kernel
theorem dX3_heldBy_19 : decode cX3_heldBy 19 = .ok (.iconst 0, 1) := by decide +kernel
theorem dX3_heldBy_20 : decode cX3_heldBy 20 = .ok (.istore_n 3, 1) := by decide +kernel
theorem dX3_heldBy_21 : decode cX3_heldBy 21 = .ok (.iload_n 3, 1) := by decide +kernel
theorem dX3_heldBy_22 : decode cX3_heldBy 22 = .ok (.sipush 800, 3) := by decide +kernel
theorem dX3_heldBy_25 : decode cX3_heldBy 25 = .ok (.if_icmp .ge 36, 3) := by decide +kernel
theorem dX3_heldBy_28 : decode cX3_heldBy 28 = .ok (.aload_n 0, 1) := by decide +kernel
theorem dX3_heldBy_29 : decode cX3_heldBy 29 = .ok (.getfield 12, 3) := by decide +kernel
theorem dX3_heldBy_32 : decode cX3_heldBy 32 = .ok (.getfield 47, 3) := by decide +kernel
theorem dX3_heldBy_35 : decode cX3_heldBy 35 = .ok (.iload_n 3, 1) := by decide +kernel
theorem dX3_heldBy_36 : decode cX3_heldBy 36 = .ok (.baload, 1) := by decide +kernel
theorem dX3_heldBy_37 : decode cX3_heldBy 37 = .ok (.ifCond .eq 18, 3) := by decide +kernel
theorem dX3_heldBy_40 : decode cX3_heldBy 40 = .ok (.aload_n 0, 1) := by decide +kernel
theorem dX3_heldBy_41 : decode cX3_heldBy 41 = .ok (.getfield 12, 3) := by decide +kernel
theorem dX3_heldBy_44 : decode cX3_heldBy 44 = .ok (.getfield 121, 3) := by decide +kernel
theorem dX3_heldBy_47 : decode cX3_heldBy 47 = .ok (.iload_n 3, 1) := by decide +kernel
theorem dX3_heldBy_48 : decode cX3_heldBy 48 = .ok (.baload, 1) := by decide +kernel
theorem dX3_heldBy_49 : decode cX3_heldBy 49 = .ok (.ifCond .ne 6, 3) := by decide +kernel
theorem dX3_heldBy_52 : decode cX3_heldBy 52 = .ok (.iinc 2 1, 3) := by decide +kernel
theorem dX3_heldBy_55 : decode cX3_heldBy 55 = .ok (.iinc 3 1, 3) := by decide +kernel
theorem dX3_heldBy_58 : decode cX3_heldBy 58 = .ok (.goto (-37), 3) := by decide +kernel
theorem dX3_heldBy_61 : decode cX3_heldBy 61 = .ok (.iload_n 2, 1) := by decide +kernel
theorem dX3_heldBy_62 : decode cX3_heldBy 62 = .ok (.ireturn, 1) := by decide +kernel
theorem dX3_epochOf_0 : decode cX3_epochOf 0 = .ok (.aload_n 0, 1) := by decide +kernel
theorem dX3_epochOf_1 : decode cX3_epochOf 1 = .ok (.iload_n 1, 1) := by decide +kernel
theorem dX3_epochOf_2 : decode cX3_epochOf 2 = .ok (.invokevirtual 124, 3) := by decide +kernel
theorem dX3_epochOf_5 : decode cX3_epochOf 5 = .ok (.getfield 73, 3) := by decide +kernel
theorem dX3_epochOf_8 : decode cX3_epochOf 8 = .ok (.ireturn, 1) := by decide +kernel
theorem dX3_get_0 : decode cX3_get 0 = .ok (.aload_n 0, 1) := by decide +kernel
theorem dX3_get_1 : decode cX3_get 1 = .ok (.iload_n 1, 1) := by decide +kernel
theorem dX3_get_2 : decode cX3_get 2 = .ok (.invokevirtual 124, 3) := by decide +kernel
theorem dX3_get_5 : decode cX3_get 5 = .ok (.astore_n 3, 1) := by decide +kernel
theorem dX3_get_6 : decode cX3_get 6 = .ok (.iload_n 2, 1) := by decide +kernel
theorem dX3_get_7 : decode cX3_get 7 = .ok (.invokestatic 76, 3) := by decide +kernel
theorem dX3_get_10 : decode cX3_get 10 = .ok (.aload_n 0, 1) := by decide +kernel
theorem dX3_get_11 : decode cX3_get 11 = .ok (.aload_n 3, 1) := by decide +kernel
theorem dX3_get_12 : decode cX3_get 12 = .ok (.iload_n 2, 1) := by decide +kernel
theorem dX3_get_13 : decode cX3_get 13 = .ok (.invokevirtual 87, 3) := by decide +kernel
theorem dX3_get_16 : decode cX3_get 16 = .ok (.ireturn, 1) := by decide +kernel
theorem dX3_next_0 : decode cX3_next 0 = .ok (.aload_n 0, 1) := by decide +kernel
theorem dX3_next_1 : decode cX3_next 1 = .ok (.getfield 12, 3) := by decide +kernel
theorem dX3_next_4 : decode cX3_next 4 = .ok (.aload_n 0, 1) := by decide +kernel
theorem dX3_next_5 : decode cX3_next 5 = .ok (.iload_n 1, 1) := by decide +kernel
theorem dX3_next_6 : decode cX3_next 6 = .ok (.invokevirtual 124, 3) := by decide +kernel
theorem dX3_next_9 : decode cX3_next 9 = .ok (.getfield 51, 3) := by decide +kernel
theorem dX3_next_12 : decode cX3_next 12 = .ok (.iload_n 2, 1) := by decide +kernel
theorem dX3_next_13 : decode cX3_next 13 = .ok (.invokevirtual 128, 3) := by decide +kernel
theorem dX3_next_16 : decode cX3_next 16 = .ok (.ireturn, 1) := by decide +kernel
theorem dX3_rank_0 : decode cX3_rank 0 = .ok (.aload_n 0, 1) := by decide +kernel
theorem dX3_rank_1 : decode cX3_rank 1 = .ok (.getfield 12, 3) := by decide +kernel
theorem dX3_rank_4 : decode cX3_rank 4 = .ok (.aload_n 0, 1) := by decide +kernel
theorem dX3_rank_5 : decode cX3_rank 5 = .ok (.iload_n 1, 1) := by decide +kernel
theorem dX3_rank_6 : decode cX3_rank 6 = .ok (.invokevirtual 124, 3) := by decide +kernel
theorem dX3_rank_9 : decode cX3_rank 9 = .ok (.getfield 51, 3) := by decide +kernel
theorem dX3_rank_12 : decode cX3_rank 12 = .ok (.iload_n 2, 1) := by decide +kernel
theorem dX3_rank_13 : decode cX3_rank 13 = .ok (.invokevirtual 132, 3) := by decide +kernel
theorem dX3_rank_16 : decode cX3_rank 16 = .ok (.ireturn, 1) := by decide +kernel
theorem dX3_size_0 : decode cX3_size 0 = .ok (.aload_n 0, 1) := by decide +kernel
theorem dX3_size_1 : decode cX3_size 1 = .ok (.iload_n 1, 1) := by decide +kernel
theorem dX3_size_2 : decode cX3_size 2 = .ok (.invokevirtual 124, 3) := by decide +kernel
theorem dX3_size_5 : decode cX3_size 5 = .ok (.getfield 135, 3) := by decide +kernel
theorem dX3_size_8 : decode cX3_size 8 = .ok (.ireturn, 1) := by decide +kernel
theorem dX3_depth_0 : decode cX3_depth 0 = .ok (.aload_n 0, 1) := by decide +kernel
theorem dX3_depth_1 : decode cX3_depth 1 = .ok (.getfield 12, 3) := by decide +kernel
theorem dX3_depth_4 : decode cX3_depth 4 = .ok (.aload_n 0, 1) := by decide +kernel
theorem dX3_depth_5 : decode cX3_depth 5 = .ok (.iload_n 1, 1) := by decide +kernel
theorem dX3_depth_6 : decode cX3_depth 6 = .ok (.invokevirtual 124, 3) := by decide +kernel
theorem dX3_depth_9 : decode cX3_depth 9 = .ok (.getfield 51, 3) := by decide +kernel
theorem dX3_depth_12 : decode cX3_depth 12 = .ok (.invokevirtual 138, 3) := by decide +kernel
theorem dX3_depth_15 : decode cX3_depth 15 = .ok (.ireturn, 1) := by decide +kernel
theorem dX3_rootOf_0 : decode cX3_rootOf 0 = .ok (.aload_n 0, 1) := by decide +kernel
theorem dX3_rootOf_1 : decode cX3_rootOf 1 = .ok (.iload_n 1, 1) := by decide +kernel
theorem dX3_rootOf_2 : decode cX3_rootOf 2 = .ok (.invokevirtual 124, 3) := by decide +kernel
theorem dX3_rootOf_5 : decode cX3_rootOf 5 = .ok (.getfield 51, 3) := by decide +kernel
theorem dX3_rootOf_8 : decode cX3_rootOf 8 = .ok (.ireturn, 1) := by decide +kernel
theorem dX3_sharedPages_0 : decode cX3_sharedPages 0 = .ok (.aload_n 0, 1) := by decide +kernel
theorem dX3_sharedPages_1 : decode cX3_sharedPages 1 = .ok (.iload_n 1, 1) := by decide +kernel
theorem dX3_sharedPages_2 : decode cX3_sharedPages 2 = .ok (.invokevirtual 124, 3) := by decide +kernel
theorem dX3_sharedPages_5 : decode cX3_sharedPages 5 = .ok (.getfield 51, 3) := by decide +kernel
theorem dX3_sharedPages_8 : decode cX3_sharedPages 8 = .ok (.istore_n 3, 1) := by decide +kernel
theorem dX3_sharedPages_9 : decode cX3_sharedPages 9 = .ok (.aload_n 0, 1) := by decide +kernel
theorem dX3_sharedPages_10 : decode cX3_sharedPages 10 = .ok (.iload_n 2, 1) := by decide +kernel
theorem dX3_sharedPages_11 : decode cX3_sharedPages 11 = .ok (.invokevirtual 124, 3) := by decide +kernel
theorem dX3_sharedPages_14 : decode cX3_sharedPages 14 = .ok (.getfield 51, 3) := by decide +kernel
theorem dX3_sharedPages_17 : decode cX3_sharedPages 17 = .ok (.istore 4, 2) := by decide +kernel
theorem dX3_sharedPages_19 : decode cX3_sharedPages 19 = .ok (.aload_n 0, 1) := by decide +kernel
theorem dX3_sharedPages_20 : decode cX3_sharedPages 20 = .ok (.getfield 12, 3) := by decide +kernel
theorem dX3_sharedPages_23 : decode cX3_sharedPages 23 = .ok (.getfield 121, 3) := by decide +kernel
theorem dX3_sharedPages_26 : decode cX3_sharedPages 26 = .ok (.invokestatic 141, 3) := by decide +kernel
theorem dX3_sharedPages_29 : decode cX3_sharedPages 29 = .ok (.aload_n 0, 1) := by decide +kernel
theorem dX3_sharedPages_30 : decode cX3_sharedPages 30 = .ok (.getfield 12, 3) := by decide +kernel
theorem dX3_sharedPages_33 : decode cX3_sharedPages 33 = .ok (.aload_n 0, 1) := by decide +kernel
theorem dX3_sharedPages_34 : decode cX3_sharedPages 34 = .ok (.getfield 12, 3) := by decide +kernel
theorem dX3_sharedPages_37 : decode cX3_sharedPages 37 = .ok (.getfield 121, 3) := by decide +kernel
theorem dX3_sharedPages_40 : decode cX3_sharedPages 40 = .ok (.iload_n 3, 1) := by decide +kernel
theorem dX3_sharedPages_41 : decode cX3_sharedPages 41 = .ok (.invokevirtual 54, 3) := by decide +kernel
theorem dX3_sharedPages_44 : decode cX3_sharedPages 44 = .ok (.aload_n 0, 1) := by decide +kernel
theorem dX3_sharedPages_45 : decode cX3_sharedPages 45 = .ok (.getfield 12, 3) := by decide +kernel
theorem dX3_sharedPages_48 : decode cX3_sharedPages 48 = .ok (.iload 4, 2) := by decide +kernel
theorem dX3_sharedPages_50 : decode cX3_sharedPages 50 = .ok (.invokevirtual 145, 3) := by decide +kernel
theorem dX3_sharedPages_53 : decode cX3_sharedPages 53 = .ok (.ireturn, 1) := by decide +kernel
theorem dX3_isFree_0 : decode cX3_isFree 0 = .ok (.iload_n 1, 1) := by decide +kernel
theorem dX3_isFree_1 : decode cX3_isFree 1 = .ok (.ifCond .ge 13, 3) := by decide +kernel
theorem dX3_isFree_4 : decode cX3_isFree 4 = .ok (.new 148, 3) := by decide +kernel
theorem dX3_isFree_7 : decode cX3_isFree 7 = .ok (.dup, 1) := by decide +kernel
theorem dX3_isFree_8 : decode cX3_isFree 8 = .ok (.ldc 150, 2) := by decide +kernel
theorem dX3_isFree_10 : decode cX3_isFree 10 = .ok (.invokespecial 152, 3) := by decide +kernel
theorem dX3_isFree_13 : decode cX3_isFree 13 = .ok (.athrow, 1) := by decide +kernel
theorem dX3_isFree_14 : decode cX3_isFree 14 = .ok (.aload_n 0, 1) := by decide +kernel
theorem dX3_isFree_15 : decode cX3_isFree 15 = .ok (.getfield 12, 3) := by decide +kernel
theorem dX3_isFree_18 : decode cX3_isFree 18 = .ok (.iload_n 1, 1) := by decide +kernel
theorem dX3_isFree_19 : decode cX3_isFree 19 = .ok (.invokevirtual 153, 3) := by decide +kernel
theorem dX3_isFree_22 : decode cX3_isFree 22 = .ok (.ireturn, 1) := by decide +kernel
theorem dX3_pagesInUse_0 : decode cX3_pagesInUse 0 = .ok (.iconst 0, 1) := by decide +kernel
theorem dX3_pagesInUse_1 : decode cX3_pagesInUse 1 = .ok (.istore_n 1, 1) := by decide +kernel
theorem dX3_pagesInUse_2 : decode cX3_pagesInUse 2 = .ok (.iconst 0, 1) := by decide +kernel
theorem dX3_pagesInUse_3 : decode cX3_pagesInUse 3 = .ok (.istore_n 2, 1) := by decide +kernel
theorem dX3_pagesInUse_4 : decode cX3_pagesInUse 4 = .ok (.iload_n 2, 1) := by decide +kernel
theorem dX3_pagesInUse_5 : decode cX3_pagesInUse 5 = .ok (.sipush 800, 3) := by decide +kernel
theorem dX3_pagesInUse_8 : decode cX3_pagesInUse 8 = .ok (.if_icmp .ge 23, 3) := by decide +kernel
theorem dX3_pagesInUse_11 : decode cX3_pagesInUse 11 = .ok (.aload_n 0, 1) := by decide +kernel
theorem dX3_pagesInUse_12 : decode cX3_pagesInUse 12 = .ok (.getfield 12, 3) := by decide +kernel
theorem dX3_pagesInUse_15 : decode cX3_pagesInUse 15 = .ok (.iload_n 2, 1) := by decide +kernel
theorem dX3_pagesInUse_16 : decode cX3_pagesInUse 16 = .ok (.invokevirtual 153, 3) := by decide +kernel
theorem dX3_pagesInUse_19 : decode cX3_pagesInUse 19 = .ok (.ifCond .ne 6, 3) := by decide +kernel
theorem dX3_pagesInUse_22 : decode cX3_pagesInUse 22 = .ok (.iinc 1 1, 3) := by decide +kernel
theorem dX3_pagesInUse_25 : decode cX3_pagesInUse 25 = .ok (.iinc 2 1, 3) := by decide +kernel
theorem dX3_pagesInUse_28 : decode cX3_pagesInUse 28 = .ok (.goto (-24), 3) := by decide +kernel
theorem dX3_pagesInUse_31 : decode cX3_pagesInUse 31 = .ok (.iload_n 1, 1) := by decide +kernel
theorem dX3_pagesInUse_32 : decode cX3_pagesInUse 32 = .ok (.ireturn, 1) := by decide +kernel
theorem dX3_leastFree_0 : decode cX3_leastFree 0 = .ok (.aload_n 0, 1) := by decide +kernel
theorem dX3_leastFree_1 : decode cX3_leastFree 1 = .ok (.getfield 12, 3) := by decide +kernel
theorem dX3_leastFree_4 : decode cX3_leastFree 4 = .ok (.invokevirtual 156, 3) := by decide +kernel
theorem dX3_leastFree_7 : decode cX3_leastFree 7 = .ok (.ireturn, 1) := by decide +kernel
theorem dX3_entries_0 : decode cX3_entries 0 = .ok (.aload_n 0, 1) := by decide +kernel
theorem dX3_entries_1 : decode cX3_entries 1 = .ok (.iload_n 1, 1) := by decide +kernel
theorem dX3_entries_2 : decode cX3_entries 2 = .ok (.invokevirtual 159, 3) := by decide +kernel
theorem dX3_entries_5 : decode cX3_entries 5 = .ok (.aload_n 0, 1) := by decide +kernel
theorem dX3_entries_6 : decode cX3_entries 6 = .ok (.getfield 12, 3) := by decide +kernel
theorem dX3_entries_9 : decode cX3_entries 9 = .ok (.iload_n 1, 1) := by decide +kernel
theorem dX3_entries_10 : decode cX3_entries 10 = .ok (.invokevirtual 162, 3) := by decide +kernel
theorem dX3_entries_13 : decode cX3_entries 13 = .ok (.ireturn, 1) := by decide +kernel
theorem dX3_keyAt_0 : decode cX3_keyAt 0 = .ok (.aload_n 0, 1) := by decide +kernel
theorem dX3_keyAt_1 : decode cX3_keyAt 1 = .ok (.iload_n 1, 1) := by decide +kernel
theorem dX3_keyAt_2 : decode cX3_keyAt 2 = .ok (.iload_n 2, 1) := by decide +kernel
theorem dX3_keyAt_3 : decode cX3_keyAt 3 = .ok (.invokevirtual 165, 3) := by decide +kernel
theorem dX3_keyAt_6 : decode cX3_keyAt 6 = .ok (.aload_n 0, 1) := by decide +kernel
theorem dX3_keyAt_7 : decode cX3_keyAt 7 = .ok (.getfield 12, 3) := by decide +kernel
theorem dX3_keyAt_10 : decode cX3_keyAt 10 = .ok (.iload_n 1, 1) := by decide +kernel
theorem dX3_keyAt_11 : decode cX3_keyAt 11 = .ok (.iload_n 2, 1) := by decide +kernel
theorem dX3_keyAt_12 : decode cX3_keyAt 12 = .ok (.invokevirtual 168, 3) := by decide +kernel
theorem dX3_keyAt_15 : decode cX3_keyAt 15 = .ok (.ireturn, 1) := by decide +kernel
theorem dX3_pageAt_0 : decode cX3_pageAt 0 = .ok (.aload_n 0, 1) := by decide +kernel
theorem dX3_pageAt_1 : decode cX3_pageAt 1 = .ok (.iload_n 1, 1) := by decide +kernel
theorem dX3_pageAt_2 : decode cX3_pageAt 2 = .ok (.iload_n 2, 1) := by decide +kernel
theorem dX3_pageAt_3 : decode cX3_pageAt 3 = .ok (.invokevirtual 165, 3) := by decide +kernel
theorem dX3_pageAt_6 : decode cX3_pageAt 6 = .ok (.aload_n 0, 1) := by decide +kernel
theorem dX3_pageAt_7 : decode cX3_pageAt 7 = .ok (.getfield 12, 3) := by decide +kernel
theorem dX3_pageAt_10 : decode cX3_pageAt 10 = .ok (.iload_n 1, 1) := by decide +kernel
theorem dX3_pageAt_11 : decode cX3_pageAt 11 = .ok (.invokevirtual 171, 3) := by decide +kernel
theorem dX3_pageAt_14 : decode cX3_pageAt 14 = .ok (.ifCond .eq 7, 3) := by decide +kernel
theorem dX3_pageAt_17 : decode cX3_pageAt 17 = .ok (.iconst (-1), 1) := by decide +kernel
theorem dX3_pageAt_18 : decode cX3_pageAt 18 = .ok (.goto 12, 3) := by decide +kernel
theorem dX3_pageAt_21 : decode cX3_pageAt 21 = .ok (.aload_n 0, 1) := by decide +kernel
theorem dX3_pageAt_22 : decode cX3_pageAt 22 = .ok (.getfield 12, 3) := by decide +kernel
theorem dX3_pageAt_25 : decode cX3_pageAt 25 = .ok (.iload_n 1, 1) := by decide +kernel
theorem dX3_pageAt_26 : decode cX3_pageAt 26 = .ok (.iload_n 2, 1) := by decide +kernel
theorem dX3_pageAt_27 : decode cX3_pageAt 27 = .ok (.invokevirtual 174, 3) := by decide +kernel
theorem dX3_pageAt_30 : decode cX3_pageAt 30 = .ok (.ireturn, 1) := by decide +kernel
theorem dX3_currentSlot_0 : decode cX3_currentSlot 0 = .ok (.aload_n 0, 1) := by decide +kernel
theorem dX3_currentSlot_1 : decode cX3_currentSlot 1 = .ok (.getfield 43, 3) := by decide +kernel
theorem dX3_currentSlot_4 : decode cX3_currentSlot 4 = .ok (.ireturn, 1) := by decide +kernel
theorem dX3_slotWord_0 : decode cX3_slotWord 0 = .ok (.iload_n 1, 1) := by decide +kernel
theorem dX3_slotWord_1 : decode cX3_slotWord 1 = .ok (.invokestatic 177, 3) := by decide +kernel
theorem dX3_slotWord_4 : decode cX3_slotWord 4 = .ok (.iload_n 2, 1) := by decide +kernel
theorem dX3_slotWord_5 : decode cX3_slotWord 5 = .ok (.ifCond .lt 8, 3) := by decide +kernel
theorem dX3_slotWord_8 : decode cX3_slotWord 8 = .ok (.iload_n 2, 1) := by decide +kernel
theorem dX3_slotWord_9 : decode cX3_slotWord 9 = .ok (.iconst 4, 1) := by decide +kernel
theorem dX3_slotWord_10 : decode cX3_slotWord 10 = .ok (.if_icmp .lt 13, 3) := by decide +kernel
theorem dX3_slotWord_13 : decode cX3_slotWord 13 = .ok (.new 148, 3) := by decide +kernel
theorem dX3_slotWord_16 : decode cX3_slotWord 16 = .ok (.dup, 1) := by decide +kernel
theorem dX3_slotWord_17 : decode cX3_slotWord 17 = .ok (.ldc 180, 2) := by decide +kernel
theorem dX3_slotWord_19 : decode cX3_slotWord 19 = .ok (.invokespecial 152, 3) := by decide +kernel
theorem dX3_slotWord_22 : decode cX3_slotWord 22 = .ok (.athrow, 1) := by decide +kernel
theorem dX3_slotWord_23 : decode cX3_slotWord 23 = .ok (.aload_n 0, 1) := by decide +kernel
theorem dX3_slotWord_24 : decode cX3_slotWord 24 = .ok (.iload_n 1, 1) := by decide +kernel
theorem dX3_slotWord_25 : decode cX3_slotWord 25 = .ok (.iload_n 2, 1) := by decide +kernel
theorem dX3_slotWord_26 : decode cX3_slotWord 26 = .ok (.invokevirtual 182, 3) := by decide +kernel
theorem dX3_slotWord_29 : decode cX3_slotWord 29 = .ok (.lreturn, 1) := by decide +kernel
theorem dX3_isWhole_0 : decode cX3_isWhole 0 = .ok (.iload_n 1, 1) := by decide +kernel
theorem dX3_isWhole_1 : decode cX3_isWhole 1 = .ok (.invokestatic 177, 3) := by decide +kernel
theorem dX3_isWhole_4 : decode cX3_isWhole 4 = .ok (.aload_n 0, 1) := by decide +kernel
theorem dX3_isWhole_5 : decode cX3_isWhole 5 = .ok (.iload_n 1, 1) := by decide +kernel
theorem dX3_isWhole_6 : decode cX3_isWhole 6 = .ok (.invokevirtual 186, 3) := by decide +kernel
theorem dX3_isWhole_9 : decode cX3_isWhole 9 = .ok (.ireturn, 1) := by decide +kernel
theorem dX3_tear_0 : decode cX3_tear 0 = .ok (.iload_n 1, 1) := by decide +kernel
theorem dX3_tear_1 : decode cX3_tear 1 = .ok (.invokestatic 177, 3) := by decide +kernel
theorem dX3_tear_4 : decode cX3_tear 4 = .ok (.aload_n 0, 1) := by decide +kernel
theorem dX3_tear_5 : decode cX3_tear 5 = .ok (.iload_n 1, 1) := by decide +kernel
theorem dX3_tear_6 : decode cX3_tear 6 = .ok (.invokestatic 94, 3) := by decide +kernel
theorem dX3_tear_9 : decode cX3_tear 9 = .ok (.invokevirtual 186, 3) := by decide +kernel
theorem dX3_tear_12 : decode cX3_tear 12 = .ok (.ifCond .ne 13, 3) := by decide +kernel
theorem dX3_tear_15 : decode cX3_tear 15 = .ok (.new 62, 3) := by decide +kernel
theorem dX3_tear_18 : decode cX3_tear 18 = .ok (.dup, 1) := by decide +kernel
theorem dX3_tear_19 : decode cX3_tear 19 = .ok (.ldc 189, 2) := by decide +kernel
theorem dX3_tear_21 : decode cX3_tear 21 = .ok (.invokespecial 66, 3) := by decide +kernel
theorem dX3_tear_24 : decode cX3_tear 24 = .ok (.athrow, 1) := by decide +kernel
theorem dX3_tear_25 : decode cX3_tear 25 = .ok (.aload_n 0, 1) := by decide +kernel
theorem dX3_tear_26 : decode cX3_tear 26 = .ok (.invokevirtual 105, 3) := by decide +kernel
theorem dX3_tear_29 : decode cX3_tear 29 = .ok (.istore_n 2, 1) := by decide +kernel
theorem dX3_tear_30 : decode cX3_tear 30 = .ok (.aload_n 0, 1) := by decide +kernel
theorem dX3_tear_31 : decode cX3_tear 31 = .ok (.getfield 39, 3) := by decide +kernel
theorem dX3_tear_34 : decode cX3_tear 34 = .ok (.iload_n 1, 1) := by decide +kernel
theorem dX3_tear_35 : decode cX3_tear 35 = .ok (.iconst 4, 1) := by decide +kernel
theorem dX3_tear_36 : decode cX3_tear 36 = .ok (.imul, 1) := by decide +kernel
theorem dX3_tear_37 : decode cX3_tear 37 = .ok (.iconst 3, 1) := by decide +kernel
theorem dX3_tear_38 : decode cX3_tear 38 = .ok (.iadd, 1) := by decide +kernel
theorem dX3_tear_39 : decode cX3_tear 39 = .ok (.ldc2_w 191, 3) := by decide +kernel
theorem dX3_tear_42 : decode cX3_tear 42 = .ok (.lastore, 1) := by decide +kernel
theorem dX3_tear_43 : decode cX3_tear 43 = .ok (.aload_n 0, 1) := by decide +kernel
theorem dX3_tear_44 : decode cX3_tear 44 = .ok (.aload_n 0, 1) := by decide +kernel
theorem dX3_tear_45 : decode cX3_tear 45 = .ok (.getfield 12, 3) := by decide +kernel
theorem dX3_tear_48 : decode cX3_tear 48 = .ok (.getfield 47, 3) := by decide +kernel
theorem dX3_tear_51 : decode cX3_tear 51 = .ok (.iconst (-1), 1) := by decide +kernel
theorem dX3_tear_52 : decode cX3_tear 52 = .ok (.invokevirtual 118, 3) := by decide +kernel
theorem dX3_tear_55 : decode cX3_tear 55 = .ok (.iload_n 2, 1) := by decide +kernel
theorem dX3_tear_56 : decode cX3_tear 56 = .ok (.aload_n 0, 1) := by decide +kernel
theorem dX3_tear_57 : decode cX3_tear 57 = .ok (.invokevirtual 105, 3) := by decide +kernel
theorem dX3_tear_60 : decode cX3_tear 60 = .ok (.isub, 1) := by decide +kernel
theorem dX3_tear_61 : decode cX3_tear 61 = .ok (.ireturn, 1) := by decide +kernel
theorem dX3_crash_0 : decode cX3_crash 0 = .ok (.iconst 0, 1) := by decide +kernel
theorem dX3_crash_1 : decode cX3_crash 1 = .ok (.istore_n 1, 1) := by decide +kernel
theorem dX3_crash_2 : decode cX3_crash 2 = .ok (.iload_n 1, 1) := by decide +kernel
theorem dX3_crash_3 : decode cX3_crash 3 = .ok (.iconst 4, 1) := by decide +kernel
theorem dX3_crash_4 : decode cX3_crash 4 = .ok (.if_icmp .ge 19, 3) := by decide +kernel
theorem dX3_crash_7 : decode cX3_crash 7 = .ok (.aload_n 0, 1) := by decide +kernel
theorem dX3_crash_8 : decode cX3_crash 8 = .ok (.getfield 35, 3) := by decide +kernel
theorem dX3_crash_11 : decode cX3_crash 11 = .ok (.iload_n 1, 1) := by decide +kernel
theorem dX3_crash_12 : decode cX3_crash 12 = .ok (.aaload, 1) := by decide +kernel
theorem dX3_crash_13 : decode cX3_crash 13 = .ok (.iconst 0, 1) := by decide +kernel
theorem dX3_crash_14 : decode cX3_crash 14 = .ok (.putfield 58, 3) := by decide +kernel
theorem dX3_crash_17 : decode cX3_crash 17 = .ok (.iinc 1 1, 3) := by decide +kernel
theorem dX3_crash_20 : decode cX3_crash 20 = .ok (.goto (-18), 3) := by decide +kernel
theorem dX3_crash_23 : decode cX3_crash 23 = .ok (.aload_n 0, 1) := by decide +kernel
theorem dX3_crash_24 : decode cX3_crash 24 = .ok (.aload_n 0, 1) := by decide +kernel
theorem dX3_crash_25 : decode cX3_crash 25 = .ok (.invokevirtual 193, 3) := by decide +kernel
theorem dX3_crash_28 : decode cX3_crash 28 = .ok (.putfield 43, 3) := by decide +kernel
theorem dX3_crash_31 : decode cX3_crash 31 = .ok (.aload_n 0, 1) := by decide +kernel
theorem dX3_crash_32 : decode cX3_crash 32 = .ok (.getfield 19, 3) := by decide +kernel
theorem dX3_crash_35 : decode cX3_crash 35 = .ok (.aload_n 0, 1) := by decide +kernel
theorem dX3_crash_36 : decode cX3_crash 36 = .ok (.aload_n 0, 1) := by decide +kernel
theorem dX3_crash_37 : decode cX3_crash 37 = .ok (.getfield 43, 3) := by decide +kernel
theorem dX3_crash_40 : decode cX3_crash 40 = .ok (.iconst 0, 1) := by decide +kernel
theorem dX3_crash_41 : decode cX3_crash 41 = .ok (.invokevirtual 182, 3) := by decide +kernel
theorem dX3_crash_44 : decode cX3_crash 44 = .ok (.l2i, 1) := by decide +kernel
theorem dX3_crash_45 : decode cX3_crash 45 = .ok (.putfield 73, 3) := by decide +kernel
theorem dX3_crash_48 : decode cX3_crash 48 = .ok (.aload_n 0, 1) := by decide +kernel
theorem dX3_crash_49 : decode cX3_crash 49 = .ok (.getfield 19, 3) := by decide +kernel
theorem dX3_crash_52 : decode cX3_crash 52 = .ok (.aload_n 0, 1) := by decide +kernel
theorem dX3_crash_53 : decode cX3_crash 53 = .ok (.aload_n 0, 1) := by decide +kernel
theorem dX3_crash_54 : decode cX3_crash 54 = .ok (.getfield 43, 3) := by decide +kernel
theorem dX3_crash_57 : decode cX3_crash 57 = .ok (.iconst 1, 1) := by decide +kernel
theorem dX3_crash_58 : decode cX3_crash 58 = .ok (.invokevirtual 182, 3) := by decide +kernel
theorem dX3_crash_61 : decode cX3_crash 61 = .ok (.l2i, 1) := by decide +kernel
theorem dX3_crash_62 : decode cX3_crash 62 = .ok (.putfield 51, 3) := by decide +kernel
theorem dX3_crash_65 : decode cX3_crash 65 = .ok (.aload_n 0, 1) := by decide +kernel
theorem dX3_crash_66 : decode cX3_crash 66 = .ok (.getfield 19, 3) := by decide +kernel
theorem dX3_crash_69 : decode cX3_crash 69 = .ok (.aload_n 0, 1) := by decide +kernel
theorem dX3_crash_70 : decode cX3_crash 70 = .ok (.aload_n 0, 1) := by decide +kernel
theorem dX3_crash_71 : decode cX3_crash 71 = .ok (.getfield 43, 3) := by decide +kernel
theorem dX3_crash_74 : decode cX3_crash 74 = .ok (.iconst 2, 1) := by decide +kernel
theorem dX3_crash_75 : decode cX3_crash 75 = .ok (.invokevirtual 182, 3) := by decide +kernel
theorem dX3_crash_78 : decode cX3_crash 78 = .ok (.l2i, 1) := by decide +kernel
theorem dX3_crash_79 : decode cX3_crash 79 = .ok (.putfield 135, 3) := by decide +kernel
theorem dX3_crash_82 : decode cX3_crash 82 = .ok (.aload_n 0, 1) := by decide +kernel
theorem dX3_crash_83 : decode cX3_crash 83 = .ok (.invokevirtual 102, 3) := by decide +kernel
theorem dX3_crash_86 : decode cX3_crash 86 = .ok (.aload_n 0, 1) := by decide +kernel
theorem dX3_crash_87 : decode cX3_crash 87 = .ok (.getfield 19, 3) := by decide +kernel
theorem dX3_crash_90 : decode cX3_crash 90 = .ok (.getfield 73, 3) := by decide +kernel
theorem dX3_crash_93 : decode cX3_crash 93 = .ok (.ireturn, 1) := by decide +kernel
theorem dX3_crashInCommit_0 : decode cX3_crashInCommit 0 = .ok (.iload_n 1, 1) := by decide +kernel
theorem dX3_crashInCommit_1 : decode cX3_crashInCommit 1 = .ok (.ifCond .lt 8, 3) := by decide +kernel
theorem dX3_crashInCommit_4 : decode cX3_crashInCommit 4 = .ok (.iload_n 1, 1) := by decide +kernel
theorem dX3_crashInCommit_5 : decode cX3_crashInCommit 5 = .ok (.iconst 4, 1) := by decide +kernel
theorem dX3_crashInCommit_6 : decode cX3_crashInCommit 6 = .ok (.if_icmp .le 13, 3) := by decide +kernel
theorem dX3_crashInCommit_9 : decode cX3_crashInCommit 9 = .ok (.new 196, 3) := by decide +kernel
theorem dX3_crashInCommit_12 : decode cX3_crashInCommit 12 = .ok (.dup, 1) := by decide +kernel
theorem dX3_crashInCommit_13 : decode cX3_crashInCommit 13 = .ok (.ldc 198, 2) := by decide +kernel
theorem dX3_crashInCommit_15 : decode cX3_crashInCommit 15 = .ok (.invokespecial 200, 3) := by decide +kernel
theorem dX3_crashInCommit_18 : decode cX3_crashInCommit 18 = .ok (.athrow, 1) := by decide +kernel
theorem dX3_crashInCommit_19 : decode cX3_crashInCommit 19 = .ok (.aload_n 0, 1) := by decide +kernel
theorem dX3_crashInCommit_20 : decode cX3_crashInCommit 20 = .ok (.invokevirtual 80, 3) := by decide +kernel
theorem dX3_crashInCommit_23 : decode cX3_crashInCommit 23 = .ok (.iload_n 1, 1) := by decide +kernel
theorem dX3_crashInCommit_24 : decode cX3_crashInCommit 24 = .ok (.ifCond .le 29, 3) := by decide +kernel
theorem dX3_crashInCommit_27 : decode cX3_crashInCommit 27 = .ok (.iload_n 1, 1) := by decide +kernel
theorem dX3_crashInCommit_28 : decode cX3_crashInCommit 28 = .ok (.iconst 4, 1) := by decide +kernel
theorem dX3_crashInCommit_29 : decode cX3_crashInCommit 29 = .ok (.if_icmp .ge 24, 3) := by decide +kernel
theorem dX3_crashInCommit_32 : decode cX3_crashInCommit 32 = .ok (.aload_n 0, 1) := by decide +kernel
theorem dX3_crashInCommit_33 : decode cX3_crashInCommit 33 = .ok (.aload_n 0, 1) := by decide +kernel
theorem dX3_crashInCommit_34 : decode cX3_crashInCommit 34 = .ok (.getfield 43, 3) := by decide +kernel
theorem dX3_crashInCommit_37 : decode cX3_crashInCommit 37 = .ok (.invokevirtual 186, 3) := by decide +kernel
theorem dX3_crashInCommit_40 : decode cX3_crashInCommit 40 = .ok (.ifCond .ne 13, 3) := by decide +kernel
theorem dX3_crashInCommit_43 : decode cX3_crashInCommit 43 = .ok (.new 62, 3) := by decide +kernel
theorem dX3_crashInCommit_46 : decode cX3_crashInCommit 46 = .ok (.dup, 1) := by decide +kernel
theorem dX3_crashInCommit_47 : decode cX3_crashInCommit 47 = .ok (.ldc 201, 2) := by decide +kernel
theorem dX3_crashInCommit_49 : decode cX3_crashInCommit 49 = .ok (.invokespecial 66, 3) := by decide +kernel
theorem dX3_crashInCommit_52 : decode cX3_crashInCommit 52 = .ok (.athrow, 1) := by decide +kernel
theorem dX3_crashInCommit_53 : decode cX3_crashInCommit 53 = .ok (.aload_n 0, 1) := by decide +kernel
theorem dX3_crashInCommit_54 : decode cX3_crashInCommit 54 = .ok (.aload_n 0, 1) := by decide +kernel
theorem dX3_crashInCommit_55 : decode cX3_crashInCommit 55 = .ok (.getfield 43, 3) := by decide +kernel
theorem dX3_crashInCommit_58 : decode cX3_crashInCommit 58 = .ok (.invokestatic 94, 3) := by decide +kernel
theorem dX3_crashInCommit_61 : decode cX3_crashInCommit 61 = .ok (.iload_n 1, 1) := by decide +kernel
theorem dX3_crashInCommit_62 : decode cX3_crashInCommit 62 = .ok (.invokevirtual 98, 3) := by decide +kernel
theorem dX3_crashInCommit_65 : decode cX3_crashInCommit 65 = .ok (.aload_n 0, 1) := by decide +kernel
theorem dX3_crashInCommit_66 : decode cX3_crashInCommit 66 = .ok (.invokevirtual 203, 3) := by decide +kernel
theorem dX3_crashInCommit_69 : decode cX3_crashInCommit 69 = .ok (.ireturn, 1) := by decide +kernel
theorem dX3_requireKey_0 : decode cX3_requireKey 0 = .ok (.iload_n 0, 1) := by decide +kernel
theorem dX3_requireKey_1 : decode cX3_requireKey 1 = .ok (.ifCond .lt 9, 3) := by decide +kernel
theorem dX3_requireKey_4 : decode cX3_requireKey 4 = .ok (.iload_n 0, 1) := by decide +kernel
theorem dX3_requireKey_5 : decode cX3_requireKey 5 = .ok (.bipush 100, 2) := by decide +kernel
theorem dX3_requireKey_7 : decode cX3_requireKey 7 = .ok (.if_icmp .lt 13, 3) := by decide +kernel
theorem dX3_requireKey_10 : decode cX3_requireKey 10 = .ok (.new 196, 3) := by decide +kernel
theorem dX3_requireKey_13 : decode cX3_requireKey 13 = .ok (.dup, 1) := by decide +kernel
theorem dX3_requireKey_14 : decode cX3_requireKey 14 = .ok (.ldc 206, 2) := by decide +kernel
theorem dX3_requireKey_16 : decode cX3_requireKey 16 = .ok (.invokespecial 200, 3) := by decide +kernel
theorem dX3_requireKey_19 : decode cX3_requireKey 19 = .ok (.athrow, 1) := by decide +kernel
theorem dX3_requireKey_20 : decode cX3_requireKey 20 = .ok (.return_, 1) := by decide +kernel
theorem dX3_requireBatch_0 : decode cX3_requireBatch 0 = .ok (.aload_n 0, 1) := by decide +kernel
theorem dX3_requireBatch_1 : decode cX3_requireBatch 1 = .ok (.getfield 23, 3) := by decide +kernel
theorem dX3_requireBatch_4 : decode cX3_requireBatch 4 = .ok (.getfield 58, 3) := by decide +kernel
theorem dX3_requireBatch_7 : decode cX3_requireBatch 7 = .ok (.ifCond .ne 13, 3) := by decide +kernel
theorem dX3_requireBatch_10 : decode cX3_requireBatch 10 = .ok (.new 62, 3) := by decide +kernel
theorem dX3_requireBatch_13 : decode cX3_requireBatch 13 = .ok (.dup, 1) := by decide +kernel
theorem dX3_requireBatch_14 : decode cX3_requireBatch 14 = .ok (.ldc 208, 2) := by decide +kernel
theorem dX3_requireBatch_16 : decode cX3_requireBatch 16 = .ok (.invokespecial 66, 3) := by decide +kernel
theorem dX3_requireBatch_19 : decode cX3_requireBatch 19 = .ok (.athrow, 1) := by decide +kernel
theorem dX3_requireBatch_20 : decode cX3_requireBatch 20 = .ok (.return_, 1) := by decide +kernel
theorem dX3_requireReader_0 : decode cX3_requireReader 0 = .ok (.aload_n 0, 1) := by decide +kernel
theorem dX3_requireReader_1 : decode cX3_requireReader 1 = .ok (.iload_n 1, 1) := by decide +kernel
theorem dX3_requireReader_2 : decode cX3_requireReader 2 = .ok (.invokevirtual 109, 3) := by decide +kernel
theorem dX3_requireReader_5 : decode cX3_requireReader 5 = .ok (.ifCond .ne 13, 3) := by decide +kernel
theorem dX3_requireReader_8 : decode cX3_requireReader 8 = .ok (.new 148, 3) := by decide +kernel
theorem dX3_requireReader_11 : decode cX3_requireReader 11 = .ok (.dup, 1) := by decide +kernel
theorem dX3_requireReader_12 : decode cX3_requireReader 12 = .ok (.ldc 210, 2) := by decide +kernel
theorem dX3_requireReader_14 : decode cX3_requireReader 14 = .ok (.invokespecial 152, 3) := by decide +kernel
theorem dX3_requireReader_17 : decode cX3_requireReader 17 = .ok (.athrow, 1) := by decide +kernel
theorem dX3_requireReader_18 : decode cX3_requireReader 18 = .ok (.return_, 1) := by decide +kernel
theorem dX3_requirePage_0 : decode cX3_requirePage 0 = .ok (.iload_n 1, 1) := by decide +kernel
theorem dX3_requirePage_1 : decode cX3_requirePage 1 = .ok (.ifCond .lt 14, 3) := by decide +kernel
theorem dX3_requirePage_4 : decode cX3_requirePage 4 = .ok (.aload_n 0, 1) := by decide +kernel
theorem dX3_requirePage_5 : decode cX3_requirePage 5 = .ok (.getfield 12, 3) := by decide +kernel
theorem dX3_requirePage_8 : decode cX3_requirePage 8 = .ok (.iload_n 1, 1) := by decide +kernel
theorem dX3_requirePage_9 : decode cX3_requirePage 9 = .ok (.invokevirtual 153, 3) := by decide +kernel
theorem dX3_requirePage_12 : decode cX3_requirePage 12 = .ok (.ifCond .eq 13, 3) := by decide +kernel
theorem dX3_requirePage_15 : decode cX3_requirePage 15 = .ok (.new 148, 3) := by decide +kernel
theorem dX3_requirePage_18 : decode cX3_requirePage 18 = .ok (.dup, 1) := by decide +kernel
theorem dX3_requirePage_19 : decode cX3_requirePage 19 = .ok (.ldc 212, 2) := by decide +kernel
theorem dX3_requirePage_21 : decode cX3_requirePage 21 = .ok (.invokespecial 152, 3) := by decide +kernel
theorem dX3_requirePage_24 : decode cX3_requirePage 24 = .ok (.athrow, 1) := by decide +kernel
theorem dX3_requirePage_25 : decode cX3_requirePage 25 = .ok (.return_, 1) := by decide +kernel
theorem dX3_requireEntry_0 : decode cX3_requireEntry 0 = .ok (.aload_n 0, 1) := by decide +kernel
theorem dX3_requireEntry_1 : decode cX3_requireEntry 1 = .ok (.iload_n 1, 1) := by decide +kernel
theorem dX3_requireEntry_2 : decode cX3_requireEntry 2 = .ok (.invokevirtual 159, 3) := by decide +kernel
theorem dX3_requireEntry_5 : decode cX3_requireEntry 5 = .ok (.iload_n 2, 1) := by decide +kernel
theorem dX3_requireEntry_6 : decode cX3_requireEntry 6 = .ok (.ifCond .lt 15, 3) := by decide +kernel
theorem dX3_requireEntry_9 : decode cX3_requireEntry 9 = .ok (.iload_n 2, 1) := by decide +kernel
theorem dX3_requireEntry_10 : decode cX3_requireEntry 10 = .ok (.aload_n 0, 1) := by decide +kernel
theorem dX3_requireEntry_11 : decode cX3_requireEntry 11 = .ok (.getfield 12, 3) := by decide +kernel
theorem dX3_requireEntry_14 : decode cX3_requireEntry 14 = .ok (.iload_n 1, 1) := by decide +kernel
theorem dX3_requireEntry_15 : decode cX3_requireEntry 15 = .ok (.invokevirtual 162, 3) := by decide +kernel
theorem dX3_requireEntry_18 : decode cX3_requireEntry 18 = .ok (.if_icmp .lt 13, 3) := by decide +kernel
theorem dX3_requireEntry_21 : decode cX3_requireEntry 21 = .ok (.new 148, 3) := by decide +kernel
theorem dX3_requireEntry_24 : decode cX3_requireEntry 24 = .ok (.dup, 1) := by decide +kernel
theorem dX3_requireEntry_25 : decode cX3_requireEntry 25 = .ok (.ldc 214, 2) := by decide +kernel
theorem dX3_requireEntry_27 : decode cX3_requireEntry 27 = .ok (.invokespecial 152, 3) := by decide +kernel
theorem dX3_requireEntry_30 : decode cX3_requireEntry 30 = .ok (.athrow, 1) := by decide +kernel
theorem dX3_requireEntry_31 : decode cX3_requireEntry 31 = .ok (.return_, 1) := by decide +kernel
theorem dX3_requireSlot_0 : decode cX3_requireSlot 0 = .ok (.iload_n 0, 1) := by decide +kernel
theorem dX3_requireSlot_1 : decode cX3_requireSlot 1 = .ok (.ifCond .lt 8, 3) := by decide +kernel
theorem dX3_requireSlot_4 : decode cX3_requireSlot 4 = .ok (.iload_n 0, 1) := by decide +kernel
theorem dX3_requireSlot_5 : decode cX3_requireSlot 5 = .ok (.iconst 2, 1) := by decide +kernel
theorem dX3_requireSlot_6 : decode cX3_requireSlot 6 = .ok (.if_icmp .lt 13, 3) := by decide +kernel
theorem dX3_requireSlot_9 : decode cX3_requireSlot 9 = .ok (.new 148, 3) := by decide +kernel
theorem dX3_requireSlot_12 : decode cX3_requireSlot 12 = .ok (.dup, 1) := by decide +kernel
theorem dX3_requireSlot_13 : decode cX3_requireSlot 13 = .ok (.ldc 216, 2) := by decide +kernel
theorem dX3_requireSlot_15 : decode cX3_requireSlot 15 = .ok (.invokespecial 152, 3) := by decide +kernel
theorem dX3_requireSlot_18 : decode cX3_requireSlot 18 = .ok (.athrow, 1) := by decide +kernel
theorem dX3_requireSlot_19 : decode cX3_requireSlot 19 = .ok (.return_, 1) := by decide +kernel
theorem dX3_viewed_0 : decode cX3_viewed 0 = .ok (.iload_n 1, 1) := by decide +kernel
theorem dX3_viewed_1 : decode cX3_viewed 1 = .ok (.iconst (-1), 1) := by decide +kernel
theorem dX3_viewed_2 : decode cX3_viewed 2 = .ok (.if_icmp .ne 25, 3) := by decide +kernel
theorem dX3_viewed_5 : decode cX3_viewed 5 = .ok (.aload_n 0, 1) := by decide +kernel
theorem dX3_viewed_6 : decode cX3_viewed 6 = .ok (.getfield 23, 3) := by decide +kernel
theorem dX3_viewed_9 : decode cX3_viewed 9 = .ok (.getfield 58, 3) := by decide +kernel
theorem dX3_viewed_12 : decode cX3_viewed 12 = .ok (.ifCond .eq 10, 3) := by decide +kernel
theorem dX3_viewed_15 : decode cX3_viewed 15 = .ok (.aload_n 0, 1) := by decide +kernel
theorem dX3_viewed_16 : decode cX3_viewed 16 = .ok (.getfield 23, 3) := by decide +kernel
theorem dX3_viewed_19 : decode cX3_viewed 19 = .ok (.goto 7, 3) := by decide +kernel
theorem dX3_viewed_22 : decode cX3_viewed 22 = .ok (.aload_n 0, 1) := by decide +kernel
theorem dX3_viewed_23 : decode cX3_viewed 23 = .ok (.getfield 19, 3) := by decide +kernel
theorem dX3_viewed_26 : decode cX3_viewed 26 = .ok (.areturn, 1) := by decide +kernel
theorem dX3_viewed_27 : decode cX3_viewed 27 = .ok (.aload_n 0, 1) := by decide +kernel
theorem dX3_viewed_28 : decode cX3_viewed 28 = .ok (.iload_n 1, 1) := by decide +kernel
theorem dX3_viewed_29 : decode cX3_viewed 29 = .ok (.invokevirtual 115, 3) := by decide +kernel
theorem dX3_viewed_32 : decode cX3_viewed 32 = .ok (.aload_n 0, 1) := by decide +kernel
theorem dX3_viewed_33 : decode cX3_viewed 33 = .ok (.getfield 35, 3) := by decide +kernel
theorem dX3_viewed_36 : decode cX3_viewed 36 = .ok (.iload_n 1, 1) := by decide +kernel
theorem dX3_viewed_37 : decode cX3_viewed 37 = .ok (.aaload, 1) := by decide +kernel
theorem dX3_viewed_38 : decode cX3_viewed 38 = .ok (.areturn, 1) := by decide +kernel
theorem dX3_valueIn_0 : decode cX3_valueIn 0 = .ok (.aload_n 0, 1) := by decide +kernel
theorem dX3_valueIn_1 : decode cX3_valueIn 1 = .ok (.getfield 12, 3) := by decide +kernel
theorem dX3_valueIn_4 : decode cX3_valueIn 4 = .ok (.aload_n 1, 1) := by decide +kernel
theorem dX3_valueIn_5 : decode cX3_valueIn 5 = .ok (.getfield 51, 3) := by decide +kernel
theorem dX3_valueIn_8 : decode cX3_valueIn 8 = .ok (.iload_n 2, 1) := by decide +kernel
theorem dX3_valueIn_9 : decode cX3_valueIn 9 = .ok (.invokevirtual 218, 3) := by decide +kernel
theorem dX3_valueIn_12 : decode cX3_valueIn 12 = .ok (.istore_n 3, 1) := by decide +kernel
theorem dX3_valueIn_13 : decode cX3_valueIn 13 = .ok (.aload_n 0, 1) := by decide +kernel
theorem dX3_valueIn_14 : decode cX3_valueIn 14 = .ok (.getfield 12, 3) := by decide +kernel
theorem dX3_valueIn_17 : decode cX3_valueIn 17 = .ok (.iload_n 3, 1) := by decide +kernel
theorem dX3_valueIn_18 : decode cX3_valueIn 18 = .ok (.iload_n 2, 1) := by decide +kernel
theorem dX3_valueIn_19 : decode cX3_valueIn 19 = .ok (.invokevirtual 221, 3) := by decide +kernel
theorem dX3_valueIn_22 : decode cX3_valueIn 22 = .ok (.istore 4, 2) := by decide +kernel
theorem dX3_valueIn_24 : decode cX3_valueIn 24 = .ok (.aload_n 0, 1) := by decide +kernel
theorem dX3_valueIn_25 : decode cX3_valueIn 25 = .ok (.getfield 12, 3) := by decide +kernel
theorem dX3_valueIn_28 : decode cX3_valueIn 28 = .ok (.iload_n 3, 1) := by decide +kernel
theorem dX3_valueIn_29 : decode cX3_valueIn 29 = .ok (.iload 4, 2) := by decide +kernel
theorem dX3_valueIn_31 : decode cX3_valueIn 31 = .ok (.iload_n 2, 1) := by decide +kernel
theorem dX3_valueIn_32 : decode cX3_valueIn 32 = .ok (.invokevirtual 224, 3) := by decide +kernel
theorem dX3_valueIn_35 : decode cX3_valueIn 35 = .ok (.ifCond .ne 13, 3) := by decide +kernel
theorem dX3_valueIn_38 : decode cX3_valueIn 38 = .ok (.new 228, 3) := by decide +kernel
theorem dX3_valueIn_41 : decode cX3_valueIn 41 = .ok (.dup, 1) := by decide +kernel
theorem dX3_valueIn_42 : decode cX3_valueIn 42 = .ok (.ldc 230, 2) := by decide +kernel
theorem dX3_valueIn_44 : decode cX3_valueIn 44 = .ok (.invokespecial 232, 3) := by decide +kernel
theorem dX3_valueIn_47 : decode cX3_valueIn 47 = .ok (.athrow, 1) := by decide +kernel
theorem dX3_valueIn_48 : decode cX3_valueIn 48 = .ok (.aload_n 0, 1) := by decide +kernel
theorem dX3_valueIn_49 : decode cX3_valueIn 49 = .ok (.getfield 12, 3) := by decide +kernel
theorem dX3_valueIn_52 : decode cX3_valueIn 52 = .ok (.iload_n 3, 1) := by decide +kernel
theorem dX3_valueIn_53 : decode cX3_valueIn 53 = .ok (.iload 4, 2) := by decide +kernel
theorem dX3_valueIn_55 : decode cX3_valueIn 55 = .ok (.invokevirtual 174, 3) := by decide +kernel
theorem dX3_valueIn_58 : decode cX3_valueIn 58 = .ok (.ireturn, 1) := by decide +kernel
theorem dX3_isOpen_0 : decode cX3_isOpen 0 = .ok (.iload_n 1, 1) := by decide +kernel
theorem dX3_isOpen_1 : decode cX3_isOpen 1 = .ok (.ifCond .lt 24, 3) := by decide +kernel
theorem dX3_isOpen_4 : decode cX3_isOpen 4 = .ok (.iload_n 1, 1) := by decide +kernel
theorem dX3_isOpen_5 : decode cX3_isOpen 5 = .ok (.iconst 4, 1) := by decide +kernel
theorem dX3_isOpen_6 : decode cX3_isOpen 6 = .ok (.if_icmp .ge 19, 3) := by decide +kernel
theorem dX3_isOpen_9 : decode cX3_isOpen 9 = .ok (.aload_n 0, 1) := by decide +kernel
theorem dX3_isOpen_10 : decode cX3_isOpen 10 = .ok (.getfield 35, 3) := by decide +kernel
theorem dX3_isOpen_13 : decode cX3_isOpen 13 = .ok (.iload_n 1, 1) := by decide +kernel
theorem dX3_isOpen_14 : decode cX3_isOpen 14 = .ok (.aaload, 1) := by decide +kernel
theorem dX3_isOpen_15 : decode cX3_isOpen 15 = .ok (.getfield 58, 3) := by decide +kernel
theorem dX3_isOpen_18 : decode cX3_isOpen 18 = .ok (.ifCond .eq 7, 3) := by decide +kernel
theorem dX3_isOpen_21 : decode cX3_isOpen 21 = .ok (.iconst 1, 1) := by decide +kernel
theorem dX3_isOpen_22 : decode cX3_isOpen 22 = .ok (.goto 4, 3) := by decide +kernel
theorem dX3_isOpen_25 : decode cX3_isOpen 25 = .ok (.iconst 0, 1) := by decide +kernel
theorem dX3_isOpen_26 : decode cX3_isOpen 26 = .ok (.ireturn, 1) := by decide +kernel
theorem dX3_endBatch_0 : decode cX3_endBatch 0 = .ok (.aload_n 0, 1) := by decide +kernel
theorem dX3_endBatch_1 : decode cX3_endBatch 1 = .ok (.getfield 23, 3) := by decide +kernel
theorem dX3_endBatch_4 : decode cX3_endBatch 4 = .ok (.iconst 0, 1) := by decide +kernel
theorem dX3_endBatch_5 : decode cX3_endBatch 5 = .ok (.putfield 58, 3) := by decide +kernel
theorem dX3_endBatch_8 : decode cX3_endBatch 8 = .ok (.aload_n 0, 1) := by decide +kernel
theorem dX3_endBatch_9 : decode cX3_endBatch 9 = .ok (.getfield 12, 3) := by decide +kernel
theorem dX3_endBatch_12 : decode cX3_endBatch 12 = .ok (.getfield 233, 3) := by decide +kernel
theorem dX3_endBatch_15 : decode cX3_endBatch 15 = .ok (.invokestatic 141, 3) := by decide +kernel
theorem dX3_endBatch_18 : decode cX3_endBatch 18 = .ok (.aload_n 0, 1) := by decide +kernel
theorem dX3_endBatch_19 : decode cX3_endBatch 19 = .ok (.aload_n 0, 1) := by decide +kernel
theorem dX3_endBatch_20 : decode cX3_endBatch 20 = .ok (.getfield 12, 3) := by decide +kernel
theorem dX3_endBatch_23 : decode cX3_endBatch 23 = .ok (.getfield 47, 3) := by decide +kernel
theorem dX3_endBatch_26 : decode cX3_endBatch 26 = .ok (.iconst (-1), 1) := by decide +kernel
theorem dX3_endBatch_27 : decode cX3_endBatch 27 = .ok (.invokevirtual 118, 3) := by decide +kernel
theorem dX3_endBatch_30 : decode cX3_endBatch 30 = .ok (.return_, 1) := by decide +kernel
theorem dX3_keepStates_0 : decode cX3_keepStates 0 = .ok (.aload_n 1, 1) := by decide +kernel
theorem dX3_keepStates_1 : decode cX3_keepStates 1 = .ok (.invokestatic 141, 3) := by decide +kernel
theorem dX3_keepStates_4 : decode cX3_keepStates 4 = .ok (.aload_n 0, 1) := by decide +kernel
theorem dX3_keepStates_5 : decode cX3_keepStates 5 = .ok (.getfield 12, 3) := by decide +kernel
theorem dX3_keepStates_8 : decode cX3_keepStates 8 = .ok (.aload_n 1, 1) := by decide +kernel
theorem dX3_keepStates_9 : decode cX3_keepStates 9 = .ok (.aload_n 0, 1) := by decide +kernel
theorem dX3_keepStates_10 : decode cX3_keepStates 10 = .ok (.getfield 19, 3) := by decide +kernel
theorem dX3_keepStates_13 : decode cX3_keepStates 13 = .ok (.getfield 51, 3) := by decide +kernel
theorem dX3_keepStates_16 : decode cX3_keepStates 16 = .ok (.invokevirtual 54, 3) := by decide +kernel
theorem dX3_keepStates_19 : decode cX3_keepStates 19 = .ok (.iconst 0, 1) := by decide +kernel
theorem dX3_keepStates_20 : decode cX3_keepStates 20 = .ok (.istore_n 3, 1) := by decide +kernel
theorem dX3_keepStates_21 : decode cX3_keepStates 21 = .ok (.iload_n 3, 1) := by decide +kernel
theorem dX3_keepStates_22 : decode cX3_keepStates 22 = .ok (.iconst 2, 1) := by decide +kernel
theorem dX3_keepStates_23 : decode cX3_keepStates 23 = .ok (.if_icmp .ge 32, 3) := by decide +kernel
theorem dX3_keepStates_26 : decode cX3_keepStates 26 = .ok (.aload_n 0, 1) := by decide +kernel
theorem dX3_keepStates_27 : decode cX3_keepStates 27 = .ok (.iload_n 3, 1) := by decide +kernel
theorem dX3_keepStates_28 : decode cX3_keepStates 28 = .ok (.invokevirtual 186, 3) := by decide +kernel
theorem dX3_keepStates_31 : decode cX3_keepStates 31 = .ok (.ifCond .eq 18, 3) := by decide +kernel
theorem dX3_keepStates_34 : decode cX3_keepStates 34 = .ok (.aload_n 0, 1) := by decide +kernel
theorem dX3_keepStates_35 : decode cX3_keepStates 35 = .ok (.getfield 12, 3) := by decide +kernel
theorem dX3_keepStates_38 : decode cX3_keepStates 38 = .ok (.aload_n 1, 1) := by decide +kernel
theorem dX3_keepStates_39 : decode cX3_keepStates 39 = .ok (.aload_n 0, 1) := by decide +kernel
theorem dX3_keepStates_40 : decode cX3_keepStates 40 = .ok (.iload_n 3, 1) := by decide +kernel
theorem dX3_keepStates_41 : decode cX3_keepStates 41 = .ok (.iconst 1, 1) := by decide +kernel
theorem dX3_keepStates_42 : decode cX3_keepStates 42 = .ok (.invokevirtual 182, 3) := by decide +kernel
theorem dX3_keepStates_45 : decode cX3_keepStates 45 = .ok (.l2i, 1) := by decide +kernel
theorem dX3_keepStates_46 : decode cX3_keepStates 46 = .ok (.invokevirtual 54, 3) := by decide +kernel
theorem dX3_keepStates_49 : decode cX3_keepStates 49 = .ok (.iinc 3 1, 3) := by decide +kernel
theorem dX3_keepStates_52 : decode cX3_keepStates 52 = .ok (.goto (-31), 3) := by decide +kernel
theorem dX3_keepStates_55 : decode cX3_keepStates 55 = .ok (.iconst 0, 1) := by decide +kernel
theorem dX3_keepStates_56 : decode cX3_keepStates 56 = .ok (.istore_n 3, 1) := by decide +kernel
theorem dX3_keepStates_57 : decode cX3_keepStates 57 = .ok (.iload_n 3, 1) := by decide +kernel
theorem dX3_keepStates_58 : decode cX3_keepStates 58 = .ok (.iconst 4, 1) := by decide +kernel
theorem dX3_keepStates_59 : decode cX3_keepStates 59 = .ok (.if_icmp .ge 39, 3) := by decide +kernel
theorem dX3_keepStates_62 : decode cX3_keepStates 62 = .ok (.aload_n 0, 1) := by decide +kernel
theorem dX3_keepStates_63 : decode cX3_keepStates 63 = .ok (.iload_n 3, 1) := by decide +kernel
theorem dX3_keepStates_64 : decode cX3_keepStates 64 = .ok (.invokevirtual 109, 3) := by decide +kernel
theorem dX3_keepStates_67 : decode cX3_keepStates 67 = .ok (.ifCond .eq 25, 3) := by decide +kernel
theorem dX3_keepStates_70 : decode cX3_keepStates 70 = .ok (.iload_n 3, 1) := by decide +kernel
theorem dX3_keepStates_71 : decode cX3_keepStates 71 = .ok (.iload_n 2, 1) := by decide +kernel
theorem dX3_keepStates_72 : decode cX3_keepStates 72 = .ok (.if_icmp .eq 20, 3) := by decide +kernel
theorem dX3_keepStates_75 : decode cX3_keepStates 75 = .ok (.aload_n 0, 1) := by decide +kernel
theorem dX3_keepStates_76 : decode cX3_keepStates 76 = .ok (.getfield 12, 3) := by decide +kernel
theorem dX3_keepStates_79 : decode cX3_keepStates 79 = .ok (.aload_n 1, 1) := by decide +kernel
theorem dX3_keepStates_80 : decode cX3_keepStates 80 = .ok (.aload_n 0, 1) := by decide +kernel
theorem dX3_keepStates_81 : decode cX3_keepStates 81 = .ok (.getfield 35, 3) := by decide +kernel
theorem dX3_keepStates_84 : decode cX3_keepStates 84 = .ok (.iload_n 3, 1) := by decide +kernel
theorem dX3_keepStates_85 : decode cX3_keepStates 85 = .ok (.aaload, 1) := by decide +kernel
theorem dX3_keepStates_86 : decode cX3_keepStates 86 = .ok (.getfield 51, 3) := by decide +kernel
theorem dX3_keepStates_89 : decode cX3_keepStates 89 = .ok (.invokevirtual 54, 3) := by decide +kernel
theorem dX3_keepStates_92 : decode cX3_keepStates 92 = .ok (.iinc 3 1, 3) := by decide +kernel
theorem dX3_keepStates_95 : decode cX3_keepStates 95 = .ok (.goto (-38), 3) := by decide +kernel
theorem dX3_keepStates_98 : decode cX3_keepStates 98 = .ok (.return_, 1) := by decide +kernel
theorem dX3_otherSlot_0 : decode cX3_otherSlot 0 = .ok (.iload_n 0, 1) := by decide +kernel
theorem dX3_otherSlot_1 : decode cX3_otherSlot 1 = .ok (.ifCond .ne 7, 3) := by decide +kernel
theorem dX3_otherSlot_4 : decode cX3_otherSlot 4 = .ok (.iconst 1, 1) := by decide +kernel
theorem dX3_otherSlot_5 : decode cX3_otherSlot 5 = .ok (.goto 4, 3) := by decide +kernel
theorem dX3_otherSlot_8 : decode cX3_otherSlot 8 = .ok (.iconst 0, 1) := by decide +kernel
theorem dX3_otherSlot_9 : decode cX3_otherSlot 9 = .ok (.ireturn, 1) := by decide +kernel
theorem dX3_wordIn_0 : decode cX3_wordIn 0 = .ok (.iload_n 1, 1) := by decide +kernel
theorem dX3_wordIn_1 : decode cX3_wordIn 1 = .ok (.iconst 4, 1) := by decide +kernel
theorem dX3_wordIn_2 : decode cX3_wordIn 2 = .ok (.imul, 1) := by decide +kernel
theorem dX3_wordIn_3 : decode cX3_wordIn 3 = .ok (.iload_n 2, 1) := by decide +kernel
theorem dX3_wordIn_4 : decode cX3_wordIn 4 = .ok (.iadd, 1) := by decide +kernel
theorem dX3_wordIn_5 : decode cX3_wordIn 5 = .ok (.istore_n 3, 1) := by decide +kernel
theorem dX3_wordIn_6 : decode cX3_wordIn 6 = .ok (.iload_n 3, 1) := by decide +kernel
theorem dX3_wordIn_7 : decode cX3_wordIn 7 = .ok (.ifCond .lt 18, 3) := by decide +kernel
theorem dX3_wordIn_10 : decode cX3_wordIn 10 = .ok (.iload_n 3, 1) := by decide +kernel
theorem dX3_wordIn_11 : decode cX3_wordIn 11 = .ok (.bipush 8, 2) := by decide +kernel
theorem dX3_wordIn_13 : decode cX3_wordIn 13 = .ok (.if_icmp .ge 12, 3) := by decide +kernel
theorem dX3_wordIn_16 : decode cX3_wordIn 16 = .ok (.aload_n 0, 1) := by decide +kernel
theorem dX3_wordIn_17 : decode cX3_wordIn 17 = .ok (.getfield 39, 3) := by decide +kernel
theorem dX3_wordIn_20 : decode cX3_wordIn 20 = .ok (.iload_n 3, 1) := by decide +kernel
theorem dX3_wordIn_21 : decode cX3_wordIn 21 = .ok (.laload, 1) := by decide +kernel
theorem dX3_wordIn_22 : decode cX3_wordIn 22 = .ok (.goto 4, 3) := by decide +kernel
theorem dX3_wordIn_25 : decode cX3_wordIn 25 = .ok (.lconst 0, 1) := by decide +kernel
theorem dX3_wordIn_26 : decode cX3_wordIn 26 = .ok (.lreturn, 1) := by decide +kernel
theorem dX3_sumsUp_0 : decode cX3_sumsUp 0 = .ok (.aload_n 0, 1) := by decide +kernel
theorem dX3_sumsUp_1 : decode cX3_sumsUp 1 = .ok (.iload_n 1, 1) := by decide +kernel
theorem dX3_sumsUp_2 : decode cX3_sumsUp 2 = .ok (.iconst 0, 1) := by decide +kernel
theorem dX3_sumsUp_3 : decode cX3_sumsUp 3 = .ok (.invokevirtual 182, 3) := by decide +kernel
theorem dX3_sumsUp_6 : decode cX3_sumsUp 6 = .ok (.aload_n 0, 1) := by decide +kernel
theorem dX3_sumsUp_7 : decode cX3_sumsUp 7 = .ok (.iload_n 1, 1) := by decide +kernel
theorem dX3_sumsUp_8 : decode cX3_sumsUp 8 = .ok (.iconst 1, 1) := by decide +kernel
theorem dX3_sumsUp_9 : decode cX3_sumsUp 9 = .ok (.invokevirtual 182, 3) := by decide +kernel
theorem dX3_sumsUp_12 : decode cX3_sumsUp 12 = .ok (.aload_n 0, 1) := by decide +kernel
theorem dX3_sumsUp_13 : decode cX3_sumsUp 13 = .ok (.iload_n 1, 1) := by decide +kernel
theorem dX3_sumsUp_14 : decode cX3_sumsUp 14 = .ok (.iconst 2, 1) := by decide +kernel
theorem dX3_sumsUp_15 : decode cX3_sumsUp 15 = .ok (.invokevirtual 182, 3) := by decide +kernel
theorem dX3_sumsUp_18 : decode cX3_sumsUp 18 = .ok (.invokestatic 236, 3) := by decide +kernel
theorem dX3_sumsUp_21 : decode cX3_sumsUp 21 = .ok (.lstore_n 2, 1) := by decide +kernel
theorem dX3_sumsUp_22 : decode cX3_sumsUp 22 = .ok (.aload_n 0, 1) := by decide +kernel
theorem dX3_sumsUp_23 : decode cX3_sumsUp 23 = .ok (.iload_n 1, 1) := by decide +kernel
theorem dX3_sumsUp_24 : decode cX3_sumsUp 24 = .ok (.iconst 3, 1) := by decide +kernel
theorem dX3_sumsUp_25 : decode cX3_sumsUp 25 = .ok (.invokevirtual 182, 3) := by decide +kernel
theorem dX3_sumsUp_28 : decode cX3_sumsUp 28 = .ok (.lload_n 2, 1) := by decide +kernel
theorem dX3_sumsUp_29 : decode cX3_sumsUp 29 = .ok (.lcmp, 1) := by decide +kernel
theorem dX3_sumsUp_30 : decode cX3_sumsUp 30 = .ok (.ifCond .ne 7, 3) := by decide +kernel
theorem dX3_sumsUp_33 : decode cX3_sumsUp 33 = .ok (.iconst 1, 1) := by decide +kernel
theorem dX3_sumsUp_34 : decode cX3_sumsUp 34 = .ok (.goto 4, 3) := by decide +kernel
theorem dX3_sumsUp_37 : decode cX3_sumsUp 37 = .ok (.iconst 0, 1) := by decide +kernel
theorem dX3_sumsUp_38 : decode cX3_sumsUp 38 = .ok (.ireturn, 1) := by decide +kernel
theorem dX3_sumOf_0 : decode cX3_sumOf 0 = .ok (.ldc2_w 240, 3) := by decide +kernel
theorem dX3_sumOf_3 : decode cX3_sumOf 3 = .ok (.lload_n 0, 1) := by decide +kernel
theorem dX3_sumOf_4 : decode cX3_sumOf 4 = .ok (.lmul, 1) := by decide +kernel
theorem dX3_sumOf_5 : decode cX3_sumOf 5 = .ok (.ldc2_w 242, 3) := by decide +kernel
theorem dX3_sumOf_8 : decode cX3_sumOf 8 = .ok (.lload_n 2, 1) := by decide +kernel
theorem dX3_sumOf_9 : decode cX3_sumOf 9 = .ok (.lmul, 1) := by decide +kernel
theorem dX3_sumOf_10 : decode cX3_sumOf 10 = .ok (.ladd, 1) := by decide +kernel
theorem dX3_sumOf_11 : decode cX3_sumOf 11 = .ok (.lload 4, 2) := by decide +kernel
theorem dX3_sumOf_13 : decode cX3_sumOf 13 = .ok (.ladd, 1) := by decide +kernel
theorem dX3_sumOf_14 : decode cX3_sumOf 14 = .ok (.lreturn, 1) := by decide +kernel
theorem dX3_writeSlot_0 : decode cX3_writeSlot 0 = .ok (.iconst 0, 1) := by decide +kernel
theorem dX3_writeSlot_1 : decode cX3_writeSlot 1 = .ok (.istore_n 3, 1) := by decide +kernel
theorem dX3_writeSlot_2 : decode cX3_writeSlot 2 = .ok (.iload_n 3, 1) := by decide +kernel
theorem dX3_writeSlot_3 : decode cX3_writeSlot 3 = .ok (.iconst 4, 1) := by decide +kernel
theorem dX3_writeSlot_4 : decode cX3_writeSlot 4 = .ok (.if_icmp .ge 45, 3) := by decide +kernel
theorem dX3_writeSlot_7 : decode cX3_writeSlot 7 = .ok (.iload_n 3, 1) := by decide +kernel
theorem dX3_writeSlot_8 : decode cX3_writeSlot 8 = .ok (.iload_n 2, 1) := by decide +kernel
theorem dX3_writeSlot_9 : decode cX3_writeSlot 9 = .ok (.if_icmp .ge 40, 3) := by decide +kernel
theorem dX3_writeSlot_12 : decode cX3_writeSlot 12 = .ok (.iload_n 1, 1) := by decide +kernel
theorem dX3_writeSlot_13 : decode cX3_writeSlot 13 = .ok (.iconst 4, 1) := by decide +kernel
theorem dX3_writeSlot_14 : decode cX3_writeSlot 14 = .ok (.imul, 1) := by decide +kernel
theorem dX3_writeSlot_15 : decode cX3_writeSlot 15 = .ok (.iload_n 3, 1) := by decide +kernel
theorem dX3_writeSlot_16 : decode cX3_writeSlot 16 = .ok (.iadd, 1) := by decide +kernel
theorem dX3_writeSlot_17 : decode cX3_writeSlot 17 = .ok (.istore 4, 2) := by decide +kernel
theorem dX3_writeSlot_19 : decode cX3_writeSlot 19 = .ok (.iload 4, 2) := by decide +kernel
theorem dX3_writeSlot_21 : decode cX3_writeSlot 21 = .ok (.ifCond .lt 22, 3) := by decide +kernel
theorem dX3_writeSlot_24 : decode cX3_writeSlot 24 = .ok (.iload 4, 2) := by decide +kernel
theorem dX3_writeSlot_26 : decode cX3_writeSlot 26 = .ok (.bipush 8, 2) := by decide +kernel
theorem dX3_writeSlot_28 : decode cX3_writeSlot 28 = .ok (.if_icmp .ge 15, 3) := by decide +kernel
theorem dX3_writeSlot_31 : decode cX3_writeSlot 31 = .ok (.aload_n 0, 1) := by decide +kernel
theorem dX3_writeSlot_32 : decode cX3_writeSlot 32 = .ok (.getfield 39, 3) := by decide +kernel
theorem dX3_writeSlot_35 : decode cX3_writeSlot 35 = .ok (.iload 4, 2) := by decide +kernel
theorem dX3_writeSlot_37 : decode cX3_writeSlot 37 = .ok (.aload_n 0, 1) := by decide +kernel
theorem dX3_writeSlot_38 : decode cX3_writeSlot 38 = .ok (.iload_n 3, 1) := by decide +kernel
theorem dX3_writeSlot_39 : decode cX3_writeSlot 39 = .ok (.invokevirtual 244, 3) := by decide +kernel
theorem dX3_writeSlot_42 : decode cX3_writeSlot 42 = .ok (.lastore, 1) := by decide +kernel
theorem dX3_writeSlot_43 : decode cX3_writeSlot 43 = .ok (.iinc 3 1, 3) := by decide +kernel
theorem dX3_writeSlot_46 : decode cX3_writeSlot 46 = .ok (.goto (-44), 3) := by decide +kernel
theorem dX3_writeSlot_49 : decode cX3_writeSlot 49 = .ok (.return_, 1) := by decide +kernel
theorem dX3_wordOfBatch_0 : decode cX3_wordOfBatch 0 = .ok (.iload_n 1, 1) := by decide +kernel
theorem dX3_wordOfBatch_1 : decode cX3_wordOfBatch 1 = .ok (.tableswitch 54 0 2 #[27, 36, 45], 27) := by decide +kernel
theorem dX3_wordOfBatch_28 : decode cX3_wordOfBatch 28 = .ok (.aload_n 0, 1) := by decide +kernel
theorem dX3_wordOfBatch_29 : decode cX3_wordOfBatch 29 = .ok (.getfield 23, 3) := by decide +kernel
theorem dX3_wordOfBatch_32 : decode cX3_wordOfBatch 32 = .ok (.getfield 73, 3) := by decide +kernel
theorem dX3_wordOfBatch_35 : decode cX3_wordOfBatch 35 = .ok (.i2l, 1) := by decide +kernel
theorem dX3_wordOfBatch_36 : decode cX3_wordOfBatch 36 = .ok (.lreturn, 1) := by decide +kernel
theorem dX3_wordOfBatch_37 : decode cX3_wordOfBatch 37 = .ok (.aload_n 0, 1) := by decide +kernel
theorem dX3_wordOfBatch_38 : decode cX3_wordOfBatch 38 = .ok (.getfield 23, 3) := by decide +kernel
theorem dX3_wordOfBatch_41 : decode cX3_wordOfBatch 41 = .ok (.getfield 51, 3) := by decide +kernel
theorem dX3_wordOfBatch_44 : decode cX3_wordOfBatch 44 = .ok (.i2l, 1) := by decide +kernel
theorem dX3_wordOfBatch_45 : decode cX3_wordOfBatch 45 = .ok (.lreturn, 1) := by decide +kernel
theorem dX3_wordOfBatch_46 : decode cX3_wordOfBatch 46 = .ok (.aload_n 0, 1) := by decide +kernel
theorem dX3_wordOfBatch_47 : decode cX3_wordOfBatch 47 = .ok (.getfield 23, 3) := by decide +kernel
theorem dX3_wordOfBatch_50 : decode cX3_wordOfBatch 50 = .ok (.getfield 135, 3) := by decide +kernel
theorem dX3_wordOfBatch_53 : decode cX3_wordOfBatch 53 = .ok (.i2l, 1) := by decide +kernel
theorem dX3_wordOfBatch_54 : decode cX3_wordOfBatch 54 = .ok (.lreturn, 1) := by decide +kernel
theorem dX3_wordOfBatch_55 : decode cX3_wordOfBatch 55 = .ok (.aload_n 0, 1) := by decide +kernel
theorem dX3_wordOfBatch_56 : decode cX3_wordOfBatch 56 = .ok (.getfield 23, 3) := by decide +kernel
theorem dX3_wordOfBatch_59 : decode cX3_wordOfBatch 59 = .ok (.getfield 73, 3) := by decide +kernel
theorem dX3_wordOfBatch_62 : decode cX3_wordOfBatch 62 = .ok (.i2l, 1) := by decide +kernel
theorem dX3_wordOfBatch_63 : decode cX3_wordOfBatch 63 = .ok (.aload_n 0, 1) := by decide +kernel
theorem dX3_wordOfBatch_64 : decode cX3_wordOfBatch 64 = .ok (.getfield 23, 3) := by decide +kernel
theorem dX3_wordOfBatch_67 : decode cX3_wordOfBatch 67 = .ok (.getfield 51, 3) := by decide +kernel
theorem dX3_wordOfBatch_70 : decode cX3_wordOfBatch 70 = .ok (.i2l, 1) := by decide +kernel
theorem dX3_wordOfBatch_71 : decode cX3_wordOfBatch 71 = .ok (.aload_n 0, 1) := by decide +kernel
theorem dX3_wordOfBatch_72 : decode cX3_wordOfBatch 72 = .ok (.getfield 23, 3) := by decide +kernel
theorem dX3_wordOfBatch_75 : decode cX3_wordOfBatch 75 = .ok (.getfield 135, 3) := by decide +kernel
theorem dX3_wordOfBatch_78 : decode cX3_wordOfBatch 78 = .ok (.i2l, 1) := by decide +kernel
theorem dX3_wordOfBatch_79 : decode cX3_wordOfBatch 79 = .ok (.invokestatic 236, 3) := by decide +kernel
theorem dX3_wordOfBatch_82 : decode cX3_wordOfBatch 82 = .ok (.lreturn, 1) := by decide +kernel
theorem dX3_latestWholeSlot_0 : decode cX3_latestWholeSlot 0 = .ok (.aload_n 0, 1) := by decide +kernel
theorem dX3_latestWholeSlot_1 : decode cX3_latestWholeSlot 1 = .ok (.iconst 0, 1) := by decide +kernel
theorem dX3_latestWholeSlot_2 : decode cX3_latestWholeSlot 2 = .ok (.invokevirtual 186, 3) := by decide +kernel
theorem dX3_latestWholeSlot_5 : decode cX3_latestWholeSlot 5 = .ok (.ifCond .ne 5, 3) := by decide +kernel
theorem dX3_latestWholeSlot_8 : decode cX3_latestWholeSlot 8 = .ok (.iconst 1, 1) := by decide +kernel
theorem dX3_latestWholeSlot_9 : decode cX3_latestWholeSlot 9 = .ok (.ireturn, 1) := by decide +kernel
theorem dX3_latestWholeSlot_10 : decode cX3_latestWholeSlot 10 = .ok (.aload_n 0, 1) := by decide +kernel
theorem dX3_latestWholeSlot_11 : decode cX3_latestWholeSlot 11 = .ok (.iconst 1, 1) := by decide +kernel
theorem dX3_latestWholeSlot_12 : decode cX3_latestWholeSlot 12 = .ok (.invokevirtual 186, 3) := by decide +kernel
theorem dX3_latestWholeSlot_15 : decode cX3_latestWholeSlot 15 = .ok (.ifCond .eq 23, 3) := by decide +kernel
theorem dX3_latestWholeSlot_18 : decode cX3_latestWholeSlot 18 = .ok (.aload_n 0, 1) := by decide +kernel
theorem dX3_latestWholeSlot_19 : decode cX3_latestWholeSlot 19 = .ok (.iconst 1, 1) := by decide +kernel
theorem dX3_latestWholeSlot_20 : decode cX3_latestWholeSlot 20 = .ok (.iconst 0, 1) := by decide +kernel
theorem dX3_latestWholeSlot_21 : decode cX3_latestWholeSlot 21 = .ok (.invokevirtual 182, 3) := by decide +kernel
theorem dX3_latestWholeSlot_24 : decode cX3_latestWholeSlot 24 = .ok (.aload_n 0, 1) := by decide +kernel
theorem dX3_latestWholeSlot_25 : decode cX3_latestWholeSlot 25 = .ok (.iconst 0, 1) := by decide +kernel
theorem dX3_latestWholeSlot_26 : decode cX3_latestWholeSlot 26 = .ok (.iconst 0, 1) := by decide +kernel
theorem dX3_latestWholeSlot_27 : decode cX3_latestWholeSlot 27 = .ok (.invokevirtual 182, 3) := by decide +kernel
theorem dX3_latestWholeSlot_30 : decode cX3_latestWholeSlot 30 = .ok (.lcmp, 1) := by decide +kernel
theorem dX3_latestWholeSlot_31 : decode cX3_latestWholeSlot 31 = .ok (.ifCond .le 7, 3) := by decide +kernel
theorem dX3_latestWholeSlot_34 : decode cX3_latestWholeSlot 34 = .ok (.iconst 1, 1) := by decide +kernel
theorem dX3_latestWholeSlot_35 : decode cX3_latestWholeSlot 35 = .ok (.goto 4, 3) := by decide +kernel
theorem dX3_latestWholeSlot_38 : decode cX3_latestWholeSlot 38 = .ok (.iconst 0, 1) := by decide +kernel
theorem dX3_latestWholeSlot_39 : decode cX3_latestWholeSlot 39 = .ok (.ireturn, 1) := by decide +kernel
end
section
/-! decode rows, out of claim/NAMES.whole.lean.txt -/
end
section
/-! decode rows, out of claim/NAMES.whole.lean.txt -/
theorem dL_at_0 : decode cL_at 0 = .ok (.iload_n 1, 1) := by decide +kernel
theorem dL_at_1 : decode cL_at 1 = .ok (.aload_n 0, 1) := by decide +kernel
theorem dL_at_2 : decode cL_at 2 = .ok (.arraylength, 1) := by decide +kernel
theorem dL_at_3 : decode cL_at 3 = .ok (.if_icmp .ge 9, 3) := by decide +kernel
theorem dL_at_6 : decode cL_at 6 = .ok (.aload_n 0, 1) := by decide +kernel
theorem dL_at_7 : decode cL_at 7 = .ok (.iload_n 1, 1) := by decide +kernel
theorem dL_at_8 : decode cL_at 8 = .ok (.iaload, 1) := by decide +kernel
theorem dL_at_9 : decode cL_at 9 = .ok (.goto 12, 3) := by decide +kernel
theorem dL_at_12 : decode cL_at 12 = .ok (.ldc 7, 2) := by decide +kernel
theorem dL_at_14 : decode cL_at 14 = .ok (.iload_n 1, 1) := by decide +kernel
theorem dL_at_15 : decode cL_at 15 = .ok (.iconst 1, 1) := by decide +kernel
theorem dL_at_16 : decode cL_at 16 = .ok (.iadd, 1) := by decide +kernel
theorem dL_at_17 : decode cL_at 17 = .ok (.imul, 1) := by decide +kernel
theorem dL_at_18 : decode cL_at 18 = .ok (.ldc 8, 2) := by decide +kernel
theorem dL_at_20 : decode cL_at 20 = .ok (.iadd, 1) := by decide +kernel
theorem dL_at_21 : decode cL_at 21 = .ok (.ireturn, 1) := by decide +kernel
theorem dL_low_0 : decode cL_low 0 = .ok (.iload_n 0, 1) := by decide +kernel
theorem dL_low_1 : decode cL_low 1 = .ok (.ldc 9, 2) := by decide +kernel
theorem dL_low_3 : decode cL_low 3 = .ok (.iand, 1) := by decide +kernel
theorem dL_low_4 : decode cL_low 4 = .ok (.iload_n 1, 1) := by decide +kernel
theorem dL_low_5 : decode cL_low 5 = .ok (.irem, 1) := by decide +kernel
theorem dL_low_6 : decode cL_low 6 = .ok (.ireturn, 1) := by decide +kernel
theorem dL_key_0 : decode cL_key 0 = .ok (.iconst 3, 1) := by decide +kernel
theorem dL_key_1 : decode cL_key 1 = .ok (.iload_n 0, 1) := by decide +kernel
theorem dL_key_2 : decode cL_key 2 = .ok (.imul, 1) := by decide +kernel
theorem dL_key_3 : decode cL_key 3 = .ok (.bipush 6, 2) := by decide +kernel
theorem dL_key_5 : decode cL_key 5 = .ok (.iadd, 1) := by decide +kernel
theorem dL_key_6 : decode cL_key 6 = .ok (.ireturn, 1) := by decide +kernel
theorem dL_turn_0 : decode cL_turn 0 = .ok (.aload_n 0, 1) := by decide +kernel
theorem dL_turn_1 : decode cL_turn 1 = .ok (.iconst 3, 1) := by decide +kernel
theorem dL_turn_2 : decode cL_turn 2 = .ok (.iload_n 1, 1) := by decide +kernel
theorem dL_turn_3 : decode cL_turn 3 = .ok (.imul, 1) := by decide +kernel
theorem dL_turn_4 : decode cL_turn 4 = .ok (.iload_n 2, 1) := by decide +kernel
theorem dL_turn_5 : decode cL_turn 5 = .ok (.bipush 12, 2) := by decide +kernel
theorem dL_turn_7 : decode cL_turn 7 = .ok (.idiv, 1) := by decide +kernel
theorem dL_turn_8 : decode cL_turn 8 = .ok (.iadd, 1) := by decide +kernel
theorem dL_turn_9 : decode cL_turn 9 = .ok (.laload, 1) := by decide +kernel
theorem dL_turn_10 : decode cL_turn 10 = .ok (.iconst 5, 1) := by decide +kernel
theorem dL_turn_11 : decode cL_turn 11 = .ok (.iload_n 2, 1) := by decide +kernel
theorem dL_turn_12 : decode cL_turn 12 = .ok (.bipush 12, 2) := by decide +kernel
theorem dL_turn_14 : decode cL_turn 14 = .ok (.irem, 1) := by decide +kernel
theorem dL_turn_15 : decode cL_turn 15 = .ok (.imul, 1) := by decide +kernel
theorem dL_turn_16 : decode cL_turn 16 = .ok (.lshr, 1) := by decide +kernel
theorem dL_turn_17 : decode cL_turn 17 = .ok (.l2i, 1) := by decide +kernel
theorem dL_turn_18 : decode cL_turn 18 = .ok (.bipush 31, 2) := by decide +kernel
theorem dL_turn_20 : decode cL_turn 20 = .ok (.iand, 1) := by decide +kernel
theorem dL_turn_21 : decode cL_turn 21 = .ok (.ireturn, 1) := by decide +kernel
theorem dL_sets_0 : decode cL_sets 0 = .ok (.iconst 3, 1) := by decide +kernel
theorem dL_sets_1 : decode cL_sets 1 = .ok (.iload_n 1, 1) := by decide +kernel
theorem dL_sets_2 : decode cL_sets 2 = .ok (.imul, 1) := by decide +kernel
theorem dL_sets_3 : decode cL_sets 3 = .ok (.iload_n 2, 1) := by decide +kernel
theorem dL_sets_4 : decode cL_sets 4 = .ok (.bipush 12, 2) := by decide +kernel
theorem dL_sets_6 : decode cL_sets 6 = .ok (.idiv, 1) := by decide +kernel
theorem dL_sets_7 : decode cL_sets 7 = .ok (.iadd, 1) := by decide +kernel
theorem dL_sets_8 : decode cL_sets 8 = .ok (.istore 4, 2) := by decide +kernel
theorem dL_sets_10 : decode cL_sets 10 = .ok (.aload_n 0, 1) := by decide +kernel
theorem dL_sets_11 : decode cL_sets 11 = .ok (.iload 4, 2) := by decide +kernel
theorem dL_sets_13 : decode cL_sets 13 = .ok (.aload_n 0, 1) := by decide +kernel
theorem dL_sets_14 : decode cL_sets 14 = .ok (.iload 4, 2) := by decide +kernel
theorem dL_sets_16 : decode cL_sets 16 = .ok (.laload, 1) := by decide +kernel
theorem dL_sets_17 : decode cL_sets 17 = .ok (.ldc2_w 10, 3) := by decide +kernel
theorem dL_sets_20 : decode cL_sets 20 = .ok (.iconst 5, 1) := by decide +kernel
theorem dL_sets_21 : decode cL_sets 21 = .ok (.iload_n 2, 1) := by decide +kernel
theorem dL_sets_22 : decode cL_sets 22 = .ok (.bipush 12, 2) := by decide +kernel
theorem dL_sets_24 : decode cL_sets 24 = .ok (.irem, 1) := by decide +kernel
theorem dL_sets_25 : decode cL_sets 25 = .ok (.imul, 1) := by decide +kernel
theorem dL_sets_26 : decode cL_sets 26 = .ok (.lshl, 1) := by decide +kernel
theorem dL_sets_27 : decode cL_sets 27 = .ok (.ldc2_w 12, 3) := by decide +kernel
theorem dL_sets_30 : decode cL_sets 30 = .ok (.lxor, 1) := by decide +kernel
theorem dL_sets_31 : decode cL_sets 31 = .ok (.land, 1) := by decide +kernel
theorem dL_sets_32 : decode cL_sets 32 = .ok (.iload_n 3, 1) := by decide +kernel
theorem dL_sets_33 : decode cL_sets 33 = .ok (.i2l, 1) := by decide +kernel
theorem dL_sets_34 : decode cL_sets 34 = .ok (.iconst 5, 1) := by decide +kernel
theorem dL_sets_35 : decode cL_sets 35 = .ok (.iload_n 2, 1) := by decide +kernel
theorem dL_sets_36 : decode cL_sets 36 = .ok (.bipush 12, 2) := by decide +kernel
theorem dL_sets_38 : decode cL_sets 38 = .ok (.irem, 1) := by decide +kernel
theorem dL_sets_39 : decode cL_sets 39 = .ok (.imul, 1) := by decide +kernel
theorem dL_sets_40 : decode cL_sets 40 = .ok (.lshl, 1) := by decide +kernel
theorem dL_sets_41 : decode cL_sets 41 = .ok (.lor, 1) := by decide +kernel
theorem dL_sets_42 : decode cL_sets 42 = .ok (.lastore, 1) := by decide +kernel
theorem dL_sets_43 : decode cL_sets 43 = .ok (.return_, 1) := by decide +kernel
theorem dL_value_0 : decode cL_value 0 = .ok (.iload_n 0, 1) := by decide +kernel
theorem dL_value_1 : decode cL_value 1 = .ok (.ldc 14, 2) := by decide +kernel
theorem dL_value_3 : decode cL_value 3 = .ok (.imul, 1) := by decide +kernel
theorem dL_value_4 : decode cL_value 4 = .ok (.iload_n 1, 1) := by decide +kernel
theorem dL_value_5 : decode cL_value 5 = .ok (.bipush 77, 2) := by decide +kernel
theorem dL_value_7 : decode cL_value 7 = .ok (.imul, 1) := by decide +kernel
theorem dL_value_8 : decode cL_value 8 = .ok (.iadd, 1) := by decide +kernel
theorem dL_value_9 : decode cL_value 9 = .ok (.ireturn, 1) := by decide +kernel
theorem dL_begin_0 : decode cL_begin 0 = .ok (.aload_n 0, 1) := by decide +kernel
theorem dL_begin_1 : decode cL_begin 1 = .ok (.invokevirtual 15, 3) := by decide +kernel
theorem dL_begin_4 : decode cL_begin 4 = .ok (.ireturn, 1) := by decide +kernel
theorem dL_begin_5 : decode cL_begin 5 = .ok (.astore_n 1, 1) := by decide +kernel
theorem dL_begin_6 : decode cL_begin 6 = .ok (.ldc 23, 2) := by decide +kernel
theorem dL_begin_8 : decode cL_begin 8 = .ok (.ireturn, 1) := by decide +kernel
theorem dL_put_0 : decode cL_put 0 = .ok (.aload_n 0, 1) := by decide +kernel
theorem dL_put_1 : decode cL_put 1 = .ok (.iload_n 1, 1) := by decide +kernel
theorem dL_put_2 : decode cL_put 2 = .ok (.iload_n 2, 1) := by decide +kernel
theorem dL_put_3 : decode cL_put 3 = .ok (.invokevirtual 24, 3) := by decide +kernel
theorem dL_put_6 : decode cL_put 6 = .ok (.ifCond .eq 7, 3) := by decide +kernel
theorem dL_put_9 : decode cL_put 9 = .ok (.iconst 1, 1) := by decide +kernel
theorem dL_put_10 : decode cL_put 10 = .ok (.goto 4, 3) := by decide +kernel
theorem dL_put_13 : decode cL_put 13 = .ok (.iconst 0, 1) := by decide +kernel
theorem dL_put_14 : decode cL_put 14 = .ok (.ireturn, 1) := by decide +kernel
theorem dL_put_15 : decode cL_put 15 = .ok (.astore_n 3, 1) := by decide +kernel
theorem dL_put_16 : decode cL_put 16 = .ok (.ldc 23, 2) := by decide +kernel
theorem dL_put_18 : decode cL_put 18 = .ok (.ireturn, 1) := by decide +kernel
theorem dL_put_19 : decode cL_put 19 = .ok (.astore_n 3, 1) := by decide +kernel
theorem dL_put_20 : decode cL_put 20 = .ok (.ldc 30, 2) := by decide +kernel
theorem dL_put_22 : decode cL_put 22 = .ok (.ireturn, 1) := by decide +kernel
theorem dL_delete_0 : decode cL_delete 0 = .ok (.aload_n 0, 1) := by decide +kernel
theorem dL_delete_1 : decode cL_delete 1 = .ok (.iload_n 1, 1) := by decide +kernel
theorem dL_delete_2 : decode cL_delete 2 = .ok (.invokevirtual 31, 3) := by decide +kernel
theorem dL_delete_5 : decode cL_delete 5 = .ok (.ireturn, 1) := by decide +kernel
theorem dL_delete_6 : decode cL_delete 6 = .ok (.astore_n 2, 1) := by decide +kernel
theorem dL_delete_7 : decode cL_delete 7 = .ok (.ldc 23, 2) := by decide +kernel
theorem dL_delete_9 : decode cL_delete 9 = .ok (.ireturn, 1) := by decide +kernel
theorem dL_delete_10 : decode cL_delete 10 = .ok (.astore_n 2, 1) := by decide +kernel
theorem dL_delete_11 : decode cL_delete 11 = .ok (.ldc 30, 2) := by decide +kernel
theorem dL_delete_13 : decode cL_delete 13 = .ok (.ireturn, 1) := by decide +kernel
theorem dL_delete_14 : decode cL_delete 14 = .ok (.astore_n 2, 1) := by decide +kernel
theorem dL_delete_15 : decode cL_delete 15 = .ok (.ldc 37, 2) := by decide +kernel
theorem dL_delete_17 : decode cL_delete 17 = .ok (.ireturn, 1) := by decide +kernel
theorem dL_commit_0 : decode cL_commit 0 = .ok (.aload_n 0, 1) := by decide +kernel
theorem dL_commit_1 : decode cL_commit 1 = .ok (.invokevirtual 38, 3) := by decide +kernel
theorem dL_commit_4 : decode cL_commit 4 = .ok (.ireturn, 1) := by decide +kernel
theorem dL_commit_5 : decode cL_commit 5 = .ok (.astore_n 1, 1) := by decide +kernel
theorem dL_commit_6 : decode cL_commit 6 = .ok (.ldc 23, 2) := by decide +kernel
theorem dL_commit_8 : decode cL_commit 8 = .ok (.ireturn, 1) := by decide +kernel
theorem dL_abandon_0 : decode cL_abandon 0 = .ok (.aload_n 0, 1) := by decide +kernel
theorem dL_abandon_1 : decode cL_abandon 1 = .ok (.invokevirtual 41, 3) := by decide +kernel
theorem dL_abandon_4 : decode cL_abandon 4 = .ok (.ireturn, 1) := by decide +kernel
theorem dL_abandon_5 : decode cL_abandon 5 = .ok (.astore_n 1, 1) := by decide +kernel
theorem dL_abandon_6 : decode cL_abandon 6 = .ok (.ldc 23, 2) := by decide +kernel
theorem dL_abandon_8 : decode cL_abandon 8 = .ok (.ireturn, 1) := by decide +kernel
theorem dL_open_0 : decode cL_open 0 = .ok (.aload_n 0, 1) := by decide +kernel
theorem dL_open_1 : decode cL_open 1 = .ok (.invokevirtual 44, 3) := by decide +kernel
theorem dL_open_4 : decode cL_open 4 = .ok (.ireturn, 1) := by decide +kernel
theorem dL_open_5 : decode cL_open 5 = .ok (.astore_n 1, 1) := by decide +kernel
theorem dL_open_6 : decode cL_open 6 = .ok (.ldc 23, 2) := by decide +kernel
theorem dL_open_8 : decode cL_open 8 = .ok (.ireturn, 1) := by decide +kernel
theorem dL_close_0 : decode cL_close 0 = .ok (.aload_n 0, 1) := by decide +kernel
theorem dL_close_1 : decode cL_close 1 = .ok (.iload_n 1, 1) := by decide +kernel
theorem dL_close_2 : decode cL_close 2 = .ok (.invokevirtual 47, 3) := by decide +kernel
theorem dL_close_5 : decode cL_close 5 = .ok (.ireturn, 1) := by decide +kernel
theorem dL_close_6 : decode cL_close 6 = .ok (.astore_n 2, 1) := by decide +kernel
theorem dL_close_7 : decode cL_close 7 = .ok (.ldc 23, 2) := by decide +kernel
theorem dL_close_9 : decode cL_close 9 = .ok (.ireturn, 1) := by decide +kernel
theorem dL_heldBy_0 : decode cL_heldBy 0 = .ok (.aload_n 0, 1) := by decide +kernel
theorem dL_heldBy_1 : decode cL_heldBy 1 = .ok (.iload_n 1, 1) := by decide +kernel
theorem dL_heldBy_2 : decode cL_heldBy 2 = .ok (.invokevirtual 52, 3) := by decide +kernel
theorem dL_heldBy_5 : decode cL_heldBy 5 = .ok (.ireturn, 1) := by decide +kernel
theorem dL_heldBy_6 : decode cL_heldBy 6 = .ok (.astore_n 2, 1) := by decide +kernel
theorem dL_heldBy_7 : decode cL_heldBy 7 = .ok (.ldc 23, 2) := by decide +kernel
theorem dL_heldBy_9 : decode cL_heldBy 9 = .ok (.ireturn, 1) := by decide +kernel
theorem dL_epochOf_0 : decode cL_epochOf 0 = .ok (.aload_n 0, 1) := by decide +kernel
theorem dL_epochOf_1 : decode cL_epochOf 1 = .ok (.iload_n 1, 1) := by decide +kernel
theorem dL_epochOf_2 : decode cL_epochOf 2 = .ok (.invokevirtual 55, 3) := by decide +kernel
theorem dL_epochOf_5 : decode cL_epochOf 5 = .ok (.ireturn, 1) := by decide +kernel
theorem dL_epochOf_6 : decode cL_epochOf 6 = .ok (.astore_n 2, 1) := by decide +kernel
theorem dL_epochOf_7 : decode cL_epochOf 7 = .ok (.ldc 23, 2) := by decide +kernel
theorem dL_epochOf_9 : decode cL_epochOf 9 = .ok (.ireturn, 1) := by decide +kernel
theorem dL_get_0 : decode cL_get 0 = .ok (.aload_n 0, 1) := by decide +kernel
theorem dL_get_1 : decode cL_get 1 = .ok (.iload_n 1, 1) := by decide +kernel
theorem dL_get_2 : decode cL_get 2 = .ok (.iload_n 2, 1) := by decide +kernel
theorem dL_get_3 : decode cL_get 3 = .ok (.invokevirtual 58, 3) := by decide +kernel
theorem dL_get_6 : decode cL_get 6 = .ok (.ireturn, 1) := by decide +kernel
theorem dL_get_7 : decode cL_get 7 = .ok (.astore_n 3, 1) := by decide +kernel
theorem dL_get_8 : decode cL_get 8 = .ok (.ldc 23, 2) := by decide +kernel
theorem dL_get_10 : decode cL_get 10 = .ok (.ireturn, 1) := by decide +kernel
theorem dL_get_11 : decode cL_get 11 = .ok (.astore_n 3, 1) := by decide +kernel
theorem dL_get_12 : decode cL_get 12 = .ok (.ldc 30, 2) := by decide +kernel
theorem dL_get_14 : decode cL_get 14 = .ok (.ireturn, 1) := by decide +kernel
theorem dL_get_15 : decode cL_get 15 = .ok (.astore_n 3, 1) := by decide +kernel
theorem dL_get_16 : decode cL_get 16 = .ok (.ldc 37, 2) := by decide +kernel
theorem dL_get_18 : decode cL_get 18 = .ok (.ireturn, 1) := by decide +kernel
theorem dL_next_0 : decode cL_next 0 = .ok (.aload_n 0, 1) := by decide +kernel
theorem dL_next_1 : decode cL_next 1 = .ok (.iload_n 1, 1) := by decide +kernel
theorem dL_next_2 : decode cL_next 2 = .ok (.iload_n 2, 1) := by decide +kernel
theorem dL_next_3 : decode cL_next 3 = .ok (.invokevirtual 62, 3) := by decide +kernel
theorem dL_next_6 : decode cL_next 6 = .ok (.ireturn, 1) := by decide +kernel
theorem dL_next_7 : decode cL_next 7 = .ok (.astore_n 3, 1) := by decide +kernel
theorem dL_next_8 : decode cL_next 8 = .ok (.ldc 23, 2) := by decide +kernel
theorem dL_next_10 : decode cL_next 10 = .ok (.ireturn, 1) := by decide +kernel
theorem dL_rank_0 : decode cL_rank 0 = .ok (.aload_n 0, 1) := by decide +kernel
theorem dL_rank_1 : decode cL_rank 1 = .ok (.iload_n 1, 1) := by decide +kernel
theorem dL_rank_2 : decode cL_rank 2 = .ok (.iload_n 2, 1) := by decide +kernel
theorem dL_rank_3 : decode cL_rank 3 = .ok (.invokevirtual 65, 3) := by decide +kernel
theorem dL_rank_6 : decode cL_rank 6 = .ok (.ireturn, 1) := by decide +kernel
theorem dL_rank_7 : decode cL_rank 7 = .ok (.astore_n 3, 1) := by decide +kernel
theorem dL_rank_8 : decode cL_rank 8 = .ok (.ldc 23, 2) := by decide +kernel
theorem dL_rank_10 : decode cL_rank 10 = .ok (.ireturn, 1) := by decide +kernel
theorem dL_size_0 : decode cL_size 0 = .ok (.aload_n 0, 1) := by decide +kernel
theorem dL_size_1 : decode cL_size 1 = .ok (.iload_n 1, 1) := by decide +kernel
theorem dL_size_2 : decode cL_size 2 = .ok (.invokevirtual 68, 3) := by decide +kernel
theorem dL_size_5 : decode cL_size 5 = .ok (.ireturn, 1) := by decide +kernel
theorem dL_size_6 : decode cL_size 6 = .ok (.astore_n 2, 1) := by decide +kernel
theorem dL_size_7 : decode cL_size 7 = .ok (.ldc 23, 2) := by decide +kernel
theorem dL_size_9 : decode cL_size 9 = .ok (.ireturn, 1) := by decide +kernel
theorem dL_depth_0 : decode cL_depth 0 = .ok (.aload_n 0, 1) := by decide +kernel
theorem dL_depth_1 : decode cL_depth 1 = .ok (.iload_n 1, 1) := by decide +kernel
theorem dL_depth_2 : decode cL_depth 2 = .ok (.invokevirtual 71, 3) := by decide +kernel
theorem dL_depth_5 : decode cL_depth 5 = .ok (.ireturn, 1) := by decide +kernel
theorem dL_depth_6 : decode cL_depth 6 = .ok (.astore_n 2, 1) := by decide +kernel
theorem dL_depth_7 : decode cL_depth 7 = .ok (.ldc 23, 2) := by decide +kernel
theorem dL_depth_9 : decode cL_depth 9 = .ok (.ireturn, 1) := by decide +kernel
theorem dL_rootOf_0 : decode cL_rootOf 0 = .ok (.aload_n 0, 1) := by decide +kernel
theorem dL_rootOf_1 : decode cL_rootOf 1 = .ok (.iload_n 1, 1) := by decide +kernel
theorem dL_rootOf_2 : decode cL_rootOf 2 = .ok (.invokevirtual 74, 3) := by decide +kernel
theorem dL_rootOf_5 : decode cL_rootOf 5 = .ok (.ireturn, 1) := by decide +kernel
theorem dL_rootOf_6 : decode cL_rootOf 6 = .ok (.astore_n 2, 1) := by decide +kernel
theorem dL_rootOf_7 : decode cL_rootOf 7 = .ok (.ldc 23, 2) := by decide +kernel
theorem dL_rootOf_9 : decode cL_rootOf 9 = .ok (.ireturn, 1) := by decide +kernel
theorem dL_shared_0 : decode cL_shared 0 = .ok (.aload_n 0, 1) := by decide +kernel
theorem dL_shared_1 : decode cL_shared 1 = .ok (.iload_n 1, 1) := by decide +kernel
theorem dL_shared_2 : decode cL_shared 2 = .ok (.iload_n 2, 1) := by decide +kernel
theorem dL_shared_3 : decode cL_shared 3 = .ok (.invokevirtual 77, 3) := by decide +kernel
theorem dL_shared_6 : decode cL_shared 6 = .ok (.ireturn, 1) := by decide +kernel
theorem dL_shared_7 : decode cL_shared 7 = .ok (.astore_n 3, 1) := by decide +kernel
theorem dL_shared_8 : decode cL_shared 8 = .ok (.ldc 23, 2) := by decide +kernel
theorem dL_shared_10 : decode cL_shared 10 = .ok (.ireturn, 1) := by decide +kernel
theorem dL_isFree_0 : decode cL_isFree 0 = .ok (.aload_n 0, 1) := by decide +kernel
theorem dL_isFree_1 : decode cL_isFree 1 = .ok (.iload_n 1, 1) := by decide +kernel
theorem dL_isFree_2 : decode cL_isFree 2 = .ok (.invokevirtual 80, 3) := by decide +kernel
theorem dL_isFree_5 : decode cL_isFree 5 = .ok (.ifCond .eq 7, 3) := by decide +kernel
theorem dL_isFree_8 : decode cL_isFree 8 = .ok (.iconst 1, 1) := by decide +kernel
theorem dL_isFree_9 : decode cL_isFree 9 = .ok (.goto 4, 3) := by decide +kernel
theorem dL_isFree_12 : decode cL_isFree 12 = .ok (.iconst 0, 1) := by decide +kernel
theorem dL_isFree_13 : decode cL_isFree 13 = .ok (.ireturn, 1) := by decide +kernel
theorem dL_isFree_14 : decode cL_isFree 14 = .ok (.astore_n 2, 1) := by decide +kernel
theorem dL_isFree_15 : decode cL_isFree 15 = .ok (.ldc 23, 2) := by decide +kernel
theorem dL_isFree_17 : decode cL_isFree 17 = .ok (.ireturn, 1) := by decide +kernel
theorem dL_entries_0 : decode cL_entries 0 = .ok (.aload_n 0, 1) := by decide +kernel
theorem dL_entries_1 : decode cL_entries 1 = .ok (.iload_n 1, 1) := by decide +kernel
theorem dL_entries_2 : decode cL_entries 2 = .ok (.invokevirtual 84, 3) := by decide +kernel
theorem dL_entries_5 : decode cL_entries 5 = .ok (.ireturn, 1) := by decide +kernel
theorem dL_entries_6 : decode cL_entries 6 = .ok (.astore_n 2, 1) := by decide +kernel
theorem dL_entries_7 : decode cL_entries 7 = .ok (.ldc 23, 2) := by decide +kernel
theorem dL_entries_9 : decode cL_entries 9 = .ok (.ireturn, 1) := by decide +kernel
theorem dL_keyAt_0 : decode cL_keyAt 0 = .ok (.aload_n 0, 1) := by decide +kernel
theorem dL_keyAt_1 : decode cL_keyAt 1 = .ok (.iload_n 1, 1) := by decide +kernel
theorem dL_keyAt_2 : decode cL_keyAt 2 = .ok (.iload_n 2, 1) := by decide +kernel
theorem dL_keyAt_3 : decode cL_keyAt 3 = .ok (.invokevirtual 87, 3) := by decide +kernel
theorem dL_keyAt_6 : decode cL_keyAt 6 = .ok (.ireturn, 1) := by decide +kernel
theorem dL_keyAt_7 : decode cL_keyAt 7 = .ok (.astore_n 3, 1) := by decide +kernel
theorem dL_keyAt_8 : decode cL_keyAt 8 = .ok (.ldc 23, 2) := by decide +kernel
theorem dL_keyAt_10 : decode cL_keyAt 10 = .ok (.ireturn, 1) := by decide +kernel
theorem dL_pageAt_0 : decode cL_pageAt 0 = .ok (.aload_n 0, 1) := by decide +kernel
theorem dL_pageAt_1 : decode cL_pageAt 1 = .ok (.iload_n 1, 1) := by decide +kernel
theorem dL_pageAt_2 : decode cL_pageAt 2 = .ok (.iload_n 2, 1) := by decide +kernel
theorem dL_pageAt_3 : decode cL_pageAt 3 = .ok (.invokevirtual 90, 3) := by decide +kernel
theorem dL_pageAt_6 : decode cL_pageAt 6 = .ok (.ireturn, 1) := by decide +kernel
theorem dL_pageAt_7 : decode cL_pageAt 7 = .ok (.astore_n 3, 1) := by decide +kernel
theorem dL_pageAt_8 : decode cL_pageAt 8 = .ok (.ldc 23, 2) := by decide +kernel
theorem dL_pageAt_10 : decode cL_pageAt 10 = .ok (.ireturn, 1) := by decide +kernel
theorem dL_slotWord_0 : decode cL_slotWord 0 = .ok (.aload_n 0, 1) := by decide +kernel
theorem dL_slotWord_1 : decode cL_slotWord 1 = .ok (.iload_n 1, 1) := by decide +kernel
theorem dL_slotWord_2 : decode cL_slotWord 2 = .ok (.iload_n 2, 1) := by decide +kernel
theorem dL_slotWord_3 : decode cL_slotWord 3 = .ok (.invokevirtual 93, 3) := by decide +kernel
theorem dL_slotWord_6 : decode cL_slotWord 6 = .ok (.lreturn, 1) := by decide +kernel
theorem dL_slotWord_7 : decode cL_slotWord 7 = .ok (.astore_n 3, 1) := by decide +kernel
theorem dL_slotWord_8 : decode cL_slotWord 8 = .ok (.ldc2_w 97, 3) := by decide +kernel
theorem dL_slotWord_11 : decode cL_slotWord 11 = .ok (.lreturn, 1) := by decide +kernel
theorem dL_isWhole_0 : decode cL_isWhole 0 = .ok (.aload_n 0, 1) := by decide +kernel
theorem dL_isWhole_1 : decode cL_isWhole 1 = .ok (.iload_n 1, 1) := by decide +kernel
theorem dL_isWhole_2 : decode cL_isWhole 2 = .ok (.invokevirtual 99, 3) := by decide +kernel
theorem dL_isWhole_5 : decode cL_isWhole 5 = .ok (.ifCond .eq 7, 3) := by decide +kernel
theorem dL_isWhole_8 : decode cL_isWhole 8 = .ok (.iconst 1, 1) := by decide +kernel
theorem dL_isWhole_9 : decode cL_isWhole 9 = .ok (.goto 4, 3) := by decide +kernel
theorem dL_isWhole_12 : decode cL_isWhole 12 = .ok (.iconst 0, 1) := by decide +kernel
theorem dL_isWhole_13 : decode cL_isWhole 13 = .ok (.ireturn, 1) := by decide +kernel
theorem dL_isWhole_14 : decode cL_isWhole 14 = .ok (.astore_n 2, 1) := by decide +kernel
theorem dL_isWhole_15 : decode cL_isWhole 15 = .ok (.ldc 23, 2) := by decide +kernel
theorem dL_isWhole_17 : decode cL_isWhole 17 = .ok (.ireturn, 1) := by decide +kernel
theorem dL_tear_0 : decode cL_tear 0 = .ok (.aload_n 0, 1) := by decide +kernel
theorem dL_tear_1 : decode cL_tear 1 = .ok (.iload_n 1, 1) := by decide +kernel
theorem dL_tear_2 : decode cL_tear 2 = .ok (.invokevirtual 102, 3) := by decide +kernel
theorem dL_tear_5 : decode cL_tear 5 = .ok (.ireturn, 1) := by decide +kernel
theorem dL_tear_6 : decode cL_tear 6 = .ok (.astore_n 2, 1) := by decide +kernel
theorem dL_tear_7 : decode cL_tear 7 = .ok (.ldc 23, 2) := by decide +kernel
theorem dL_tear_9 : decode cL_tear 9 = .ok (.ireturn, 1) := by decide +kernel
theorem dL_tear_10 : decode cL_tear 10 = .ok (.astore_n 2, 1) := by decide +kernel
theorem dL_tear_11 : decode cL_tear 11 = .ok (.ldc 30, 2) := by decide +kernel
theorem dL_tear_13 : decode cL_tear 13 = .ok (.ireturn, 1) := by decide +kernel
theorem dL_crashInCommit_0 : decode cL_crashInCommit 0 = .ok (.aload_n 0, 1) := by decide +kernel
theorem dL_crashInCommit_1 : decode cL_crashInCommit 1 = .ok (.iload_n 1, 1) := by decide +kernel
theorem dL_crashInCommit_2 : decode cL_crashInCommit 2 = .ok (.invokevirtual 105, 3) := by decide +kernel
theorem dL_crashInCommit_5 : decode cL_crashInCommit 5 = .ok (.ireturn, 1) := by decide +kernel
theorem dL_crashInCommit_6 : decode cL_crashInCommit 6 = .ok (.astore_n 2, 1) := by decide +kernel
theorem dL_crashInCommit_7 : decode cL_crashInCommit 7 = .ok (.ldc 23, 2) := by decide +kernel
theorem dL_crashInCommit_9 : decode cL_crashInCommit 9 = .ok (.ireturn, 1) := by decide +kernel
theorem dL_crashInCommit_10 : decode cL_crashInCommit 10 = .ok (.astore_n 2, 1) := by decide +kernel
theorem dL_crashInCommit_11 : decode cL_crashInCommit 11 = .ok (.ldc 30, 2) := by decide +kernel
theorem dL_crashInCommit_13 : decode cL_crashInCommit 13 = .ok (.ireturn, 1) := by decide +kernel
theorem dL_print_0 : decode cL_print 0 = .ok (.ldc2_w 108, 3) := by decide +kernel
theorem dL_print_3 : decode cL_print 3 = .ok (.aload_n 0, 1) := by decide +kernel
theorem dL_print_4 : decode cL_print 4 = .ok (.invokevirtual 110, 3) := by decide +kernel
theorem dL_print_7 : decode cL_print 7 = .ok (.i2l, 1) := by decide +kernel
theorem dL_print_8 : decode cL_print 8 = .ok (.lmul, 1) := by decide +kernel
theorem dL_print_9 : decode cL_print 9 = .ok (.aload_n 0, 1) := by decide +kernel
theorem dL_print_10 : decode cL_print 10 = .ok (.invokevirtual 113, 3) := by decide +kernel
theorem dL_print_13 : decode cL_print 13 = .ok (.i2l, 1) := by decide +kernel
theorem dL_print_14 : decode cL_print 14 = .ok (.ladd, 1) := by decide +kernel
theorem dL_print_15 : decode cL_print 15 = .ok (.lstore_n 1, 1) := by decide +kernel
theorem dL_print_16 : decode cL_print 16 = .ok (.ldc2_w 108, 3) := by decide +kernel
theorem dL_print_19 : decode cL_print 19 = .ok (.ldc2_w 108, 3) := by decide +kernel
theorem dL_print_22 : decode cL_print 22 = .ok (.lload_n 1, 1) := by decide +kernel
theorem dL_print_23 : decode cL_print 23 = .ok (.lmul, 1) := by decide +kernel
theorem dL_print_24 : decode cL_print 24 = .ok (.aload_n 0, 1) := by decide +kernel
theorem dL_print_25 : decode cL_print 25 = .ok (.invokevirtual 116, 3) := by decide +kernel
theorem dL_print_28 : decode cL_print 28 = .ok (.i2l, 1) := by decide +kernel
theorem dL_print_29 : decode cL_print 29 = .ok (.ladd, 1) := by decide +kernel
theorem dL_print_30 : decode cL_print 30 = .ok (.lmul, 1) := by decide +kernel
theorem dL_print_31 : decode cL_print 31 = .ok (.aload_n 0, 1) := by decide +kernel
theorem dL_print_32 : decode cL_print 32 = .ok (.invokevirtual 119, 3) := by decide +kernel
theorem dL_print_35 : decode cL_print 35 = .ok (.ifCond .eq 7, 3) := by decide +kernel
theorem dL_print_38 : decode cL_print 38 = .ok (.iconst 5, 1) := by decide +kernel
theorem dL_print_39 : decode cL_print 39 = .ok (.goto 4, 3) := by decide +kernel
theorem dL_print_42 : decode cL_print 42 = .ok (.iconst 0, 1) := by decide +kernel
theorem dL_print_43 : decode cL_print 43 = .ok (.i2l, 1) := by decide +kernel
theorem dL_print_44 : decode cL_print 44 = .ok (.ladd, 1) := by decide +kernel
theorem dL_print_45 : decode cL_print 45 = .ok (.aload_n 0, 1) := by decide +kernel
theorem dL_print_46 : decode cL_print 46 = .ok (.invokevirtual 123, 3) := by decide +kernel
theorem dL_print_49 : decode cL_print 49 = .ok (.i2l, 1) := by decide +kernel
theorem dL_print_50 : decode cL_print 50 = .ok (.ladd, 1) := by decide +kernel
theorem dL_print_51 : decode cL_print 51 = .ok (.lstore_n 1, 1) := by decide +kernel
theorem dL_print_52 : decode cL_print 52 = .ok (.iconst 0, 1) := by decide +kernel
theorem dL_print_53 : decode cL_print 53 = .ok (.istore_n 3, 1) := by decide +kernel
theorem dL_print_54 : decode cL_print 54 = .ok (.iload_n 3, 1) := by decide +kernel
theorem dL_print_55 : decode cL_print 55 = .ok (.bipush 8, 2) := by decide +kernel
theorem dL_print_57 : decode cL_print 57 = .ok (.if_icmp .ge 26, 3) := by decide +kernel
theorem dL_print_60 : decode cL_print 60 = .ok (.ldc2_w 108, 3) := by decide +kernel
theorem dL_print_63 : decode cL_print 63 = .ok (.lload_n 1, 1) := by decide +kernel
theorem dL_print_64 : decode cL_print 64 = .ok (.lmul, 1) := by decide +kernel
theorem dL_print_65 : decode cL_print 65 = .ok (.aload_n 0, 1) := by decide +kernel
theorem dL_print_66 : decode cL_print 66 = .ok (.iload_n 3, 1) := by decide +kernel
theorem dL_print_67 : decode cL_print 67 = .ok (.iconst 4, 1) := by decide +kernel
theorem dL_print_68 : decode cL_print 68 = .ok (.idiv, 1) := by decide +kernel
theorem dL_print_69 : decode cL_print 69 = .ok (.iload_n 3, 1) := by decide +kernel
theorem dL_print_70 : decode cL_print 70 = .ok (.iconst 4, 1) := by decide +kernel
theorem dL_print_71 : decode cL_print 71 = .ok (.irem, 1) := by decide +kernel
theorem dL_print_72 : decode cL_print 72 = .ok (.invokestatic 126, 3) := by decide +kernel
theorem dL_print_75 : decode cL_print 75 = .ok (.ladd, 1) := by decide +kernel
theorem dL_print_76 : decode cL_print 76 = .ok (.lstore_n 1, 1) := by decide +kernel
theorem dL_print_77 : decode cL_print 77 = .ok (.iinc 3 1, 3) := by decide +kernel
theorem dL_print_80 : decode cL_print 80 = .ok (.goto (-26), 3) := by decide +kernel
theorem dL_print_83 : decode cL_print 83 = .ok (.iconst (-1), 1) := by decide +kernel
theorem dL_print_84 : decode cL_print 84 = .ok (.istore_n 3, 1) := by decide +kernel
theorem dL_print_85 : decode cL_print 85 = .ok (.iload_n 3, 1) := by decide +kernel
theorem dL_print_86 : decode cL_print 86 = .ok (.iconst 4, 1) := by decide +kernel
theorem dL_print_87 : decode cL_print 87 = .ok (.if_icmp .ge 44, 3) := by decide +kernel
theorem dL_print_90 : decode cL_print 90 = .ok (.ldc2_w 108, 3) := by decide +kernel
theorem dL_print_93 : decode cL_print 93 = .ok (.ldc2_w 108, 3) := by decide +kernel
theorem dL_print_96 : decode cL_print 96 = .ok (.ldc2_w 108, 3) := by decide +kernel
theorem dL_print_99 : decode cL_print 99 = .ok (.lload_n 1, 1) := by decide +kernel
theorem dL_print_100 : decode cL_print 100 = .ok (.lmul, 1) := by decide +kernel
theorem dL_print_101 : decode cL_print 101 = .ok (.aload_n 0, 1) := by decide +kernel
theorem dL_print_102 : decode cL_print 102 = .ok (.iload_n 3, 1) := by decide +kernel
theorem dL_print_103 : decode cL_print 103 = .ok (.invokestatic 131, 3) := by decide +kernel
theorem dL_print_106 : decode cL_print 106 = .ok (.i2l, 1) := by decide +kernel
theorem dL_print_107 : decode cL_print 107 = .ok (.ladd, 1) := by decide +kernel
theorem dL_print_108 : decode cL_print 108 = .ok (.lmul, 1) := by decide +kernel
theorem dL_print_109 : decode cL_print 109 = .ok (.aload_n 0, 1) := by decide +kernel
theorem dL_print_110 : decode cL_print 110 = .ok (.iload_n 3, 1) := by decide +kernel
theorem dL_print_111 : decode cL_print 111 = .ok (.invokestatic 134, 3) := by decide +kernel
theorem dL_print_114 : decode cL_print 114 = .ok (.i2l, 1) := by decide +kernel
theorem dL_print_115 : decode cL_print 115 = .ok (.ladd, 1) := by decide +kernel
theorem dL_print_116 : decode cL_print 116 = .ok (.lmul, 1) := by decide +kernel
theorem dL_print_117 : decode cL_print 117 = .ok (.aload_n 0, 1) := by decide +kernel
theorem dL_print_118 : decode cL_print 118 = .ok (.iload_n 3, 1) := by decide +kernel
theorem dL_print_119 : decode cL_print 119 = .ok (.invokestatic 136, 3) := by decide +kernel
theorem dL_print_122 : decode cL_print 122 = .ok (.i2l, 1) := by decide +kernel
theorem dL_print_123 : decode cL_print 123 = .ok (.ladd, 1) := by decide +kernel
theorem dL_print_124 : decode cL_print 124 = .ok (.lstore_n 1, 1) := by decide +kernel
theorem dL_print_125 : decode cL_print 125 = .ok (.iinc 3 1, 3) := by decide +kernel
theorem dL_print_128 : decode cL_print 128 = .ok (.goto (-43), 3) := by decide +kernel
theorem dL_print_131 : decode cL_print 131 = .ok (.iconst 0, 1) := by decide +kernel
theorem dL_print_132 : decode cL_print 132 = .ok (.istore_n 3, 1) := by decide +kernel
theorem dL_print_133 : decode cL_print 133 = .ok (.iload_n 3, 1) := by decide +kernel
theorem dL_print_134 : decode cL_print 134 = .ok (.bipush 60, 2) := by decide +kernel
theorem dL_print_136 : decode cL_print 136 = .ok (.if_icmp .ge 70, 3) := by decide +kernel
theorem dL_print_139 : decode cL_print 139 = .ok (.aload_n 0, 1) := by decide +kernel
theorem dL_print_140 : decode cL_print 140 = .ok (.iload_n 3, 1) := by decide +kernel
theorem dL_print_141 : decode cL_print 141 = .ok (.invokestatic 138, 3) := by decide +kernel
theorem dL_print_144 : decode cL_print 144 = .ok (.istore 4, 2) := by decide +kernel
theorem dL_print_146 : decode cL_print 146 = .ok (.ldc2_w 108, 3) := by decide +kernel
theorem dL_print_149 : decode cL_print 149 = .ok (.lload_n 1, 1) := by decide +kernel
theorem dL_print_150 : decode cL_print 150 = .ok (.lmul, 1) := by decide +kernel
theorem dL_print_151 : decode cL_print 151 = .ok (.iload 4, 2) := by decide +kernel
theorem dL_print_153 : decode cL_print 153 = .ok (.i2l, 1) := by decide +kernel
theorem dL_print_154 : decode cL_print 154 = .ok (.ladd, 1) := by decide +kernel
theorem dL_print_155 : decode cL_print 155 = .ok (.lstore_n 1, 1) := by decide +kernel
theorem dL_print_156 : decode cL_print 156 = .ok (.iconst 0, 1) := by decide +kernel
theorem dL_print_157 : decode cL_print 157 = .ok (.istore 5, 2) := by decide +kernel
theorem dL_print_159 : decode cL_print 159 = .ok (.iload 5, 2) := by decide +kernel
theorem dL_print_161 : decode cL_print 161 = .ok (.iload 4, 2) := by decide +kernel
theorem dL_print_163 : decode cL_print 163 = .ok (.if_icmp .ge 37, 3) := by decide +kernel
theorem dL_print_166 : decode cL_print 166 = .ok (.ldc2_w 108, 3) := by decide +kernel
theorem dL_print_169 : decode cL_print 169 = .ok (.ldc2_w 108, 3) := by decide +kernel
theorem dL_print_172 : decode cL_print 172 = .ok (.lload_n 1, 1) := by decide +kernel
theorem dL_print_173 : decode cL_print 173 = .ok (.lmul, 1) := by decide +kernel
theorem dL_print_174 : decode cL_print 174 = .ok (.aload_n 0, 1) := by decide +kernel
theorem dL_print_175 : decode cL_print 175 = .ok (.iload_n 3, 1) := by decide +kernel
theorem dL_print_176 : decode cL_print 176 = .ok (.iload 5, 2) := by decide +kernel
theorem dL_print_178 : decode cL_print 178 = .ok (.invokestatic 140, 3) := by decide +kernel
theorem dL_print_181 : decode cL_print 181 = .ok (.i2l, 1) := by decide +kernel
theorem dL_print_182 : decode cL_print 182 = .ok (.ladd, 1) := by decide +kernel
theorem dL_print_183 : decode cL_print 183 = .ok (.lmul, 1) := by decide +kernel
theorem dL_print_184 : decode cL_print 184 = .ok (.aload_n 0, 1) := by decide +kernel
theorem dL_print_185 : decode cL_print 185 = .ok (.iload_n 3, 1) := by decide +kernel
theorem dL_print_186 : decode cL_print 186 = .ok (.iload 5, 2) := by decide +kernel
theorem dL_print_188 : decode cL_print 188 = .ok (.invokestatic 143, 3) := by decide +kernel
theorem dL_print_191 : decode cL_print 191 = .ok (.i2l, 1) := by decide +kernel
theorem dL_print_192 : decode cL_print 192 = .ok (.ladd, 1) := by decide +kernel
theorem dL_print_193 : decode cL_print 193 = .ok (.lstore_n 1, 1) := by decide +kernel
theorem dL_print_194 : decode cL_print 194 = .ok (.iinc 5 1, 3) := by decide +kernel
theorem dL_print_197 : decode cL_print 197 = .ok (.goto (-38), 3) := by decide +kernel
theorem dL_print_200 : decode cL_print 200 = .ok (.iinc 3 1, 3) := by decide +kernel
theorem dL_print_203 : decode cL_print 203 = .ok (.goto (-70), 3) := by decide +kernel
theorem dL_print_206 : decode cL_print 206 = .ok (.lload_n 1, 1) := by decide +kernel
theorem dL_print_207 : decode cL_print 207 = .ok (.lreturn, 1) := by decide +kernel
theorem dL_first_0 : decode cL_first 0 = .ok (.iload_n 1, 1) := by decide +kernel
theorem dL_first_1 : decode cL_first 1 = .ok (.istore_n 2, 1) := by decide +kernel
theorem dL_first_2 : decode cL_first 2 = .ok (.iconst 0, 1) := by decide +kernel
theorem dL_first_3 : decode cL_first 3 = .ok (.istore_n 3, 1) := by decide +kernel
theorem dL_first_4 : decode cL_first 4 = .ok (.iload_n 3, 1) := by decide +kernel
theorem dL_first_5 : decode cL_first 5 = .ok (.bipush 9, 2) := by decide +kernel
theorem dL_first_7 : decode cL_first 7 = .ok (.if_icmp .ge 25, 3) := by decide +kernel
theorem dL_first_10 : decode cL_first 10 = .ok (.aload_n 0, 1) := by decide +kernel
theorem dL_first_11 : decode cL_first 11 = .ok (.iload_n 2, 1) := by decide +kernel
theorem dL_first_12 : decode cL_first 12 = .ok (.iconst 0, 1) := by decide +kernel
theorem dL_first_13 : decode cL_first 13 = .ok (.invokestatic 143, 3) := by decide +kernel
theorem dL_first_16 : decode cL_first 16 = .ok (.ifCond .lt 16, 3) := by decide +kernel
theorem dL_first_19 : decode cL_first 19 = .ok (.aload_n 0, 1) := by decide +kernel
theorem dL_first_20 : decode cL_first 20 = .ok (.iload_n 2, 1) := by decide +kernel
theorem dL_first_21 : decode cL_first 21 = .ok (.iconst 0, 1) := by decide +kernel
theorem dL_first_22 : decode cL_first 22 = .ok (.invokestatic 143, 3) := by decide +kernel
theorem dL_first_25 : decode cL_first 25 = .ok (.istore_n 2, 1) := by decide +kernel
theorem dL_first_26 : decode cL_first 26 = .ok (.iinc 3 1, 3) := by decide +kernel
theorem dL_first_29 : decode cL_first 29 = .ok (.goto (-25), 3) := by decide +kernel
theorem dL_first_32 : decode cL_first 32 = .ok (.aload_n 0, 1) := by decide +kernel
theorem dL_first_33 : decode cL_first 33 = .ok (.iload_n 2, 1) := by decide +kernel
theorem dL_first_34 : decode cL_first 34 = .ok (.iconst 0, 1) := by decide +kernel
theorem dL_first_35 : decode cL_first 35 = .ok (.invokestatic 140, 3) := by decide +kernel
theorem dL_first_38 : decode cL_first 38 = .ok (.ireturn, 1) := by decide +kernel
theorem dL_walks_0 : decode cL_walks 0 = .ok (.bipush 64, 2) := by decide +kernel
theorem dL_walks_2 : decode cL_walks 2 = .ok (.newarray .int, 2) := by decide +kernel
theorem dL_walks_4 : decode cL_walks 4 = .ok (.astore 4, 2) := by decide +kernel
theorem dL_walks_6 : decode cL_walks 6 = .ok (.bipush 64, 2) := by decide +kernel
theorem dL_walks_8 : decode cL_walks 8 = .ok (.newarray .int, 2) := by decide +kernel
theorem dL_walks_10 : decode cL_walks 10 = .ok (.astore 5, 2) := by decide +kernel
theorem dL_walks_12 : decode cL_walks 12 = .ok (.iconst 1, 1) := by decide +kernel
theorem dL_walks_13 : decode cL_walks 13 = .ok (.istore 6, 2) := by decide +kernel
theorem dL_walks_15 : decode cL_walks 15 = .ok (.aload_n 2, 1) := by decide +kernel
theorem dL_walks_16 : decode cL_walks 16 = .ok (.iconst 0, 1) := by decide +kernel
theorem dL_walks_17 : decode cL_walks 17 = .ok (.iconst 0, 1) := by decide +kernel
theorem dL_walks_18 : decode cL_walks 18 = .ok (.iastore, 1) := by decide +kernel
theorem dL_walks_19 : decode cL_walks 19 = .ok (.aload 4, 2) := by decide +kernel
theorem dL_walks_21 : decode cL_walks 21 = .ok (.iconst 0, 1) := by decide +kernel
theorem dL_walks_22 : decode cL_walks 22 = .ok (.iload_n 1, 1) := by decide +kernel
theorem dL_walks_23 : decode cL_walks 23 = .ok (.iastore, 1) := by decide +kernel
theorem dL_walks_24 : decode cL_walks 24 = .ok (.iconst 1, 1) := by decide +kernel
theorem dL_walks_25 : decode cL_walks 25 = .ok (.istore 7, 2) := by decide +kernel
theorem dL_walks_27 : decode cL_walks 27 = .ok (.iload 7, 2) := by decide +kernel
theorem dL_walks_29 : decode cL_walks 29 = .ok (.bipush 9, 2) := by decide +kernel
theorem dL_walks_31 : decode cL_walks 31 = .ok (.if_icmp .ge 335, 3) := by decide +kernel
theorem dL_walks_34 : decode cL_walks 34 = .ok (.aload_n 0, 1) := by decide +kernel
theorem dL_walks_35 : decode cL_walks 35 = .ok (.aload 4, 2) := by decide +kernel
theorem dL_walks_37 : decode cL_walks 37 = .ok (.iconst 0, 1) := by decide +kernel
theorem dL_walks_38 : decode cL_walks 38 = .ok (.iaload, 1) := by decide +kernel
theorem dL_walks_39 : decode cL_walks 39 = .ok (.iconst 0, 1) := by decide +kernel
theorem dL_walks_40 : decode cL_walks 40 = .ok (.invokestatic 143, 3) := by decide +kernel
theorem dL_walks_43 : decode cL_walks 43 = .ok (.ifCond .lt 7, 3) := by decide +kernel
theorem dL_walks_46 : decode cL_walks 46 = .ok (.iconst 1, 1) := by decide +kernel
theorem dL_walks_47 : decode cL_walks 47 = .ok (.goto 4, 3) := by decide +kernel
theorem dL_walks_50 : decode cL_walks 50 = .ok (.iconst 0, 1) := by decide +kernel
theorem dL_walks_51 : decode cL_walks 51 = .ok (.istore 8, 2) := by decide +kernel
theorem dL_walks_53 : decode cL_walks 53 = .ok (.iconst 0, 1) := by decide +kernel
theorem dL_walks_54 : decode cL_walks 54 = .ok (.istore 9, 2) := by decide +kernel
theorem dL_walks_56 : decode cL_walks 56 = .ok (.iconst 0, 1) := by decide +kernel
theorem dL_walks_57 : decode cL_walks 57 = .ok (.istore 10, 2) := by decide +kernel
theorem dL_walks_59 : decode cL_walks 59 = .ok (.iload 10, 2) := by decide +kernel
theorem dL_walks_61 : decode cL_walks 61 = .ok (.iload 6, 2) := by decide +kernel
theorem dL_walks_63 : decode cL_walks 63 = .ok (.if_icmp .ge 259, 3) := by decide +kernel
theorem dL_walks_66 : decode cL_walks 66 = .ok (.aload 4, 2) := by decide +kernel
theorem dL_walks_68 : decode cL_walks 68 = .ok (.iload 10, 2) := by decide +kernel
theorem dL_walks_70 : decode cL_walks 70 = .ok (.iaload, 1) := by decide +kernel
theorem dL_walks_71 : decode cL_walks 71 = .ok (.istore 11, 2) := by decide +kernel
theorem dL_walks_73 : decode cL_walks 73 = .ok (.iload 11, 2) := by decide +kernel
theorem dL_walks_75 : decode cL_walks 75 = .ok (.ifCond .lt 11, 3) := by decide +kernel
theorem dL_walks_78 : decode cL_walks 78 = .ok (.iload 11, 2) := by decide +kernel
theorem dL_walks_80 : decode cL_walks 80 = .ok (.sipush 768, 3) := by decide +kernel
theorem dL_walks_83 : decode cL_walks 83 = .ok (.if_icmp .lt 7, 3) := by decide +kernel
theorem dL_walks_86 : decode cL_walks 86 = .ok (.iconst (-1), 1) := by decide +kernel
theorem dL_walks_87 : decode cL_walks 87 = .ok (.goto 9, 3) := by decide +kernel
theorem dL_walks_90 : decode cL_walks 90 = .ok (.aload_n 0, 1) := by decide +kernel
theorem dL_walks_91 : decode cL_walks 91 = .ok (.iload 11, 2) := by decide +kernel
theorem dL_walks_93 : decode cL_walks 93 = .ok (.invokestatic 138, 3) := by decide +kernel
theorem dL_walks_96 : decode cL_walks 96 = .ok (.istore 12, 2) := by decide +kernel
theorem dL_walks_98 : decode cL_walks 98 = .ok (.iload 12, 2) := by decide +kernel
theorem dL_walks_100 : decode cL_walks 100 = .ok (.ifCond .lt 51, 3) := by decide +kernel
theorem dL_walks_103 : decode cL_walks 103 = .ok (.iload 12, 2) := by decide +kernel
theorem dL_walks_105 : decode cL_walks 105 = .ok (.iconst 4, 1) := by decide +kernel
theorem dL_walks_106 : decode cL_walks 106 = .ok (.if_icmp .gt 45, 3) := by decide +kernel
theorem dL_walks_109 : decode cL_walks 109 = .ok (.iload 12, 2) := by decide +kernel
theorem dL_walks_111 : decode cL_walks 111 = .ok (.iconst 2, 1) := by decide +kernel
theorem dL_walks_112 : decode cL_walks 112 = .ok (.if_icmp .ge 14, 3) := by decide +kernel
theorem dL_walks_115 : decode cL_walks 115 = .ok (.iload 8, 2) := by decide +kernel
theorem dL_walks_117 : decode cL_walks 117 = .ok (.ifCond .ne 34, 3) := by decide +kernel
theorem dL_walks_120 : decode cL_walks 120 = .ok (.iload 7, 2) := by decide +kernel
theorem dL_walks_122 : decode cL_walks 122 = .ok (.iconst 1, 1) := by decide +kernel
theorem dL_walks_123 : decode cL_walks 123 = .ok (.if_icmp .gt 28, 3) := by decide +kernel
theorem dL_walks_126 : decode cL_walks 126 = .ok (.aload_n 0, 1) := by decide +kernel
theorem dL_walks_127 : decode cL_walks 127 = .ok (.iload 11, 2) := by decide +kernel
theorem dL_walks_129 : decode cL_walks 129 = .ok (.iload 12, 2) := by decide +kernel
theorem dL_walks_131 : decode cL_walks 131 = .ok (.invokestatic 143, 3) := by decide +kernel
theorem dL_walks_134 : decode cL_walks 134 = .ok (.ldc 23, 2) := by decide +kernel
theorem dL_walks_136 : decode cL_walks 136 = .ok (.if_icmp .ne 15, 3) := by decide +kernel
theorem dL_walks_139 : decode cL_walks 139 = .ok (.aload_n 0, 1) := by decide +kernel
theorem dL_walks_140 : decode cL_walks 140 = .ok (.iload 11, 2) := by decide +kernel
theorem dL_walks_142 : decode cL_walks 142 = .ok (.iconst (-1), 1) := by decide +kernel
theorem dL_walks_143 : decode cL_walks 143 = .ok (.invokestatic 140, 3) := by decide +kernel
theorem dL_walks_146 : decode cL_walks 146 = .ok (.ldc 23, 2) := by decide +kernel
theorem dL_walks_148 : decode cL_walks 148 = .ok (.if_icmp .eq 5, 3) := by decide +kernel
theorem dL_walks_151 : decode cL_walks 151 = .ok (.iconst 0, 1) := by decide +kernel
theorem dL_walks_152 : decode cL_walks 152 = .ok (.ireturn, 1) := by decide +kernel
theorem dL_walks_153 : decode cL_walks 153 = .ok (.aload_n 3, 1) := by decide +kernel
theorem dL_walks_154 : decode cL_walks 154 = .ok (.iload 11, 2) := by decide +kernel
theorem dL_walks_156 : decode cL_walks 156 = .ok (.bipush 64, 2) := by decide +kernel
theorem dL_walks_158 : decode cL_walks 158 = .ok (.idiv, 1) := by decide +kernel
theorem dL_walks_159 : decode cL_walks 159 = .ok (.dup2, 1) := by decide +kernel
theorem dL_walks_160 : decode cL_walks 160 = .ok (.laload, 1) := by decide +kernel
theorem dL_walks_161 : decode cL_walks 161 = .ok (.lconst 1, 1) := by decide +kernel
theorem dL_walks_162 : decode cL_walks 162 = .ok (.iload 11, 2) := by decide +kernel
theorem dL_walks_164 : decode cL_walks 164 = .ok (.bipush 64, 2) := by decide +kernel
theorem dL_walks_166 : decode cL_walks 166 = .ok (.irem, 1) := by decide +kernel
theorem dL_walks_167 : decode cL_walks 167 = .ok (.lshl, 1) := by decide +kernel
theorem dL_walks_168 : decode cL_walks 168 = .ok (.lor, 1) := by decide +kernel
theorem dL_walks_169 : decode cL_walks 169 = .ok (.lastore, 1) := by decide +kernel
theorem dL_walks_170 : decode cL_walks 170 = .ok (.iconst 0, 1) := by decide +kernel
theorem dL_walks_171 : decode cL_walks 171 = .ok (.istore 13, 2) := by decide +kernel
theorem dL_walks_173 : decode cL_walks 173 = .ok (.iload 13, 2) := by decide +kernel
theorem dL_walks_175 : decode cL_walks 175 = .ok (.iload 12, 2) := by decide +kernel
theorem dL_walks_177 : decode cL_walks 177 = .ok (.if_icmp .ge 139, 3) := by decide +kernel
theorem dL_walks_180 : decode cL_walks 180 = .ok (.aload_n 0, 1) := by decide +kernel
theorem dL_walks_181 : decode cL_walks 181 = .ok (.iload 11, 2) := by decide +kernel
theorem dL_walks_183 : decode cL_walks 183 = .ok (.iload 13, 2) := by decide +kernel
theorem dL_walks_185 : decode cL_walks 185 = .ok (.invokestatic 143, 3) := by decide +kernel
theorem dL_walks_188 : decode cL_walks 188 = .ok (.istore 14, 2) := by decide +kernel
theorem dL_walks_190 : decode cL_walks 190 = .ok (.aload_n 0, 1) := by decide +kernel
theorem dL_walks_191 : decode cL_walks 191 = .ok (.iload 11, 2) := by decide +kernel
theorem dL_walks_193 : decode cL_walks 193 = .ok (.iload 13, 2) := by decide +kernel
theorem dL_walks_195 : decode cL_walks 195 = .ok (.invokestatic 140, 3) := by decide +kernel
theorem dL_walks_198 : decode cL_walks 198 = .ok (.istore 15, 2) := by decide +kernel
theorem dL_walks_200 : decode cL_walks 200 = .ok (.iload 14, 2) := by decide +kernel
theorem dL_walks_202 : decode cL_walks 202 = .ok (.ifCond .lt 7, 3) := by decide +kernel
theorem dL_walks_205 : decode cL_walks 205 = .ok (.iconst 1, 1) := by decide +kernel
theorem dL_walks_206 : decode cL_walks 206 = .ok (.goto 4, 3) := by decide +kernel
theorem dL_walks_209 : decode cL_walks 209 = .ok (.iconst 0, 1) := by decide +kernel
theorem dL_walks_210 : decode cL_walks 210 = .ok (.iload 8, 2) := by decide +kernel
theorem dL_walks_212 : decode cL_walks 212 = .ok (.if_icmp .ne 18, 3) := by decide +kernel
theorem dL_walks_215 : decode cL_walks 215 = .ok (.iload 9, 2) := by decide +kernel
theorem dL_walks_217 : decode cL_walks 217 = .ok (.bipush 62, 2) := by decide +kernel
theorem dL_walks_219 : decode cL_walks 219 = .ok (.if_icmp .gt 11, 3) := by decide +kernel
theorem dL_walks_222 : decode cL_walks 222 = .ok (.aload_n 2, 1) := by decide +kernel
theorem dL_walks_223 : decode cL_walks 223 = .ok (.iconst 0, 1) := by decide +kernel
theorem dL_walks_224 : decode cL_walks 224 = .ok (.iaload, 1) := by decide +kernel
theorem dL_walks_225 : decode cL_walks 225 = .ok (.bipush 62, 2) := by decide +kernel
theorem dL_walks_227 : decode cL_walks 227 = .ok (.if_icmp .le 5, 3) := by decide +kernel
theorem dL_walks_230 : decode cL_walks 230 = .ok (.iconst 0, 1) := by decide +kernel
theorem dL_walks_231 : decode cL_walks 231 = .ok (.ireturn, 1) := by decide +kernel
theorem dL_walks_232 : decode cL_walks 232 = .ok (.iload 8, 2) := by decide +kernel
theorem dL_walks_234 : decode cL_walks 234 = .ok (.ifCond .eq 16, 3) := by decide +kernel
theorem dL_walks_237 : decode cL_walks 237 = .ok (.aload 5, 2) := by decide +kernel
theorem dL_walks_239 : decode cL_walks 239 = .ok (.iload 9, 2) := by decide +kernel
theorem dL_walks_241 : decode cL_walks 241 = .ok (.iload 14, 2) := by decide +kernel
theorem dL_walks_243 : decode cL_walks 243 = .ok (.iastore, 1) := by decide +kernel
theorem dL_walks_244 : decode cL_walks 244 = .ok (.iinc 9 1, 3) := by decide +kernel
theorem dL_walks_247 : decode cL_walks 247 = .ok (.goto 17, 3) := by decide +kernel
theorem dL_walks_250 : decode cL_walks 250 = .ok (.aload_n 2, 1) := by decide +kernel
theorem dL_walks_251 : decode cL_walks 251 = .ok (.iconst 0, 1) := by decide +kernel
theorem dL_walks_252 : decode cL_walks 252 = .ok (.dup2, 1) := by decide +kernel
theorem dL_walks_253 : decode cL_walks 253 = .ok (.iaload, 1) := by decide +kernel
theorem dL_walks_254 : decode cL_walks 254 = .ok (.iconst 1, 1) := by decide +kernel
theorem dL_walks_255 : decode cL_walks 255 = .ok (.iadd, 1) := by decide +kernel
theorem dL_walks_256 : decode cL_walks 256 = .ok (.iastore, 1) := by decide +kernel
theorem dL_walks_257 : decode cL_walks 257 = .ok (.aload_n 2, 1) := by decide +kernel
theorem dL_walks_258 : decode cL_walks 258 = .ok (.aload_n 2, 1) := by decide +kernel
theorem dL_walks_259 : decode cL_walks 259 = .ok (.iconst 0, 1) := by decide +kernel
theorem dL_walks_260 : decode cL_walks 260 = .ok (.iaload, 1) := by decide +kernel
theorem dL_walks_261 : decode cL_walks 261 = .ok (.iload 15, 2) := by decide +kernel
theorem dL_walks_263 : decode cL_walks 263 = .ok (.iastore, 1) := by decide +kernel
theorem dL_walks_264 : decode cL_walks 264 = .ok (.iload 8, 2) := by decide +kernel
theorem dL_walks_266 : decode cL_walks 266 = .ok (.ifCond .eq 17, 3) := by decide +kernel
theorem dL_walks_269 : decode cL_walks 269 = .ok (.iload 15, 2) := by decide +kernel
theorem dL_walks_271 : decode cL_walks 271 = .ok (.aload_n 0, 1) := by decide +kernel
theorem dL_walks_272 : decode cL_walks 272 = .ok (.iload 14, 2) := by decide +kernel
theorem dL_walks_274 : decode cL_walks 274 = .ok (.invokestatic 145, 3) := by decide +kernel
theorem dL_walks_277 : decode cL_walks 277 = .ok (.if_icmp .eq 33, 3) := by decide +kernel
theorem dL_walks_280 : decode cL_walks 280 = .ok (.goto 28, 3) := by decide +kernel
theorem dL_walks_283 : decode cL_walks 283 = .ok (.iload 14, 2) := by decide +kernel
theorem dL_walks_285 : decode cL_walks 285 = .ok (.iconst (-1), 1) := by decide +kernel
theorem dL_walks_286 : decode cL_walks 286 = .ok (.if_icmp .ne 22, 3) := by decide +kernel
theorem dL_walks_289 : decode cL_walks 289 = .ok (.aload_n 2, 1) := by decide +kernel
theorem dL_walks_290 : decode cL_walks 290 = .ok (.iconst 0, 1) := by decide +kernel
theorem dL_walks_291 : decode cL_walks 291 = .ok (.iaload, 1) := by decide +kernel
theorem dL_walks_292 : decode cL_walks 292 = .ok (.iconst 1, 1) := by decide +kernel
theorem dL_walks_293 : decode cL_walks 293 = .ok (.if_icmp .le 17, 3) := by decide +kernel
theorem dL_walks_296 : decode cL_walks 296 = .ok (.aload_n 2, 1) := by decide +kernel
theorem dL_walks_297 : decode cL_walks 297 = .ok (.aload_n 2, 1) := by decide +kernel
theorem dL_walks_298 : decode cL_walks 298 = .ok (.iconst 0, 1) := by decide +kernel
theorem dL_walks_299 : decode cL_walks 299 = .ok (.iaload, 1) := by decide +kernel
theorem dL_walks_300 : decode cL_walks 300 = .ok (.iconst 1, 1) := by decide +kernel
theorem dL_walks_301 : decode cL_walks 301 = .ok (.isub, 1) := by decide +kernel
theorem dL_walks_302 : decode cL_walks 302 = .ok (.iaload, 1) := by decide +kernel
theorem dL_walks_303 : decode cL_walks 303 = .ok (.iload 15, 2) := by decide +kernel
theorem dL_walks_305 : decode cL_walks 305 = .ok (.if_icmp .lt 5, 3) := by decide +kernel
theorem dL_walks_308 : decode cL_walks 308 = .ok (.iconst 0, 1) := by decide +kernel
theorem dL_walks_309 : decode cL_walks 309 = .ok (.ireturn, 1) := by decide +kernel
theorem dL_walks_310 : decode cL_walks 310 = .ok (.iinc 13 1, 3) := by decide +kernel
theorem dL_walks_313 : decode cL_walks 313 = .ok (.goto (-140), 3) := by decide +kernel
theorem dL_walks_316 : decode cL_walks 316 = .ok (.iinc 10 1, 3) := by decide +kernel
theorem dL_walks_319 : decode cL_walks 319 = .ok (.goto (-260), 3) := by decide +kernel
theorem dL_walks_322 : decode cL_walks 322 = .ok (.iload 8, 2) := by decide +kernel
theorem dL_walks_324 : decode cL_walks 324 = .ok (.ifCond .ne 6, 3) := by decide +kernel
theorem dL_walks_327 : decode cL_walks 327 = .ok (.iload 7, 2) := by decide +kernel
theorem dL_walks_329 : decode cL_walks 329 = .ok (.ireturn, 1) := by decide +kernel
theorem dL_walks_330 : decode cL_walks 330 = .ok (.iconst 0, 1) := by decide +kernel
theorem dL_walks_331 : decode cL_walks 331 = .ok (.istore 10, 2) := by decide +kernel
theorem dL_walks_333 : decode cL_walks 333 = .ok (.iload 10, 2) := by decide +kernel
theorem dL_walks_335 : decode cL_walks 335 = .ok (.iload 9, 2) := by decide +kernel
theorem dL_walks_337 : decode cL_walks 337 = .ok (.if_icmp .ge 19, 3) := by decide +kernel
theorem dL_walks_340 : decode cL_walks 340 = .ok (.aload 4, 2) := by decide +kernel
theorem dL_walks_342 : decode cL_walks 342 = .ok (.iload 10, 2) := by decide +kernel
theorem dL_walks_344 : decode cL_walks 344 = .ok (.aload 5, 2) := by decide +kernel
theorem dL_walks_346 : decode cL_walks 346 = .ok (.iload 10, 2) := by decide +kernel
theorem dL_walks_348 : decode cL_walks 348 = .ok (.iaload, 1) := by decide +kernel
theorem dL_walks_349 : decode cL_walks 349 = .ok (.iastore, 1) := by decide +kernel
theorem dL_walks_350 : decode cL_walks 350 = .ok (.iinc 10 1, 3) := by decide +kernel
theorem dL_walks_353 : decode cL_walks 353 = .ok (.goto (-20), 3) := by decide +kernel
theorem dL_walks_356 : decode cL_walks 356 = .ok (.iload 9, 2) := by decide +kernel
theorem dL_walks_358 : decode cL_walks 358 = .ok (.istore 6, 2) := by decide +kernel
theorem dL_walks_360 : decode cL_walks 360 = .ok (.iinc 7 1, 3) := by decide +kernel
theorem dL_walks_363 : decode cL_walks 363 = .ok (.goto (-336), 3) := by decide +kernel
theorem dL_walks_366 : decode cL_walks 366 = .ok (.iconst 0, 1) := by decide +kernel
theorem dL_walks_367 : decode cL_walks 367 = .ok (.ireturn, 1) := by decide +kernel
theorem dL_holds_0 : decode cL_holds 0 = .ok (.aload_n 0, 1) := by decide +kernel
theorem dL_holds_1 : decode cL_holds 1 = .ok (.iload_n 1, 1) := by decide +kernel
theorem dL_holds_2 : decode cL_holds 2 = .ok (.aload 5, 2) := by decide +kernel
theorem dL_holds_4 : decode cL_holds 4 = .ok (.aload 6, 2) := by decide +kernel
theorem dL_holds_6 : decode cL_holds 6 = .ok (.invokestatic 148, 3) := by decide +kernel
theorem dL_holds_9 : decode cL_holds 9 = .ok (.istore 7, 2) := by decide +kernel
theorem dL_holds_11 : decode cL_holds 11 = .ok (.iconst 0, 1) := by decide +kernel
theorem dL_holds_12 : decode cL_holds 12 = .ok (.istore 8, 2) := by decide +kernel
theorem dL_holds_14 : decode cL_holds 14 = .ok (.iconst 0, 1) := by decide +kernel
theorem dL_holds_15 : decode cL_holds 15 = .ok (.istore 9, 2) := by decide +kernel
theorem dL_holds_17 : decode cL_holds 17 = .ok (.iload 9, 2) := by decide +kernel
theorem dL_holds_19 : decode cL_holds 19 = .ok (.bipush 32, 2) := by decide +kernel
theorem dL_holds_21 : decode cL_holds 21 = .ok (.if_icmp .ge 47, 3) := by decide +kernel
theorem dL_holds_24 : decode cL_holds 24 = .ok (.aload_n 3, 1) := by decide +kernel
theorem dL_holds_25 : decode cL_holds 25 = .ok (.iload 4, 2) := by decide +kernel
theorem dL_holds_27 : decode cL_holds 27 = .ok (.iload 9, 2) := by decide +kernel
theorem dL_holds_29 : decode cL_holds 29 = .ok (.invokestatic 152, 3) := by decide +kernel
theorem dL_holds_32 : decode cL_holds 32 = .ok (.ifCond .le 30, 3) := by decide +kernel
theorem dL_holds_35 : decode cL_holds 35 = .ok (.iinc 8 1, 3) := by decide +kernel
theorem dL_holds_38 : decode cL_holds 38 = .ok (.iload 8, 2) := by decide +kernel
theorem dL_holds_40 : decode cL_holds 40 = .ok (.aload 5, 2) := by decide +kernel
theorem dL_holds_42 : decode cL_holds 42 = .ok (.iconst 0, 1) := by decide +kernel
theorem dL_holds_43 : decode cL_holds 43 = .ok (.iaload, 1) := by decide +kernel
theorem dL_holds_44 : decode cL_holds 44 = .ok (.if_icmp .gt 16, 3) := by decide +kernel
theorem dL_holds_47 : decode cL_holds 47 = .ok (.aload 5, 2) := by decide +kernel
theorem dL_holds_49 : decode cL_holds 49 = .ok (.iload 8, 2) := by decide +kernel
theorem dL_holds_51 : decode cL_holds 51 = .ok (.iaload, 1) := by decide +kernel
theorem dL_holds_52 : decode cL_holds 52 = .ok (.iload 9, 2) := by decide +kernel
theorem dL_holds_54 : decode cL_holds 54 = .ok (.invokestatic 156, 3) := by decide +kernel
theorem dL_holds_57 : decode cL_holds 57 = .ok (.if_icmp .eq 5, 3) := by decide +kernel
theorem dL_holds_60 : decode cL_holds 60 = .ok (.iconst 0, 1) := by decide +kernel
theorem dL_holds_61 : decode cL_holds 61 = .ok (.ireturn, 1) := by decide +kernel
theorem dL_holds_62 : decode cL_holds 62 = .ok (.iinc 9 1, 3) := by decide +kernel
theorem dL_holds_65 : decode cL_holds 65 = .ok (.goto (-48), 3) := by decide +kernel
theorem dL_holds_68 : decode cL_holds 68 = .ok (.iload 7, 2) := by decide +kernel
theorem dL_holds_70 : decode cL_holds 70 = .ok (.ifCond .le 26, 3) := by decide +kernel
theorem dL_holds_73 : decode cL_holds 73 = .ok (.iload_n 2, 1) := by decide +kernel
theorem dL_holds_74 : decode cL_holds 74 = .ok (.ifCond .lt 9, 3) := by decide +kernel
theorem dL_holds_77 : decode cL_holds 77 = .ok (.iload 7, 2) := by decide +kernel
theorem dL_holds_79 : decode cL_holds 79 = .ok (.iload_n 2, 1) := by decide +kernel
theorem dL_holds_80 : decode cL_holds 80 = .ok (.if_icmp .ne 16, 3) := by decide +kernel
theorem dL_holds_83 : decode cL_holds 83 = .ok (.iload 8, 2) := by decide +kernel
theorem dL_holds_85 : decode cL_holds 85 = .ok (.aload 5, 2) := by decide +kernel
theorem dL_holds_87 : decode cL_holds 87 = .ok (.iconst 0, 1) := by decide +kernel
theorem dL_holds_88 : decode cL_holds 88 = .ok (.iaload, 1) := by decide +kernel
theorem dL_holds_89 : decode cL_holds 89 = .ok (.if_icmp .ne 7, 3) := by decide +kernel
theorem dL_holds_92 : decode cL_holds 92 = .ok (.iconst 1, 1) := by decide +kernel
theorem dL_holds_93 : decode cL_holds 93 = .ok (.goto 4, 3) := by decide +kernel
theorem dL_holds_96 : decode cL_holds 96 = .ok (.iconst 0, 1) := by decide +kernel
theorem dL_holds_97 : decode cL_holds 97 = .ok (.ireturn, 1) := by decide +kernel
theorem dL_shows_0 : decode cL_shows 0 = .ok (.aload_n 0, 1) := by decide +kernel
theorem dL_shows_1 : decode cL_shows 1 = .ok (.aload_n 0, 1) := by decide +kernel
theorem dL_shows_2 : decode cL_shows 2 = .ok (.iload_n 1, 1) := by decide +kernel
theorem dL_shows_3 : decode cL_shows 3 = .ok (.invokestatic 131, 3) := by decide +kernel
theorem dL_shows_6 : decode cL_shows 6 = .ok (.aload_n 0, 1) := by decide +kernel
theorem dL_shows_7 : decode cL_shows 7 = .ok (.iload_n 1, 1) := by decide +kernel
theorem dL_shows_8 : decode cL_shows 8 = .ok (.invokestatic 159, 3) := by decide +kernel
theorem dL_shows_11 : decode cL_shows 11 = .ok (.aload_n 2, 1) := by decide +kernel
theorem dL_shows_12 : decode cL_shows 12 = .ok (.iload_n 3, 1) := by decide +kernel
theorem dL_shows_13 : decode cL_shows 13 = .ok (.aload 4, 2) := by decide +kernel
theorem dL_shows_15 : decode cL_shows 15 = .ok (.aload 5, 2) := by decide +kernel
theorem dL_shows_17 : decode cL_shows 17 = .ok (.invokestatic 161, 3) := by decide +kernel
theorem dL_shows_20 : decode cL_shows 20 = .ok (.ifCond .eq 15, 3) := by decide +kernel
theorem dL_shows_23 : decode cL_shows 23 = .ok (.aload_n 0, 1) := by decide +kernel
theorem dL_shows_24 : decode cL_shows 24 = .ok (.iload_n 1, 1) := by decide +kernel
theorem dL_shows_25 : decode cL_shows 25 = .ok (.invokestatic 136, 3) := by decide +kernel
theorem dL_shows_28 : decode cL_shows 28 = .ok (.aload 4, 2) := by decide +kernel
theorem dL_shows_30 : decode cL_shows 30 = .ok (.iconst 0, 1) := by decide +kernel
theorem dL_shows_31 : decode cL_shows 31 = .ok (.iaload, 1) := by decide +kernel
theorem dL_shows_32 : decode cL_shows 32 = .ok (.if_icmp .eq 5, 3) := by decide +kernel
theorem dL_shows_35 : decode cL_shows 35 = .ok (.iconst 0, 1) := by decide +kernel
theorem dL_shows_36 : decode cL_shows 36 = .ok (.ireturn, 1) := by decide +kernel
theorem dL_shows_37 : decode cL_shows 37 = .ok (.iload 6, 2) := by decide +kernel
theorem dL_shows_39 : decode cL_shows 39 = .ok (.bipush 106, 2) := by decide +kernel
theorem dL_shows_41 : decode cL_shows 41 = .ok (.invokestatic 165, 3) := by decide +kernel
theorem dL_shows_44 : decode cL_shows 44 = .ok (.iconst 2, 1) := by decide +kernel
theorem dL_shows_45 : decode cL_shows 45 = .ok (.isub, 1) := by decide +kernel
theorem dL_shows_46 : decode cL_shows 46 = .ok (.istore 7, 2) := by decide +kernel
theorem dL_shows_48 : decode cL_shows 48 = .ok (.iconst (-1), 1) := by decide +kernel
theorem dL_shows_49 : decode cL_shows 49 = .ok (.istore 8, 2) := by decide +kernel
theorem dL_shows_51 : decode cL_shows 51 = .ok (.iconst 0, 1) := by decide +kernel
theorem dL_shows_52 : decode cL_shows 52 = .ok (.istore 9, 2) := by decide +kernel
theorem dL_shows_54 : decode cL_shows 54 = .ok (.aload 4, 2) := by decide +kernel
theorem dL_shows_56 : decode cL_shows 56 = .ok (.iconst 0, 1) := by decide +kernel
theorem dL_shows_57 : decode cL_shows 57 = .ok (.iaload, 1) := by decide +kernel
theorem dL_shows_58 : decode cL_shows 58 = .ok (.istore 10, 2) := by decide +kernel
theorem dL_shows_60 : decode cL_shows 60 = .ok (.iload 10, 2) := by decide +kernel
theorem dL_shows_62 : decode cL_shows 62 = .ok (.ifCond .le 51, 3) := by decide +kernel
theorem dL_shows_65 : decode cL_shows 65 = .ok (.aload 4, 2) := by decide +kernel
theorem dL_shows_67 : decode cL_shows 67 = .ok (.iload 10, 2) := by decide +kernel
theorem dL_shows_69 : decode cL_shows 69 = .ok (.iaload, 1) := by decide +kernel
theorem dL_shows_70 : decode cL_shows 70 = .ok (.iload 7, 2) := by decide +kernel
theorem dL_shows_72 : decode cL_shows 72 = .ok (.if_icmp .lt 11, 3) := by decide +kernel
theorem dL_shows_75 : decode cL_shows 75 = .ok (.aload 4, 2) := by decide +kernel
theorem dL_shows_77 : decode cL_shows 77 = .ok (.iload 10, 2) := by decide +kernel
theorem dL_shows_79 : decode cL_shows 79 = .ok (.iaload, 1) := by decide +kernel
theorem dL_shows_80 : decode cL_shows 80 = .ok (.goto 5, 3) := by decide +kernel
theorem dL_shows_83 : decode cL_shows 83 = .ok (.iload 8, 2) := by decide +kernel
theorem dL_shows_85 : decode cL_shows 85 = .ok (.istore 8, 2) := by decide +kernel
theorem dL_shows_87 : decode cL_shows 87 = .ok (.iload 9, 2) := by decide +kernel
theorem dL_shows_89 : decode cL_shows 89 = .ok (.aload 4, 2) := by decide +kernel
theorem dL_shows_91 : decode cL_shows 91 = .ok (.iload 10, 2) := by decide +kernel
theorem dL_shows_93 : decode cL_shows 93 = .ok (.iaload, 1) := by decide +kernel
theorem dL_shows_94 : decode cL_shows 94 = .ok (.iload 7, 2) := by decide +kernel
theorem dL_shows_96 : decode cL_shows 96 = .ok (.if_icmp .ge 7, 3) := by decide +kernel
theorem dL_shows_99 : decode cL_shows 99 = .ok (.iconst 1, 1) := by decide +kernel
theorem dL_shows_100 : decode cL_shows 100 = .ok (.goto 4, 3) := by decide +kernel
theorem dL_shows_103 : decode cL_shows 103 = .ok (.iconst 0, 1) := by decide +kernel
theorem dL_shows_104 : decode cL_shows 104 = .ok (.iadd, 1) := by decide +kernel
theorem dL_shows_105 : decode cL_shows 105 = .ok (.istore 9, 2) := by decide +kernel
theorem dL_shows_107 : decode cL_shows 107 = .ok (.iinc 10 (-1), 3) := by decide +kernel
theorem dL_shows_110 : decode cL_shows 110 = .ok (.goto (-50), 3) := by decide +kernel
theorem dL_shows_113 : decode cL_shows 113 = .ok (.aload_n 0, 1) := by decide +kernel
theorem dL_shows_114 : decode cL_shows 114 = .ok (.iload_n 1, 1) := by decide +kernel
theorem dL_shows_115 : decode cL_shows 115 = .ok (.iload 7, 2) := by decide +kernel
theorem dL_shows_117 : decode cL_shows 117 = .ok (.invokestatic 168, 3) := by decide +kernel
theorem dL_shows_120 : decode cL_shows 120 = .ok (.iload 8, 2) := by decide +kernel
theorem dL_shows_122 : decode cL_shows 122 = .ok (.if_icmp .ne 65, 3) := by decide +kernel
theorem dL_shows_125 : decode cL_shows 125 = .ok (.aload_n 0, 1) := by decide +kernel
theorem dL_shows_126 : decode cL_shows 126 = .ok (.iload_n 1, 1) := by decide +kernel
theorem dL_shows_127 : decode cL_shows 127 = .ok (.iload 7, 2) := by decide +kernel
theorem dL_shows_129 : decode cL_shows 129 = .ok (.invokestatic 170, 3) := by decide +kernel
theorem dL_shows_132 : decode cL_shows 132 = .ok (.iload 9, 2) := by decide +kernel
theorem dL_shows_134 : decode cL_shows 134 = .ok (.if_icmp .ne 53, 3) := by decide +kernel
theorem dL_shows_137 : decode cL_shows 137 = .ok (.aload_n 0, 1) := by decide +kernel
theorem dL_shows_138 : decode cL_shows 138 = .ok (.iload_n 1, 1) := by decide +kernel
theorem dL_shows_139 : decode cL_shows 139 = .ok (.ldc 172, 2) := by decide +kernel
theorem dL_shows_141 : decode cL_shows 141 = .ok (.invokestatic 168, 3) := by decide +kernel
theorem dL_shows_144 : decode cL_shows 144 = .ok (.aload 4, 2) := by decide +kernel
theorem dL_shows_146 : decode cL_shows 146 = .ok (.iconst 0, 1) := by decide +kernel
theorem dL_shows_147 : decode cL_shows 147 = .ok (.iaload, 1) := by decide +kernel
theorem dL_shows_148 : decode cL_shows 148 = .ok (.ifCond .ne 7, 3) := by decide +kernel
theorem dL_shows_151 : decode cL_shows 151 = .ok (.iconst (-1), 1) := by decide +kernel
theorem dL_shows_152 : decode cL_shows 152 = .ok (.goto 7, 3) := by decide +kernel
theorem dL_shows_155 : decode cL_shows 155 = .ok (.aload 4, 2) := by decide +kernel
theorem dL_shows_157 : decode cL_shows 157 = .ok (.iconst 1, 1) := by decide +kernel
theorem dL_shows_158 : decode cL_shows 158 = .ok (.iaload, 1) := by decide +kernel
theorem dL_shows_159 : decode cL_shows 159 = .ok (.if_icmp .ne 28, 3) := by decide +kernel
theorem dL_shows_162 : decode cL_shows 162 = .ok (.aload_n 0, 1) := by decide +kernel
theorem dL_shows_163 : decode cL_shows 163 = .ok (.iload_n 1, 1) := by decide +kernel
theorem dL_shows_164 : decode cL_shows 164 = .ok (.ldc 9, 2) := by decide +kernel
theorem dL_shows_166 : decode cL_shows 166 = .ok (.invokestatic 168, 3) := by decide +kernel
theorem dL_shows_169 : decode cL_shows 169 = .ok (.iconst (-1), 1) := by decide +kernel
theorem dL_shows_170 : decode cL_shows 170 = .ok (.if_icmp .ne 17, 3) := by decide +kernel
theorem dL_shows_173 : decode cL_shows 173 = .ok (.aload_n 0, 1) := by decide +kernel
theorem dL_shows_174 : decode cL_shows 174 = .ok (.iload_n 1, 1) := by decide +kernel
theorem dL_shows_175 : decode cL_shows 175 = .ok (.ldc 9, 2) := by decide +kernel
theorem dL_shows_177 : decode cL_shows 177 = .ok (.invokestatic 170, 3) := by decide +kernel
theorem dL_shows_180 : decode cL_shows 180 = .ok (.aload 4, 2) := by decide +kernel
theorem dL_shows_182 : decode cL_shows 182 = .ok (.iconst 0, 1) := by decide +kernel
theorem dL_shows_183 : decode cL_shows 183 = .ok (.iaload, 1) := by decide +kernel
theorem dL_shows_184 : decode cL_shows 184 = .ok (.if_icmp .eq 5, 3) := by decide +kernel
theorem dL_shows_187 : decode cL_shows 187 = .ok (.iconst 0, 1) := by decide +kernel
theorem dL_shows_188 : decode cL_shows 188 = .ok (.ireturn, 1) := by decide +kernel
theorem dL_shows_189 : decode cL_shows 189 = .ok (.iconst 0, 1) := by decide +kernel
theorem dL_shows_190 : decode cL_shows 190 = .ok (.istore 10, 2) := by decide +kernel
theorem dL_shows_192 : decode cL_shows 192 = .ok (.iload 10, 2) := by decide +kernel
theorem dL_shows_194 : decode cL_shows 194 = .ok (.bipush 32, 2) := by decide +kernel
theorem dL_shows_196 : decode cL_shows 196 = .ok (.if_icmp .ge 67, 3) := by decide +kernel
theorem dL_shows_199 : decode cL_shows 199 = .ok (.aload_n 2, 1) := by decide +kernel
theorem dL_shows_200 : decode cL_shows 200 = .ok (.iload_n 3, 1) := by decide +kernel
theorem dL_shows_201 : decode cL_shows 201 = .ok (.iload 10, 2) := by decide +kernel
theorem dL_shows_203 : decode cL_shows 203 = .ok (.invokestatic 152, 3) := by decide +kernel
theorem dL_shows_206 : decode cL_shows 206 = .ok (.istore 11, 2) := by decide +kernel
theorem dL_shows_208 : decode cL_shows 208 = .ok (.aload_n 0, 1) := by decide +kernel
theorem dL_shows_209 : decode cL_shows 209 = .ok (.iload_n 1, 1) := by decide +kernel
theorem dL_shows_210 : decode cL_shows 210 = .ok (.iload 10, 2) := by decide +kernel
theorem dL_shows_212 : decode cL_shows 212 = .ok (.invokestatic 156, 3) := by decide +kernel
theorem dL_shows_215 : decode cL_shows 215 = .ok (.invokestatic 173, 3) := by decide +kernel
theorem dL_shows_218 : decode cL_shows 218 = .ok (.iload 11, 2) := by decide +kernel
theorem dL_shows_220 : decode cL_shows 220 = .ok (.ifCond .le 13, 3) := by decide +kernel
theorem dL_shows_223 : decode cL_shows 223 = .ok (.iload 11, 2) := by decide +kernel
theorem dL_shows_225 : decode cL_shows 225 = .ok (.iload 10, 2) := by decide +kernel
theorem dL_shows_227 : decode cL_shows 227 = .ok (.invokestatic 175, 3) := by decide +kernel
theorem dL_shows_230 : decode cL_shows 230 = .ok (.goto 5, 3) := by decide +kernel
theorem dL_shows_233 : decode cL_shows 233 = .ok (.ldc 37, 2) := by decide +kernel
theorem dL_shows_235 : decode cL_shows 235 = .ok (.if_icmp .ne 20, 3) := by decide +kernel
theorem dL_shows_238 : decode cL_shows 238 = .ok (.aload_n 0, 1) := by decide +kernel
theorem dL_shows_239 : decode cL_shows 239 = .ok (.iload_n 1, 1) := by decide +kernel
theorem dL_shows_240 : decode cL_shows 240 = .ok (.iload 10, 2) := by decide +kernel
theorem dL_shows_242 : decode cL_shows 242 = .ok (.invokestatic 156, 3) := by decide +kernel
theorem dL_shows_245 : decode cL_shows 245 = .ok (.iconst 1, 1) := by decide +kernel
theorem dL_shows_246 : decode cL_shows 246 = .ok (.isub, 1) := by decide +kernel
theorem dL_shows_247 : decode cL_shows 247 = .ok (.invokestatic 173, 3) := by decide +kernel
theorem dL_shows_250 : decode cL_shows 250 = .ok (.ldc 37, 2) := by decide +kernel
theorem dL_shows_252 : decode cL_shows 252 = .ok (.if_icmp .eq 5, 3) := by decide +kernel
theorem dL_shows_255 : decode cL_shows 255 = .ok (.iconst 0, 1) := by decide +kernel
theorem dL_shows_256 : decode cL_shows 256 = .ok (.ireturn, 1) := by decide +kernel
theorem dL_shows_257 : decode cL_shows 257 = .ok (.iinc 10 1, 3) := by decide +kernel
theorem dL_shows_260 : decode cL_shows 260 = .ok (.goto (-68), 3) := by decide +kernel
theorem dL_shows_263 : decode cL_shows 263 = .ok (.aload_n 0, 1) := by decide +kernel
theorem dL_shows_264 : decode cL_shows 264 = .ok (.iload_n 1, 1) := by decide +kernel
theorem dL_shows_265 : decode cL_shows 265 = .ok (.bipush 100, 2) := by decide +kernel
theorem dL_shows_267 : decode cL_shows 267 = .ok (.invokestatic 173, 3) := by decide +kernel
theorem dL_shows_270 : decode cL_shows 270 = .ok (.ldc 30, 2) := by decide +kernel
theorem dL_shows_272 : decode cL_shows 272 = .ok (.if_icmp .ne 18, 3) := by decide +kernel
theorem dL_shows_275 : decode cL_shows 275 = .ok (.aload_n 0, 1) := by decide +kernel
theorem dL_shows_276 : decode cL_shows 276 = .ok (.iload_n 1, 1) := by decide +kernel
theorem dL_shows_277 : decode cL_shows 277 = .ok (.iconst (-1), 1) := by decide +kernel
theorem dL_shows_278 : decode cL_shows 278 = .ok (.invokestatic 173, 3) := by decide +kernel
theorem dL_shows_281 : decode cL_shows 281 = .ok (.ldc 30, 2) := by decide +kernel
theorem dL_shows_283 : decode cL_shows 283 = .ok (.if_icmp .ne 7, 3) := by decide +kernel
theorem dL_shows_286 : decode cL_shows 286 = .ok (.iconst 1, 1) := by decide +kernel
theorem dL_shows_287 : decode cL_shows 287 = .ok (.goto 4, 3) := by decide +kernel
theorem dL_shows_290 : decode cL_shows 290 = .ok (.iconst 0, 1) := by decide +kernel
theorem dL_shows_291 : decode cL_shows 291 = .ok (.ireturn, 1) := by decide +kernel
theorem dL_bits_0 : decode cL_bits 0 = .ok (.iconst 0, 1) := by decide +kernel
theorem dL_bits_1 : decode cL_bits 1 = .ok (.istore_n 2, 1) := by decide +kernel
theorem dL_bits_2 : decode cL_bits 2 = .ok (.iconst 0, 1) := by decide +kernel
theorem dL_bits_3 : decode cL_bits 3 = .ok (.istore_n 3, 1) := by decide +kernel
theorem dL_bits_4 : decode cL_bits 4 = .ok (.iload_n 3, 1) := by decide +kernel
theorem dL_bits_5 : decode cL_bits 5 = .ok (.bipush 64, 2) := by decide +kernel
theorem dL_bits_7 : decode cL_bits 7 = .ok (.if_icmp .ge 18, 3) := by decide +kernel
theorem dL_bits_10 : decode cL_bits 10 = .ok (.iload_n 2, 1) := by decide +kernel
theorem dL_bits_11 : decode cL_bits 11 = .ok (.lload_n 0, 1) := by decide +kernel
theorem dL_bits_12 : decode cL_bits 12 = .ok (.iload_n 3, 1) := by decide +kernel
theorem dL_bits_13 : decode cL_bits 13 = .ok (.lshr, 1) := by decide +kernel
theorem dL_bits_14 : decode cL_bits 14 = .ok (.lconst 1, 1) := by decide +kernel
theorem dL_bits_15 : decode cL_bits 15 = .ok (.land, 1) := by decide +kernel
theorem dL_bits_16 : decode cL_bits 16 = .ok (.l2i, 1) := by decide +kernel
theorem dL_bits_17 : decode cL_bits 17 = .ok (.iadd, 1) := by decide +kernel
theorem dL_bits_18 : decode cL_bits 18 = .ok (.istore_n 2, 1) := by decide +kernel
theorem dL_bits_19 : decode cL_bits 19 = .ok (.iinc 3 1, 3) := by decide +kernel
theorem dL_bits_22 : decode cL_bits 22 = .ok (.goto (-18), 3) := by decide +kernel
theorem dL_bits_25 : decode cL_bits 25 = .ok (.iload_n 2, 1) := by decide +kernel
theorem dL_bits_26 : decode cL_bits 26 = .ok (.ireturn, 1) := by decide +kernel
theorem dL_shares_0 : decode cL_shares 0 = .ok (.bipush 64, 2) := by decide +kernel
theorem dL_shares_2 : decode cL_shares 2 = .ok (.newarray .int, 2) := by decide +kernel
theorem dL_shares_4 : decode cL_shares 4 = .ok (.astore_n 3, 1) := by decide +kernel
theorem dL_shares_5 : decode cL_shares 5 = .ok (.bipush 12, 2) := by decide +kernel
theorem dL_shares_7 : decode cL_shares 7 = .ok (.newarray .long, 2) := by decide +kernel
theorem dL_shares_9 : decode cL_shares 9 = .ok (.astore 4, 2) := by decide +kernel
theorem dL_shares_11 : decode cL_shares 11 = .ok (.bipush 12, 2) := by decide +kernel
theorem dL_shares_13 : decode cL_shares 13 = .ok (.newarray .long, 2) := by decide +kernel
theorem dL_shares_15 : decode cL_shares 15 = .ok (.astore 5, 2) := by decide +kernel
theorem dL_shares_17 : decode cL_shares 17 = .ok (.aload_n 0, 1) := by decide +kernel
theorem dL_shares_18 : decode cL_shares 18 = .ok (.aload_n 0, 1) := by decide +kernel
theorem dL_shares_19 : decode cL_shares 19 = .ok (.iload_n 1, 1) := by decide +kernel
theorem dL_shares_20 : decode cL_shares 20 = .ok (.invokestatic 131, 3) := by decide +kernel
theorem dL_shares_23 : decode cL_shares 23 = .ok (.aload_n 3, 1) := by decide +kernel
theorem dL_shares_24 : decode cL_shares 24 = .ok (.aload 4, 2) := by decide +kernel
theorem dL_shares_26 : decode cL_shares 26 = .ok (.invokestatic 148, 3) := by decide +kernel
theorem dL_shares_29 : decode cL_shares 29 = .ok (.ifCond .eq 18, 3) := by decide +kernel
theorem dL_shares_32 : decode cL_shares 32 = .ok (.aload_n 0, 1) := by decide +kernel
theorem dL_shares_33 : decode cL_shares 33 = .ok (.aload_n 0, 1) := by decide +kernel
theorem dL_shares_34 : decode cL_shares 34 = .ok (.iload_n 2, 1) := by decide +kernel
theorem dL_shares_35 : decode cL_shares 35 = .ok (.invokestatic 131, 3) := by decide +kernel
theorem dL_shares_38 : decode cL_shares 38 = .ok (.aload_n 3, 1) := by decide +kernel
theorem dL_shares_39 : decode cL_shares 39 = .ok (.aload 5, 2) := by decide +kernel
theorem dL_shares_41 : decode cL_shares 41 = .ok (.invokestatic 148, 3) := by decide +kernel
theorem dL_shares_44 : decode cL_shares 44 = .ok (.ifCond .ne 5, 3) := by decide +kernel
theorem dL_shares_47 : decode cL_shares 47 = .ok (.iconst 0, 1) := by decide +kernel
theorem dL_shares_48 : decode cL_shares 48 = .ok (.ireturn, 1) := by decide +kernel
theorem dL_shares_49 : decode cL_shares 49 = .ok (.iconst 0, 1) := by decide +kernel
theorem dL_shares_50 : decode cL_shares 50 = .ok (.istore 6, 2) := by decide +kernel
theorem dL_shares_52 : decode cL_shares 52 = .ok (.iconst 0, 1) := by decide +kernel
theorem dL_shares_53 : decode cL_shares 53 = .ok (.istore 7, 2) := by decide +kernel
theorem dL_shares_55 : decode cL_shares 55 = .ok (.iload 7, 2) := by decide +kernel
theorem dL_shares_57 : decode cL_shares 57 = .ok (.bipush 12, 2) := by decide +kernel
theorem dL_shares_59 : decode cL_shares 59 = .ok (.if_icmp .ge 28, 3) := by decide +kernel
theorem dL_shares_62 : decode cL_shares 62 = .ok (.iload 6, 2) := by decide +kernel
theorem dL_shares_64 : decode cL_shares 64 = .ok (.aload 4, 2) := by decide +kernel
theorem dL_shares_66 : decode cL_shares 66 = .ok (.iload 7, 2) := by decide +kernel
theorem dL_shares_68 : decode cL_shares 68 = .ok (.laload, 1) := by decide +kernel
theorem dL_shares_69 : decode cL_shares 69 = .ok (.aload 5, 2) := by decide +kernel
theorem dL_shares_71 : decode cL_shares 71 = .ok (.iload 7, 2) := by decide +kernel
theorem dL_shares_73 : decode cL_shares 73 = .ok (.laload, 1) := by decide +kernel
theorem dL_shares_74 : decode cL_shares 74 = .ok (.land, 1) := by decide +kernel
theorem dL_shares_75 : decode cL_shares 75 = .ok (.invokestatic 178, 3) := by decide +kernel
theorem dL_shares_78 : decode cL_shares 78 = .ok (.iadd, 1) := by decide +kernel
theorem dL_shares_79 : decode cL_shares 79 = .ok (.istore 6, 2) := by decide +kernel
theorem dL_shares_81 : decode cL_shares 81 = .ok (.iinc 7 1, 3) := by decide +kernel
theorem dL_shares_84 : decode cL_shares 84 = .ok (.goto (-29), 3) := by decide +kernel
theorem dL_shares_87 : decode cL_shares 87 = .ok (.aload_n 0, 1) := by decide +kernel
theorem dL_shares_88 : decode cL_shares 88 = .ok (.iload_n 1, 1) := by decide +kernel
theorem dL_shares_89 : decode cL_shares 89 = .ok (.iload_n 2, 1) := by decide +kernel
theorem dL_shares_90 : decode cL_shares 90 = .ok (.invokestatic 182, 3) := by decide +kernel
theorem dL_shares_93 : decode cL_shares 93 = .ok (.iload 6, 2) := by decide +kernel
theorem dL_shares_95 : decode cL_shares 95 = .ok (.if_icmp .ne 18, 3) := by decide +kernel
theorem dL_shares_98 : decode cL_shares 98 = .ok (.aload_n 0, 1) := by decide +kernel
theorem dL_shares_99 : decode cL_shares 99 = .ok (.iload_n 2, 1) := by decide +kernel
theorem dL_shares_100 : decode cL_shares 100 = .ok (.iload_n 1, 1) := by decide +kernel
theorem dL_shares_101 : decode cL_shares 101 = .ok (.invokestatic 182, 3) := by decide +kernel
theorem dL_shares_104 : decode cL_shares 104 = .ok (.iload 6, 2) := by decide +kernel
theorem dL_shares_106 : decode cL_shares 106 = .ok (.if_icmp .ne 7, 3) := by decide +kernel
theorem dL_shares_109 : decode cL_shares 109 = .ok (.iconst 1, 1) := by decide +kernel
theorem dL_shares_110 : decode cL_shares 110 = .ok (.goto 4, 3) := by decide +kernel
theorem dL_shares_113 : decode cL_shares 113 = .ok (.iconst 0, 1) := by decide +kernel
theorem dL_shares_114 : decode cL_shares 114 = .ok (.ireturn, 1) := by decide +kernel
theorem dL_slots_0 : decode cL_slots 0 = .ok (.iconst 0, 1) := by decide +kernel
theorem dL_slots_1 : decode cL_slots 1 = .ok (.istore 6, 2) := by decide +kernel
theorem dL_slots_3 : decode cL_slots 3 = .ok (.iload 6, 2) := by decide +kernel
theorem dL_slots_5 : decode cL_slots 5 = .ok (.iconst 2, 1) := by decide +kernel
theorem dL_slots_6 : decode cL_slots 6 = .ok (.if_icmp .ge 162, 3) := by decide +kernel
theorem dL_slots_9 : decode cL_slots 9 = .ok (.ldc2_w 185, 3) := by decide +kernel
theorem dL_slots_12 : decode cL_slots 12 = .ok (.aload_n 0, 1) := by decide +kernel
theorem dL_slots_13 : decode cL_slots 13 = .ok (.iload 6, 2) := by decide +kernel
theorem dL_slots_15 : decode cL_slots 15 = .ok (.iconst 0, 1) := by decide +kernel
theorem dL_slots_16 : decode cL_slots 16 = .ok (.invokestatic 126, 3) := by decide +kernel
theorem dL_slots_19 : decode cL_slots 19 = .ok (.lmul, 1) := by decide +kernel
theorem dL_slots_20 : decode cL_slots 20 = .ok (.ldc2_w 187, 3) := by decide +kernel
theorem dL_slots_23 : decode cL_slots 23 = .ok (.aload_n 0, 1) := by decide +kernel
theorem dL_slots_24 : decode cL_slots 24 = .ok (.iload 6, 2) := by decide +kernel
theorem dL_slots_26 : decode cL_slots 26 = .ok (.iconst 1, 1) := by decide +kernel
theorem dL_slots_27 : decode cL_slots 27 = .ok (.invokestatic 126, 3) := by decide +kernel
theorem dL_slots_30 : decode cL_slots 30 = .ok (.lmul, 1) := by decide +kernel
theorem dL_slots_31 : decode cL_slots 31 = .ok (.ladd, 1) := by decide +kernel
theorem dL_slots_32 : decode cL_slots 32 = .ok (.aload_n 0, 1) := by decide +kernel
theorem dL_slots_33 : decode cL_slots 33 = .ok (.iload 6, 2) := by decide +kernel
theorem dL_slots_35 : decode cL_slots 35 = .ok (.iconst 2, 1) := by decide +kernel
theorem dL_slots_36 : decode cL_slots 36 = .ok (.invokestatic 126, 3) := by decide +kernel
theorem dL_slots_39 : decode cL_slots 39 = .ok (.ladd, 1) := by decide +kernel
theorem dL_slots_40 : decode cL_slots 40 = .ok (.lstore 7, 2) := by decide +kernel
theorem dL_slots_42 : decode cL_slots 42 = .ok (.aload_n 0, 1) := by decide +kernel
theorem dL_slots_43 : decode cL_slots 43 = .ok (.iload 6, 2) := by decide +kernel
theorem dL_slots_45 : decode cL_slots 45 = .ok (.invokestatic 189, 3) := by decide +kernel
theorem dL_slots_48 : decode cL_slots 48 = .ok (.aload_n 3, 1) := by decide +kernel
theorem dL_slots_49 : decode cL_slots 49 = .ok (.bipush 6, 2) := by decide +kernel
theorem dL_slots_51 : decode cL_slots 51 = .ok (.iload 6, 2) := by decide +kernel
theorem dL_slots_53 : decode cL_slots 53 = .ok (.iadd, 1) := by decide +kernel
theorem dL_slots_54 : decode cL_slots 54 = .ok (.iaload, 1) := by decide +kernel
theorem dL_slots_55 : decode cL_slots 55 = .ok (.if_icmp .ne 31, 3) := by decide +kernel
theorem dL_slots_58 : decode cL_slots 58 = .ok (.aload_n 0, 1) := by decide +kernel
theorem dL_slots_59 : decode cL_slots 59 = .ok (.iload 6, 2) := by decide +kernel
theorem dL_slots_61 : decode cL_slots 61 = .ok (.iconst 3, 1) := by decide +kernel
theorem dL_slots_62 : decode cL_slots 62 = .ok (.invokestatic 126, 3) := by decide +kernel
theorem dL_slots_65 : decode cL_slots 65 = .ok (.lload 7, 2) := by decide +kernel
theorem dL_slots_67 : decode cL_slots 67 = .ok (.lcmp, 1) := by decide +kernel
theorem dL_slots_68 : decode cL_slots 68 = .ok (.ifCond .ne 7, 3) := by decide +kernel
theorem dL_slots_71 : decode cL_slots 71 = .ok (.iconst 1, 1) := by decide +kernel
theorem dL_slots_72 : decode cL_slots 72 = .ok (.goto 4, 3) := by decide +kernel
theorem dL_slots_75 : decode cL_slots 75 = .ok (.iconst 0, 1) := by decide +kernel
theorem dL_slots_76 : decode cL_slots 76 = .ok (.aload_n 3, 1) := by decide +kernel
theorem dL_slots_77 : decode cL_slots 77 = .ok (.bipush 6, 2) := by decide +kernel
theorem dL_slots_79 : decode cL_slots 79 = .ok (.iload 6, 2) := by decide +kernel
theorem dL_slots_81 : decode cL_slots 81 = .ok (.iadd, 1) := by decide +kernel
theorem dL_slots_82 : decode cL_slots 82 = .ok (.iaload, 1) := by decide +kernel
theorem dL_slots_83 : decode cL_slots 83 = .ok (.if_icmp .eq 5, 3) := by decide +kernel
theorem dL_slots_86 : decode cL_slots 86 = .ok (.iconst 0, 1) := by decide +kernel
theorem dL_slots_87 : decode cL_slots 87 = .ok (.ireturn, 1) := by decide +kernel
theorem dL_slots_88 : decode cL_slots 88 = .ok (.aload_n 3, 1) := by decide +kernel
theorem dL_slots_89 : decode cL_slots 89 = .ok (.bipush 6, 2) := by decide +kernel
theorem dL_slots_91 : decode cL_slots 91 = .ok (.iload 6, 2) := by decide +kernel
theorem dL_slots_93 : decode cL_slots 93 = .ok (.iadd, 1) := by decide +kernel
theorem dL_slots_94 : decode cL_slots 94 = .ok (.iaload, 1) := by decide +kernel
theorem dL_slots_95 : decode cL_slots 95 = .ok (.iconst 1, 1) := by decide +kernel
theorem dL_slots_96 : decode cL_slots 96 = .ok (.if_icmp .ne 66, 3) := by decide +kernel
theorem dL_slots_99 : decode cL_slots 99 = .ok (.aload_n 0, 1) := by decide +kernel
theorem dL_slots_100 : decode cL_slots 100 = .ok (.iload 6, 2) := by decide +kernel
theorem dL_slots_102 : decode cL_slots 102 = .ok (.iconst 0, 1) := by decide +kernel
theorem dL_slots_103 : decode cL_slots 103 = .ok (.invokestatic 126, 3) := by decide +kernel
theorem dL_slots_106 : decode cL_slots 106 = .ok (.aload_n 2, 1) := by decide +kernel
theorem dL_slots_107 : decode cL_slots 107 = .ok (.bipush 6, 2) := by decide +kernel
theorem dL_slots_109 : decode cL_slots 109 = .ok (.iload 6, 2) := by decide +kernel
theorem dL_slots_111 : decode cL_slots 111 = .ok (.iadd, 1) := by decide +kernel
theorem dL_slots_112 : decode cL_slots 112 = .ok (.iaload, 1) := by decide +kernel
theorem dL_slots_113 : decode cL_slots 113 = .ok (.i2l, 1) := by decide +kernel
theorem dL_slots_114 : decode cL_slots 114 = .ok (.lcmp, 1) := by decide +kernel
theorem dL_slots_115 : decode cL_slots 115 = .ok (.ifCond .ne 45, 3) := by decide +kernel
theorem dL_slots_118 : decode cL_slots 118 = .ok (.aload_n 0, 1) := by decide +kernel
theorem dL_slots_119 : decode cL_slots 119 = .ok (.aload_n 0, 1) := by decide +kernel
theorem dL_slots_120 : decode cL_slots 120 = .ok (.iload 6, 2) := by decide +kernel
theorem dL_slots_122 : decode cL_slots 122 = .ok (.iconst 1, 1) := by decide +kernel
theorem dL_slots_123 : decode cL_slots 123 = .ok (.invokestatic 126, 3) := by decide +kernel
theorem dL_slots_126 : decode cL_slots 126 = .ok (.l2i, 1) := by decide +kernel
theorem dL_slots_127 : decode cL_slots 127 = .ok (.iconst (-1), 1) := by decide +kernel
theorem dL_slots_128 : decode cL_slots 128 = .ok (.aload_n 1, 1) := by decide +kernel
theorem dL_slots_129 : decode cL_slots 129 = .ok (.bipush 6, 2) := by decide +kernel
theorem dL_slots_131 : decode cL_slots 131 = .ok (.iload 6, 2) := by decide +kernel
theorem dL_slots_133 : decode cL_slots 133 = .ok (.iadd, 1) := by decide +kernel
theorem dL_slots_134 : decode cL_slots 134 = .ok (.aload 4, 2) := by decide +kernel
theorem dL_slots_136 : decode cL_slots 136 = .ok (.aload 5, 2) := by decide +kernel
theorem dL_slots_138 : decode cL_slots 138 = .ok (.invokestatic 161, 3) := by decide +kernel
theorem dL_slots_141 : decode cL_slots 141 = .ok (.ifCond .eq 19, 3) := by decide +kernel
theorem dL_slots_144 : decode cL_slots 144 = .ok (.aload_n 0, 1) := by decide +kernel
theorem dL_slots_145 : decode cL_slots 145 = .ok (.iload 6, 2) := by decide +kernel
theorem dL_slots_147 : decode cL_slots 147 = .ok (.iconst 2, 1) := by decide +kernel
theorem dL_slots_148 : decode cL_slots 148 = .ok (.invokestatic 126, 3) := by decide +kernel
theorem dL_slots_151 : decode cL_slots 151 = .ok (.aload 4, 2) := by decide +kernel
theorem dL_slots_153 : decode cL_slots 153 = .ok (.iconst 0, 1) := by decide +kernel
theorem dL_slots_154 : decode cL_slots 154 = .ok (.iaload, 1) := by decide +kernel
theorem dL_slots_155 : decode cL_slots 155 = .ok (.i2l, 1) := by decide +kernel
theorem dL_slots_156 : decode cL_slots 156 = .ok (.lcmp, 1) := by decide +kernel
theorem dL_slots_157 : decode cL_slots 157 = .ok (.ifCond .eq 5, 3) := by decide +kernel
theorem dL_slots_160 : decode cL_slots 160 = .ok (.iconst 0, 1) := by decide +kernel
theorem dL_slots_161 : decode cL_slots 161 = .ok (.ireturn, 1) := by decide +kernel
theorem dL_slots_162 : decode cL_slots 162 = .ok (.iinc 6 1, 3) := by decide +kernel
theorem dL_slots_165 : decode cL_slots 165 = .ok (.goto (-162), 3) := by decide +kernel
theorem dL_slots_168 : decode cL_slots 168 = .ok (.iconst 1, 1) := by decide +kernel
theorem dL_slots_169 : decode cL_slots 169 = .ok (.ireturn, 1) := by decide +kernel
theorem dL_isSo_0 : decode cL_isSo 0 = .ok (.bipush 64, 2) := by decide +kernel
theorem dL_isSo_2 : decode cL_isSo 2 = .ok (.newarray .int, 2) := by decide +kernel
theorem dL_isSo_4 : decode cL_isSo 4 = .ok (.astore 5, 2) := by decide +kernel
theorem dL_isSo_6 : decode cL_isSo 6 = .ok (.bipush 12, 2) := by decide +kernel
theorem dL_isSo_8 : decode cL_isSo 8 = .ok (.newarray .long, 2) := by decide +kernel
theorem dL_isSo_10 : decode cL_isSo 10 = .ok (.astore 6, 2) := by decide +kernel
theorem dL_isSo_12 : decode cL_isSo 12 = .ok (.iconst 0, 1) := by decide +kernel
theorem dL_isSo_13 : decode cL_isSo 13 = .ok (.istore 7, 2) := by decide +kernel
theorem dL_isSo_15 : decode cL_isSo 15 = .ok (.iconst 0, 1) := by decide +kernel
theorem dL_isSo_16 : decode cL_isSo 16 = .ok (.istore 8, 2) := by decide +kernel
theorem dL_isSo_18 : decode cL_isSo 18 = .ok (.iload 8, 2) := by decide +kernel
theorem dL_isSo_20 : decode cL_isSo 20 = .ok (.iconst 4, 1) := by decide +kernel
theorem dL_isSo_21 : decode cL_isSo 21 = .ok (.if_icmp .ge 142, 3) := by decide +kernel
theorem dL_isSo_24 : decode cL_isSo 24 = .ok (.iload 7, 2) := by decide +kernel
theorem dL_isSo_26 : decode cL_isSo 26 = .ok (.aload_n 3, 1) := by decide +kernel
theorem dL_isSo_27 : decode cL_isSo 27 = .ok (.iconst 2, 1) := by decide +kernel
theorem dL_isSo_28 : decode cL_isSo 28 = .ok (.iload 8, 2) := by decide +kernel
theorem dL_isSo_30 : decode cL_isSo 30 = .ok (.iadd, 1) := by decide +kernel
theorem dL_isSo_31 : decode cL_isSo 31 = .ok (.iaload, 1) := by decide +kernel
theorem dL_isSo_32 : decode cL_isSo 32 = .ok (.iadd, 1) := by decide +kernel
theorem dL_isSo_33 : decode cL_isSo 33 = .ok (.istore 7, 2) := by decide +kernel
theorem dL_isSo_35 : decode cL_isSo 35 = .ok (.aload_n 3, 1) := by decide +kernel
theorem dL_isSo_36 : decode cL_isSo 36 = .ok (.iconst 2, 1) := by decide +kernel
theorem dL_isSo_37 : decode cL_isSo 37 = .ok (.iload 8, 2) := by decide +kernel
theorem dL_isSo_39 : decode cL_isSo 39 = .ok (.iadd, 1) := by decide +kernel
theorem dL_isSo_40 : decode cL_isSo 40 = .ok (.iaload, 1) := by decide +kernel
theorem dL_isSo_41 : decode cL_isSo 41 = .ok (.iconst 1, 1) := by decide +kernel
theorem dL_isSo_42 : decode cL_isSo 42 = .ok (.if_icmp .ne 66, 3) := by decide +kernel
theorem dL_isSo_45 : decode cL_isSo 45 = .ok (.aload_n 0, 1) := by decide +kernel
theorem dL_isSo_46 : decode cL_isSo 46 = .ok (.iload 8, 2) := by decide +kernel
theorem dL_isSo_48 : decode cL_isSo 48 = .ok (.aload_n 1, 1) := by decide +kernel
theorem dL_isSo_49 : decode cL_isSo 49 = .ok (.iconst 2, 1) := by decide +kernel
theorem dL_isSo_50 : decode cL_isSo 50 = .ok (.iload 8, 2) := by decide +kernel
theorem dL_isSo_52 : decode cL_isSo 52 = .ok (.iadd, 1) := by decide +kernel
theorem dL_isSo_53 : decode cL_isSo 53 = .ok (.aload 5, 2) := by decide +kernel
theorem dL_isSo_55 : decode cL_isSo 55 = .ok (.aload 6, 2) := by decide +kernel
theorem dL_isSo_57 : decode cL_isSo 57 = .ok (.iload 4, 2) := by decide +kernel
theorem dL_isSo_59 : decode cL_isSo 59 = .ok (.iload 8, 2) := by decide +kernel
theorem dL_isSo_61 : decode cL_isSo 61 = .ok (.iadd, 1) := by decide +kernel
theorem dL_isSo_62 : decode cL_isSo 62 = .ok (.invokestatic 191, 3) := by decide +kernel
theorem dL_isSo_65 : decode cL_isSo 65 = .ok (.ifCond .eq 41, 3) := by decide +kernel
theorem dL_isSo_68 : decode cL_isSo 68 = .ok (.aload_n 0, 1) := by decide +kernel
theorem dL_isSo_69 : decode cL_isSo 69 = .ok (.iload 8, 2) := by decide +kernel
theorem dL_isSo_71 : decode cL_isSo 71 = .ok (.invokestatic 134, 3) := by decide +kernel
theorem dL_isSo_74 : decode cL_isSo 74 = .ok (.aload_n 2, 1) := by decide +kernel
theorem dL_isSo_75 : decode cL_isSo 75 = .ok (.iconst 2, 1) := by decide +kernel
theorem dL_isSo_76 : decode cL_isSo 76 = .ok (.iload 8, 2) := by decide +kernel
theorem dL_isSo_78 : decode cL_isSo 78 = .ok (.iadd, 1) := by decide +kernel
theorem dL_isSo_79 : decode cL_isSo 79 = .ok (.iaload, 1) := by decide +kernel
theorem dL_isSo_80 : decode cL_isSo 80 = .ok (.if_icmp .ne 26, 3) := by decide +kernel
theorem dL_isSo_83 : decode cL_isSo 83 = .ok (.iload 4, 2) := by decide +kernel
theorem dL_isSo_85 : decode cL_isSo 85 = .ok (.iconst 5, 1) := by decide +kernel
theorem dL_isSo_86 : decode cL_isSo 86 = .ok (.ishr, 1) := by decide +kernel
theorem dL_isSo_87 : decode cL_isSo 87 = .ok (.iconst 4, 1) := by decide +kernel
theorem dL_isSo_88 : decode cL_isSo 88 = .ok (.invokestatic 165, 3) := by decide +kernel
theorem dL_isSo_91 : decode cL_isSo 91 = .ok (.iload 8, 2) := by decide +kernel
theorem dL_isSo_93 : decode cL_isSo 93 = .ok (.if_icmp .ne 64, 3) := by decide +kernel
theorem dL_isSo_96 : decode cL_isSo 96 = .ok (.aload_n 0, 1) := by decide +kernel
theorem dL_isSo_97 : decode cL_isSo 97 = .ok (.iconst (-1), 1) := by decide +kernel
theorem dL_isSo_98 : decode cL_isSo 98 = .ok (.iload 8, 2) := by decide +kernel
theorem dL_isSo_100 : decode cL_isSo 100 = .ok (.invokestatic 195, 3) := by decide +kernel
theorem dL_isSo_103 : decode cL_isSo 103 = .ok (.ifCond .ne 54, 3) := by decide +kernel
theorem dL_isSo_106 : decode cL_isSo 106 = .ok (.iconst 0, 1) := by decide +kernel
theorem dL_isSo_107 : decode cL_isSo 107 = .ok (.ireturn, 1) := by decide +kernel
theorem dL_isSo_108 : decode cL_isSo 108 = .ok (.aload_n 0, 1) := by decide +kernel
theorem dL_isSo_109 : decode cL_isSo 109 = .ok (.iload 8, 2) := by decide +kernel
theorem dL_isSo_111 : decode cL_isSo 111 = .ok (.invokestatic 134, 3) := by decide +kernel
theorem dL_isSo_114 : decode cL_isSo 114 = .ok (.ldc 23, 2) := by decide +kernel
theorem dL_isSo_116 : decode cL_isSo 116 = .ok (.if_icmp .ne 39, 3) := by decide +kernel
theorem dL_isSo_119 : decode cL_isSo 119 = .ok (.aload_n 0, 1) := by decide +kernel
theorem dL_isSo_120 : decode cL_isSo 120 = .ok (.iload 8, 2) := by decide +kernel
theorem dL_isSo_122 : decode cL_isSo 122 = .ok (.bipush 100, 2) := by decide +kernel
theorem dL_isSo_124 : decode cL_isSo 124 = .ok (.invokestatic 173, 3) := by decide +kernel
theorem dL_isSo_127 : decode cL_isSo 127 = .ok (.ldc 23, 2) := by decide +kernel
theorem dL_isSo_129 : decode cL_isSo 129 = .ok (.if_icmp .ne 26, 3) := by decide +kernel
theorem dL_isSo_132 : decode cL_isSo 132 = .ok (.aload_n 0, 1) := by decide +kernel
theorem dL_isSo_133 : decode cL_isSo 133 = .ok (.iload 8, 2) := by decide +kernel
theorem dL_isSo_135 : decode cL_isSo 135 = .ok (.invokestatic 199, 3) := by decide +kernel
theorem dL_isSo_138 : decode cL_isSo 138 = .ok (.ldc 23, 2) := by decide +kernel
theorem dL_isSo_140 : decode cL_isSo 140 = .ok (.if_icmp .ne 15, 3) := by decide +kernel
theorem dL_isSo_143 : decode cL_isSo 143 = .ok (.aload_n 0, 1) := by decide +kernel
theorem dL_isSo_144 : decode cL_isSo 144 = .ok (.iconst (-1), 1) := by decide +kernel
theorem dL_isSo_145 : decode cL_isSo 145 = .ok (.iload 8, 2) := by decide +kernel
theorem dL_isSo_147 : decode cL_isSo 147 = .ok (.invokestatic 182, 3) := by decide +kernel
theorem dL_isSo_150 : decode cL_isSo 150 = .ok (.ldc 23, 2) := by decide +kernel
theorem dL_isSo_152 : decode cL_isSo 152 = .ok (.if_icmp .eq 5, 3) := by decide +kernel
theorem dL_isSo_155 : decode cL_isSo 155 = .ok (.iconst 0, 1) := by decide +kernel
theorem dL_isSo_156 : decode cL_isSo 156 = .ok (.ireturn, 1) := by decide +kernel
theorem dL_isSo_157 : decode cL_isSo 157 = .ok (.iinc 8 1, 3) := by decide +kernel
theorem dL_isSo_160 : decode cL_isSo 160 = .ok (.goto (-142), 3) := by decide +kernel
theorem dL_isSo_163 : decode cL_isSo 163 = .ok (.aload_n 3, 1) := by decide +kernel
theorem dL_isSo_164 : decode cL_isSo 164 = .ok (.iconst 1, 1) := by decide +kernel
theorem dL_isSo_165 : decode cL_isSo 165 = .ok (.iaload, 1) := by decide +kernel
theorem dL_isSo_166 : decode cL_isSo 166 = .ok (.iconst 1, 1) := by decide +kernel
theorem dL_isSo_167 : decode cL_isSo 167 = .ok (.if_icmp .ne 7, 3) := by decide +kernel
theorem dL_isSo_170 : decode cL_isSo 170 = .ok (.iconst 1, 1) := by decide +kernel
theorem dL_isSo_171 : decode cL_isSo 171 = .ok (.goto 4, 3) := by decide +kernel
theorem dL_isSo_174 : decode cL_isSo 174 = .ok (.iconst 0, 1) := by decide +kernel
theorem dL_isSo_175 : decode cL_isSo 175 = .ok (.istore 8, 2) := by decide +kernel
theorem dL_isSo_177 : decode cL_isSo 177 = .ok (.aload_n 0, 1) := by decide +kernel
theorem dL_isSo_178 : decode cL_isSo 178 = .ok (.iconst (-1), 1) := by decide +kernel
theorem dL_isSo_179 : decode cL_isSo 179 = .ok (.aload_n 1, 1) := by decide +kernel
theorem dL_isSo_180 : decode cL_isSo 180 = .ok (.iload 8, 2) := by decide +kernel
theorem dL_isSo_182 : decode cL_isSo 182 = .ok (.aload 5, 2) := by decide +kernel
theorem dL_isSo_184 : decode cL_isSo 184 = .ok (.aload 6, 2) := by decide +kernel
theorem dL_isSo_186 : decode cL_isSo 186 = .ok (.iload 4, 2) := by decide +kernel
theorem dL_isSo_188 : decode cL_isSo 188 = .ok (.iconst 3, 1) := by decide +kernel
theorem dL_isSo_189 : decode cL_isSo 189 = .ok (.ishr, 1) := by decide +kernel
theorem dL_isSo_190 : decode cL_isSo 190 = .ok (.invokestatic 191, 3) := by decide +kernel
theorem dL_isSo_193 : decode cL_isSo 193 = .ok (.ifCond .eq 56, 3) := by decide +kernel
theorem dL_isSo_196 : decode cL_isSo 196 = .ok (.aload_n 0, 1) := by decide +kernel
theorem dL_isSo_197 : decode cL_isSo 197 = .ok (.iconst (-1), 1) := by decide +kernel
theorem dL_isSo_198 : decode cL_isSo 198 = .ok (.invokestatic 134, 3) := by decide +kernel
theorem dL_isSo_201 : decode cL_isSo 201 = .ok (.aload_n 2, 1) := by decide +kernel
theorem dL_isSo_202 : decode cL_isSo 202 = .ok (.iload 8, 2) := by decide +kernel
theorem dL_isSo_204 : decode cL_isSo 204 = .ok (.iaload, 1) := by decide +kernel
theorem dL_isSo_205 : decode cL_isSo 205 = .ok (.if_icmp .ne 44, 3) := by decide +kernel
theorem dL_isSo_208 : decode cL_isSo 208 = .ok (.aload_n 0, 1) := by decide +kernel
theorem dL_isSo_209 : decode cL_isSo 209 = .ok (.invokevirtual 119, 3) := by decide +kernel
theorem dL_isSo_212 : decode cL_isSo 212 = .ok (.iload 8, 2) := by decide +kernel
theorem dL_isSo_214 : decode cL_isSo 214 = .ok (.iconst 1, 1) := by decide +kernel
theorem dL_isSo_215 : decode cL_isSo 215 = .ok (.if_icmp .ne 7, 3) := by decide +kernel
theorem dL_isSo_218 : decode cL_isSo 218 = .ok (.iconst 1, 1) := by decide +kernel
theorem dL_isSo_219 : decode cL_isSo 219 = .ok (.goto 4, 3) := by decide +kernel
theorem dL_isSo_222 : decode cL_isSo 222 = .ok (.iconst 0, 1) := by decide +kernel
theorem dL_isSo_223 : decode cL_isSo 223 = .ok (.if_icmp .ne 26, 3) := by decide +kernel
theorem dL_isSo_226 : decode cL_isSo 226 = .ok (.aload_n 0, 1) := by decide +kernel
theorem dL_isSo_227 : decode cL_isSo 227 = .ok (.invokevirtual 123, 3) := by decide +kernel
theorem dL_isSo_230 : decode cL_isSo 230 = .ok (.iload 7, 2) := by decide +kernel
theorem dL_isSo_232 : decode cL_isSo 232 = .ok (.if_icmp .ne 17, 3) := by decide +kernel
theorem dL_isSo_235 : decode cL_isSo 235 = .ok (.aload_n 0, 1) := by decide +kernel
theorem dL_isSo_236 : decode cL_isSo 236 = .ok (.aload_n 1, 1) := by decide +kernel
theorem dL_isSo_237 : decode cL_isSo 237 = .ok (.aload_n 2, 1) := by decide +kernel
theorem dL_isSo_238 : decode cL_isSo 238 = .ok (.aload_n 3, 1) := by decide +kernel
theorem dL_isSo_239 : decode cL_isSo 239 = .ok (.aload 5, 2) := by decide +kernel
theorem dL_isSo_241 : decode cL_isSo 241 = .ok (.aload 6, 2) := by decide +kernel
theorem dL_isSo_243 : decode cL_isSo 243 = .ok (.invokestatic 201, 3) := by decide +kernel
theorem dL_isSo_246 : decode cL_isSo 246 = .ok (.ifCond .ne 5, 3) := by decide +kernel
theorem dL_isSo_249 : decode cL_isSo 249 = .ok (.iconst 0, 1) := by decide +kernel
theorem dL_isSo_250 : decode cL_isSo 250 = .ok (.ireturn, 1) := by decide +kernel
theorem dL_isSo_251 : decode cL_isSo 251 = .ok (.iload 8, 2) := by decide +kernel
theorem dL_isSo_253 : decode cL_isSo 253 = .ok (.ifCond .eq 16, 3) := by decide +kernel
theorem dL_isSo_256 : decode cL_isSo 256 = .ok (.aload_n 3, 1) := by decide +kernel
theorem dL_isSo_257 : decode cL_isSo 257 = .ok (.bipush 6, 2) := by decide +kernel
theorem dL_isSo_259 : decode cL_isSo 259 = .ok (.aload_n 0, 1) := by decide +kernel
theorem dL_isSo_260 : decode cL_isSo 260 = .ok (.invokevirtual 116, 3) := by decide +kernel
theorem dL_isSo_263 : decode cL_isSo 263 = .ok (.iadd, 1) := by decide +kernel
theorem dL_isSo_264 : decode cL_isSo 264 = .ok (.iaload, 1) := by decide +kernel
theorem dL_isSo_265 : decode cL_isSo 265 = .ok (.iconst 1, 1) := by decide +kernel
theorem dL_isSo_266 : decode cL_isSo 266 = .ok (.if_icmp .ne 7, 3) := by decide +kernel
theorem dL_isSo_269 : decode cL_isSo 269 = .ok (.iconst 1, 1) := by decide +kernel
theorem dL_isSo_270 : decode cL_isSo 270 = .ok (.goto 4, 3) := by decide +kernel
theorem dL_isSo_273 : decode cL_isSo 273 = .ok (.iconst 0, 1) := by decide +kernel
theorem dL_isSo_274 : decode cL_isSo 274 = .ok (.istore 9, 2) := by decide +kernel
theorem dL_isSo_276 : decode cL_isSo 276 = .ok (.iconst 0, 1) := by decide +kernel
theorem dL_isSo_277 : decode cL_isSo 277 = .ok (.istore 10, 2) := by decide +kernel
theorem dL_isSo_279 : decode cL_isSo 279 = .ok (.iconst (-1), 1) := by decide +kernel
theorem dL_isSo_280 : decode cL_isSo 280 = .ok (.istore 11, 2) := by decide +kernel
theorem dL_isSo_282 : decode cL_isSo 282 = .ok (.iconst 0, 1) := by decide +kernel
theorem dL_isSo_283 : decode cL_isSo 283 = .ok (.istore 12, 2) := by decide +kernel
theorem dL_isSo_285 : decode cL_isSo 285 = .ok (.iload 12, 2) := by decide +kernel
theorem dL_isSo_287 : decode cL_isSo 287 = .ok (.sipush 768, 3) := by decide +kernel
theorem dL_isSo_290 : decode cL_isSo 290 = .ok (.if_icmp .ge 110, 3) := by decide +kernel
theorem dL_isSo_293 : decode cL_isSo 293 = .ok (.aload 6, 2) := by decide +kernel
theorem dL_isSo_295 : decode cL_isSo 295 = .ok (.iload 12, 2) := by decide +kernel
theorem dL_isSo_297 : decode cL_isSo 297 = .ok (.bipush 64, 2) := by decide +kernel
theorem dL_isSo_299 : decode cL_isSo 299 = .ok (.idiv, 1) := by decide +kernel
theorem dL_isSo_300 : decode cL_isSo 300 = .ok (.laload, 1) := by decide +kernel
theorem dL_isSo_301 : decode cL_isSo 301 = .ok (.iload 12, 2) := by decide +kernel
theorem dL_isSo_303 : decode cL_isSo 303 = .ok (.bipush 64, 2) := by decide +kernel
theorem dL_isSo_305 : decode cL_isSo 305 = .ok (.irem, 1) := by decide +kernel
theorem dL_isSo_306 : decode cL_isSo 306 = .ok (.lshr, 1) := by decide +kernel
theorem dL_isSo_307 : decode cL_isSo 307 = .ok (.lconst 1, 1) := by decide +kernel
theorem dL_isSo_308 : decode cL_isSo 308 = .ok (.land, 1) := by decide +kernel
theorem dL_isSo_309 : decode cL_isSo 309 = .ok (.lconst 1, 1) := by decide +kernel
theorem dL_isSo_310 : decode cL_isSo 310 = .ok (.lcmp, 1) := by decide +kernel
theorem dL_isSo_311 : decode cL_isSo 311 = .ok (.ifCond .ne 7, 3) := by decide +kernel
theorem dL_isSo_314 : decode cL_isSo 314 = .ok (.iconst 1, 1) := by decide +kernel
theorem dL_isSo_315 : decode cL_isSo 315 = .ok (.goto 4, 3) := by decide +kernel
theorem dL_isSo_318 : decode cL_isSo 318 = .ok (.iconst 0, 1) := by decide +kernel
theorem dL_isSo_319 : decode cL_isSo 319 = .ok (.istore 13, 2) := by decide +kernel
theorem dL_isSo_321 : decode cL_isSo 321 = .ok (.iload 10, 2) := by decide +kernel
theorem dL_isSo_323 : decode cL_isSo 323 = .ok (.iload 13, 2) := by decide +kernel
theorem dL_isSo_325 : decode cL_isSo 325 = .ok (.ifCond .eq 7, 3) := by decide +kernel
theorem dL_isSo_328 : decode cL_isSo 328 = .ok (.iconst 1, 1) := by decide +kernel
theorem dL_isSo_329 : decode cL_isSo 329 = .ok (.goto 4, 3) := by decide +kernel
theorem dL_isSo_332 : decode cL_isSo 332 = .ok (.iconst 0, 1) := by decide +kernel
theorem dL_isSo_333 : decode cL_isSo 333 = .ok (.iadd, 1) := by decide +kernel
theorem dL_isSo_334 : decode cL_isSo 334 = .ok (.istore 10, 2) := by decide +kernel
theorem dL_isSo_336 : decode cL_isSo 336 = .ok (.iload 13, 2) := by decide +kernel
theorem dL_isSo_338 : decode cL_isSo 338 = .ok (.ifCond .ne 8, 3) := by decide +kernel
theorem dL_isSo_341 : decode cL_isSo 341 = .ok (.iload 11, 2) := by decide +kernel
theorem dL_isSo_343 : decode cL_isSo 343 = .ok (.ifCond .lt 8, 3) := by decide +kernel
theorem dL_isSo_346 : decode cL_isSo 346 = .ok (.iload 11, 2) := by decide +kernel
theorem dL_isSo_348 : decode cL_isSo 348 = .ok (.goto 5, 3) := by decide +kernel
theorem dL_isSo_351 : decode cL_isSo 351 = .ok (.iload 12, 2) := by decide +kernel
theorem dL_isSo_353 : decode cL_isSo 353 = .ok (.istore 11, 2) := by decide +kernel
theorem dL_isSo_355 : decode cL_isSo 355 = .ok (.iload 13, 2) := by decide +kernel
theorem dL_isSo_357 : decode cL_isSo 357 = .ok (.ifCond .ne 16, 3) := by decide +kernel
theorem dL_isSo_360 : decode cL_isSo 360 = .ok (.iload 9, 2) := by decide +kernel
theorem dL_isSo_362 : decode cL_isSo 362 = .ok (.ifCond .eq 32, 3) := by decide +kernel
theorem dL_isSo_365 : decode cL_isSo 365 = .ok (.iload 12, 2) := by decide +kernel
theorem dL_isSo_367 : decode cL_isSo 367 = .ok (.sipush 150, 3) := by decide +kernel
theorem dL_isSo_370 : decode cL_isSo 370 = .ok (.if_icmp .ge 24, 3) := by decide +kernel
theorem dL_isSo_373 : decode cL_isSo 373 = .ok (.aload_n 0, 1) := by decide +kernel
theorem dL_isSo_374 : decode cL_isSo 374 = .ok (.iload 12, 2) := by decide +kernel
theorem dL_isSo_376 : decode cL_isSo 376 = .ok (.invokestatic 205, 3) := by decide +kernel
theorem dL_isSo_379 : decode cL_isSo 379 = .ok (.iload 13, 2) := by decide +kernel
theorem dL_isSo_381 : decode cL_isSo 381 = .ok (.ifCond .eq 7, 3) := by decide +kernel
theorem dL_isSo_384 : decode cL_isSo 384 = .ok (.iconst 0, 1) := by decide +kernel
theorem dL_isSo_385 : decode cL_isSo 385 = .ok (.goto 4, 3) := by decide +kernel
theorem dL_isSo_388 : decode cL_isSo 388 = .ok (.iconst 1, 1) := by decide +kernel
theorem dL_isSo_389 : decode cL_isSo 389 = .ok (.if_icmp .eq 5, 3) := by decide +kernel
theorem dL_isSo_392 : decode cL_isSo 392 = .ok (.iconst 0, 1) := by decide +kernel
theorem dL_isSo_393 : decode cL_isSo 393 = .ok (.ireturn, 1) := by decide +kernel
theorem dL_isSo_394 : decode cL_isSo 394 = .ok (.iinc 12 1, 3) := by decide +kernel
theorem dL_isSo_397 : decode cL_isSo 397 = .ok (.goto (-112), 3) := by decide +kernel
theorem dL_isSo_400 : decode cL_isSo 400 = .ok (.iload 9, 2) := by decide +kernel
theorem dL_isSo_402 : decode cL_isSo 402 = .ok (.ifCond .eq 29, 3) := by decide +kernel
theorem dL_isSo_405 : decode cL_isSo 405 = .ok (.aload_n 0, 1) := by decide +kernel
theorem dL_isSo_406 : decode cL_isSo 406 = .ok (.invokevirtual 110, 3) := by decide +kernel
theorem dL_isSo_409 : decode cL_isSo 409 = .ok (.iload 10, 2) := by decide +kernel
theorem dL_isSo_411 : decode cL_isSo 411 = .ok (.if_icmp .ne 16, 3) := by decide +kernel
theorem dL_isSo_414 : decode cL_isSo 414 = .ok (.aload_n 0, 1) := by decide +kernel
theorem dL_isSo_415 : decode cL_isSo 415 = .ok (.invokevirtual 113, 3) := by decide +kernel
theorem dL_isSo_418 : decode cL_isSo 418 = .ok (.iload 11, 2) := by decide +kernel
theorem dL_isSo_420 : decode cL_isSo 420 = .ok (.if_icmp .ne 7, 3) := by decide +kernel
theorem dL_isSo_423 : decode cL_isSo 423 = .ok (.iconst 1, 1) := by decide +kernel
theorem dL_isSo_424 : decode cL_isSo 424 = .ok (.goto 21, 3) := by decide +kernel
theorem dL_isSo_427 : decode cL_isSo 427 = .ok (.iconst 0, 1) := by decide +kernel
theorem dL_isSo_428 : decode cL_isSo 428 = .ok (.goto 17, 3) := by decide +kernel
theorem dL_isSo_431 : decode cL_isSo 431 = .ok (.aload_n 0, 1) := by decide +kernel
theorem dL_isSo_432 : decode cL_isSo 432 = .ok (.invokevirtual 110, 3) := by decide +kernel
theorem dL_isSo_435 : decode cL_isSo 435 = .ok (.iload 10, 2) := by decide +kernel
theorem dL_isSo_437 : decode cL_isSo 437 = .ok (.if_icmp .lt 7, 3) := by decide +kernel
theorem dL_isSo_440 : decode cL_isSo 440 = .ok (.iconst 1, 1) := by decide +kernel
theorem dL_isSo_441 : decode cL_isSo 441 = .ok (.goto 4, 3) := by decide +kernel
theorem dL_isSo_444 : decode cL_isSo 444 = .ok (.iconst 0, 1) := by decide +kernel
theorem dL_isSo_445 : decode cL_isSo 445 = .ok (.ireturn, 1) := by decide +kernel
theorem dL_copies_0 : decode cL_copies 0 = .ok (.iconst 0, 1) := by decide +kernel
theorem dL_copies_1 : decode cL_copies 1 = .ok (.istore 4, 2) := by decide +kernel
theorem dL_copies_3 : decode cL_copies 3 = .ok (.iload 4, 2) := by decide +kernel
theorem dL_copies_5 : decode cL_copies 5 = .ok (.iconst 3, 1) := by decide +kernel
theorem dL_copies_6 : decode cL_copies 6 = .ok (.if_icmp .ge 25, 3) := by decide +kernel
theorem dL_copies_9 : decode cL_copies 9 = .ok (.aload_n 0, 1) := by decide +kernel
theorem dL_copies_10 : decode cL_copies 10 = .ok (.iconst 3, 1) := by decide +kernel
theorem dL_copies_11 : decode cL_copies 11 = .ok (.iload_n 3, 1) := by decide +kernel
theorem dL_copies_12 : decode cL_copies 12 = .ok (.imul, 1) := by decide +kernel
theorem dL_copies_13 : decode cL_copies 13 = .ok (.iload 4, 2) := by decide +kernel
theorem dL_copies_15 : decode cL_copies 15 = .ok (.iadd, 1) := by decide +kernel
theorem dL_copies_16 : decode cL_copies 16 = .ok (.aload_n 0, 1) := by decide +kernel
theorem dL_copies_17 : decode cL_copies 17 = .ok (.iconst 3, 1) := by decide +kernel
theorem dL_copies_18 : decode cL_copies 18 = .ok (.iload_n 2, 1) := by decide +kernel
theorem dL_copies_19 : decode cL_copies 19 = .ok (.imul, 1) := by decide +kernel
theorem dL_copies_20 : decode cL_copies 20 = .ok (.iload 4, 2) := by decide +kernel
theorem dL_copies_22 : decode cL_copies 22 = .ok (.iadd, 1) := by decide +kernel
theorem dL_copies_23 : decode cL_copies 23 = .ok (.laload, 1) := by decide +kernel
theorem dL_copies_24 : decode cL_copies 24 = .ok (.lastore, 1) := by decide +kernel
theorem dL_copies_25 : decode cL_copies 25 = .ok (.iinc 4 1, 3) := by decide +kernel
theorem dL_copies_28 : decode cL_copies 28 = .ok (.goto (-25), 3) := by decide +kernel
theorem dL_copies_31 : decode cL_copies 31 = .ok (.aload_n 1, 1) := by decide +kernel
theorem dL_copies_32 : decode cL_copies 32 = .ok (.iload_n 3, 1) := by decide +kernel
theorem dL_copies_33 : decode cL_copies 33 = .ok (.aload_n 1, 1) := by decide +kernel
theorem dL_copies_34 : decode cL_copies 34 = .ok (.iload_n 2, 1) := by decide +kernel
theorem dL_copies_35 : decode cL_copies 35 = .ok (.iaload, 1) := by decide +kernel
theorem dL_copies_36 : decode cL_copies 36 = .ok (.iastore, 1) := by decide +kernel
theorem dL_copies_37 : decode cL_copies 37 = .ok (.return_, 1) := by decide +kernel
theorem dL_wakes_0 : decode cL_wakes 0 = .ok (.aload 4, 2) := by decide +kernel
theorem dL_wakes_2 : decode cL_wakes 2 = .ok (.bipush 6, 2) := by decide +kernel
theorem dL_wakes_4 : decode cL_wakes 4 = .ok (.iaload, 1) := by decide +kernel
theorem dL_wakes_5 : decode cL_wakes 5 = .ok (.iconst 1, 1) := by decide +kernel
theorem dL_wakes_6 : decode cL_wakes 6 = .ok (.if_icmp .ne 26, 3) := by decide +kernel
theorem dL_wakes_9 : decode cL_wakes 9 = .ok (.aload 4, 2) := by decide +kernel
theorem dL_wakes_11 : decode cL_wakes 11 = .ok (.bipush 7, 2) := by decide +kernel
theorem dL_wakes_13 : decode cL_wakes 13 = .ok (.iaload, 1) := by decide +kernel
theorem dL_wakes_14 : decode cL_wakes 14 = .ok (.ifCond .eq 14, 3) := by decide +kernel
theorem dL_wakes_17 : decode cL_wakes 17 = .ok (.aload_n 3, 1) := by decide +kernel
theorem dL_wakes_18 : decode cL_wakes 18 = .ok (.bipush 6, 2) := by decide +kernel
theorem dL_wakes_20 : decode cL_wakes 20 = .ok (.iaload, 1) := by decide +kernel
theorem dL_wakes_21 : decode cL_wakes 21 = .ok (.aload_n 3, 1) := by decide +kernel
theorem dL_wakes_22 : decode cL_wakes 22 = .ok (.bipush 7, 2) := by decide +kernel
theorem dL_wakes_24 : decode cL_wakes 24 = .ok (.iaload, 1) := by decide +kernel
theorem dL_wakes_25 : decode cL_wakes 25 = .ok (.if_icmp .lt 7, 3) := by decide +kernel
theorem dL_wakes_28 : decode cL_wakes 28 = .ok (.iconst 0, 1) := by decide +kernel
theorem dL_wakes_29 : decode cL_wakes 29 = .ok (.goto 4, 3) := by decide +kernel
theorem dL_wakes_32 : decode cL_wakes 32 = .ok (.iconst 1, 1) := by decide +kernel
theorem dL_wakes_33 : decode cL_wakes 33 = .ok (.istore 5, 2) := by decide +kernel
theorem dL_wakes_35 : decode cL_wakes 35 = .ok (.aload_n 2, 1) := by decide +kernel
theorem dL_wakes_36 : decode cL_wakes 36 = .ok (.aload_n 3, 1) := by decide +kernel
theorem dL_wakes_37 : decode cL_wakes 37 = .ok (.bipush 6, 2) := by decide +kernel
theorem dL_wakes_39 : decode cL_wakes 39 = .ok (.iload 5, 2) := by decide +kernel
theorem dL_wakes_41 : decode cL_wakes 41 = .ok (.iadd, 1) := by decide +kernel
theorem dL_wakes_42 : decode cL_wakes 42 = .ok (.iconst 0, 1) := by decide +kernel
theorem dL_wakes_43 : decode cL_wakes 43 = .ok (.invokestatic 207, 3) := by decide +kernel
theorem dL_wakes_46 : decode cL_wakes 46 = .ok (.iconst 1, 1) := by decide +kernel
theorem dL_wakes_47 : decode cL_wakes 47 = .ok (.istore 6, 2) := by decide +kernel
theorem dL_wakes_49 : decode cL_wakes 49 = .ok (.iload 6, 2) := by decide +kernel
theorem dL_wakes_51 : decode cL_wakes 51 = .ok (.bipush 6, 2) := by decide +kernel
theorem dL_wakes_53 : decode cL_wakes 53 = .ok (.if_icmp .ge 15, 3) := by decide +kernel
theorem dL_wakes_56 : decode cL_wakes 56 = .ok (.aload 4, 2) := by decide +kernel
theorem dL_wakes_58 : decode cL_wakes 58 = .ok (.iload 6, 2) := by decide +kernel
theorem dL_wakes_60 : decode cL_wakes 60 = .ok (.iconst 0, 1) := by decide +kernel
theorem dL_wakes_61 : decode cL_wakes 61 = .ok (.iastore, 1) := by decide +kernel
theorem dL_wakes_62 : decode cL_wakes 62 = .ok (.iinc 6 1, 3) := by decide +kernel
theorem dL_wakes_65 : decode cL_wakes 65 = .ok (.goto (-16), 3) := by decide +kernel
theorem dL_wakes_68 : decode cL_wakes 68 = .ok (.iload_n 1, 1) := by decide +kernel
theorem dL_wakes_69 : decode cL_wakes 69 = .ok (.aload_n 3, 1) := by decide +kernel
theorem dL_wakes_70 : decode cL_wakes 70 = .ok (.iconst 0, 1) := by decide +kernel
theorem dL_wakes_71 : decode cL_wakes 71 = .ok (.iaload, 1) := by decide +kernel
theorem dL_wakes_72 : decode cL_wakes 72 = .ok (.if_icmp .ne 16, 3) := by decide +kernel
theorem dL_wakes_75 : decode cL_wakes 75 = .ok (.aload_n 0, 1) := by decide +kernel
theorem dL_wakes_76 : decode cL_wakes 76 = .ok (.invokevirtual 116, 3) := by decide +kernel
theorem dL_wakes_79 : decode cL_wakes 79 = .ok (.iload 5, 2) := by decide +kernel
theorem dL_wakes_81 : decode cL_wakes 81 = .ok (.if_icmp .ne 7, 3) := by decide +kernel
theorem dL_wakes_84 : decode cL_wakes 84 = .ok (.iconst 1, 1) := by decide +kernel
theorem dL_wakes_85 : decode cL_wakes 85 = .ok (.goto 4, 3) := by decide +kernel
theorem dL_wakes_88 : decode cL_wakes 88 = .ok (.iconst 0, 1) := by decide +kernel
theorem dL_wakes_89 : decode cL_wakes 89 = .ok (.ireturn, 1) := by decide +kernel
theorem dL_writes_0 : decode cL_writes 0 = .ok (.iconst 1, 1) := by decide +kernel
theorem dL_writes_1 : decode cL_writes 1 = .ok (.istore 7, 2) := by decide +kernel
theorem dL_writes_3 : decode cL_writes 3 = .ok (.aload 6, 2) := by decide +kernel
theorem dL_writes_5 : decode cL_writes 5 = .ok (.iconst 1, 1) := by decide +kernel
theorem dL_writes_6 : decode cL_writes 6 = .ok (.iaload, 1) := by decide +kernel
theorem dL_writes_7 : decode cL_writes 7 = .ok (.ifCond .ne 43, 3) := by decide +kernel
theorem dL_writes_10 : decode cL_writes 10 = .ok (.aload 4, 2) := by decide +kernel
theorem dL_writes_12 : decode cL_writes 12 = .ok (.aload 5, 2) := by decide +kernel
theorem dL_writes_14 : decode cL_writes 14 = .ok (.iconst 0, 1) := by decide +kernel
theorem dL_writes_15 : decode cL_writes 15 = .ok (.iconst 1, 1) := by decide +kernel
theorem dL_writes_16 : decode cL_writes 16 = .ok (.invokestatic 207, 3) := by decide +kernel
theorem dL_writes_19 : decode cL_writes 19 = .ok (.aload 5, 2) := by decide +kernel
theorem dL_writes_21 : decode cL_writes 21 = .ok (.iconst 1, 1) := by decide +kernel
theorem dL_writes_22 : decode cL_writes 22 = .ok (.dup2, 1) := by decide +kernel
theorem dL_writes_23 : decode cL_writes 23 = .ok (.iaload, 1) := by decide +kernel
theorem dL_writes_24 : decode cL_writes 24 = .ok (.iconst 1, 1) := by decide +kernel
theorem dL_writes_25 : decode cL_writes 25 = .ok (.iadd, 1) := by decide +kernel
theorem dL_writes_26 : decode cL_writes 26 = .ok (.iastore, 1) := by decide +kernel
theorem dL_writes_27 : decode cL_writes 27 = .ok (.aload 6, 2) := by decide +kernel
theorem dL_writes_29 : decode cL_writes 29 = .ok (.iconst 1, 1) := by decide +kernel
theorem dL_writes_30 : decode cL_writes 30 = .ok (.iconst 1, 1) := by decide +kernel
theorem dL_writes_31 : decode cL_writes 31 = .ok (.iastore, 1) := by decide +kernel
theorem dL_writes_32 : decode cL_writes 32 = .ok (.aload_n 0, 1) := by decide +kernel
theorem dL_writes_33 : decode cL_writes 33 = .ok (.invokestatic 211, 3) := by decide +kernel
theorem dL_writes_36 : decode cL_writes 36 = .ok (.aload 5, 2) := by decide +kernel
theorem dL_writes_38 : decode cL_writes 38 = .ok (.iconst 1, 1) := by decide +kernel
theorem dL_writes_39 : decode cL_writes 39 = .ok (.iaload, 1) := by decide +kernel
theorem dL_writes_40 : decode cL_writes 40 = .ok (.if_icmp .ne 7, 3) := by decide +kernel
theorem dL_writes_43 : decode cL_writes 43 = .ok (.iconst 1, 1) := by decide +kernel
theorem dL_writes_44 : decode cL_writes 44 = .ok (.goto 4, 3) := by decide +kernel
theorem dL_writes_47 : decode cL_writes 47 = .ok (.iconst 0, 1) := by decide +kernel
theorem dL_writes_48 : decode cL_writes 48 = .ok (.istore 7, 2) := by decide +kernel
theorem dL_writes_50 : decode cL_writes 50 = .ok (.iload_n 2, 1) := by decide +kernel
theorem dL_writes_51 : decode cL_writes 51 = .ok (.bipush 32, 2) := by decide +kernel
theorem dL_writes_53 : decode cL_writes 53 = .ok (.invokestatic 165, 3) := by decide +kernel
theorem dL_writes_56 : decode cL_writes 56 = .ok (.istore 8, 2) := by decide +kernel
theorem dL_writes_58 : decode cL_writes 58 = .ok (.iconst 1, 1) := by decide +kernel
theorem dL_writes_59 : decode cL_writes 59 = .ok (.iload_n 2, 1) := by decide +kernel
theorem dL_writes_60 : decode cL_writes 60 = .ok (.bipush 6, 2) := by decide +kernel
theorem dL_writes_62 : decode cL_writes 62 = .ok (.ishr, 1) := by decide +kernel
theorem dL_writes_63 : decode cL_writes 63 = .ok (.bipush 7, 2) := by decide +kernel
theorem dL_writes_65 : decode cL_writes 65 = .ok (.invokestatic 165, 3) := by decide +kernel
theorem dL_writes_68 : decode cL_writes 68 = .ok (.iadd, 1) := by decide +kernel
theorem dL_writes_69 : decode cL_writes 69 = .ok (.istore 9, 2) := by decide +kernel
theorem dL_writes_71 : decode cL_writes 71 = .ok (.iconst 1, 1) := by decide +kernel
theorem dL_writes_72 : decode cL_writes 72 = .ok (.iload_n 2, 1) := by decide +kernel
theorem dL_writes_73 : decode cL_writes 73 = .ok (.bipush 9, 2) := by decide +kernel
theorem dL_writes_75 : decode cL_writes 75 = .ok (.ishr, 1) := by decide +kernel
theorem dL_writes_76 : decode cL_writes 76 = .ok (.bipush 9, 2) := by decide +kernel
theorem dL_writes_78 : decode cL_writes 78 = .ok (.invokestatic 165, 3) := by decide +kernel
theorem dL_writes_81 : decode cL_writes 81 = .ok (.iadd, 1) := by decide +kernel
theorem dL_writes_82 : decode cL_writes 82 = .ok (.istore 10, 2) := by decide +kernel
theorem dL_writes_84 : decode cL_writes 84 = .ok (.iconst 0, 1) := by decide +kernel
theorem dL_writes_85 : decode cL_writes 85 = .ok (.istore 11, 2) := by decide +kernel
theorem dL_writes_87 : decode cL_writes 87 = .ok (.iload 11, 2) := by decide +kernel
theorem dL_writes_89 : decode cL_writes 89 = .ok (.iload 10, 2) := by decide +kernel
theorem dL_writes_91 : decode cL_writes 91 = .ok (.if_icmp .ge 145, 3) := by decide +kernel
theorem dL_writes_94 : decode cL_writes 94 = .ok (.iload 8, 2) := by decide +kernel
theorem dL_writes_96 : decode cL_writes 96 = .ok (.iload 11, 2) := by decide +kernel
theorem dL_writes_98 : decode cL_writes 98 = .ok (.iload 9, 2) := by decide +kernel
theorem dL_writes_100 : decode cL_writes 100 = .ok (.imul, 1) := by decide +kernel
theorem dL_writes_101 : decode cL_writes 101 = .ok (.iadd, 1) := by decide +kernel
theorem dL_writes_102 : decode cL_writes 102 = .ok (.bipush 32, 2) := by decide +kernel
theorem dL_writes_104 : decode cL_writes 104 = .ok (.irem, 1) := by decide +kernel
theorem dL_writes_105 : decode cL_writes 105 = .ok (.istore 12, 2) := by decide +kernel
theorem dL_writes_107 : decode cL_writes 107 = .ok (.aload 4, 2) := by decide +kernel
theorem dL_writes_109 : decode cL_writes 109 = .ok (.iconst 1, 1) := by decide +kernel
theorem dL_writes_110 : decode cL_writes 110 = .ok (.iload 12, 2) := by decide +kernel
theorem dL_writes_112 : decode cL_writes 112 = .ok (.invokestatic 152, 3) := by decide +kernel
theorem dL_writes_115 : decode cL_writes 115 = .ok (.istore 13, 2) := by decide +kernel
theorem dL_writes_117 : decode cL_writes 117 = .ok (.iload_n 1, 1) := by decide +kernel
theorem dL_writes_118 : decode cL_writes 118 = .ok (.iconst 5, 1) := by decide +kernel
theorem dL_writes_119 : decode cL_writes 119 = .ok (.ishr, 1) := by decide +kernel
theorem dL_writes_120 : decode cL_writes 120 = .ok (.iconst 5, 1) := by decide +kernel
theorem dL_writes_121 : decode cL_writes 121 = .ok (.invokestatic 165, 3) := by decide +kernel
theorem dL_writes_124 : decode cL_writes 124 = .ok (.iconst 3, 1) := by decide +kernel
theorem dL_writes_125 : decode cL_writes 125 = .ok (.if_icmp .ge 55, 3) := by decide +kernel
theorem dL_writes_128 : decode cL_writes 128 = .ok (.iload 7, 2) := by decide +kernel
theorem dL_writes_130 : decode cL_writes 130 = .ok (.ifCond .eq 35, 3) := by decide +kernel
theorem dL_writes_133 : decode cL_writes 133 = .ok (.aload_n 0, 1) := by decide +kernel
theorem dL_writes_134 : decode cL_writes 134 = .ok (.iload 12, 2) := by decide +kernel
theorem dL_writes_136 : decode cL_writes 136 = .ok (.invokestatic 156, 3) := by decide +kernel
theorem dL_writes_139 : decode cL_writes 139 = .ok (.iload_n 3, 1) := by decide +kernel
theorem dL_writes_140 : decode cL_writes 140 = .ok (.iload 12, 2) := by decide +kernel
theorem dL_writes_142 : decode cL_writes 142 = .ok (.invokestatic 175, 3) := by decide +kernel
theorem dL_writes_145 : decode cL_writes 145 = .ok (.invokestatic 215, 3) := by decide +kernel
theorem dL_writes_148 : decode cL_writes 148 = .ok (.iload 13, 2) := by decide +kernel
theorem dL_writes_150 : decode cL_writes 150 = .ok (.ifCond .le 7, 3) := by decide +kernel
theorem dL_writes_153 : decode cL_writes 153 = .ok (.iconst 0, 1) := by decide +kernel
theorem dL_writes_154 : decode cL_writes 154 = .ok (.goto 4, 3) := by decide +kernel
theorem dL_writes_157 : decode cL_writes 157 = .ok (.iconst 1, 1) := by decide +kernel
theorem dL_writes_158 : decode cL_writes 158 = .ok (.if_icmp .ne 7, 3) := by decide +kernel
theorem dL_writes_161 : decode cL_writes 161 = .ok (.iconst 1, 1) := by decide +kernel
theorem dL_writes_162 : decode cL_writes 162 = .ok (.goto 4, 3) := by decide +kernel
theorem dL_writes_165 : decode cL_writes 165 = .ok (.iconst 0, 1) := by decide +kernel
theorem dL_writes_166 : decode cL_writes 166 = .ok (.istore 7, 2) := by decide +kernel
theorem dL_writes_168 : decode cL_writes 168 = .ok (.aload 4, 2) := by decide +kernel
theorem dL_writes_170 : decode cL_writes 170 = .ok (.iconst 1, 1) := by decide +kernel
theorem dL_writes_171 : decode cL_writes 171 = .ok (.iload 12, 2) := by decide +kernel
theorem dL_writes_173 : decode cL_writes 173 = .ok (.iload_n 3, 1) := by decide +kernel
theorem dL_writes_174 : decode cL_writes 174 = .ok (.invokestatic 217, 3) := by decide +kernel
theorem dL_writes_177 : decode cL_writes 177 = .ok (.goto 53, 3) := by decide +kernel
theorem dL_writes_180 : decode cL_writes 180 = .ok (.iload 7, 2) := by decide +kernel
theorem dL_writes_182 : decode cL_writes 182 = .ok (.ifCond .eq 36, 3) := by decide +kernel
theorem dL_writes_185 : decode cL_writes 185 = .ok (.aload_n 0, 1) := by decide +kernel
theorem dL_writes_186 : decode cL_writes 186 = .ok (.iload 12, 2) := by decide +kernel
theorem dL_writes_188 : decode cL_writes 188 = .ok (.invokestatic 156, 3) := by decide +kernel
theorem dL_writes_191 : decode cL_writes 191 = .ok (.invokestatic 221, 3) := by decide +kernel
theorem dL_writes_194 : decode cL_writes 194 = .ok (.iload 13, 2) := by decide +kernel
theorem dL_writes_196 : decode cL_writes 196 = .ok (.ifCond .le 13, 3) := by decide +kernel
theorem dL_writes_199 : decode cL_writes 199 = .ok (.iload 13, 2) := by decide +kernel
theorem dL_writes_201 : decode cL_writes 201 = .ok (.iload 12, 2) := by decide +kernel
theorem dL_writes_203 : decode cL_writes 203 = .ok (.invokestatic 175, 3) := by decide +kernel
theorem dL_writes_206 : decode cL_writes 206 = .ok (.goto 5, 3) := by decide +kernel
theorem dL_writes_209 : decode cL_writes 209 = .ok (.ldc 37, 2) := by decide +kernel
theorem dL_writes_211 : decode cL_writes 211 = .ok (.if_icmp .ne 7, 3) := by decide +kernel
theorem dL_writes_214 : decode cL_writes 214 = .ok (.iconst 1, 1) := by decide +kernel
theorem dL_writes_215 : decode cL_writes 215 = .ok (.goto 4, 3) := by decide +kernel
theorem dL_writes_218 : decode cL_writes 218 = .ok (.iconst 0, 1) := by decide +kernel
theorem dL_writes_219 : decode cL_writes 219 = .ok (.istore 7, 2) := by decide +kernel
theorem dL_writes_221 : decode cL_writes 221 = .ok (.aload 4, 2) := by decide +kernel
theorem dL_writes_223 : decode cL_writes 223 = .ok (.iconst 1, 1) := by decide +kernel
theorem dL_writes_224 : decode cL_writes 224 = .ok (.iload 12, 2) := by decide +kernel
theorem dL_writes_226 : decode cL_writes 226 = .ok (.iconst 0, 1) := by decide +kernel
theorem dL_writes_227 : decode cL_writes 227 = .ok (.invokestatic 217, 3) := by decide +kernel
theorem dL_writes_230 : decode cL_writes 230 = .ok (.iinc 11 1, 3) := by decide +kernel
theorem dL_writes_233 : decode cL_writes 233 = .ok (.goto (-146), 3) := by decide +kernel
theorem dL_writes_236 : decode cL_writes 236 = .ok (.iload 7, 2) := by decide +kernel
theorem dL_writes_238 : decode cL_writes 238 = .ok (.ifCond .eq 38, 3) := by decide +kernel
theorem dL_writes_241 : decode cL_writes 241 = .ok (.aload_n 0, 1) := by decide +kernel
theorem dL_writes_242 : decode cL_writes 242 = .ok (.invokestatic 211, 3) := by decide +kernel
theorem dL_writes_245 : decode cL_writes 245 = .ok (.ldc 23, 2) := by decide +kernel
theorem dL_writes_247 : decode cL_writes 247 = .ok (.if_icmp .ne 29, 3) := by decide +kernel
theorem dL_writes_250 : decode cL_writes 250 = .ok (.aload_n 0, 1) := by decide +kernel
theorem dL_writes_251 : decode cL_writes 251 = .ok (.bipush 100, 2) := by decide +kernel
theorem dL_writes_253 : decode cL_writes 253 = .ok (.iconst 1, 1) := by decide +kernel
theorem dL_writes_254 : decode cL_writes 254 = .ok (.invokestatic 215, 3) := by decide +kernel
theorem dL_writes_257 : decode cL_writes 257 = .ok (.ldc 23, 2) := by decide +kernel
theorem dL_writes_259 : decode cL_writes 259 = .ok (.if_icmp .ne 17, 3) := by decide +kernel
theorem dL_writes_262 : decode cL_writes 262 = .ok (.aload_n 0, 1) := by decide +kernel
theorem dL_writes_263 : decode cL_writes 263 = .ok (.iconst (-1), 1) := by decide +kernel
theorem dL_writes_264 : decode cL_writes 264 = .ok (.invokestatic 221, 3) := by decide +kernel
theorem dL_writes_267 : decode cL_writes 267 = .ok (.ldc 23, 2) := by decide +kernel
theorem dL_writes_269 : decode cL_writes 269 = .ok (.if_icmp .ne 7, 3) := by decide +kernel
theorem dL_writes_272 : decode cL_writes 272 = .ok (.iconst 1, 1) := by decide +kernel
theorem dL_writes_273 : decode cL_writes 273 = .ok (.goto 4, 3) := by decide +kernel
theorem dL_writes_276 : decode cL_writes 276 = .ok (.iconst 0, 1) := by decide +kernel
theorem dL_writes_277 : decode cL_writes 277 = .ok (.ireturn, 1) := by decide +kernel
theorem dL_reads_0 : decode cL_reads 0 = .ok (.iload_n 1, 1) := by decide +kernel
theorem dL_reads_1 : decode cL_reads 1 = .ok (.iconst 2, 1) := by decide +kernel
theorem dL_reads_2 : decode cL_reads 2 = .ok (.invokestatic 165, 3) := by decide +kernel
theorem dL_reads_5 : decode cL_reads 5 = .ok (.ifCond .ne 80, 3) := by decide +kernel
theorem dL_reads_8 : decode cL_reads 8 = .ok (.iconst 0, 1) := by decide +kernel
theorem dL_reads_9 : decode cL_reads 9 = .ok (.istore 6, 2) := by decide +kernel
theorem dL_reads_11 : decode cL_reads 11 = .ok (.iload 6, 2) := by decide +kernel
theorem dL_reads_13 : decode cL_reads 13 = .ok (.iconst 4, 1) := by decide +kernel
theorem dL_reads_14 : decode cL_reads 14 = .ok (.if_icmp .ge 20, 3) := by decide +kernel
theorem dL_reads_17 : decode cL_reads 17 = .ok (.aload 5, 2) := by decide +kernel
theorem dL_reads_19 : decode cL_reads 19 = .ok (.iconst 2, 1) := by decide +kernel
theorem dL_reads_20 : decode cL_reads 20 = .ok (.iload 6, 2) := by decide +kernel
theorem dL_reads_22 : decode cL_reads 22 = .ok (.iadd, 1) := by decide +kernel
theorem dL_reads_23 : decode cL_reads 23 = .ok (.iaload, 1) := by decide +kernel
theorem dL_reads_24 : decode cL_reads 24 = .ok (.iconst 1, 1) := by decide +kernel
theorem dL_reads_25 : decode cL_reads 25 = .ok (.if_icmp .ne 9, 3) := by decide +kernel
theorem dL_reads_28 : decode cL_reads 28 = .ok (.iinc 6 1, 3) := by decide +kernel
theorem dL_reads_31 : decode cL_reads 31 = .ok (.goto (-20), 3) := by decide +kernel
theorem dL_reads_34 : decode cL_reads 34 = .ok (.iload 6, 2) := by decide +kernel
theorem dL_reads_36 : decode cL_reads 36 = .ok (.iconst 4, 1) := by decide +kernel
theorem dL_reads_37 : decode cL_reads 37 = .ok (.if_icmp .ge 22, 3) := by decide +kernel
theorem dL_reads_40 : decode cL_reads 40 = .ok (.aload_n 3, 1) := by decide +kernel
theorem dL_reads_41 : decode cL_reads 41 = .ok (.aload 4, 2) := by decide +kernel
theorem dL_reads_43 : decode cL_reads 43 = .ok (.iconst 0, 1) := by decide +kernel
theorem dL_reads_44 : decode cL_reads 44 = .ok (.iconst 2, 1) := by decide +kernel
theorem dL_reads_45 : decode cL_reads 45 = .ok (.iload 6, 2) := by decide +kernel
theorem dL_reads_47 : decode cL_reads 47 = .ok (.iadd, 1) := by decide +kernel
theorem dL_reads_48 : decode cL_reads 48 = .ok (.invokestatic 207, 3) := by decide +kernel
theorem dL_reads_51 : decode cL_reads 51 = .ok (.aload 5, 2) := by decide +kernel
theorem dL_reads_53 : decode cL_reads 53 = .ok (.iconst 2, 1) := by decide +kernel
theorem dL_reads_54 : decode cL_reads 54 = .ok (.iload 6, 2) := by decide +kernel
theorem dL_reads_56 : decode cL_reads 56 = .ok (.iadd, 1) := by decide +kernel
theorem dL_reads_57 : decode cL_reads 57 = .ok (.iconst 1, 1) := by decide +kernel
theorem dL_reads_58 : decode cL_reads 58 = .ok (.iastore, 1) := by decide +kernel
theorem dL_reads_59 : decode cL_reads 59 = .ok (.aload_n 0, 1) := by decide +kernel
theorem dL_reads_60 : decode cL_reads 60 = .ok (.invokestatic 223, 3) := by decide +kernel
theorem dL_reads_63 : decode cL_reads 63 = .ok (.iload 6, 2) := by decide +kernel
theorem dL_reads_65 : decode cL_reads 65 = .ok (.iconst 4, 1) := by decide +kernel
theorem dL_reads_66 : decode cL_reads 66 = .ok (.if_icmp .ge 8, 3) := by decide +kernel
theorem dL_reads_69 : decode cL_reads 69 = .ok (.iload 6, 2) := by decide +kernel
theorem dL_reads_71 : decode cL_reads 71 = .ok (.goto 5, 3) := by decide +kernel
theorem dL_reads_74 : decode cL_reads 74 = .ok (.ldc 23, 2) := by decide +kernel
theorem dL_reads_76 : decode cL_reads 76 = .ok (.if_icmp .ne 7, 3) := by decide +kernel
theorem dL_reads_79 : decode cL_reads 79 = .ok (.iconst 1, 1) := by decide +kernel
theorem dL_reads_80 : decode cL_reads 80 = .ok (.goto 4, 3) := by decide +kernel
theorem dL_reads_83 : decode cL_reads 83 = .ok (.iconst 0, 1) := by decide +kernel
theorem dL_reads_84 : decode cL_reads 84 = .ok (.ireturn, 1) := by decide +kernel
theorem dL_reads_85 : decode cL_reads 85 = .ok (.iload_n 2, 1) := by decide +kernel
theorem dL_reads_86 : decode cL_reads 86 = .ok (.iconst 4, 1) := by decide +kernel
theorem dL_reads_87 : decode cL_reads 87 = .ok (.invokestatic 165, 3) := by decide +kernel
theorem dL_reads_90 : decode cL_reads 90 = .ok (.istore 6, 2) := by decide +kernel
theorem dL_reads_92 : decode cL_reads 92 = .ok (.aload_n 0, 1) := by decide +kernel
theorem dL_reads_93 : decode cL_reads 93 = .ok (.invokevirtual 110, 3) := by decide +kernel
theorem dL_reads_96 : decode cL_reads 96 = .ok (.istore 7, 2) := by decide +kernel
theorem dL_reads_98 : decode cL_reads 98 = .ok (.aload_n 0, 1) := by decide +kernel
theorem dL_reads_99 : decode cL_reads 99 = .ok (.iload 6, 2) := by decide +kernel
theorem dL_reads_101 : decode cL_reads 101 = .ok (.invokestatic 199, 3) := by decide +kernel
theorem dL_reads_104 : decode cL_reads 104 = .ok (.istore 8, 2) := by decide +kernel
theorem dL_reads_106 : decode cL_reads 106 = .ok (.aload_n 0, 1) := by decide +kernel
theorem dL_reads_107 : decode cL_reads 107 = .ok (.iload 6, 2) := by decide +kernel
theorem dL_reads_109 : decode cL_reads 109 = .ok (.invokestatic 226, 3) := by decide +kernel
theorem dL_reads_112 : decode cL_reads 112 = .ok (.istore 9, 2) := by decide +kernel
theorem dL_reads_114 : decode cL_reads 114 = .ok (.aload 5, 2) := by decide +kernel
theorem dL_reads_116 : decode cL_reads 116 = .ok (.iconst 2, 1) := by decide +kernel
theorem dL_reads_117 : decode cL_reads 117 = .ok (.iload 6, 2) := by decide +kernel
theorem dL_reads_119 : decode cL_reads 119 = .ok (.iadd, 1) := by decide +kernel
theorem dL_reads_120 : decode cL_reads 120 = .ok (.iaload, 1) := by decide +kernel
theorem dL_reads_121 : decode cL_reads 121 = .ok (.iconst 1, 1) := by decide +kernel
theorem dL_reads_122 : decode cL_reads 122 = .ok (.if_icmp .ne 7, 3) := by decide +kernel
theorem dL_reads_125 : decode cL_reads 125 = .ok (.iconst 1, 1) := by decide +kernel
theorem dL_reads_126 : decode cL_reads 126 = .ok (.goto 4, 3) := by decide +kernel
theorem dL_reads_129 : decode cL_reads 129 = .ok (.iconst 0, 1) := by decide +kernel
theorem dL_reads_130 : decode cL_reads 130 = .ok (.istore 10, 2) := by decide +kernel
theorem dL_reads_132 : decode cL_reads 132 = .ok (.aload 5, 2) := by decide +kernel
theorem dL_reads_134 : decode cL_reads 134 = .ok (.iconst 2, 1) := by decide +kernel
theorem dL_reads_135 : decode cL_reads 135 = .ok (.iload 6, 2) := by decide +kernel
theorem dL_reads_137 : decode cL_reads 137 = .ok (.iadd, 1) := by decide +kernel
theorem dL_reads_138 : decode cL_reads 138 = .ok (.iconst 0, 1) := by decide +kernel
theorem dL_reads_139 : decode cL_reads 139 = .ok (.iastore, 1) := by decide +kernel
theorem dL_reads_140 : decode cL_reads 140 = .ok (.iload 8, 2) := by decide +kernel
theorem dL_reads_142 : decode cL_reads 142 = .ok (.iload 9, 2) := by decide +kernel
theorem dL_reads_144 : decode cL_reads 144 = .ok (.if_icmp .ne 39, 3) := by decide +kernel
theorem dL_reads_147 : decode cL_reads 147 = .ok (.iload 10, 2) := by decide +kernel
theorem dL_reads_149 : decode cL_reads 149 = .ok (.ifCond .eq 23, 3) := by decide +kernel
theorem dL_reads_152 : decode cL_reads 152 = .ok (.iload 9, 2) := by decide +kernel
theorem dL_reads_154 : decode cL_reads 154 = .ok (.ifCond .lt 29, 3) := by decide +kernel
theorem dL_reads_157 : decode cL_reads 157 = .ok (.aload_n 0, 1) := by decide +kernel
theorem dL_reads_158 : decode cL_reads 158 = .ok (.invokevirtual 110, 3) := by decide +kernel
theorem dL_reads_161 : decode cL_reads 161 = .ok (.iload 7, 2) := by decide +kernel
theorem dL_reads_163 : decode cL_reads 163 = .ok (.iload 9, 2) := by decide +kernel
theorem dL_reads_165 : decode cL_reads 165 = .ok (.isub, 1) := by decide +kernel
theorem dL_reads_166 : decode cL_reads 166 = .ok (.if_icmp .ne 17, 3) := by decide +kernel
theorem dL_reads_169 : decode cL_reads 169 = .ok (.goto 10, 3) := by decide +kernel
theorem dL_reads_172 : decode cL_reads 172 = .ok (.iload 9, 2) := by decide +kernel
theorem dL_reads_174 : decode cL_reads 174 = .ok (.ldc 23, 2) := by decide +kernel
theorem dL_reads_176 : decode cL_reads 176 = .ok (.if_icmp .ne 7, 3) := by decide +kernel
theorem dL_reads_179 : decode cL_reads 179 = .ok (.iconst 1, 1) := by decide +kernel
theorem dL_reads_180 : decode cL_reads 180 = .ok (.goto 4, 3) := by decide +kernel
theorem dL_reads_183 : decode cL_reads 183 = .ok (.iconst 0, 1) := by decide +kernel
theorem dL_reads_184 : decode cL_reads 184 = .ok (.ireturn, 1) := by decide +kernel
theorem dL_tears_0 : decode cL_tears 0 = .ok (.aload_n 0, 1) := by decide +kernel
theorem dL_tears_1 : decode cL_tears 1 = .ok (.invokevirtual 110, 3) := by decide +kernel
theorem dL_tears_4 : decode cL_tears 4 = .ok (.istore_n 3, 1) := by decide +kernel
theorem dL_tears_5 : decode cL_tears 5 = .ok (.aload_n 0, 1) := by decide +kernel
theorem dL_tears_6 : decode cL_tears 6 = .ok (.iload_n 1, 1) := by decide +kernel
theorem dL_tears_7 : decode cL_tears 7 = .ok (.invokestatic 229, 3) := by decide +kernel
theorem dL_tears_10 : decode cL_tears 10 = .ok (.istore 4, 2) := by decide +kernel
theorem dL_tears_12 : decode cL_tears 12 = .ok (.aload_n 2, 1) := by decide +kernel
theorem dL_tears_13 : decode cL_tears 13 = .ok (.bipush 7, 2) := by decide +kernel
theorem dL_tears_15 : decode cL_tears 15 = .ok (.iload_n 1, 1) := by decide +kernel
theorem dL_tears_16 : decode cL_tears 16 = .ok (.isub, 1) := by decide +kernel
theorem dL_tears_17 : decode cL_tears 17 = .ok (.iaload, 1) := by decide +kernel
theorem dL_tears_18 : decode cL_tears 18 = .ok (.ifCond .ne 16, 3) := by decide +kernel
theorem dL_tears_21 : decode cL_tears 21 = .ok (.iload 4, 2) := by decide +kernel
theorem dL_tears_23 : decode cL_tears 23 = .ok (.ldc 30, 2) := by decide +kernel
theorem dL_tears_25 : decode cL_tears 25 = .ok (.if_icmp .ne 7, 3) := by decide +kernel
theorem dL_tears_28 : decode cL_tears 28 = .ok (.iconst 1, 1) := by decide +kernel
theorem dL_tears_29 : decode cL_tears 29 = .ok (.goto 4, 3) := by decide +kernel
theorem dL_tears_32 : decode cL_tears 32 = .ok (.iconst 0, 1) := by decide +kernel
theorem dL_tears_33 : decode cL_tears 33 = .ok (.ireturn, 1) := by decide +kernel
theorem dL_tears_34 : decode cL_tears 34 = .ok (.aload_n 2, 1) := by decide +kernel
theorem dL_tears_35 : decode cL_tears 35 = .ok (.bipush 6, 2) := by decide +kernel
theorem dL_tears_37 : decode cL_tears 37 = .ok (.iload_n 1, 1) := by decide +kernel
theorem dL_tears_38 : decode cL_tears 38 = .ok (.iadd, 1) := by decide +kernel
theorem dL_tears_39 : decode cL_tears 39 = .ok (.iconst 0, 1) := by decide +kernel
theorem dL_tears_40 : decode cL_tears 40 = .ok (.iastore, 1) := by decide +kernel
theorem dL_tears_41 : decode cL_tears 41 = .ok (.iload 4, 2) := by decide +kernel
theorem dL_tears_43 : decode cL_tears 43 = .ok (.ifCond .lt 31, 3) := by decide +kernel
theorem dL_tears_46 : decode cL_tears 46 = .ok (.aload_n 0, 1) := by decide +kernel
theorem dL_tears_47 : decode cL_tears 47 = .ok (.invokevirtual 110, 3) := by decide +kernel
theorem dL_tears_50 : decode cL_tears 50 = .ok (.iload_n 3, 1) := by decide +kernel
theorem dL_tears_51 : decode cL_tears 51 = .ok (.iload 4, 2) := by decide +kernel
theorem dL_tears_53 : decode cL_tears 53 = .ok (.isub, 1) := by decide +kernel
theorem dL_tears_54 : decode cL_tears 54 = .ok (.if_icmp .ne 20, 3) := by decide +kernel
theorem dL_tears_57 : decode cL_tears 57 = .ok (.aload_n 0, 1) := by decide +kernel
theorem dL_tears_58 : decode cL_tears 58 = .ok (.iload_n 1, 1) := by decide +kernel
theorem dL_tears_59 : decode cL_tears 59 = .ok (.iconst 3, 1) := by decide +kernel
theorem dL_tears_60 : decode cL_tears 60 = .ok (.invokestatic 126, 3) := by decide +kernel
theorem dL_tears_63 : decode cL_tears 63 = .ok (.ldc2_w 12, 3) := by decide +kernel
theorem dL_tears_66 : decode cL_tears 66 = .ok (.lcmp, 1) := by decide +kernel
theorem dL_tears_67 : decode cL_tears 67 = .ok (.ifCond .ne 7, 3) := by decide +kernel
theorem dL_tears_70 : decode cL_tears 70 = .ok (.iconst 1, 1) := by decide +kernel
theorem dL_tears_71 : decode cL_tears 71 = .ok (.goto 4, 3) := by decide +kernel
theorem dL_tears_74 : decode cL_tears 74 = .ok (.iconst 0, 1) := by decide +kernel
theorem dL_tears_75 : decode cL_tears 75 = .ok (.ireturn, 1) := by decide +kernel
theorem dL_ends_0 : decode cL_ends 0 = .ok (.iload_n 1, 1) := by decide +kernel
theorem dL_ends_1 : decode cL_ends 1 = .ok (.bipush 8, 2) := by decide +kernel
theorem dL_ends_3 : decode cL_ends 3 = .ok (.invokestatic 165, 3) := by decide +kernel
theorem dL_ends_6 : decode cL_ends 6 = .ok (.istore 6, 2) := by decide +kernel
theorem dL_ends_8 : decode cL_ends 8 = .ok (.aload_n 0, 1) := by decide +kernel
theorem dL_ends_9 : decode cL_ends 9 = .ok (.invokevirtual 116, 3) := by decide +kernel
theorem dL_ends_12 : decode cL_ends 12 = .ok (.istore 7, 2) := by decide +kernel
theorem dL_ends_14 : decode cL_ends 14 = .ok (.iconst 1, 1) := by decide +kernel
theorem dL_ends_15 : decode cL_ends 15 = .ok (.iload 7, 2) := by decide +kernel
theorem dL_ends_17 : decode cL_ends 17 = .ok (.isub, 1) := by decide +kernel
theorem dL_ends_18 : decode cL_ends 18 = .ok (.istore 8, 2) := by decide +kernel
theorem dL_ends_20 : decode cL_ends 20 = .ok (.iload 6, 2) := by decide +kernel
theorem dL_ends_22 : decode cL_ends 22 = .ok (.ifCond .ne 17, 3) := by decide +kernel
theorem dL_ends_25 : decode cL_ends 25 = .ok (.aload_n 0, 1) := by decide +kernel
theorem dL_ends_26 : decode cL_ends 26 = .ok (.aload_n 0, 1) := by decide +kernel
theorem dL_ends_27 : decode cL_ends 27 = .ok (.invokevirtual 231, 3) := by decide +kernel
theorem dL_ends_30 : decode cL_ends 30 = .ok (.aload_n 3, 1) := by decide +kernel
theorem dL_ends_31 : decode cL_ends 31 = .ok (.aload 4, 2) := by decide +kernel
theorem dL_ends_33 : decode cL_ends 33 = .ok (.aload 5, 2) := by decide +kernel
theorem dL_ends_35 : decode cL_ends 35 = .ok (.invokestatic 234, 3) := by decide +kernel
theorem dL_ends_38 : decode cL_ends 38 = .ok (.ireturn, 1) := by decide +kernel
theorem dL_ends_39 : decode cL_ends 39 = .ok (.iload 6, 2) := by decide +kernel
theorem dL_ends_41 : decode cL_ends 41 = .ok (.iconst 4, 1) := by decide +kernel
theorem dL_ends_42 : decode cL_ends 42 = .ok (.if_icmp .ge 126, 3) := by decide +kernel
theorem dL_ends_45 : decode cL_ends 45 = .ok (.iload_n 2, 1) := by decide +kernel
theorem dL_ends_46 : decode cL_ends 46 = .ok (.bipush 6, 2) := by decide +kernel
theorem dL_ends_48 : decode cL_ends 48 = .ok (.invokestatic 165, 3) := by decide +kernel
theorem dL_ends_51 : decode cL_ends 51 = .ok (.istore 9, 2) := by decide +kernel
theorem dL_ends_53 : decode cL_ends 53 = .ok (.aload_n 0, 1) := by decide +kernel
theorem dL_ends_54 : decode cL_ends 54 = .ok (.iload 9, 2) := by decide +kernel
theorem dL_ends_56 : decode cL_ends 56 = .ok (.invokestatic 238, 3) := by decide +kernel
theorem dL_ends_59 : decode cL_ends 59 = .ok (.istore 10, 2) := by decide +kernel
theorem dL_ends_61 : decode cL_ends 61 = .ok (.iload 9, 2) := by decide +kernel
theorem dL_ends_63 : decode cL_ends 63 = .ok (.iconst 5, 1) := by decide +kernel
theorem dL_ends_64 : decode cL_ends 64 = .ok (.if_icmp .eq 32, 3) := by decide +kernel
theorem dL_ends_67 : decode cL_ends 67 = .ok (.aload 5, 2) := by decide +kernel
theorem dL_ends_69 : decode cL_ends 69 = .ok (.iconst 1, 1) := by decide +kernel
theorem dL_ends_70 : decode cL_ends 70 = .ok (.iaload, 1) := by decide +kernel
theorem dL_ends_71 : decode cL_ends 71 = .ok (.ifCond .eq 25, 3) := by decide +kernel
theorem dL_ends_74 : decode cL_ends 74 = .ok (.iload 9, 2) := by decide +kernel
theorem dL_ends_76 : decode cL_ends 76 = .ok (.ifCond .le 44, 3) := by decide +kernel
theorem dL_ends_79 : decode cL_ends 79 = .ok (.iload 9, 2) := by decide +kernel
theorem dL_ends_81 : decode cL_ends 81 = .ok (.iconst 4, 1) := by decide +kernel
theorem dL_ends_82 : decode cL_ends 82 = .ok (.if_icmp .ge 38, 3) := by decide +kernel
theorem dL_ends_85 : decode cL_ends 85 = .ok (.aload 5, 2) := by decide +kernel
theorem dL_ends_87 : decode cL_ends 87 = .ok (.bipush 6, 2) := by decide +kernel
theorem dL_ends_89 : decode cL_ends 89 = .ok (.iload 7, 2) := by decide +kernel
theorem dL_ends_91 : decode cL_ends 91 = .ok (.iadd, 1) := by decide +kernel
theorem dL_ends_92 : decode cL_ends 92 = .ok (.iaload, 1) := by decide +kernel
theorem dL_ends_93 : decode cL_ends 93 = .ok (.ifCond .ne 27, 3) := by decide +kernel
theorem dL_ends_96 : decode cL_ends 96 = .ok (.iload 10, 2) := by decide +kernel
theorem dL_ends_98 : decode cL_ends 98 = .ok (.iload 9, 2) := by decide +kernel
theorem dL_ends_100 : decode cL_ends 100 = .ok (.iconst 5, 1) := by decide +kernel
theorem dL_ends_101 : decode cL_ends 101 = .ok (.if_icmp .ne 8, 3) := by decide +kernel
theorem dL_ends_104 : decode cL_ends 104 = .ok (.ldc 23, 2) := by decide +kernel
theorem dL_ends_106 : decode cL_ends 106 = .ok (.goto 5, 3) := by decide +kernel
theorem dL_ends_109 : decode cL_ends 109 = .ok (.ldc 30, 2) := by decide +kernel
theorem dL_ends_111 : decode cL_ends 111 = .ok (.if_icmp .ne 7, 3) := by decide +kernel
theorem dL_ends_114 : decode cL_ends 114 = .ok (.iconst 1, 1) := by decide +kernel
theorem dL_ends_115 : decode cL_ends 115 = .ok (.goto 4, 3) := by decide +kernel
theorem dL_ends_118 : decode cL_ends 118 = .ok (.iconst 0, 1) := by decide +kernel
theorem dL_ends_119 : decode cL_ends 119 = .ok (.ireturn, 1) := by decide +kernel
theorem dL_ends_120 : decode cL_ends 120 = .ok (.iload 9, 2) := by decide +kernel
theorem dL_ends_122 : decode cL_ends 122 = .ok (.ifCond .le 34, 3) := by decide +kernel
theorem dL_ends_125 : decode cL_ends 125 = .ok (.aload 5, 2) := by decide +kernel
theorem dL_ends_127 : decode cL_ends 127 = .ok (.bipush 6, 2) := by decide +kernel
theorem dL_ends_129 : decode cL_ends 129 = .ok (.iload 8, 2) := by decide +kernel
theorem dL_ends_131 : decode cL_ends 131 = .ok (.iadd, 1) := by decide +kernel
theorem dL_ends_132 : decode cL_ends 132 = .ok (.iload 9, 2) := by decide +kernel
theorem dL_ends_134 : decode cL_ends 134 = .ok (.iconst 4, 1) := by decide +kernel
theorem dL_ends_135 : decode cL_ends 135 = .ok (.if_icmp .ne 7, 3) := by decide +kernel
theorem dL_ends_138 : decode cL_ends 138 = .ok (.iconst 1, 1) := by decide +kernel
theorem dL_ends_139 : decode cL_ends 139 = .ok (.goto 4, 3) := by decide +kernel
theorem dL_ends_142 : decode cL_ends 142 = .ok (.iconst 0, 1) := by decide +kernel
theorem dL_ends_143 : decode cL_ends 143 = .ok (.iastore, 1) := by decide +kernel
theorem dL_ends_144 : decode cL_ends 144 = .ok (.aload_n 3, 1) := by decide +kernel
theorem dL_ends_145 : decode cL_ends 145 = .ok (.aload 4, 2) := by decide +kernel
theorem dL_ends_147 : decode cL_ends 147 = .ok (.iconst 1, 1) := by decide +kernel
theorem dL_ends_148 : decode cL_ends 148 = .ok (.bipush 6, 2) := by decide +kernel
theorem dL_ends_150 : decode cL_ends 150 = .ok (.iload 8, 2) := by decide +kernel
theorem dL_ends_152 : decode cL_ends 152 = .ok (.iadd, 1) := by decide +kernel
theorem dL_ends_153 : decode cL_ends 153 = .ok (.invokestatic 207, 3) := by decide +kernel
theorem dL_ends_156 : decode cL_ends 156 = .ok (.aload_n 0, 1) := by decide +kernel
theorem dL_ends_157 : decode cL_ends 157 = .ok (.iload 10, 2) := by decide +kernel
theorem dL_ends_159 : decode cL_ends 159 = .ok (.aload_n 3, 1) := by decide +kernel
theorem dL_ends_160 : decode cL_ends 160 = .ok (.aload 4, 2) := by decide +kernel
theorem dL_ends_162 : decode cL_ends 162 = .ok (.aload 5, 2) := by decide +kernel
theorem dL_ends_164 : decode cL_ends 164 = .ok (.invokestatic 234, 3) := by decide +kernel
theorem dL_ends_167 : decode cL_ends 167 = .ok (.ireturn, 1) := by decide +kernel
theorem dL_ends_168 : decode cL_ends 168 = .ok (.aload 5, 2) := by decide +kernel
theorem dL_ends_170 : decode cL_ends 170 = .ok (.iconst 1, 1) := by decide +kernel
theorem dL_ends_171 : decode cL_ends 171 = .ok (.iaload, 1) := by decide +kernel
theorem dL_ends_172 : decode cL_ends 172 = .ok (.ifCond .ne 31, 3) := by decide +kernel
theorem dL_ends_175 : decode cL_ends 175 = .ok (.iload 6, 2) := by decide +kernel
theorem dL_ends_177 : decode cL_ends 177 = .ok (.iconst 4, 1) := by decide +kernel
theorem dL_ends_178 : decode cL_ends 178 = .ok (.if_icmp .ne 10, 3) := by decide +kernel
theorem dL_ends_181 : decode cL_ends 181 = .ok (.aload_n 0, 1) := by decide +kernel
theorem dL_ends_182 : decode cL_ends 182 = .ok (.invokestatic 240, 3) := by decide +kernel
theorem dL_ends_185 : decode cL_ends 185 = .ok (.goto 7, 3) := by decide +kernel
theorem dL_ends_188 : decode cL_ends 188 = .ok (.aload_n 0, 1) := by decide +kernel
theorem dL_ends_189 : decode cL_ends 189 = .ok (.invokestatic 242, 3) := by decide +kernel
theorem dL_ends_192 : decode cL_ends 192 = .ok (.ldc 23, 2) := by decide +kernel
theorem dL_ends_194 : decode cL_ends 194 = .ok (.if_icmp .ne 7, 3) := by decide +kernel
theorem dL_ends_197 : decode cL_ends 197 = .ok (.iconst 1, 1) := by decide +kernel
theorem dL_ends_198 : decode cL_ends 198 = .ok (.goto 4, 3) := by decide +kernel
theorem dL_ends_201 : decode cL_ends 201 = .ok (.iconst 0, 1) := by decide +kernel
theorem dL_ends_202 : decode cL_ends 202 = .ok (.ireturn, 1) := by decide +kernel
theorem dL_ends_203 : decode cL_ends 203 = .ok (.aload 5, 2) := by decide +kernel
theorem dL_ends_205 : decode cL_ends 205 = .ok (.iconst 1, 1) := by decide +kernel
theorem dL_ends_206 : decode cL_ends 206 = .ok (.iconst 0, 1) := by decide +kernel
theorem dL_ends_207 : decode cL_ends 207 = .ok (.iastore, 1) := by decide +kernel
theorem dL_ends_208 : decode cL_ends 208 = .ok (.aload_n 0, 1) := by decide +kernel
theorem dL_ends_209 : decode cL_ends 209 = .ok (.invokevirtual 110, 3) := by decide +kernel
theorem dL_ends_212 : decode cL_ends 212 = .ok (.istore 9, 2) := by decide +kernel
theorem dL_ends_214 : decode cL_ends 214 = .ok (.iload 6, 2) := by decide +kernel
theorem dL_ends_216 : decode cL_ends 216 = .ok (.iconst 4, 1) := by decide +kernel
theorem dL_ends_217 : decode cL_ends 217 = .ok (.if_icmp .ne 32, 3) := by decide +kernel
theorem dL_ends_220 : decode cL_ends 220 = .ok (.aload_n 0, 1) := by decide +kernel
theorem dL_ends_221 : decode cL_ends 221 = .ok (.invokestatic 240, 3) := by decide +kernel
theorem dL_ends_224 : decode cL_ends 224 = .ok (.istore 10, 2) := by decide +kernel
theorem dL_ends_226 : decode cL_ends 226 = .ok (.iload 10, 2) := by decide +kernel
theorem dL_ends_228 : decode cL_ends 228 = .ok (.ifCond .lt 19, 3) := by decide +kernel
theorem dL_ends_231 : decode cL_ends 231 = .ok (.aload_n 0, 1) := by decide +kernel
theorem dL_ends_232 : decode cL_ends 232 = .ok (.invokevirtual 110, 3) := by decide +kernel
theorem dL_ends_235 : decode cL_ends 235 = .ok (.iload 9, 2) := by decide +kernel
theorem dL_ends_237 : decode cL_ends 237 = .ok (.iload 10, 2) := by decide +kernel
theorem dL_ends_239 : decode cL_ends 239 = .ok (.isub, 1) := by decide +kernel
theorem dL_ends_240 : decode cL_ends 240 = .ok (.if_icmp .ne 7, 3) := by decide +kernel
theorem dL_ends_243 : decode cL_ends 243 = .ok (.iconst 1, 1) := by decide +kernel
theorem dL_ends_244 : decode cL_ends 244 = .ok (.goto 4, 3) := by decide +kernel
theorem dL_ends_247 : decode cL_ends 247 = .ok (.iconst 0, 1) := by decide +kernel
theorem dL_ends_248 : decode cL_ends 248 = .ok (.ireturn, 1) := by decide +kernel
theorem dL_ends_249 : decode cL_ends 249 = .ok (.aload_n 3, 1) := by decide +kernel
theorem dL_ends_250 : decode cL_ends 250 = .ok (.aload 4, 2) := by decide +kernel
theorem dL_ends_252 : decode cL_ends 252 = .ok (.iconst 1, 1) := by decide +kernel
theorem dL_ends_253 : decode cL_ends 253 = .ok (.iconst 0, 1) := by decide +kernel
theorem dL_ends_254 : decode cL_ends 254 = .ok (.invokestatic 207, 3) := by decide +kernel
theorem dL_ends_257 : decode cL_ends 257 = .ok (.aload_n 3, 1) := by decide +kernel
theorem dL_ends_258 : decode cL_ends 258 = .ok (.aload 4, 2) := by decide +kernel
theorem dL_ends_260 : decode cL_ends 260 = .ok (.iconst 1, 1) := by decide +kernel
theorem dL_ends_261 : decode cL_ends 261 = .ok (.bipush 6, 2) := by decide +kernel
theorem dL_ends_263 : decode cL_ends 263 = .ok (.iload 8, 2) := by decide +kernel
theorem dL_ends_265 : decode cL_ends 265 = .ok (.iadd, 1) := by decide +kernel
theorem dL_ends_266 : decode cL_ends 266 = .ok (.invokestatic 207, 3) := by decide +kernel
theorem dL_ends_269 : decode cL_ends 269 = .ok (.aload 5, 2) := by decide +kernel
theorem dL_ends_271 : decode cL_ends 271 = .ok (.bipush 6, 2) := by decide +kernel
theorem dL_ends_273 : decode cL_ends 273 = .ok (.iload 8, 2) := by decide +kernel
theorem dL_ends_275 : decode cL_ends 275 = .ok (.iadd, 1) := by decide +kernel
theorem dL_ends_276 : decode cL_ends 276 = .ok (.iconst 1, 1) := by decide +kernel
theorem dL_ends_277 : decode cL_ends 277 = .ok (.iastore, 1) := by decide +kernel
theorem dL_ends_278 : decode cL_ends 278 = .ok (.aload_n 0, 1) := by decide +kernel
theorem dL_ends_279 : decode cL_ends 279 = .ok (.invokestatic 242, 3) := by decide +kernel
theorem dL_ends_282 : decode cL_ends 282 = .ok (.aload 4, 2) := by decide +kernel
theorem dL_ends_284 : decode cL_ends 284 = .ok (.iconst 0, 1) := by decide +kernel
theorem dL_ends_285 : decode cL_ends 285 = .ok (.iaload, 1) := by decide +kernel
theorem dL_ends_286 : decode cL_ends 286 = .ok (.if_icmp .ne 16, 3) := by decide +kernel
theorem dL_ends_289 : decode cL_ends 289 = .ok (.aload_n 0, 1) := by decide +kernel
theorem dL_ends_290 : decode cL_ends 290 = .ok (.invokevirtual 116, 3) := by decide +kernel
theorem dL_ends_293 : decode cL_ends 293 = .ok (.iload 8, 2) := by decide +kernel
theorem dL_ends_295 : decode cL_ends 295 = .ok (.if_icmp .ne 7, 3) := by decide +kernel
theorem dL_ends_298 : decode cL_ends 298 = .ok (.iconst 1, 1) := by decide +kernel
theorem dL_ends_299 : decode cL_ends 299 = .ok (.goto 4, 3) := by decide +kernel
theorem dL_ends_302 : decode cL_ends 302 = .ok (.iconst 0, 1) := by decide +kernel
theorem dL_ends_303 : decode cL_ends 303 = .ok (.ireturn, 1) := by decide +kernel
theorem dL_law_0 : decode cL_law 0 = .ok (.new 16, 3) := by decide +kernel
theorem dL_law_3 : decode cL_law 3 = .ok (.dup, 1) := by decide +kernel
theorem dL_law_4 : decode cL_law 4 = .ok (.invokespecial 244, 3) := by decide +kernel
theorem dL_law_7 : decode cL_law 7 = .ok (.astore_n 1, 1) := by decide +kernel
theorem dL_law_8 : decode cL_law 8 = .ok (.bipush 24, 2) := by decide +kernel
theorem dL_law_10 : decode cL_law 10 = .ok (.newarray .long, 2) := by decide +kernel
theorem dL_law_12 : decode cL_law 12 = .ok (.astore_n 2, 1) := by decide +kernel
theorem dL_law_13 : decode cL_law 13 = .ok (.bipush 8, 2) := by decide +kernel
theorem dL_law_15 : decode cL_law 15 = .ok (.newarray .int, 2) := by decide +kernel
theorem dL_law_17 : decode cL_law 17 = .ok (.astore_n 3, 1) := by decide +kernel
theorem dL_law_18 : decode cL_law 18 = .ok (.bipush 8, 2) := by decide +kernel
theorem dL_law_20 : decode cL_law 20 = .ok (.newarray .int, 2) := by decide +kernel
theorem dL_law_22 : decode cL_law 22 = .ok (.astore 4, 2) := by decide +kernel
theorem dL_law_24 : decode cL_law 24 = .ok (.aload 4, 2) := by decide +kernel
theorem dL_law_26 : decode cL_law 26 = .ok (.bipush 6, 2) := by decide +kernel
theorem dL_law_28 : decode cL_law 28 = .ok (.iconst 1, 1) := by decide +kernel
theorem dL_law_29 : decode cL_law 29 = .ok (.iastore, 1) := by decide +kernel
theorem dL_law_30 : decode cL_law 30 = .ok (.aload 4, 2) := by decide +kernel
theorem dL_law_32 : decode cL_law 32 = .ok (.bipush 7, 2) := by decide +kernel
theorem dL_law_34 : decode cL_law 34 = .ok (.iconst 1, 1) := by decide +kernel
theorem dL_law_35 : decode cL_law 35 = .ok (.iastore, 1) := by decide +kernel
theorem dL_law_36 : decode cL_law 36 = .ok (.aload_n 1, 1) := by decide +kernel
theorem dL_law_37 : decode cL_law 37 = .ok (.aload_n 2, 1) := by decide +kernel
theorem dL_law_38 : decode cL_law 38 = .ok (.aload_n 3, 1) := by decide +kernel
theorem dL_law_39 : decode cL_law 39 = .ok (.aload 4, 2) := by decide +kernel
theorem dL_law_41 : decode cL_law 41 = .ok (.iconst 0, 1) := by decide +kernel
theorem dL_law_42 : decode cL_law 42 = .ok (.invokestatic 245, 3) := by decide +kernel
theorem dL_law_45 : decode cL_law 45 = .ok (.istore 5, 2) := by decide +kernel
theorem dL_law_47 : decode cL_law 47 = .ok (.iconst 0, 1) := by decide +kernel
theorem dL_law_48 : decode cL_law 48 = .ok (.istore 6, 2) := by decide +kernel
theorem dL_law_50 : decode cL_law 50 = .ok (.iload 6, 2) := by decide +kernel
theorem dL_law_52 : decode cL_law 52 = .ok (.bipush 28, 2) := by decide +kernel
theorem dL_law_54 : decode cL_law 54 = .ok (.if_icmp .ge 245, 3) := by decide +kernel
theorem dL_law_57 : decode cL_law 57 = .ok (.iload 5, 2) := by decide +kernel
theorem dL_law_59 : decode cL_law 59 = .ok (.ifCond .eq 240, 3) := by decide +kernel
theorem dL_law_62 : decode cL_law 62 = .ok (.aload_n 0, 1) := by decide +kernel
theorem dL_law_63 : decode cL_law 63 = .ok (.iconst 2, 1) := by decide +kernel
theorem dL_law_64 : decode cL_law 64 = .ok (.iload 6, 2) := by decide +kernel
theorem dL_law_66 : decode cL_law 66 = .ok (.imul, 1) := by decide +kernel
theorem dL_law_67 : decode cL_law 67 = .ok (.invokestatic 249, 3) := by decide +kernel
theorem dL_law_70 : decode cL_law 70 = .ok (.istore 7, 2) := by decide +kernel
theorem dL_law_72 : decode cL_law 72 = .ok (.aload_n 0, 1) := by decide +kernel
theorem dL_law_73 : decode cL_law 73 = .ok (.iconst 2, 1) := by decide +kernel
theorem dL_law_74 : decode cL_law 74 = .ok (.iload 6, 2) := by decide +kernel
theorem dL_law_76 : decode cL_law 76 = .ok (.imul, 1) := by decide +kernel
theorem dL_law_77 : decode cL_law 77 = .ok (.iconst 1, 1) := by decide +kernel
theorem dL_law_78 : decode cL_law 78 = .ok (.iadd, 1) := by decide +kernel
theorem dL_law_79 : decode cL_law 79 = .ok (.invokestatic 249, 3) := by decide +kernel
theorem dL_law_82 : decode cL_law 82 = .ok (.istore 8, 2) := by decide +kernel
theorem dL_law_84 : decode cL_law 84 = .ok (.iload 7, 2) := by decide +kernel
theorem dL_law_86 : decode cL_law 86 = .ok (.bipush 16, 2) := by decide +kernel
theorem dL_law_88 : decode cL_law 88 = .ok (.invokestatic 165, 3) := by decide +kernel
theorem dL_law_91 : decode cL_law 91 = .ok (.istore 9, 2) := by decide +kernel
theorem dL_law_93 : decode cL_law 93 = .ok (.iload 9, 2) := by decide +kernel
theorem dL_law_95 : decode cL_law 95 = .ok (.bipush 7, 2) := by decide +kernel
theorem dL_law_97 : decode cL_law 97 = .ok (.if_icmp .ge 22, 3) := by decide +kernel
theorem dL_law_100 : decode cL_law 100 = .ok (.aload_n 1, 1) := by decide +kernel
theorem dL_law_101 : decode cL_law 101 = .ok (.iload 7, 2) := by decide +kernel
theorem dL_law_103 : decode cL_law 103 = .ok (.iload 8, 2) := by decide +kernel
theorem dL_law_105 : decode cL_law 105 = .ok (.iload 6, 2) := by decide +kernel
theorem dL_law_107 : decode cL_law 107 = .ok (.iconst 1, 1) := by decide +kernel
theorem dL_law_108 : decode cL_law 108 = .ok (.iadd, 1) := by decide +kernel
theorem dL_law_109 : decode cL_law 109 = .ok (.aload_n 2, 1) := by decide +kernel
theorem dL_law_110 : decode cL_law 110 = .ok (.aload_n 3, 1) := by decide +kernel
theorem dL_law_111 : decode cL_law 111 = .ok (.aload 4, 2) := by decide +kernel
theorem dL_law_113 : decode cL_law 113 = .ok (.invokestatic 253, 3) := by decide +kernel
theorem dL_law_116 : decode cL_law 116 = .ok (.goto 63, 3) := by decide +kernel
theorem dL_law_119 : decode cL_law 119 = .ok (.iload 9, 2) := by decide +kernel
theorem dL_law_121 : decode cL_law 121 = .ok (.bipush 10, 2) := by decide +kernel
theorem dL_law_123 : decode cL_law 123 = .ok (.if_icmp .ge 20, 3) := by decide +kernel
theorem dL_law_126 : decode cL_law 126 = .ok (.aload_n 1, 1) := by decide +kernel
theorem dL_law_127 : decode cL_law 127 = .ok (.iload 7, 2) := by decide +kernel
theorem dL_law_129 : decode cL_law 129 = .ok (.iconst 4, 1) := by decide +kernel
theorem dL_law_130 : decode cL_law 130 = .ok (.ishr, 1) := by decide +kernel
theorem dL_law_131 : decode cL_law 131 = .ok (.iload 8, 2) := by decide +kernel
theorem dL_law_133 : decode cL_law 133 = .ok (.aload_n 2, 1) := by decide +kernel
theorem dL_law_134 : decode cL_law 134 = .ok (.aload_n 3, 1) := by decide +kernel
theorem dL_law_135 : decode cL_law 135 = .ok (.aload 4, 2) := by decide +kernel
theorem dL_law_137 : decode cL_law 137 = .ok (.invokestatic 257, 3) := by decide +kernel
theorem dL_law_140 : decode cL_law 140 = .ok (.goto 39, 3) := by decide +kernel
theorem dL_law_143 : decode cL_law 143 = .ok (.iload 9, 2) := by decide +kernel
theorem dL_law_145 : decode cL_law 145 = .ok (.bipush 10, 2) := by decide +kernel
theorem dL_law_147 : decode cL_law 147 = .ok (.if_icmp .ne 18, 3) := by decide +kernel
theorem dL_law_150 : decode cL_law 150 = .ok (.aload_n 1, 1) := by decide +kernel
theorem dL_law_151 : decode cL_law 151 = .ok (.iload 8, 2) := by decide +kernel
theorem dL_law_153 : decode cL_law 153 = .ok (.iconst 2, 1) := by decide +kernel
theorem dL_law_154 : decode cL_law 154 = .ok (.invokestatic 165, 3) := by decide +kernel
theorem dL_law_157 : decode cL_law 157 = .ok (.aload 4, 2) := by decide +kernel
theorem dL_law_159 : decode cL_law 159 = .ok (.invokestatic 261, 3) := by decide +kernel
theorem dL_law_162 : decode cL_law 162 = .ok (.goto 17, 3) := by decide +kernel
theorem dL_law_165 : decode cL_law 165 = .ok (.aload_n 1, 1) := by decide +kernel
theorem dL_law_166 : decode cL_law 166 = .ok (.iload 7, 2) := by decide +kernel
theorem dL_law_168 : decode cL_law 168 = .ok (.iconst 4, 1) := by decide +kernel
theorem dL_law_169 : decode cL_law 169 = .ok (.ishr, 1) := by decide +kernel
theorem dL_law_170 : decode cL_law 170 = .ok (.iload 8, 2) := by decide +kernel
theorem dL_law_172 : decode cL_law 172 = .ok (.aload_n 2, 1) := by decide +kernel
theorem dL_law_173 : decode cL_law 173 = .ok (.aload_n 3, 1) := by decide +kernel
theorem dL_law_174 : decode cL_law 174 = .ok (.aload 4, 2) := by decide +kernel
theorem dL_law_176 : decode cL_law 176 = .ok (.invokestatic 265, 3) := by decide +kernel
theorem dL_law_179 : decode cL_law 179 = .ok (.istore 5, 2) := by decide +kernel
theorem dL_law_181 : decode cL_law 181 = .ok (.aload_n 1, 1) := by decide +kernel
theorem dL_law_182 : decode cL_law 182 = .ok (.invokestatic 268, 3) := by decide +kernel
theorem dL_law_185 : decode cL_law 185 = .ok (.lstore 10, 2) := by decide +kernel
theorem dL_law_187 : decode cL_law 187 = .ok (.iload 5, 2) := by decide +kernel
theorem dL_law_189 : decode cL_law 189 = .ok (.ifCond .eq 73, 3) := by decide +kernel
theorem dL_law_192 : decode cL_law 192 = .ok (.aload_n 1, 1) := by decide +kernel
theorem dL_law_193 : decode cL_law 193 = .ok (.iconst 4, 1) := by decide +kernel
theorem dL_law_194 : decode cL_law 194 = .ok (.invokestatic 226, 3) := by decide +kernel
theorem dL_law_197 : decode cL_law 197 = .ok (.ldc 23, 2) := by decide +kernel
theorem dL_law_199 : decode cL_law 199 = .ok (.if_icmp .ne 63, 3) := by decide +kernel
theorem dL_law_202 : decode cL_law 202 = .ok (.aload_n 1, 1) := by decide +kernel
theorem dL_law_203 : decode cL_law 203 = .ok (.iconst 2, 1) := by decide +kernel
theorem dL_law_204 : decode cL_law 204 = .ok (.invokestatic 229, 3) := by decide +kernel
theorem dL_law_207 : decode cL_law 207 = .ok (.ldc 23, 2) := by decide +kernel
theorem dL_law_209 : decode cL_law 209 = .ok (.if_icmp .ne 53, 3) := by decide +kernel
theorem dL_law_212 : decode cL_law 212 = .ok (.aload_n 1, 1) := by decide +kernel
theorem dL_law_213 : decode cL_law 213 = .ok (.aload_n 1, 1) := by decide +kernel
theorem dL_law_214 : decode cL_law 214 = .ok (.invokevirtual 113, 3) := by decide +kernel
theorem dL_law_217 : decode cL_law 217 = .ok (.invokestatic 138, 3) := by decide +kernel
theorem dL_law_220 : decode cL_law 220 = .ok (.ldc 23, 2) := by decide +kernel
theorem dL_law_222 : decode cL_law 222 = .ok (.if_icmp .ne 40, 3) := by decide +kernel
theorem dL_law_225 : decode cL_law 225 = .ok (.aload_n 1, 1) := by decide +kernel
theorem dL_law_226 : decode cL_law 226 = .ok (.iconst (-1), 1) := by decide +kernel
theorem dL_law_227 : decode cL_law 227 = .ok (.invokestatic 205, 3) := by decide +kernel
theorem dL_law_230 : decode cL_law 230 = .ok (.ldc 23, 2) := by decide +kernel
theorem dL_law_232 : decode cL_law 232 = .ok (.if_icmp .ne 30, 3) := by decide +kernel
theorem dL_law_235 : decode cL_law 235 = .ok (.aload_n 1, 1) := by decide +kernel
theorem dL_law_236 : decode cL_law 236 = .ok (.iconst 0, 1) := by decide +kernel
theorem dL_law_237 : decode cL_law 237 = .ok (.iconst 4, 1) := by decide +kernel
theorem dL_law_238 : decode cL_law 238 = .ok (.invokestatic 126, 3) := by decide +kernel
theorem dL_law_241 : decode cL_law 241 = .ok (.ldc2_w 97, 3) := by decide +kernel
theorem dL_law_244 : decode cL_law 244 = .ok (.lcmp, 1) := by decide +kernel
theorem dL_law_245 : decode cL_law 245 = .ok (.ifCond .ne 17, 3) := by decide +kernel
theorem dL_law_248 : decode cL_law 248 = .ok (.aload_n 1, 1) := by decide +kernel
theorem dL_law_249 : decode cL_law 249 = .ok (.invokestatic 268, 3) := by decide +kernel
theorem dL_law_252 : decode cL_law 252 = .ok (.lload 10, 2) := by decide +kernel
theorem dL_law_254 : decode cL_law 254 = .ok (.lcmp, 1) := by decide +kernel
theorem dL_law_255 : decode cL_law 255 = .ok (.ifCond .ne 7, 3) := by decide +kernel
theorem dL_law_258 : decode cL_law 258 = .ok (.iconst 1, 1) := by decide +kernel
theorem dL_law_259 : decode cL_law 259 = .ok (.goto 4, 3) := by decide +kernel
theorem dL_law_262 : decode cL_law 262 = .ok (.iconst 0, 1) := by decide +kernel
theorem dL_law_263 : decode cL_law 263 = .ok (.istore 5, 2) := by decide +kernel
theorem dL_law_265 : decode cL_law 265 = .ok (.iload 5, 2) := by decide +kernel
theorem dL_law_267 : decode cL_law 267 = .ok (.ifCond .eq 23, 3) := by decide +kernel
theorem dL_law_270 : decode cL_law 270 = .ok (.aload_n 1, 1) := by decide +kernel
theorem dL_law_271 : decode cL_law 271 = .ok (.aload_n 2, 1) := by decide +kernel
theorem dL_law_272 : decode cL_law 272 = .ok (.aload_n 3, 1) := by decide +kernel
theorem dL_law_273 : decode cL_law 273 = .ok (.aload 4, 2) := by decide +kernel
theorem dL_law_275 : decode cL_law 275 = .ok (.iload 8, 2) := by decide +kernel
theorem dL_law_277 : decode cL_law 277 = .ok (.bipush 7, 2) := by decide +kernel
theorem dL_law_279 : decode cL_law 279 = .ok (.ishr, 1) := by decide +kernel
theorem dL_law_280 : decode cL_law 280 = .ok (.invokestatic 245, 3) := by decide +kernel
theorem dL_law_283 : decode cL_law 283 = .ok (.ifCond .eq 7, 3) := by decide +kernel
theorem dL_law_286 : decode cL_law 286 = .ok (.iconst 1, 1) := by decide +kernel
theorem dL_law_287 : decode cL_law 287 = .ok (.goto 4, 3) := by decide +kernel
theorem dL_law_290 : decode cL_law 290 = .ok (.iconst 0, 1) := by decide +kernel
theorem dL_law_291 : decode cL_law 291 = .ok (.istore 5, 2) := by decide +kernel
theorem dL_law_293 : decode cL_law 293 = .ok (.iinc 6 1, 3) := by decide +kernel
theorem dL_law_296 : decode cL_law 296 = .ok (.goto (-246), 3) := by decide +kernel
theorem dL_law_299 : decode cL_law 299 = .ok (.iload 5, 2) := by decide +kernel
theorem dL_law_301 : decode cL_law 301 = .ok (.ireturn, 1) := by decide +kernel
end
section
/-! the tables' facts, by program (wip/p33/gen2.py) -/
theorem wa_all {l : List Jvm.Cond} (h : l.all (fun w => decide (w ∈ lw_tbl) && goodWord w) = true) : ∀ x ∈ l, x ∈ WA := fun x hx => by
  have h1 := List.all_eq_true.mp h x hx
  simp only [Bool.and_eq_true, decide_eq_true_eq] at h1
  exact List.mem_filter.mpr h1
theorem inX0 : ∀ x ∈ u_ws RX0 TX0 8, x ∈ WA := wa_all (by decide +kernel)
theorem inX1 : ∀ x ∈ u_ws RX1 TX1 4, x ∈ WA := wa_all (by decide +kernel)
theorem inX2 : ∀ x ∈ u_ws RX2 TX2 5, x ∈ WA := wa_all (by decide +kernel)
theorem inX3 : ∀ x ∈ u_ws RX3 TX3 7, x ∈ WA := wa_all (by decide +kernel)
theorem fd_X3_12 : mFd RX3 12 3 0 := ⟨RX3, TX3, 7, rfl, inX3, by decide, wa_m 139 (by decide +kernel) rfl⟩
theorem fp_X3_12 : mFp RX3 12 3 0 (.object "Copperleaf$Pages") true := ⟨RX3, TX3, 7, tyX3, rfl, inX3, by decide, wa_m 139 (by decide +kernel) rfl, tyX3_ok, nmX3, rfl, by decide +kernel, fun h => by first | rfl | cases h⟩
theorem fd_X3_19 : mFd RX3 19 3 1 := ⟨RX3, TX3, 7, rfl, inX3, by decide, wa_m 140 (by decide +kernel) rfl⟩
theorem fp_X3_19 : mFp RX3 19 3 1 (.object "Copperleaf$State") true := ⟨RX3, TX3, 7, tyX3, rfl, inX3, by decide, wa_m 140 (by decide +kernel) rfl, tyX3_ok, nmX3, rfl, by decide +kernel, fun h => by first | rfl | cases h⟩
theorem fd_X3_23 : mFd RX3 23 3 2 := ⟨RX3, TX3, 7, rfl, inX3, by decide, wa_m 141 (by decide +kernel) rfl⟩
theorem fp_X3_23 : mFp RX3 23 3 2 (.object "Copperleaf$State") true := ⟨RX3, TX3, 7, tyX3, rfl, inX3, by decide, wa_m 141 (by decide +kernel) rfl, tyX3_ok, nmX3, rfl, by decide +kernel, fun h => by first | rfl | cases h⟩
theorem fd_X3_31 : mFd RX3 31 3 3 := ⟨RX3, TX3, 7, rfl, inX3, by decide, wa_m 142 (by decide +kernel) rfl⟩
theorem fp_X3_31 : mFp RX3 31 3 3 (.object "Copperleaf$Writer") true := ⟨RX3, TX3, 7, tyX3, rfl, inX3, by decide, wa_m 142 (by decide +kernel) rfl, tyX3_ok, nmX3, rfl, by decide +kernel, fun h => by first | rfl | cases h⟩
theorem fd_X3_35 : mFd RX3 35 3 4 := ⟨RX3, TX3, 7, rfl, inX3, by decide, wa_m 143 (by decide +kernel) rfl⟩
theorem fp_X3_35 : mFp RX3 35 3 4 (.array (.object "Copperleaf$State")) true := ⟨RX3, TX3, 7, tyX3, rfl, inX3, by decide, wa_m 143 (by decide +kernel) rfl, tyX3_ok, nmX3, rfl, by decide +kernel, fun h => by first | rfl | cases h⟩
theorem fd_X3_39 : mFd RX3 39 3 5 := ⟨RX3, TX3, 7, rfl, inX3, by decide, wa_m 144 (by decide +kernel) rfl⟩
theorem fp_X3_39 : mFp RX3 39 3 5 (.array .long) true := ⟨RX3, TX3, 7, tyX3, rfl, inX3, by decide, wa_m 144 (by decide +kernel) rfl, tyX3_ok, nmX3, rfl, by decide +kernel, fun h => by first | rfl | cases h⟩
theorem fd_X3_43 : mFd RX3 43 3 6 := ⟨RX3, TX3, 7, rfl, inX3, by decide, wa_m 145 (by decide +kernel) rfl⟩
theorem fp_X3_43 : mFp RX3 43 3 6 .int false := ⟨RX3, TX3, 7, tyX3, rfl, inX3, by decide, wa_m 145 (by decide +kernel) rfl, tyX3_ok, nmX3, rfl, by decide +kernel, fun h => by first | rfl | cases h⟩
theorem fd_X3_47 : mFd RX3 47 0 4 := ⟨RX0, TX0, 8, rfl, inX0, by decide, wa_m 46 (by decide +kernel) rfl⟩
theorem fd_X3_51 : mFd RX3 51 1 1 := ⟨RX1, TX1, 4, rfl, inX1, by decide, wa_m 79 (by decide +kernel) rfl⟩
theorem fp_X3_51 : mFp RX3 51 1 1 .int false := ⟨RX1, TX1, 4, tyX1, rfl, inX1, by decide, wa_m 79 (by decide +kernel) rfl, tyX1_ok, nmX1, rfl, by decide +kernel, fun h => by first | rfl | cases h⟩
theorem fd_X3_58 : mFd RX3 58 1 3 := ⟨RX1, TX1, 4, rfl, inX1, by decide, wa_m 85 (by decide +kernel) rfl⟩
theorem fp_X3_58 : mFp RX3 58 1 3 .boolean false := ⟨RX1, TX1, 4, tyX1, rfl, inX1, by decide, wa_m 85 (by decide +kernel) rfl, tyX1_ok, nmX1, rfl, by decide +kernel, fun h => by first | rfl | cases h⟩
theorem fd_X3_73 : mFd RX3 73 1 0 := ⟨RX1, TX1, 4, rfl, inX1, by decide, wa_m 78 (by decide +kernel) rfl⟩
theorem fp_X3_73 : mFp RX3 73 1 0 .int false := ⟨RX1, TX1, 4, tyX1, rfl, inX1, by decide, wa_m 78 (by decide +kernel) rfl, tyX1_ok, nmX1, rfl, by decide +kernel, fun h => by first | rfl | cases h⟩
theorem fd_X3_121 : mFd RX3 121 0 6 := ⟨RX0, TX0, 8, rfl, inX0, by decide, wa_m 50 (by decide +kernel) rfl⟩
theorem fd_X3_135 : mFd RX3 135 1 2 := ⟨RX1, TX1, 4, rfl, inX1, by decide, wa_m 84 (by decide +kernel) rfl⟩
theorem fp_X3_135 : mFp RX3 135 1 2 .int false := ⟨RX1, TX1, 4, tyX1, rfl, inX1, by decide, wa_m 84 (by decide +kernel) rfl, tyX1_ok, nmX1, rfl, by decide +kernel, fun h => by first | rfl | cases h⟩
theorem fd_X3_233 : mFd RX3 233 0 5 := ⟨RX0, TX0, 8, rfl, inX0, by decide, wa_m 48 (by decide +kernel) rfl⟩
theorem fd_X0_9 : mFd RX0 9 0 0 := ⟨RX0, TX0, 8, rfl, inX0, by decide, wa_m 41 (by decide +kernel) rfl⟩
theorem fp_X0_9 : mFp RX0 9 0 0 (.array .int) true := ⟨RX0, TX0, 8, tyX0, rfl, inX0, by decide, wa_m 41 (by decide +kernel) rfl, tyX0_ok, nmX0, rfl, by decide +kernel, fun h => by first | rfl | cases h⟩
theorem fd_X0_15 : mFd RX0 15 0 1 := ⟨RX0, TX0, 8, rfl, inX0, by decide, wa_m 42 (by decide +kernel) rfl⟩
theorem fp_X0_15 : mFp RX0 15 0 1 (.array .boolean) true := ⟨RX0, TX0, 8, tyX0, rfl, inX0, by decide, wa_m 42 (by decide +kernel) rfl, tyX0_ok, nmX0, rfl, by decide +kernel, fun h => by first | rfl | cases h⟩
theorem fd_X0_19 : mFd RX0 19 0 2 := ⟨RX0, TX0, 8, rfl, inX0, by decide, wa_m 43 (by decide +kernel) rfl⟩
theorem fp_X0_19 : mFp RX0 19 0 2 (.array .int) true := ⟨RX0, TX0, 8, tyX0, rfl, inX0, by decide, wa_m 43 (by decide +kernel) rfl, tyX0_ok, nmX0, rfl, by decide +kernel, fun h => by first | rfl | cases h⟩
theorem fd_X0_22 : mFd RX0 22 0 3 := ⟨RX0, TX0, 8, rfl, inX0, by decide, wa_m 44 (by decide +kernel) rfl⟩
theorem fp_X0_22 : mFp RX0 22 0 3 (.array .int) true := ⟨RX0, TX0, 8, tyX0, rfl, inX0, by decide, wa_m 44 (by decide +kernel) rfl, tyX0_ok, nmX0, rfl, by decide +kernel, fun h => by first | rfl | cases h⟩
theorem fd_X0_25 : mFd RX0 25 0 4 := ⟨RX0, TX0, 8, rfl, inX0, by decide, wa_m 45 (by decide +kernel) rfl⟩
theorem fp_X0_25 : mFp RX0 25 0 4 (.array .boolean) true := ⟨RX0, TX0, 8, tyX0, rfl, inX0, by decide, wa_m 45 (by decide +kernel) rfl, tyX0_ok, nmX0, rfl, by decide +kernel, fun h => by first | rfl | cases h⟩
theorem fd_X0_28 : mFd RX0 28 0 5 := ⟨RX0, TX0, 8, rfl, inX0, by decide, wa_m 47 (by decide +kernel) rfl⟩
theorem fp_X0_28 : mFp RX0 28 0 5 (.array .boolean) true := ⟨RX0, TX0, 8, tyX0, rfl, inX0, by decide, wa_m 47 (by decide +kernel) rfl, tyX0_ok, nmX0, rfl, by decide +kernel, fun h => by first | rfl | cases h⟩
theorem fd_X0_31 : mFd RX0 31 0 6 := ⟨RX0, TX0, 8, rfl, inX0, by decide, wa_m 49 (by decide +kernel) rfl⟩
theorem fp_X0_31 : mFp RX0 31 0 6 (.array .boolean) true := ⟨RX0, TX0, 8, tyX0, rfl, inX0, by decide, wa_m 49 (by decide +kernel) rfl, tyX0_ok, nmX0, rfl, by decide +kernel, fun h => by first | rfl | cases h⟩
theorem fd_X0_34 : mFd RX0 34 0 7 := ⟨RX0, TX0, 8, rfl, inX0, by decide, wa_m 51 (by decide +kernel) rfl⟩
theorem fp_X0_34 : mFp RX0 34 0 7 (.array .int) true := ⟨RX0, TX0, 8, tyX0, rfl, inX0, by decide, wa_m 51 (by decide +kernel) rfl, tyX0_ok, nmX0, rfl, by decide +kernel, fun h => by first | rfl | cases h⟩
theorem fd_X1_7 : mFd RX1 7 1 0 := ⟨RX1, TX1, 4, rfl, inX1, by decide, wa_m 77 (by decide +kernel) rfl⟩
theorem fp_X1_7 : mFp RX1 7 1 0 .int false := ⟨RX1, TX1, 4, tyX1, rfl, inX1, by decide, wa_m 77 (by decide +kernel) rfl, tyX1_ok, nmX1, rfl, by decide +kernel, fun h => by first | rfl | cases h⟩
theorem fd_X1_13 : mFd RX1 13 1 1 := ⟨RX1, TX1, 4, rfl, inX1, by decide, wa_m 80 (by decide +kernel) rfl⟩
theorem fp_X1_13 : mFp RX1 13 1 1 .int false := ⟨RX1, TX1, 4, tyX1, rfl, inX1, by decide, wa_m 80 (by decide +kernel) rfl, tyX1_ok, nmX1, rfl, by decide +kernel, fun h => by first | rfl | cases h⟩
theorem fd_X1_16 : mFd RX1 16 1 2 := ⟨RX1, TX1, 4, rfl, inX1, by decide, wa_m 82 (by decide +kernel) rfl⟩
theorem fp_X1_16 : mFp RX1 16 1 2 .int false := ⟨RX1, TX1, 4, tyX1, rfl, inX1, by decide, wa_m 82 (by decide +kernel) rfl, tyX1_ok, nmX1, rfl, by decide +kernel, fun h => by first | rfl | cases h⟩
theorem fp_X1_19 : mFp RX1 19 1 3 .boolean false := ⟨RX1, TX1, 4, tyX1, rfl, inX1, by decide, wa_m 86 (by decide +kernel) rfl, tyX1_ok, nmX1, rfl, by decide +kernel, fun h => by first | rfl | cases h⟩
theorem fd_X2_9 : mFd RX2 9 2 2 := ⟨RX2, TX2, 5, rfl, inX2, by decide, wa_m 104 (by decide +kernel) rfl⟩
theorem fp_X2_9 : mFp RX2 9 2 2 (.array .int) true := ⟨RX2, TX2, 5, tyX2, rfl, inX2, by decide, wa_m 104 (by decide +kernel) rfl, tyX2_ok, nmX2, rfl, by decide +kernel, fun h => by first | rfl | cases h⟩
theorem fd_X2_15 : mFd RX2 15 2 3 := ⟨RX2, TX2, 5, rfl, inX2, by decide, wa_m 105 (by decide +kernel) rfl⟩
theorem fp_X2_15 : mFp RX2 15 2 3 (.array .int) true := ⟨RX2, TX2, 5, tyX2, rfl, inX2, by decide, wa_m 105 (by decide +kernel) rfl, tyX2_ok, nmX2, rfl, by decide +kernel, fun h => by first | rfl | cases h⟩
theorem fd_X2_18 : mFd RX2 18 2 0 := ⟨RX2, TX2, 5, rfl, inX2, by decide, wa_m 102 (by decide +kernel) rfl⟩
theorem fp_X2_18 : mFp RX2 18 2 0 (.object "Copperleaf$Pages") true := ⟨RX2, TX2, 5, tyX2, rfl, inX2, by decide, wa_m 102 (by decide +kernel) rfl, tyX2_ok, nmX2, rfl, by decide +kernel, fun h => by first | rfl | cases h⟩
theorem fd_X2_22 : mFd RX2 22 2 1 := ⟨RX2, TX2, 5, rfl, inX2, by decide, wa_m 103 (by decide +kernel) rfl⟩
theorem fp_X2_22 : mFp RX2 22 2 1 (.object "Copperleaf$State") true := ⟨RX2, TX2, 5, tyX2, rfl, inX2, by decide, wa_m 103 (by decide +kernel) rfl, tyX2_ok, nmX2, rfl, by decide +kernel, fun h => by first | rfl | cases h⟩
theorem fd_X2_48 : mFd RX2 48 1 2 := ⟨RX1, TX1, 4, rfl, inX1, by decide, wa_m 83 (by decide +kernel) rfl⟩
theorem fp_X2_48 : mFp RX2 48 1 2 .int false := ⟨RX1, TX1, 4, tyX1, rfl, inX1, by decide, wa_m 83 (by decide +kernel) rfl, tyX1_ok, nmX1, rfl, by decide +kernel, fun h => by first | rfl | cases h⟩
theorem fd_X2_61 : mFd RX2 61 2 4 := ⟨RX2, TX2, 5, rfl, inX2, by decide, wa_m 106 (by decide +kernel) rfl⟩
theorem fp_X2_61 : mFp RX2 61 2 4 .int false := ⟨RX2, TX2, 5, tyX2, rfl, inX2, by decide, wa_m 106 (by decide +kernel) rfl, tyX2_ok, nmX2, rfl, by decide +kernel, fun h => by first | rfl | cases h⟩
theorem fd_X2_73 : mFd RX2 73 1 1 := ⟨RX1, TX1, 4, rfl, inX1, by decide, wa_m 81 (by decide +kernel) rfl⟩
theorem fp_X2_73 : mFp RX2 73 1 1 .int false := ⟨RX1, TX1, 4, tyX1, rfl, inX1, by decide, wa_m 81 (by decide +kernel) rfl, tyX1_ok, nmX1, rfl, by decide +kernel, fun h => by first | rfl | cases h⟩
def m_X0_init : mM := (yX0_init, cX0_init, 1, none, { frames := 1, cells := 8, slots := 12800, locals := 12 }, [], true, some 2, none)
theorem ok_X0_init : mOk m_X0_init := wa_m 39 (by decide +kernel) rfl
def m_X0_isCell : mM := (yX0_isCell, cX0_isCell, 2, (some .boolean), { frames := 0, cells := 0, slots := 0, locals := 0 }, [], false, none, none)
theorem ok_X0_isCell : mOk m_X0_isCell := wa_m 416 (by decide +kernel) rfl
def m_X0_isVacant : mM := (yX0_isVacant, cX0_isVacant, 2, (some .boolean), { frames := 0, cells := 0, slots := 0, locals := 0 }, [], false, none, none)
theorem ok_X0_isVacant : mOk m_X0_isVacant := wa_m 271 (by decide +kernel) rfl
def m_X0_leastVacant : mM := (yX0_leastVacant, cX0_leastVacant, 2, (some .int), { frames := 0, cells := 0, slots := 0, locals := 0 }, [], false, none, none)
theorem ok_X0_leastVacant : mOk m_X0_leastVacant := wa_m 169 (by decide +kernel) rfl
def m_X0_countOf : mM := (yX0_countOf, cX0_countOf, 2, (some .int), { frames := 0, cells := 0, slots := 0, locals := 0 }, [], false, none, none)
theorem ok_X0_countOf : mOk m_X0_countOf := wa_m 134 (by decide +kernel) rfl
def m_X0_isLeaf : mM := (yX0_isLeaf, cX0_isLeaf, 2, (some .boolean), { frames := 0, cells := 0, slots := 0, locals := 0 }, [], false, none, none)
theorem ok_X0_isLeaf : mOk m_X0_isLeaf := wa_m 130 (by decide +kernel) rfl
def m_X0_wordOf : mM := (yX0_wordOf, cX0_wordOf, 4, (some .int), { frames := 0, cells := 0, slots := 0, locals := 0 }, [], false, none, none)
theorem ok_X0_wordOf : mOk m_X0_wordOf := wa_m 138 (by decide +kernel) rfl
def m_X0_setWord : mM := (yX0_setWord, cX0_setWord, 4, none, { frames := 1, cells := 0, slots := 0, locals := 21 }, [], false, none, none)
theorem ok_X0_setWord : mOk m_X0_setWord := wa_m 649 (by decide +kernel) rfl
def m_X0_keyOf : mM := (yX0_keyOf, cX0_keyOf, 6, (some .int), { frames := 1, cells := 0, slots := 0, locals := 23 }, [], false, none, none)
theorem ok_X0_keyOf : mOk m_X0_keyOf := wa_m 413 (by decide +kernel) rfl
def m_X0_placeOf : mM := (yX0_placeOf, cX0_placeOf, 4, (some .int), { frames := 2, cells := 0, slots := 0, locals := 48 }, [], false, none, none)
theorem ok_X0_placeOf : mOk m_X0_placeOf := wa_m 472 (by decide +kernel) rfl
def m_X0_holds : mM := (yX0_holds, cX0_holds, 4, (some .boolean), { frames := 2, cells := 0, slots := 0, locals := 48 }, [], false, none, none)
theorem ok_X0_holds : mOk m_X0_holds := wa_m 530 (by decide +kernel) rfl
def m_X0_entryFor : mM := (yX0_entryFor, cX0_entryFor, 4, (some .int), { frames := 2, cells := 0, slots := 0, locals := 48 }, [], false, none, none)
theorem ok_X0_entryFor : mOk m_X0_entryFor := wa_m 525 (by decide +kernel) rfl
def m_X0_leafFor : mM := (yX0_leafFor, cX0_leafFor, 5, (some .int), { frames := 3, cells := 0, slots := 0, locals := 71 }, [], false, none, none)
theorem ok_X0_leafFor : mOk m_X0_leafFor := wa_m 521 (by decide +kernel) rfl
def m_X0_levelsFrom : mM := (yX0_levelsFrom, cX0_levelsFrom, 4, (some .int), { frames := 1, cells := 0, slots := 0, locals := 23 }, [], false, none, none)
theorem ok_X0_levelsFrom : mOk m_X0_levelsFrom := wa_m 442 (by decide +kernel) rfl
def m_X0_listTree : mM := (yX0_listTree, cX0_listTree, 7, (some .int), { frames := 1, cells := 0, slots := 0, locals := 23 }, [], false, none, none)
theorem ok_X0_listTree : mOk m_X0_listTree := wa_m 126 (by decide +kernel) rfl
def m_X0_unmark : mM := (yX0_unmark, cX0_unmark, 2, none, { frames := 0, cells := 0, slots := 0, locals := 0 }, [], false, none, none)
theorem ok_X0_unmark : mOk m_X0_unmark := wa_m 278 (by decide +kernel) rfl
def m_X0_markTree : mM := (yX0_markTree, cX0_markTree, 6, none, { frames := 2, cells := 0, slots := 0, locals := 49 }, [], false, none, none)
theorem ok_X0_markTree : mOk m_X0_markTree := wa_m 122 (by decide +kernel) rfl
def m_X0_countMarked : mM := (yX0_countMarked, cX0_countMarked, 6, (some .int), { frames := 2, cells := 0, slots := 0, locals := 49 }, [], false, none, none)
theorem ok_X0_countMarked : mOk m_X0_countMarked := wa_m 568 (by decide +kernel) rfl
def m_X0_leastKeyFrom : mM := (yX0_leastKeyFrom, cX0_leastKeyFrom, 7, (some .int), { frames := 3, cells := 0, slots := 0, locals := 71 }, [], false, none, none)
theorem ok_X0_leastKeyFrom : mOk m_X0_leastKeyFrom := wa_m 468 (by decide +kernel) rfl
def m_X0_keysBelow : mM := (yX0_keysBelow, cX0_keysBelow, 6, (some .int), { frames := 3, cells := 0, slots := 0, locals := 71 }, [], false, none, none)
theorem ok_X0_keysBelow : mOk m_X0_keysBelow := wa_m 484 (by decide +kernel) rfl
def m_X0_take : mM := (yX0_take, cX0_take, 3, (some .int), { frames := 1, cells := 0, slots := 0, locals := 21 }, [], false, none, none)
theorem ok_X0_take : mOk m_X0_take := wa_m 633 (by decide +kernel) rfl
def m_X0_leave : mM := (yX0_leave, cX0_leave, 2, none, { frames := 0, cells := 0, slots := 0, locals := 0 }, [], false, none, none)
theorem ok_X0_leave : mOk m_X0_leave := wa_m 712 (by decide +kernel) rfl
def m_X0_writeAnew : mM := (yX0_writeAnew, cX0_writeAnew, 3, (some .int), { frames := 2, cells := 0, slots := 0, locals := 46 }, [], false, none, none)
theorem ok_X0_writeAnew : mOk m_X0_writeAnew := wa_m 629 (by decide +kernel) rfl
def m_X0_insert : mM := (yX0_insert, cX0_insert, 8, none, { frames := 1, cells := 0, slots := 0, locals := 21 }, [], false, none, none)
theorem ok_X0_insert : mOk m_X0_insert := wa_m 655 (by decide +kernel) rfl
def m_X0_remove : mM := (yX0_remove, cX0_remove, 6, none, { frames := 1, cells := 0, slots := 0, locals := 21 }, [], false, none, none)
theorem ok_X0_remove : mOk m_X0_remove := wa_m 674 (by decide +kernel) rfl
def m_X0_append : mM := (yX0_append, cX0_append, 6, none, { frames := 1, cells := 0, slots := 0, locals := 21 }, [], false, none, none)
theorem ok_X0_append : mOk m_X0_append := wa_m 638 (by decide +kernel) rfl
def m_X0_move : mM := (yX0_move, cX0_move, 5, none, { frames := 2, cells := 0, slots := 0, locals := 48 }, [], false, none, none)
theorem ok_X0_move : mOk m_X0_move := wa_m 669 (by decide +kernel) rfl
def m_X1_init : mM := (yX1_init, cX1_init, 1, none, { frames := 1, cells := 0, slots := 0, locals := 12 }, [], true, none, none)
theorem ok_X1_init : mOk m_X1_init := wa_m 75 (by decide +kernel) rfl
def m_X1_become : mM := (yX1_become, cX1_become, 2, none, { frames := 0, cells := 0, slots := 0, locals := 0 }, [], false, none, none)
theorem ok_X1_become : mOk m_X1_become := wa_m 605 (by decide +kernel) rfl
def m_X2_init : mM := (yX2_init, cX2_init, 3, none, { frames := 1, cells := 2, slots := 16, locals := 12 }, [], true, some 13, none)
theorem ok_X2_init : mOk m_X2_init := wa_m 100 (by decide +kernel) rfl
def m_X2_store : mM := (yX2_store, cX2_store, 5, (some .boolean), { frames := 5, cells := 0, slots := 0, locals := 118 }, [], false, none, none)
theorem ok_X2_store : mOk m_X2_store := wa_m 621 (by decide +kernel) rfl
def m_X2_drop : mM := (yX2_drop, cX2_drop, 4, none, { frames := 5, cells := 0, slots := 0, locals := 121 }, [], false, none, none)
theorem ok_X2_drop : mOk m_X2_drop := wa_m 694 (by decide +kernel) rfl
def m_X2_writePath : mM := (yX2_writePath, cX2_writePath, 5, (some .int), { frames := 4, cells := 0, slots := 0, locals := 90 }, [], false, none, none)
theorem ok_X2_writePath : mOk m_X2_writePath := wa_m 625 (by decide +kernel) rfl
def m_X2_splitUpwards : mM := (yX2_splitUpwards, cX2_splitUpwards, 4, none, { frames := 4, cells := 0, slots := 0, locals := 95 }, [], false, none, none)
theorem ok_X2_splitUpwards : mOk m_X2_splitUpwards := wa_m 659 (by decide +kernel) rfl
def m_X2_splitOff : mM := (yX2_splitOff, cX2_splitOff, 4, (some .int), { frames := 3, cells := 0, slots := 0, locals := 72 }, [], false, none, none)
theorem ok_X2_splitOff : mOk m_X2_splitOff := wa_m 664 (by decide +kernel) rfl
def m_X2_growRoot : mM := (yX2_growRoot, cX2_growRoot, 4, none, { frames := 2, cells := 0, slots := 0, locals := 48 }, [], false, none, none)
theorem ok_X2_growRoot : mOk m_X2_growRoot := wa_m 678 (by decide +kernel) rfl
def m_X2_mend : mM := (yX2_mend, cX2_mend, 5, none, { frames := 4, cells := 0, slots := 0, locals := 97 }, [], false, none, none)
theorem ok_X2_mend : mOk m_X2_mend := wa_m 699 (by decide +kernel) rfl
def m_X2_writeBelow : mM := (yX2_writeBelow, cX2_writeBelow, 3, none, { frames := 3, cells := 0, slots := 0, locals := 68 }, [], false, none, none)
theorem ok_X2_writeBelow : mOk m_X2_writeBelow := wa_m 644 (by decide +kernel) rfl
def m_X2_lend : mM := (yX2_lend, cX2_lend, 6, none, { frames := 3, cells := 0, slots := 0, locals := 72 }, [], false, none, none)
theorem ok_X2_lend : mOk m_X2_lend := wa_m 703 (by decide +kernel) rfl
def m_X2_join : mM := (yX2_join, cX2_join, 4, none, { frames := 2, cells := 0, slots := 0, locals := 46 }, [], false, none, none)
theorem ok_X2_join : mOk m_X2_join := wa_m 707 (by decide +kernel) rfl
def m_X2_shrinkRoot : mM := (yX2_shrinkRoot, cX2_shrinkRoot, 2, none, { frames := 1, cells := 0, slots := 0, locals := 23 }, [], false, none, none)
theorem ok_X2_shrinkRoot : mOk m_X2_shrinkRoot := wa_m 716 (by decide +kernel) rfl
def m_X3_init : mM := (yX3_init, cX3_init, 2, none, { frames := 3, cells := 20, slots := 12865, locals := 74 }, [], true, some 1, none)
theorem ok_X3_init : mOk m_X3_init := wa_m 31 (by decide +kernel) rfl
def m_X3_beginBatch : mM := (yX3_beginBatch, cX3_beginBatch, 1, (some .int), { frames := 6, cells := 1, slots := 6, locals := 82 }, [], false, none, none)
theorem ok_X3_beginBatch : mOk m_X3_beginBatch := wa_m 600 (by decide +kernel) rfl
def m_X3_hasBatch : mM := (yX3_hasBatch, cX3_hasBatch, 1, (some .boolean), { frames := 0, cells := 0, slots := 0, locals := 0 }, [], false, none, none)
theorem ok_X3_hasBatch : mOk m_X3_hasBatch := wa_m 368 (by decide +kernel) rfl
def m_X3_put : mM := (yX3_put, cX3_put, 3, (some .boolean), { frames := 7, cells := 2, slots := 12, locals := 142 }, [], false, none, none)
theorem ok_X3_put : mOk m_X3_put := wa_m 612 (by decide +kernel) rfl
def m_X3_delete : mM := (yX3_delete, cX3_delete, 3, (some .int), { frames := 7, cells := 3, slots := 18, locals := 144 }, [], false, none, none)
theorem ok_X3_delete : mOk m_X3_delete := wa_m 690 (by decide +kernel) rfl
def m_X3_commit : mM := (yX3_commit, cX3_commit, 2, (some .int), { frames := 7, cells := 1, slots := 6, locals := 117 }, [], false, none, none)
theorem ok_X3_commit : mOk m_X3_commit := wa_m 780 (by decide +kernel) rfl
def m_X3_abandon : mM := (yX3_abandon, cX3_abandon, 2, (some .int), { frames := 7, cells := 1, slots := 6, locals := 117 }, [], false, none, none)
theorem ok_X3_abandon : mOk m_X3_abandon := wa_m 773 (by decide +kernel) rfl
def m_X3_openReader : mM := (yX3_openReader, cX3_openReader, 2, (some .int), { frames := 6, cells := 1, slots := 6, locals := 82 }, [], false, none, none)
theorem ok_X3_openReader : mOk m_X3_openReader := wa_m 726 (by decide +kernel) rfl
def m_X3_closeReader : mM := (yX3_closeReader, cX3_closeReader, 3, (some .int), { frames := 7, cells := 1, slots := 6, locals := 103 }, [], false, none, none)
theorem ok_X3_closeReader : mOk m_X3_closeReader := wa_m 186 (by decide +kernel) rfl
def m_X3_readers : mM := (yX3_readers, cX3_readers, 3, (some .int), { frames := 1, cells := 0, slots := 0, locals := 21 }, [], false, none, none)
theorem ok_X3_readers : mOk m_X3_readers := wa_m 372 (by decide +kernel) rfl
def m_X3_heldBy : mM := (yX3_heldBy, cX3_heldBy, 4, (some .int), { frames := 7, cells := 1, slots := 6, locals := 103 }, [], false, none, none)
theorem ok_X3_heldBy : mOk m_X3_heldBy := wa_m 575 (by decide +kernel) rfl
def m_X3_epochOf : mM := (yX3_epochOf, cX3_epochOf, 2, (some .int), { frames := 8, cells := 1, slots := 6, locals := 124 }, [], false, none, none)
theorem ok_X3_epochOf : mOk m_X3_epochOf := wa_m 390 (by decide +kernel) rfl
def m_X3_get : mM := (yX3_get, cX3_get, 4, (some .int), { frames := 8, cells := 3, slots := 18, locals := 124 }, [], false, none, none)
theorem ok_X3_get : mOk m_X3_get := wa_m 494 (by decide +kernel) rfl
def m_X3_next : mM := (yX3_next, cX3_next, 3, (some .int), { frames := 8, cells := 1, slots := 6, locals := 124 }, [], false, none, none)
theorem ok_X3_next : mOk m_X3_next := wa_m 464 (by decide +kernel) rfl
def m_X3_rank : mM := (yX3_rank, cX3_rank, 3, (some .int), { frames := 8, cells := 1, slots := 6, locals := 124 }, [], false, none, none)
theorem ok_X3_rank : mOk m_X3_rank := wa_m 480 (by decide +kernel) rfl
def m_X3_size : mM := (yX3_size, cX3_size, 2, (some .int), { frames := 8, cells := 1, slots := 6, locals := 124 }, [], false, none, none)
theorem ok_X3_size : mOk m_X3_size := wa_m 397 (by decide +kernel) rfl
def m_X3_depth : mM := (yX3_depth, cX3_depth, 2, (some .int), { frames := 8, cells := 1, slots := 6, locals := 124 }, [], false, none, none)
theorem ok_X3_depth : mOk m_X3_depth := wa_m 438 (by decide +kernel) rfl
def m_X3_rootOf : mM := (yX3_rootOf, cX3_rootOf, 2, (some .int), { frames := 8, cells := 1, slots := 6, locals := 124 }, [], false, none, none)
theorem ok_X3_rootOf : mOk m_X3_rootOf := wa_m 379 (by decide +kernel) rfl
def m_X3_sharedPages : mM := (yX3_sharedPages, cX3_sharedPages, 5, (some .int), { frames := 8, cells := 2, slots := 12, locals := 124 }, [], false, none, none)
theorem ok_X3_sharedPages : mOk m_X3_sharedPages := wa_m 564 (by decide +kernel) rfl
def m_X3_isFree : mM := (yX3_isFree, cX3_isFree, 2, (some .boolean), { frames := 6, cells := 1, slots := 6, locals := 82 }, [], false, none, none)
theorem ok_X3_isFree : mOk m_X3_isFree := wa_m 299 (by decide +kernel) rfl
def m_X3_pagesInUse : mM := (yX3_pagesInUse, cX3_pagesInUse, 3, (some .int), { frames := 1, cells := 0, slots := 0, locals := 21 }, [], false, none, none)
theorem ok_X3_pagesInUse : mOk m_X3_pagesInUse := wa_m 267 (by decide +kernel) rfl
def m_X3_leastFree : mM := (yX3_leastFree, cX3_leastFree, 1, (some .int), { frames := 1, cells := 0, slots := 0, locals := 21 }, [], false, none, none)
theorem ok_X3_leastFree : mOk m_X3_leastFree := wa_m 165 (by decide +kernel) rfl
def m_X3_entries : mM := (yX3_entries, cX3_entries, 2, (some .int), { frames := 7, cells := 1, slots := 6, locals := 103 }, [], false, none, none)
theorem ok_X3_entries : mOk m_X3_entries := wa_m 307 (by decide +kernel) rfl
def m_X3_keyAt : mM := (yX3_keyAt, cX3_keyAt, 3, (some .int), { frames := 8, cells := 2, slots := 12, locals := 125 }, [], false, none, none)
theorem ok_X3_keyAt : mOk m_X3_keyAt := wa_m 404 (by decide +kernel) rfl
def m_X3_pageAt : mM := (yX3_pageAt, cX3_pageAt, 3, (some .int), { frames := 8, cells := 2, slots := 12, locals := 125 }, [], false, none, none)
theorem ok_X3_pageAt : mOk m_X3_pageAt := wa_m 423 (by decide +kernel) rfl
def m_X3_currentSlot : mM := (yX3_currentSlot, cX3_currentSlot, 1, (some .int), { frames := 0, cells := 0, slots := 0, locals := 0 }, [], false, none, none)
theorem ok_X3_currentSlot : mOk m_X3_currentSlot := wa_m 364 (by decide +kernel) rfl
def m_X3_slotWord : mM := (yX3_slotWord, cX3_slotWord, 3, (some .long), { frames := 7, cells := 2, slots := 12, locals := 102 }, [], false, none, none)
theorem ok_X3_slotWord : mOk m_X3_slotWord := wa_m 320 (by decide +kernel) rfl
def m_X3_isWhole : mM := (yX3_isWhole, cX3_isWhole, 2, (some .boolean), { frames := 7, cells := 1, slots := 6, locals := 102 }, [], false, none, none)
theorem ok_X3_isWhole : mOk m_X3_isWhole := wa_m 587 (by decide +kernel) rfl
def m_X3_tear : mM := (yX3_tear, cX3_tear, 3, (some .int), { frames := 7, cells := 2, slots := 12, locals := 102 }, [], false, none, none)
theorem ok_X3_tear : mOk m_X3_tear := wa_m 334 (by decide +kernel) rfl
def m_X3_crash : mM := (yX3_crash, cX3_crash, 2, (some .int), { frames := 5, cells := 0, slots := 0, locals := 117 }, [], false, none, none)
theorem ok_X3_crash : mOk m_X3_crash := wa_m 737 (by decide +kernel) rfl
def m_X3_crashInCommit : mM := (yX3_crashInCommit, cX3_crashInCommit, 2, (some .int), { frames := 7, cells := 3, slots := 18, locals := 138 }, [], false, none, none)
theorem ok_X3_crashInCommit : mOk m_X3_crashInCommit := wa_m 755 (by decide +kernel) rfl
def m_X3_requireKey : mM := (yX3_requireKey, cX3_requireKey, 1, none, { frames := 6, cells := 1, slots := 6, locals := 82 }, [], false, none, none)
theorem ok_X3_requireKey : mOk m_X3_requireKey := wa_m 497 (by decide +kernel) rfl
def m_X3_requireBatch : mM := (yX3_requireBatch, cX3_requireBatch, 1, none, { frames := 6, cells := 1, slots := 6, locals := 82 }, [], false, none, none)
theorem ok_X3_requireBatch : mOk m_X3_requireBatch := wa_m 616 (by decide +kernel) rfl
def m_X3_requireReader : mM := (yX3_requireReader, cX3_requireReader, 2, none, { frames := 6, cells := 1, slots := 6, locals := 82 }, [], false, none, none)
theorem ok_X3_requireReader : mOk m_X3_requireReader := wa_m 190 (by decide +kernel) rfl
def m_X3_requirePage : mM := (yX3_requirePage, cX3_requirePage, 2, none, { frames := 6, cells := 1, slots := 6, locals := 82 }, [], false, none, none)
theorem ok_X3_requirePage : mOk m_X3_requirePage := wa_m 311 (by decide +kernel) rfl
def m_X3_requireEntry : mM := (yX3_requireEntry, cX3_requireEntry, 3, none, { frames := 7, cells := 2, slots := 12, locals := 103 }, [], false, none, none)
theorem ok_X3_requireEntry : mOk m_X3_requireEntry := wa_m 408 (by decide +kernel) rfl
def m_X3_requireSlot : mM := (yX3_requireSlot, cX3_requireSlot, 1, none, { frames := 6, cells := 1, slots := 6, locals := 82 }, [], false, none, none)
theorem ok_X3_requireSlot : mOk m_X3_requireSlot := wa_m 323 (by decide +kernel) rfl
def m_X3_viewed : mM := (yX3_viewed, cX3_viewed, 2, (some (.object "Copperleaf$State")), { frames := 7, cells := 1, slots := 6, locals := 103 }, [], false, none, none)
theorem ok_X3_viewed : mOk m_X3_viewed := wa_m 383 (by decide +kernel) rfl
def m_X3_valueIn : mM := (yX3_valueIn, cX3_valueIn, 5, (some .int), { frames := 6, cells := 1, slots := 6, locals := 95 }, [], false, none, none)
theorem ok_X3_valueIn : mOk m_X3_valueIn := wa_m 517 (by decide +kernel) rfl
def m_X3_isOpen : mM := (yX3_isOpen, cX3_isOpen, 2, (some .boolean), { frames := 0, cells := 0, slots := 0, locals := 0 }, [], false, none, none)
theorem ok_X3_isOpen : mOk m_X3_isOpen := wa_m 194 (by decide +kernel) rfl
def m_X3_endBatch : mM := (yX3_endBatch, cX3_endBatch, 1, none, { frames := 4, cells := 0, slots := 0, locals := 97 }, [], false, none, none)
theorem ok_X3_endBatch : mOk m_X3_endBatch := wa_m 745 (by decide +kernel) rfl
def m_X3_keepStates : mM := (yX3_keepStates, cX3_keepStates, 4, none, { frames := 3, cells := 0, slots := 0, locals := 74 }, [], false, none, none)
theorem ok_X3_keepStates : mOk m_X3_keepStates := wa_m 275 (by decide +kernel) rfl
def m_X3_otherSlot : mM := (yX3_otherSlot, cX3_otherSlot, 1, (some .int), { frames := 0, cells := 0, slots := 0, locals := 0 }, [], false, none, none)
theorem ok_X3_otherSlot : mOk m_X3_otherSlot := wa_m 337 (by decide +kernel) rfl
def m_X3_wordIn : mM := (yX3_wordIn, cX3_wordIn, 4, (some .long), { frames := 0, cells := 0, slots := 0, locals := 0 }, [], false, none, none)
theorem ok_X3_wordIn : mOk m_X3_wordIn := wa_m 286 (by decide +kernel) rfl
def m_X3_sumsUp : mM := (yX3_sumsUp, cX3_sumsUp, 4, (some .boolean), { frames := 1, cells := 0, slots := 0, locals := 25 }, [], false, none, none)
theorem ok_X3_sumsUp : mOk m_X3_sumsUp := wa_m 282 (by decide +kernel) rfl
def m_X3_sumOf : mM := (yX3_sumOf, cX3_sumOf, 6, (some .long), { frames := 0, cells := 0, slots := 0, locals := 0 }, [], false, none, none)
theorem ok_X3_sumOf : mOk m_X3_sumOf := wa_m 289 (by decide +kernel) rfl
def m_X3_writeSlot : mM := (yX3_writeSlot, cX3_writeSlot, 5, none, { frames := 2, cells := 0, slots := 0, locals := 46 }, [], false, none, none)
theorem ok_X3_writeSlot : mOk m_X3_writeSlot := wa_m 761 (by decide +kernel) rfl
def m_X3_wordOfBatch : mM := (yX3_wordOfBatch, cX3_wordOfBatch, 2, (some .long), { frames := 1, cells := 0, slots := 0, locals := 25 }, [], false, none, none)
theorem ok_X3_wordOfBatch : mOk m_X3_wordOfBatch := wa_m 765 (by decide +kernel) rfl
def m_X3_latestWholeSlot : mM := (yX3_latestWholeSlot, cX3_latestWholeSlot, 1, (some .int), { frames := 2, cells := 0, slots := 0, locals := 48 }, [], false, none, none)
theorem ok_X3_latestWholeSlot : mOk m_X3_latestWholeSlot := wa_m 741 (by decide +kernel) rfl
def m_L_at (q : Nat × (Nat → Int32)) : mM := (yL_at, cL_at, 2, (some .int), { frames := 0, cells := 0, slots := 0, locals := 0 }, [], false, none, some q)
theorem ok_L_at (q : Nat × (Nat → Int32)) : mOk (m_L_at q) := wa_m 172 (by decide +kernel) rfl
def m_L_low : mM := (yL_low, cL_low, 2, (some .int), { frames := 0, cells := 0, slots := 0, locals := 0 }, [], false, none, none)
theorem ok_L_low : mOk m_L_low := wa_m 177 (by decide +kernel) rfl
def m_L_key : mM := (yL_key, cL_key, 1, (some .int), { frames := 0, cells := 0, slots := 0, locals := 0 }, [], false, none, none)
theorem ok_L_key : mOk m_L_key := wa_m 457 (by decide +kernel) rfl
def m_L_turn : mM := (yL_turn, cL_turn, 3, (some .int), { frames := 0, cells := 0, slots := 0, locals := 0 }, [], false, none, none)
theorem ok_L_turn : mOk m_L_turn := wa_m 454 (by decide +kernel) rfl
def m_L_sets : mM := (yL_sets, cL_sets, 5, none, { frames := 0, cells := 0, slots := 0, locals := 0 }, [], false, none, none)
theorem ok_L_sets : mOk m_L_sets := wa_m 681 (by decide +kernel) rfl
def m_L_value : mM := (yL_value, cL_value, 2, (some .int), { frames := 0, cells := 0, slots := 0, locals := 0 }, [], false, none, none)
theorem ok_L_value : mOk m_L_value := wa_m 550 (by decide +kernel) rfl
def m_L_begin : mM := (yL_begin, cL_begin, 2, (some .int), { frames := 7, cells := 1, slots := 6, locals := 102 }, [(0, 4, 5, 21)], false, none, none)
theorem ok_L_begin : mOk m_L_begin := wa_m 596 (by decide +kernel) rfl
def m_L_put : mM := (yL_put, cL_put, 4, (some .int), { frames := 8, cells := 2, slots := 12, locals := 164 }, [(0, 14, 15, 28), (0, 14, 19, 21)], false, none, none)
theorem ok_L_put : mOk m_L_put := wa_m 608 (by decide +kernel) rfl
def m_L_delete : mM := (yL_delete, cL_delete, 3, (some .int), { frames := 8, cells := 3, slots := 18, locals := 166 }, [(0, 5, 6, 28), (0, 5, 10, 21), (0, 5, 14, 35)], false, none, none)
theorem ok_L_delete : mOk m_L_delete := wa_m 686 (by decide +kernel) rfl
def m_L_commit : mM := (yL_commit, cL_commit, 2, (some .int), { frames := 8, cells := 1, slots := 6, locals := 138 }, [(0, 4, 5, 21)], false, none, none)
theorem ok_L_commit : mOk m_L_commit := wa_m 776 (by decide +kernel) rfl
def m_L_abandon : mM := (yL_abandon, cL_abandon, 2, (some .int), { frames := 8, cells := 1, slots := 6, locals := 138 }, [(0, 4, 5, 21)], false, none, none)
theorem ok_L_abandon : mOk m_L_abandon := wa_m 769 (by decide +kernel) rfl
def m_L_open : mM := (yL_open, cL_open, 2, (some .int), { frames := 7, cells := 1, slots := 6, locals := 103 }, [(0, 4, 5, 21)], false, none, none)
theorem ok_L_open : mOk m_L_open := wa_m 722 (by decide +kernel) rfl
def m_L_close : mM := (yL_close, cL_close, 3, (some .int), { frames := 8, cells := 1, slots := 6, locals := 125 }, [(0, 5, 6, 50)], false, none, none)
theorem ok_L_close : mOk m_L_close := wa_m 181 (by decide +kernel) rfl
def m_L_heldBy : mM := (yL_heldBy, cL_heldBy, 3, (some .int), { frames := 8, cells := 1, slots := 6, locals := 126 }, [(0, 5, 6, 50)], false, none, none)
theorem ok_L_heldBy : mOk m_L_heldBy := wa_m 571 (by decide +kernel) rfl
def m_L_epochOf : mM := (yL_epochOf, cL_epochOf, 3, (some .int), { frames := 9, cells := 1, slots := 6, locals := 145 }, [(0, 5, 6, 50)], false, none, none)
theorem ok_L_epochOf : mOk m_L_epochOf := wa_m 386 (by decide +kernel) rfl
def m_L_get : mM := (yL_get, cL_get, 4, (some .int), { frames := 9, cells := 3, slots := 18, locals := 147 }, [(0, 6, 7, 50), (0, 6, 11, 28), (0, 6, 15, 35)], false, none, none)
theorem ok_L_get : mOk m_L_get := wa_m 488 (by decide +kernel) rfl
def m_L_next : mM := (yL_next, cL_next, 4, (some .int), { frames := 9, cells := 1, slots := 6, locals := 146 }, [(0, 6, 7, 50)], false, none, none)
theorem ok_L_next : mOk m_L_next := wa_m 460 (by decide +kernel) rfl
def m_L_rank : mM := (yL_rank, cL_rank, 4, (some .int), { frames := 9, cells := 1, slots := 6, locals := 146 }, [(0, 6, 7, 50)], false, none, none)
theorem ok_L_rank : mOk m_L_rank := wa_m 476 (by decide +kernel) rfl
def m_L_size : mM := (yL_size, cL_size, 3, (some .int), { frames := 9, cells := 1, slots := 6, locals := 145 }, [(0, 5, 6, 50)], false, none, none)
theorem ok_L_size : mOk m_L_size := wa_m 393 (by decide +kernel) rfl
def m_L_depth : mM := (yL_depth, cL_depth, 3, (some .int), { frames := 9, cells := 1, slots := 6, locals := 145 }, [(0, 5, 6, 50)], false, none, none)
theorem ok_L_depth : mOk m_L_depth := wa_m 434 (by decide +kernel) rfl
def m_L_rootOf : mM := (yL_rootOf, cL_rootOf, 3, (some .int), { frames := 9, cells := 1, slots := 6, locals := 145 }, [(0, 5, 6, 50)], false, none, none)
theorem ok_L_rootOf : mOk m_L_rootOf := wa_m 375 (by decide +kernel) rfl
def m_L_shared : mM := (yL_shared, cL_shared, 4, (some .int), { frames := 9, cells := 2, slots := 12, locals := 148 }, [(0, 6, 7, 50)], false, none, none)
theorem ok_L_shared : mOk m_L_shared := wa_m 560 (by decide +kernel) rfl
def m_L_isFree : mM := (yL_isFree, cL_isFree, 3, (some .int), { frames := 7, cells := 1, slots := 6, locals := 103 }, [(0, 13, 14, 50)], false, none, none)
theorem ok_L_isFree : mOk m_L_isFree := wa_m 295 (by decide +kernel) rfl
def m_L_entries : mM := (yL_entries, cL_entries, 3, (some .int), { frames := 8, cells := 1, slots := 6, locals := 124 }, [(0, 5, 6, 50)], false, none, none)
theorem ok_L_entries : mOk m_L_entries := wa_m 303 (by decide +kernel) rfl
def m_L_keyAt : mM := (yL_keyAt, cL_keyAt, 4, (some .int), { frames := 9, cells := 2, slots := 12, locals := 147 }, [(0, 6, 7, 50)], false, none, none)
theorem ok_L_keyAt : mOk m_L_keyAt := wa_m 400 (by decide +kernel) rfl
def m_L_pageAt : mM := (yL_pageAt, cL_pageAt, 4, (some .int), { frames := 9, cells := 2, slots := 12, locals := 147 }, [(0, 6, 7, 50)], false, none, none)
theorem ok_L_pageAt : mOk m_L_pageAt := wa_m 419 (by decide +kernel) rfl
def m_L_slotWord : mM := (yL_slotWord, cL_slotWord, 4, (some .long), { frames := 8, cells := 2, slots := 12, locals := 124 }, [(0, 6, 7, 50)], false, none, none)
theorem ok_L_slotWord : mOk m_L_slotWord := wa_m 316 (by decide +kernel) rfl
def m_L_isWhole : mM := (yL_isWhole, cL_isWhole, 3, (some .int), { frames := 8, cells := 1, slots := 6, locals := 123 }, [(0, 13, 14, 50)], false, none, none)
theorem ok_L_isWhole : mOk m_L_isWhole := wa_m 583 (by decide +kernel) rfl
def m_L_tear : mM := (yL_tear, cL_tear, 3, (some .int), { frames := 8, cells := 2, slots := 12, locals := 124 }, [(0, 5, 6, 50), (0, 5, 10, 21)], false, none, none)
theorem ok_L_tear : mOk m_L_tear := wa_m 329 (by decide +kernel) rfl
def m_L_crashInCommit : mM := (yL_crashInCommit, cL_crashInCommit, 3, (some .int), { frames := 8, cells := 3, slots := 18, locals := 159 }, [(0, 5, 6, 28), (0, 5, 10, 21)], false, none, none)
theorem ok_L_crashInCommit : mOk m_L_crashInCommit := wa_m 751 (by decide +kernel) rfl
def m_L_print : mM := (yL_print, cL_print, 6, (some .long), { frames := 10, cells := 1100, slots := 6600, locals := 170 }, [], false, none, none)
theorem ok_L_print : mOk m_L_print := wa_m 358 (by decide +kernel) rfl
def m_L_first : mM := (yL_first, cL_first, 4, (some .int), { frames := 10, cells := 20, slots := 120, locals := 170 }, [], false, none, none)
theorem ok_L_first : mOk m_L_first := wa_m 451 (by decide +kernel) rfl
def m_L_walks : mM := (yL_walks, cL_walks, 16, (some .int), { frames := 11, cells := 1100, slots := 6800, locals := 193 }, [], false, none, none)
theorem ok_L_walks : mOk m_L_walks := wa_m 448 (by decide +kernel) rfl
def m_L_holds : mM := (yL_holds, cL_holds, 10, (some .boolean), { frames := 12, cells := 1100, slots := 6800, locals := 228 }, [], false, none, none)
theorem ok_L_holds : mOk m_L_holds := wa_m 445 (by decide +kernel) rfl
def m_L_shows : mM := (yL_shows, cL_shows, 12, (some .boolean), { frames := 13, cells := 1400, slots := 8800, locals := 257 }, [], false, none, none)
theorem ok_L_shows : mOk m_L_shows := wa_m 431 (by decide +kernel) rfl
def m_L_bits : mM := (yL_bits, cL_bits, 4, (some .int), { frames := 0, cells := 0, slots := 0, locals := 0 }, [], false, none, none)
theorem ok_L_bits : mOk m_L_bits := wa_m 557 (by decide +kernel) rfl
def m_L_shares : mM := (yL_shares, cL_shares, 8, (some .boolean), { frames := 12, cells := 2300, slots := 14000, locals := 228 }, [], false, none, none)
theorem ok_L_shares : mOk m_L_shares := wa_m 554 (by decide +kernel) rfl
def m_L_slots : mM := (yL_slots, cL_slots, 9, (some .boolean), { frames := 13, cells := 2400, slots := 14800, locals := 257 }, [], false, none, none)
theorem ok_L_slots : mOk m_L_slots := wa_m 578 (by decide +kernel) rfl
def m_L_isSo : mM := (yL_isSo, cL_isSo, 14, (some .boolean), { frames := 14, cells := 13000, slots := 82000, locals := 288 }, [], false, none, none)
theorem ok_L_isSo : mOk m_L_isSo := wa_m 428 (by decide +kernel) rfl
def m_L_copies : mM := (yL_copies, cL_copies, 5, none, { frames := 0, cells := 0, slots := 0, locals := 0 }, [], false, none, none)
theorem ok_L_copies : mOk m_L_copies := wa_m 593 (by decide +kernel) rfl
def m_L_wakes : mM := (yL_wakes, cL_wakes, 7, (some .boolean), { frames := 1, cells := 0, slots := 0, locals := 24 }, [], false, none, none)
theorem ok_L_wakes : mOk m_L_wakes := wa_m 748 (by decide +kernel) rfl
def m_L_writes : mM := (yL_writes, cL_writes, 14, (some .boolean), { frames := 9, cells := 100, slots := 600, locals := 188 }, [], false, none, none)
theorem ok_L_writes : mOk m_L_writes := wa_m 590 (by decide +kernel) rfl
def m_L_reads : mM := (yL_reads, cL_reads, 11, (some .boolean), { frames := 9, cells := 3, slots := 18, locals := 148 }, [], false, none, none)
theorem ok_L_reads : mOk m_L_reads := wa_m 719 (by decide +kernel) rfl
def m_L_tears : mM := (yL_tears, cL_tears, 5, (some .boolean), { frames := 9, cells := 4, slots := 24, locals := 147 }, [], false, none, none)
theorem ok_L_tears : mOk m_L_tears := wa_m 730 (by decide +kernel) rfl
def m_L_ends : mM := (yL_ends, cL_ends, 11, (some .boolean), { frames := 9, cells := 7, slots := 42, locals := 181 }, [], false, none, none)
theorem ok_L_ends : mOk m_L_ends := wa_m 733 (by decide +kernel) rfl
def m_L_law (q : Nat × (Nat → Int32)) : mM := (yL_law, cL_law, 12, some .boolean, room_1, [], false, some 0, some q)
theorem ci_X3_28 : mCi RX3 28 yX2_init 2 := ⟨wa_m 98 (by decide +kernel) rfl, wa_m 99 (by decide +kernel) rfl, wa_m 19 (by decide +kernel) rfl, by decide +kernel, by decide +kernel, by decide +kernel, by decide +kernel⟩
theorem cv_X3_54 : mCv RX3 54 yX0_markTree 2 := ⟨wa_m 119 (by decide +kernel) rfl, wa_m 120 (by decide +kernel) rfl, wa_m 121 (by decide +kernel) rfl, wa_m 17 (by decide +kernel) rfl, by decide +kernel, by decide +kernel, by decide +kernel⟩
theorem cv_X3_69 : mCv RX3 69 yX1_become 1 := ⟨wa_m 602 (by decide +kernel) rfl, wa_m 603 (by decide +kernel) rfl, wa_m 604 (by decide +kernel) rfl, wa_m 18 (by decide +kernel) rfl, by decide +kernel, by decide +kernel, by decide +kernel⟩
theorem cs_X3_76 : mCs RX3 76 yX3_requireKey 1 := ⟨wa_m 495 (by decide +kernel) rfl, wa_m 496 (by decide +kernel) rfl, wa_m 16 (by decide +kernel) rfl, by decide +kernel, by decide +kernel, by decide +kernel⟩
theorem cv_X3_80 : mCv RX3 80 yX3_requireBatch 0 := ⟨wa_m 613 (by decide +kernel) rfl, wa_m 615 (by decide +kernel) rfl, wa_m 10 (by decide +kernel) rfl, wa_m 16 (by decide +kernel) rfl, by decide +kernel, by decide +kernel, by decide +kernel⟩
theorem cv_X3_83 : mCv RX3 83 yX2_store 2 := ⟨wa_m 618 (by decide +kernel) rfl, wa_m 619 (by decide +kernel) rfl, wa_m 620 (by decide +kernel) rfl, wa_m 19 (by decide +kernel) rfl, by decide +kernel, by decide +kernel, by decide +kernel⟩
theorem cv_X3_87 : mCv RX3 87 yX3_valueIn 2 := ⟨wa_m 514 (by decide +kernel) rfl, wa_m 516 (by decide +kernel) rfl, wa_m 9 (by decide +kernel) rfl, wa_m 16 (by decide +kernel) rfl, by decide +kernel, by decide +kernel, by decide +kernel⟩
theorem cv_X3_91 : mCv RX3 91 yX2_drop 1 := ⟨wa_m 691 (by decide +kernel) rfl, wa_m 692 (by decide +kernel) rfl, wa_m 693 (by decide +kernel) rfl, wa_m 19 (by decide +kernel) rfl, by decide +kernel, by decide +kernel, by decide +kernel⟩
theorem cs_X3_94 : mCs RX3 94 yX3_otherSlot 1 := ⟨wa_m 335 (by decide +kernel) rfl, wa_m 336 (by decide +kernel) rfl, wa_m 16 (by decide +kernel) rfl, by decide +kernel, by decide +kernel, by decide +kernel⟩
theorem cv_X3_98 : mCv RX3 98 yX3_writeSlot 2 := ⟨wa_m 758 (by decide +kernel) rfl, wa_m 760 (by decide +kernel) rfl, wa_m 13 (by decide +kernel) rfl, wa_m 16 (by decide +kernel) rfl, by decide +kernel, by decide +kernel, by decide +kernel⟩
theorem cv_X3_102 : mCv RX3 102 yX3_endBatch 0 := ⟨wa_m 742 (by decide +kernel) rfl, wa_m 744 (by decide +kernel) rfl, wa_m 12 (by decide +kernel) rfl, wa_m 16 (by decide +kernel) rfl, by decide +kernel, by decide +kernel, by decide +kernel⟩
theorem cv_X3_105 : mCv RX3 105 yX3_pagesInUse 0 := ⟨wa_m 264 (by decide +kernel) rfl, wa_m 265 (by decide +kernel) rfl, wa_m 266 (by decide +kernel) rfl, wa_m 16 (by decide +kernel) rfl, by decide +kernel, by decide +kernel, by decide +kernel⟩
theorem cv_X3_109 : mCv RX3 109 yX3_isOpen 1 := ⟨wa_m 191 (by decide +kernel) rfl, wa_m 193 (by decide +kernel) rfl, wa_m 1 (by decide +kernel) rfl, wa_m 16 (by decide +kernel) rfl, by decide +kernel, by decide +kernel, by decide +kernel⟩
theorem cv_X3_115 : mCv RX3 115 yX3_requireReader 1 := ⟨wa_m 187 (by decide +kernel) rfl, wa_m 189 (by decide +kernel) rfl, wa_m 0 (by decide +kernel) rfl, wa_m 16 (by decide +kernel) rfl, by decide +kernel, by decide +kernel, by decide +kernel⟩
theorem cv_X3_118 : mCv RX3 118 yX3_keepStates 2 := ⟨wa_m 272 (by decide +kernel) rfl, wa_m 274 (by decide +kernel) rfl, wa_m 3 (by decide +kernel) rfl, wa_m 16 (by decide +kernel) rfl, by decide +kernel, by decide +kernel, by decide +kernel⟩
theorem cv_X3_124 : mCv RX3 124 yX3_viewed 1 := ⟨wa_m 380 (by decide +kernel) rfl, wa_m 382 (by decide +kernel) rfl, wa_m 7 (by decide +kernel) rfl, wa_m 16 (by decide +kernel) rfl, by decide +kernel, by decide +kernel, by decide +kernel⟩
theorem cv_X3_128 : mCv RX3 128 yX0_leastKeyFrom 2 := ⟨wa_m 465 (by decide +kernel) rfl, wa_m 466 (by decide +kernel) rfl, wa_m 467 (by decide +kernel) rfl, wa_m 17 (by decide +kernel) rfl, by decide +kernel, by decide +kernel, by decide +kernel⟩
theorem cv_X3_132 : mCv RX3 132 yX0_keysBelow 2 := ⟨wa_m 481 (by decide +kernel) rfl, wa_m 482 (by decide +kernel) rfl, wa_m 483 (by decide +kernel) rfl, wa_m 17 (by decide +kernel) rfl, by decide +kernel, by decide +kernel, by decide +kernel⟩
theorem cv_X3_138 : mCv RX3 138 yX0_levelsFrom 1 := ⟨wa_m 439 (by decide +kernel) rfl, wa_m 440 (by decide +kernel) rfl, wa_m 441 (by decide +kernel) rfl, wa_m 17 (by decide +kernel) rfl, by decide +kernel, by decide +kernel, by decide +kernel⟩
theorem cs_X3_141 : mCs RX3 141 yX0_unmark 1 := ⟨wa_m 276 (by decide +kernel) rfl, wa_m 277 (by decide +kernel) rfl, wa_m 17 (by decide +kernel) rfl, by decide +kernel, by decide +kernel, by decide +kernel⟩
theorem cv_X3_145 : mCv RX3 145 yX0_countMarked 1 := ⟨wa_m 565 (by decide +kernel) rfl, wa_m 566 (by decide +kernel) rfl, wa_m 567 (by decide +kernel) rfl, wa_m 17 (by decide +kernel) rfl, by decide +kernel, by decide +kernel, by decide +kernel⟩
theorem cv_X3_153 : mCv RX3 153 yX0_isVacant 1 := ⟨wa_m 268 (by decide +kernel) rfl, wa_m 269 (by decide +kernel) rfl, wa_m 270 (by decide +kernel) rfl, wa_m 17 (by decide +kernel) rfl, by decide +kernel, by decide +kernel, by decide +kernel⟩
theorem cv_X3_156 : mCv RX3 156 yX0_leastVacant 0 := ⟨wa_m 166 (by decide +kernel) rfl, wa_m 167 (by decide +kernel) rfl, wa_m 168 (by decide +kernel) rfl, wa_m 17 (by decide +kernel) rfl, by decide +kernel, by decide +kernel, by decide +kernel⟩
theorem cv_X3_159 : mCv RX3 159 yX3_requirePage 1 := ⟨wa_m 308 (by decide +kernel) rfl, wa_m 310 (by decide +kernel) rfl, wa_m 6 (by decide +kernel) rfl, wa_m 16 (by decide +kernel) rfl, by decide +kernel, by decide +kernel, by decide +kernel⟩
theorem cv_X3_162 : mCv RX3 162 yX0_countOf 1 := ⟨wa_m 313 (by decide +kernel) rfl, wa_m 132 (by decide +kernel) rfl, wa_m 133 (by decide +kernel) rfl, wa_m 17 (by decide +kernel) rfl, by decide +kernel, by decide +kernel, by decide +kernel⟩
theorem cv_X3_165 : mCv RX3 165 yX3_requireEntry 2 := ⟨wa_m 405 (by decide +kernel) rfl, wa_m 407 (by decide +kernel) rfl, wa_m 8 (by decide +kernel) rfl, wa_m 16 (by decide +kernel) rfl, by decide +kernel, by decide +kernel, by decide +kernel⟩
theorem cv_X3_168 : mCv RX3 168 yX0_keyOf 2 := ⟨wa_m 410 (by decide +kernel) rfl, wa_m 411 (by decide +kernel) rfl, wa_m 412 (by decide +kernel) rfl, wa_m 17 (by decide +kernel) rfl, by decide +kernel, by decide +kernel, by decide +kernel⟩
theorem cv_X3_171 : mCv RX3 171 yX0_isLeaf 1 := ⟨wa_m 424 (by decide +kernel) rfl, wa_m 128 (by decide +kernel) rfl, wa_m 129 (by decide +kernel) rfl, wa_m 17 (by decide +kernel) rfl, by decide +kernel, by decide +kernel, by decide +kernel⟩
theorem cv_X3_174 : mCv RX3 174 yX0_wordOf 2 := ⟨wa_m 425 (by decide +kernel) rfl, wa_m 136 (by decide +kernel) rfl, wa_m 137 (by decide +kernel) rfl, wa_m 17 (by decide +kernel) rfl, by decide +kernel, by decide +kernel, by decide +kernel⟩
theorem cs_X3_177 : mCs RX3 177 yX3_requireSlot 1 := ⟨wa_m 321 (by decide +kernel) rfl, wa_m 322 (by decide +kernel) rfl, wa_m 16 (by decide +kernel) rfl, by decide +kernel, by decide +kernel, by decide +kernel⟩
theorem cv_X3_182 : mCv RX3 182 yX3_wordIn 2 := ⟨wa_m 283 (by decide +kernel) rfl, wa_m 285 (by decide +kernel) rfl, wa_m 5 (by decide +kernel) rfl, wa_m 16 (by decide +kernel) rfl, by decide +kernel, by decide +kernel, by decide +kernel⟩
theorem cv_X3_186 : mCv RX3 186 yX3_sumsUp 1 := ⟨wa_m 279 (by decide +kernel) rfl, wa_m 281 (by decide +kernel) rfl, wa_m 4 (by decide +kernel) rfl, wa_m 16 (by decide +kernel) rfl, by decide +kernel, by decide +kernel, by decide +kernel⟩
theorem cv_X3_193 : mCv RX3 193 yX3_latestWholeSlot 0 := ⟨wa_m 738 (by decide +kernel) rfl, wa_m 740 (by decide +kernel) rfl, wa_m 11 (by decide +kernel) rfl, wa_m 16 (by decide +kernel) rfl, by decide +kernel, by decide +kernel, by decide +kernel⟩
theorem cv_X3_203 : mCv RX3 203 yX3_crash 0 := ⟨wa_m 766 (by decide +kernel) rfl, wa_m 735 (by decide +kernel) rfl, wa_m 736 (by decide +kernel) rfl, wa_m 16 (by decide +kernel) rfl, by decide +kernel, by decide +kernel, by decide +kernel⟩
theorem cv_X3_218 : mCv RX3 218 yX0_leafFor 2 := ⟨wa_m 518 (by decide +kernel) rfl, wa_m 519 (by decide +kernel) rfl, wa_m 520 (by decide +kernel) rfl, wa_m 17 (by decide +kernel) rfl, by decide +kernel, by decide +kernel, by decide +kernel⟩
theorem cv_X3_221 : mCv RX3 221 yX0_placeOf 2 := ⟨wa_m 526 (by decide +kernel) rfl, wa_m 470 (by decide +kernel) rfl, wa_m 471 (by decide +kernel) rfl, wa_m 17 (by decide +kernel) rfl, by decide +kernel, by decide +kernel, by decide +kernel⟩
theorem cv_X3_224 : mCv RX3 224 yX0_holds 3 := ⟨wa_m 527 (by decide +kernel) rfl, wa_m 528 (by decide +kernel) rfl, wa_m 529 (by decide +kernel) rfl, wa_m 17 (by decide +kernel) rfl, by decide +kernel, by decide +kernel, by decide +kernel⟩
theorem cs_X3_236 : mCs RX3 236 yX3_sumOf 3 := ⟨wa_m 287 (by decide +kernel) rfl, wa_m 288 (by decide +kernel) rfl, wa_m 16 (by decide +kernel) rfl, by decide +kernel, by decide +kernel, by decide +kernel⟩
theorem cv_X3_244 : mCv RX3 244 yX3_wordOfBatch 1 := ⟨wa_m 762 (by decide +kernel) rfl, wa_m 764 (by decide +kernel) rfl, wa_m 14 (by decide +kernel) rfl, wa_m 16 (by decide +kernel) rfl, by decide +kernel, by decide +kernel, by decide +kernel⟩
theorem cs_X0_37 : mCs RX0 37 yX0_isCell 2 := ⟨wa_m 414 (by decide +kernel) rfl, wa_m 415 (by decide +kernel) rfl, wa_m 17 (by decide +kernel) rfl, by decide +kernel, by decide +kernel, by decide +kernel⟩
theorem cv_X0_41 : mCv RX0 41 yX0_isLeaf 1 := ⟨wa_m 127 (by decide +kernel) rfl, wa_m 128 (by decide +kernel) rfl, wa_m 129 (by decide +kernel) rfl, wa_m 17 (by decide +kernel) rfl, by decide +kernel, by decide +kernel, by decide +kernel⟩
theorem cv_X0_45 : mCv RX0 45 yX0_wordOf 2 := ⟨wa_m 135 (by decide +kernel) rfl, wa_m 136 (by decide +kernel) rfl, wa_m 137 (by decide +kernel) rfl, wa_m 17 (by decide +kernel) rfl, by decide +kernel, by decide +kernel, by decide +kernel⟩
theorem cv_X0_49 : mCv RX0 49 yX0_countOf 1 := ⟨wa_m 131 (by decide +kernel) rfl, wa_m 132 (by decide +kernel) rfl, wa_m 133 (by decide +kernel) rfl, wa_m 17 (by decide +kernel) rfl, by decide +kernel, by decide +kernel, by decide +kernel⟩
theorem cv_X0_53 : mCv RX0 53 yX0_keyOf 2 := ⟨wa_m 473 (by decide +kernel) rfl, wa_m 411 (by decide +kernel) rfl, wa_m 412 (by decide +kernel) rfl, wa_m 17 (by decide +kernel) rfl, by decide +kernel, by decide +kernel, by decide +kernel⟩
theorem cv_X0_56 : mCv RX0 56 yX0_entryFor 2 := ⟨wa_m 522 (by decide +kernel) rfl, wa_m 523 (by decide +kernel) rfl, wa_m 524 (by decide +kernel) rfl, wa_m 17 (by decide +kernel) rfl, by decide +kernel, by decide +kernel, by decide +kernel⟩
theorem cv_X0_59 : mCv RX0 59 yX0_listTree 1 := ⟨wa_m 123 (by decide +kernel) rfl, wa_m 124 (by decide +kernel) rfl, wa_m 125 (by decide +kernel) rfl, wa_m 17 (by decide +kernel) rfl, by decide +kernel, by decide +kernel, by decide +kernel⟩
theorem cv_X0_62 : mCv RX0 62 yX0_placeOf 2 := ⟨wa_m 469 (by decide +kernel) rfl, wa_m 470 (by decide +kernel) rfl, wa_m 471 (by decide +kernel) rfl, wa_m 17 (by decide +kernel) rfl, by decide +kernel, by decide +kernel, by decide +kernel⟩
theorem cv_X0_65 : mCv RX0 65 yX0_leastVacant 0 := ⟨wa_m 634 (by decide +kernel) rfl, wa_m 167 (by decide +kernel) rfl, wa_m 168 (by decide +kernel) rfl, wa_m 17 (by decide +kernel) rfl, by decide +kernel, by decide +kernel, by decide +kernel⟩
theorem cv_X0_69 : mCv RX0 69 yX0_take 1 := ⟨wa_m 630 (by decide +kernel) rfl, wa_m 631 (by decide +kernel) rfl, wa_m 632 (by decide +kernel) rfl, wa_m 17 (by decide +kernel) rfl, by decide +kernel, by decide +kernel, by decide +kernel⟩
theorem cv_X0_73 : mCv RX0 73 yX0_append 2 := ⟨wa_m 635 (by decide +kernel) rfl, wa_m 636 (by decide +kernel) rfl, wa_m 637 (by decide +kernel) rfl, wa_m 17 (by decide +kernel) rfl, by decide +kernel, by decide +kernel, by decide +kernel⟩
theorem cv_X0_77 : mCv RX0 77 yX0_insert 4 := ⟨wa_m 670 (by decide +kernel) rfl, wa_m 653 (by decide +kernel) rfl, wa_m 654 (by decide +kernel) rfl, wa_m 17 (by decide +kernel) rfl, by decide +kernel, by decide +kernel, by decide +kernel⟩
theorem cv_X0_81 : mCv RX0 81 yX0_remove 2 := ⟨wa_m 671 (by decide +kernel) rfl, wa_m 672 (by decide +kernel) rfl, wa_m 673 (by decide +kernel) rfl, wa_m 17 (by decide +kernel) rfl, by decide +kernel, by decide +kernel, by decide +kernel⟩
theorem cv_X2_26 : mCv RX2 26 yX2_writePath 1 := ⟨wa_m 622 (by decide +kernel) rfl, wa_m 623 (by decide +kernel) rfl, wa_m 624 (by decide +kernel) rfl, wa_m 19 (by decide +kernel) rfl, by decide +kernel, by decide +kernel, by decide +kernel⟩
theorem cv_X2_30 : mCv RX2 30 yX0_placeOf 2 := ⟨wa_m 650 (by decide +kernel) rfl, wa_m 470 (by decide +kernel) rfl, wa_m 471 (by decide +kernel) rfl, wa_m 17 (by decide +kernel) rfl, by decide +kernel, by decide +kernel, by decide +kernel⟩
theorem cv_X2_36 : mCv RX2 36 yX0_holds 3 := ⟨wa_m 651 (by decide +kernel) rfl, wa_m 528 (by decide +kernel) rfl, wa_m 529 (by decide +kernel) rfl, wa_m 17 (by decide +kernel) rfl, by decide +kernel, by decide +kernel, by decide +kernel⟩
theorem cv_X2_40 : mCv RX2 40 yX0_setWord 3 := ⟨wa_m 646 (by decide +kernel) rfl, wa_m 647 (by decide +kernel) rfl, wa_m 648 (by decide +kernel) rfl, wa_m 17 (by decide +kernel) rfl, by decide +kernel, by decide +kernel, by decide +kernel⟩
theorem cv_X2_44 : mCv RX2 44 yX0_insert 4 := ⟨wa_m 652 (by decide +kernel) rfl, wa_m 653 (by decide +kernel) rfl, wa_m 654 (by decide +kernel) rfl, wa_m 17 (by decide +kernel) rfl, by decide +kernel, by decide +kernel, by decide +kernel⟩
theorem cv_X2_54 : mCv RX2 54 yX2_splitUpwards 0 := ⟨wa_m 656 (by decide +kernel) rfl, wa_m 657 (by decide +kernel) rfl, wa_m 658 (by decide +kernel) rfl, wa_m 19 (by decide +kernel) rfl, by decide +kernel, by decide +kernel, by decide +kernel⟩
theorem cv_X2_57 : mCv RX2 57 yX0_remove 2 := ⟨wa_m 695 (by decide +kernel) rfl, wa_m 672 (by decide +kernel) rfl, wa_m 673 (by decide +kernel) rfl, wa_m 17 (by decide +kernel) rfl, by decide +kernel, by decide +kernel, by decide +kernel⟩
theorem cv_X2_64 : mCv RX2 64 yX0_countOf 1 := ⟨wa_m 660 (by decide +kernel) rfl, wa_m 132 (by decide +kernel) rfl, wa_m 133 (by decide +kernel) rfl, wa_m 17 (by decide +kernel) rfl, by decide +kernel, by decide +kernel, by decide +kernel⟩
theorem cv_X2_67 : mCv RX2 67 yX2_mend 2 := ⟨wa_m 696 (by decide +kernel) rfl, wa_m 697 (by decide +kernel) rfl, wa_m 698 (by decide +kernel) rfl, wa_m 19 (by decide +kernel) rfl, by decide +kernel, by decide +kernel, by decide +kernel⟩
theorem cv_X2_70 : mCv RX2 70 yX2_shrinkRoot 0 := ⟨wa_m 713 (by decide +kernel) rfl, wa_m 714 (by decide +kernel) rfl, wa_m 715 (by decide +kernel) rfl, wa_m 19 (by decide +kernel) rfl, by decide +kernel, by decide +kernel, by decide +kernel⟩
theorem cv_X2_76 : mCv RX2 76 yX0_writeAnew 1 := ⟨wa_m 626 (by decide +kernel) rfl, wa_m 627 (by decide +kernel) rfl, wa_m 628 (by decide +kernel) rfl, wa_m 17 (by decide +kernel) rfl, by decide +kernel, by decide +kernel, by decide +kernel⟩
theorem cv_X2_79 : mCv RX2 79 yX0_isLeaf 1 := ⟨wa_m 639 (by decide +kernel) rfl, wa_m 128 (by decide +kernel) rfl, wa_m 129 (by decide +kernel) rfl, wa_m 17 (by decide +kernel) rfl, by decide +kernel, by decide +kernel, by decide +kernel⟩
theorem cv_X2_83 : mCv RX2 83 yX0_entryFor 2 := ⟨wa_m 640 (by decide +kernel) rfl, wa_m 523 (by decide +kernel) rfl, wa_m 524 (by decide +kernel) rfl, wa_m 17 (by decide +kernel) rfl, by decide +kernel, by decide +kernel, by decide +kernel⟩
theorem cv_X2_86 : mCv RX2 86 yX2_writeBelow 2 := ⟨wa_m 641 (by decide +kernel) rfl, wa_m 642 (by decide +kernel) rfl, wa_m 643 (by decide +kernel) rfl, wa_m 19 (by decide +kernel) rfl, by decide +kernel, by decide +kernel, by decide +kernel⟩
theorem cv_X2_89 : mCv RX2 89 yX0_wordOf 2 := ⟨wa_m 645 (by decide +kernel) rfl, wa_m 136 (by decide +kernel) rfl, wa_m 137 (by decide +kernel) rfl, wa_m 17 (by decide +kernel) rfl, by decide +kernel, by decide +kernel, by decide +kernel⟩
theorem cv_X2_92 : mCv RX2 92 yX2_splitOff 1 := ⟨wa_m 661 (by decide +kernel) rfl, wa_m 662 (by decide +kernel) rfl, wa_m 663 (by decide +kernel) rfl, wa_m 19 (by decide +kernel) rfl, by decide +kernel, by decide +kernel, by decide +kernel⟩
theorem cv_X2_95 : mCv RX2 95 yX2_growRoot 2 := ⟨wa_m 675 (by decide +kernel) rfl, wa_m 676 (by decide +kernel) rfl, wa_m 677 (by decide +kernel) rfl, wa_m 19 (by decide +kernel) rfl, by decide +kernel, by decide +kernel, by decide +kernel⟩
theorem cv_X2_98 : mCv RX2 98 yX0_take 1 := ⟨wa_m 665 (by decide +kernel) rfl, wa_m 631 (by decide +kernel) rfl, wa_m 632 (by decide +kernel) rfl, wa_m 17 (by decide +kernel) rfl, by decide +kernel, by decide +kernel, by decide +kernel⟩
theorem cv_X2_102 : mCv RX2 102 yX0_move 4 := ⟨wa_m 666 (by decide +kernel) rfl, wa_m 667 (by decide +kernel) rfl, wa_m 668 (by decide +kernel) rfl, wa_m 17 (by decide +kernel) rfl, by decide +kernel, by decide +kernel, by decide +kernel⟩
theorem cv_X2_105 : mCv RX2 105 yX2_lend 3 := ⟨wa_m 700 (by decide +kernel) rfl, wa_m 701 (by decide +kernel) rfl, wa_m 702 (by decide +kernel) rfl, wa_m 19 (by decide +kernel) rfl, by decide +kernel, by decide +kernel, by decide +kernel⟩
theorem cv_X2_108 : mCv RX2 108 yX2_join 2 := ⟨wa_m 704 (by decide +kernel) rfl, wa_m 705 (by decide +kernel) rfl, wa_m 706 (by decide +kernel) rfl, wa_m 19 (by decide +kernel) rfl, by decide +kernel, by decide +kernel, by decide +kernel⟩
theorem cv_X2_111 : mCv RX2 111 yX0_append 2 := ⟨wa_m 708 (by decide +kernel) rfl, wa_m 636 (by decide +kernel) rfl, wa_m 637 (by decide +kernel) rfl, wa_m 17 (by decide +kernel) rfl, by decide +kernel, by decide +kernel, by decide +kernel⟩
theorem cv_X2_114 : mCv RX2 114 yX0_leave 1 := ⟨wa_m 709 (by decide +kernel) rfl, wa_m 710 (by decide +kernel) rfl, wa_m 711 (by decide +kernel) rfl, wa_m 17 (by decide +kernel) rfl, by decide +kernel, by decide +kernel, by decide +kernel⟩
theorem cv_L_15 : mCv RL 15 yX3_beginBatch 0 := ⟨wa_m 597 (by decide +kernel) rfl, wa_m 598 (by decide +kernel) rfl, wa_m 599 (by decide +kernel) rfl, wa_m 16 (by decide +kernel) rfl, by decide +kernel, by decide +kernel, by decide +kernel⟩
theorem cv_L_24 : mCv RL 24 yX3_put 2 := ⟨wa_m 609 (by decide +kernel) rfl, wa_m 610 (by decide +kernel) rfl, wa_m 611 (by decide +kernel) rfl, wa_m 16 (by decide +kernel) rfl, by decide +kernel, by decide +kernel, by decide +kernel⟩
theorem cv_L_31 : mCv RL 31 yX3_delete 1 := ⟨wa_m 687 (by decide +kernel) rfl, wa_m 688 (by decide +kernel) rfl, wa_m 689 (by decide +kernel) rfl, wa_m 16 (by decide +kernel) rfl, by decide +kernel, by decide +kernel, by decide +kernel⟩
theorem cv_L_38 : mCv RL 38 yX3_commit 0 := ⟨wa_m 777 (by decide +kernel) rfl, wa_m 778 (by decide +kernel) rfl, wa_m 779 (by decide +kernel) rfl, wa_m 16 (by decide +kernel) rfl, by decide +kernel, by decide +kernel, by decide +kernel⟩
theorem cv_L_41 : mCv RL 41 yX3_abandon 0 := ⟨wa_m 770 (by decide +kernel) rfl, wa_m 771 (by decide +kernel) rfl, wa_m 772 (by decide +kernel) rfl, wa_m 16 (by decide +kernel) rfl, by decide +kernel, by decide +kernel, by decide +kernel⟩
theorem cv_L_44 : mCv RL 44 yX3_openReader 0 := ⟨wa_m 723 (by decide +kernel) rfl, wa_m 724 (by decide +kernel) rfl, wa_m 725 (by decide +kernel) rfl, wa_m 16 (by decide +kernel) rfl, by decide +kernel, by decide +kernel, by decide +kernel⟩
theorem cv_L_47 : mCv RL 47 yX3_closeReader 1 := ⟨wa_m 183 (by decide +kernel) rfl, wa_m 184 (by decide +kernel) rfl, wa_m 185 (by decide +kernel) rfl, wa_m 16 (by decide +kernel) rfl, by decide +kernel, by decide +kernel, by decide +kernel⟩
theorem cv_L_52 : mCv RL 52 yX3_heldBy 1 := ⟨wa_m 572 (by decide +kernel) rfl, wa_m 573 (by decide +kernel) rfl, wa_m 574 (by decide +kernel) rfl, wa_m 16 (by decide +kernel) rfl, by decide +kernel, by decide +kernel, by decide +kernel⟩
theorem cv_L_55 : mCv RL 55 yX3_epochOf 1 := ⟨wa_m 387 (by decide +kernel) rfl, wa_m 388 (by decide +kernel) rfl, wa_m 389 (by decide +kernel) rfl, wa_m 16 (by decide +kernel) rfl, by decide +kernel, by decide +kernel, by decide +kernel⟩
theorem cv_L_58 : mCv RL 58 yX3_get 2 := ⟨wa_m 491 (by decide +kernel) rfl, wa_m 492 (by decide +kernel) rfl, wa_m 493 (by decide +kernel) rfl, wa_m 16 (by decide +kernel) rfl, by decide +kernel, by decide +kernel, by decide +kernel⟩
theorem cv_L_62 : mCv RL 62 yX3_next 2 := ⟨wa_m 461 (by decide +kernel) rfl, wa_m 462 (by decide +kernel) rfl, wa_m 463 (by decide +kernel) rfl, wa_m 16 (by decide +kernel) rfl, by decide +kernel, by decide +kernel, by decide +kernel⟩
theorem cv_L_65 : mCv RL 65 yX3_rank 2 := ⟨wa_m 477 (by decide +kernel) rfl, wa_m 478 (by decide +kernel) rfl, wa_m 479 (by decide +kernel) rfl, wa_m 16 (by decide +kernel) rfl, by decide +kernel, by decide +kernel, by decide +kernel⟩
theorem cv_L_68 : mCv RL 68 yX3_size 1 := ⟨wa_m 394 (by decide +kernel) rfl, wa_m 395 (by decide +kernel) rfl, wa_m 396 (by decide +kernel) rfl, wa_m 16 (by decide +kernel) rfl, by decide +kernel, by decide +kernel, by decide +kernel⟩
theorem cv_L_71 : mCv RL 71 yX3_depth 1 := ⟨wa_m 435 (by decide +kernel) rfl, wa_m 436 (by decide +kernel) rfl, wa_m 437 (by decide +kernel) rfl, wa_m 16 (by decide +kernel) rfl, by decide +kernel, by decide +kernel, by decide +kernel⟩
theorem cv_L_74 : mCv RL 74 yX3_rootOf 1 := ⟨wa_m 376 (by decide +kernel) rfl, wa_m 377 (by decide +kernel) rfl, wa_m 378 (by decide +kernel) rfl, wa_m 16 (by decide +kernel) rfl, by decide +kernel, by decide +kernel, by decide +kernel⟩
theorem cv_L_77 : mCv RL 77 yX3_sharedPages 2 := ⟨wa_m 561 (by decide +kernel) rfl, wa_m 562 (by decide +kernel) rfl, wa_m 563 (by decide +kernel) rfl, wa_m 16 (by decide +kernel) rfl, by decide +kernel, by decide +kernel, by decide +kernel⟩
theorem cv_L_80 : mCv RL 80 yX3_isFree 1 := ⟨wa_m 296 (by decide +kernel) rfl, wa_m 297 (by decide +kernel) rfl, wa_m 298 (by decide +kernel) rfl, wa_m 16 (by decide +kernel) rfl, by decide +kernel, by decide +kernel, by decide +kernel⟩
theorem cv_L_84 : mCv RL 84 yX3_entries 1 := ⟨wa_m 304 (by decide +kernel) rfl, wa_m 305 (by decide +kernel) rfl, wa_m 306 (by decide +kernel) rfl, wa_m 16 (by decide +kernel) rfl, by decide +kernel, by decide +kernel, by decide +kernel⟩
theorem cv_L_87 : mCv RL 87 yX3_keyAt 2 := ⟨wa_m 401 (by decide +kernel) rfl, wa_m 402 (by decide +kernel) rfl, wa_m 403 (by decide +kernel) rfl, wa_m 16 (by decide +kernel) rfl, by decide +kernel, by decide +kernel, by decide +kernel⟩
theorem cv_L_90 : mCv RL 90 yX3_pageAt 2 := ⟨wa_m 420 (by decide +kernel) rfl, wa_m 421 (by decide +kernel) rfl, wa_m 422 (by decide +kernel) rfl, wa_m 16 (by decide +kernel) rfl, by decide +kernel, by decide +kernel, by decide +kernel⟩
theorem cv_L_93 : mCv RL 93 yX3_slotWord 2 := ⟨wa_m 317 (by decide +kernel) rfl, wa_m 318 (by decide +kernel) rfl, wa_m 319 (by decide +kernel) rfl, wa_m 16 (by decide +kernel) rfl, by decide +kernel, by decide +kernel, by decide +kernel⟩
theorem cv_L_99 : mCv RL 99 yX3_isWhole 1 := ⟨wa_m 584 (by decide +kernel) rfl, wa_m 585 (by decide +kernel) rfl, wa_m 586 (by decide +kernel) rfl, wa_m 16 (by decide +kernel) rfl, by decide +kernel, by decide +kernel, by decide +kernel⟩
theorem cv_L_102 : mCv RL 102 yX3_tear 1 := ⟨wa_m 331 (by decide +kernel) rfl, wa_m 332 (by decide +kernel) rfl, wa_m 333 (by decide +kernel) rfl, wa_m 16 (by decide +kernel) rfl, by decide +kernel, by decide +kernel, by decide +kernel⟩
theorem cv_L_105 : mCv RL 105 yX3_crashInCommit 1 := ⟨wa_m 752 (by decide +kernel) rfl, wa_m 753 (by decide +kernel) rfl, wa_m 754 (by decide +kernel) rfl, wa_m 16 (by decide +kernel) rfl, by decide +kernel, by decide +kernel, by decide +kernel⟩
theorem cv_L_110 : mCv RL 110 yX3_pagesInUse 0 := ⟨wa_m 360 (by decide +kernel) rfl, wa_m 265 (by decide +kernel) rfl, wa_m 266 (by decide +kernel) rfl, wa_m 16 (by decide +kernel) rfl, by decide +kernel, by decide +kernel, by decide +kernel⟩
theorem cv_L_113 : mCv RL 113 yX3_leastFree 0 := ⟨wa_m 162 (by decide +kernel) rfl, wa_m 163 (by decide +kernel) rfl, wa_m 164 (by decide +kernel) rfl, wa_m 16 (by decide +kernel) rfl, by decide +kernel, by decide +kernel, by decide +kernel⟩
theorem cv_L_116 : mCv RL 116 yX3_currentSlot 0 := ⟨wa_m 361 (by decide +kernel) rfl, wa_m 362 (by decide +kernel) rfl, wa_m 363 (by decide +kernel) rfl, wa_m 16 (by decide +kernel) rfl, by decide +kernel, by decide +kernel, by decide +kernel⟩
theorem cv_L_119 : mCv RL 119 yX3_hasBatch 0 := ⟨wa_m 365 (by decide +kernel) rfl, wa_m 366 (by decide +kernel) rfl, wa_m 367 (by decide +kernel) rfl, wa_m 16 (by decide +kernel) rfl, by decide +kernel, by decide +kernel, by decide +kernel⟩
theorem cv_L_123 : mCv RL 123 yX3_readers 0 := ⟨wa_m 369 (by decide +kernel) rfl, wa_m 370 (by decide +kernel) rfl, wa_m 371 (by decide +kernel) rfl, wa_m 16 (by decide +kernel) rfl, by decide +kernel, by decide +kernel, by decide +kernel⟩
theorem cs_L_126 : mCs RL 126 yL_slotWord 3 := ⟨wa_m 314 (by decide +kernel) rfl, wa_m 315 (by decide +kernel) rfl, wa_m 15 (by decide +kernel) rfl, by decide +kernel, by decide +kernel, by decide +kernel⟩
theorem cs_L_131 : mCs RL 131 yL_rootOf 2 := ⟨wa_m 373 (by decide +kernel) rfl, wa_m 374 (by decide +kernel) rfl, wa_m 15 (by decide +kernel) rfl, by decide +kernel, by decide +kernel, by decide +kernel⟩
theorem cs_L_134 : mCs RL 134 yL_epochOf 2 := ⟨wa_m 384 (by decide +kernel) rfl, wa_m 385 (by decide +kernel) rfl, wa_m 15 (by decide +kernel) rfl, by decide +kernel, by decide +kernel, by decide +kernel⟩
theorem cs_L_136 : mCs RL 136 yL_size 2 := ⟨wa_m 391 (by decide +kernel) rfl, wa_m 392 (by decide +kernel) rfl, wa_m 15 (by decide +kernel) rfl, by decide +kernel, by decide +kernel, by decide +kernel⟩
theorem cs_L_138 : mCs RL 138 yL_entries 2 := ⟨wa_m 301 (by decide +kernel) rfl, wa_m 302 (by decide +kernel) rfl, wa_m 15 (by decide +kernel) rfl, by decide +kernel, by decide +kernel, by decide +kernel⟩
theorem cs_L_140 : mCs RL 140 yL_keyAt 3 := ⟨wa_m 398 (by decide +kernel) rfl, wa_m 399 (by decide +kernel) rfl, wa_m 15 (by decide +kernel) rfl, by decide +kernel, by decide +kernel, by decide +kernel⟩
theorem cs_L_143 : mCs RL 143 yL_pageAt 3 := ⟨wa_m 417 (by decide +kernel) rfl, wa_m 418 (by decide +kernel) rfl, wa_m 15 (by decide +kernel) rfl, by decide +kernel, by decide +kernel, by decide +kernel⟩
theorem cs_L_145 : mCs RL 145 yL_first 2 := ⟨wa_m 449 (by decide +kernel) rfl, wa_m 450 (by decide +kernel) rfl, wa_m 15 (by decide +kernel) rfl, by decide +kernel, by decide +kernel, by decide +kernel⟩
theorem cs_L_148 : mCs RL 148 yL_walks 4 := ⟨wa_m 446 (by decide +kernel) rfl, wa_m 447 (by decide +kernel) rfl, wa_m 15 (by decide +kernel) rfl, by decide +kernel, by decide +kernel, by decide +kernel⟩
theorem cs_L_152 : mCs RL 152 yL_turn 3 := ⟨wa_m 452 (by decide +kernel) rfl, wa_m 453 (by decide +kernel) rfl, wa_m 15 (by decide +kernel) rfl, by decide +kernel, by decide +kernel, by decide +kernel⟩
theorem cs_L_156 : mCs RL 156 yL_key 1 := ⟨wa_m 455 (by decide +kernel) rfl, wa_m 456 (by decide +kernel) rfl, wa_m 15 (by decide +kernel) rfl, by decide +kernel, by decide +kernel, by decide +kernel⟩
theorem cs_L_159 : mCs RL 159 yL_depth 2 := ⟨wa_m 432 (by decide +kernel) rfl, wa_m 433 (by decide +kernel) rfl, wa_m 15 (by decide +kernel) rfl, by decide +kernel, by decide +kernel, by decide +kernel⟩
theorem cs_L_161 : mCs RL 161 yL_holds 7 := ⟨wa_m 443 (by decide +kernel) rfl, wa_m 444 (by decide +kernel) rfl, wa_m 15 (by decide +kernel) rfl, by decide +kernel, by decide +kernel, by decide +kernel⟩
theorem cs_L_165 : mCs RL 165 yL_low 2 := ⟨wa_m 175 (by decide +kernel) rfl, wa_m 176 (by decide +kernel) rfl, wa_m 15 (by decide +kernel) rfl, by decide +kernel, by decide +kernel, by decide +kernel⟩
theorem cs_L_168 : mCs RL 168 yL_next 3 := ⟨wa_m 458 (by decide +kernel) rfl, wa_m 459 (by decide +kernel) rfl, wa_m 15 (by decide +kernel) rfl, by decide +kernel, by decide +kernel, by decide +kernel⟩
theorem cs_L_170 : mCs RL 170 yL_rank 3 := ⟨wa_m 474 (by decide +kernel) rfl, wa_m 475 (by decide +kernel) rfl, wa_m 15 (by decide +kernel) rfl, by decide +kernel, by decide +kernel, by decide +kernel⟩
theorem cs_L_173 : mCs RL 173 yL_get 3 := ⟨wa_m 486 (by decide +kernel) rfl, wa_m 487 (by decide +kernel) rfl, wa_m 15 (by decide +kernel) rfl, by decide +kernel, by decide +kernel, by decide +kernel⟩
theorem cs_L_175 : mCs RL 175 yL_value 2 := ⟨wa_m 548 (by decide +kernel) rfl, wa_m 549 (by decide +kernel) rfl, wa_m 15 (by decide +kernel) rfl, by decide +kernel, by decide +kernel, by decide +kernel⟩
theorem cs_L_178 : mCs RL 178 yL_bits 1 := ⟨wa_m 555 (by decide +kernel) rfl, wa_m 556 (by decide +kernel) rfl, wa_m 15 (by decide +kernel) rfl, by decide +kernel, by decide +kernel, by decide +kernel⟩
theorem cs_L_182 : mCs RL 182 yL_shared 3 := ⟨wa_m 558 (by decide +kernel) rfl, wa_m 559 (by decide +kernel) rfl, wa_m 15 (by decide +kernel) rfl, by decide +kernel, by decide +kernel, by decide +kernel⟩
theorem cs_L_189 : mCs RL 189 yL_isWhole 2 := ⟨wa_m 581 (by decide +kernel) rfl, wa_m 582 (by decide +kernel) rfl, wa_m 15 (by decide +kernel) rfl, by decide +kernel, by decide +kernel, by decide +kernel⟩
theorem cs_L_191 : mCs RL 191 yL_shows 7 := ⟨wa_m 429 (by decide +kernel) rfl, wa_m 430 (by decide +kernel) rfl, wa_m 15 (by decide +kernel) rfl, by decide +kernel, by decide +kernel, by decide +kernel⟩
theorem cs_L_195 : mCs RL 195 yL_shares 3 := ⟨wa_m 552 (by decide +kernel) rfl, wa_m 553 (by decide +kernel) rfl, wa_m 15 (by decide +kernel) rfl, by decide +kernel, by decide +kernel, by decide +kernel⟩
theorem cs_L_199 : mCs RL 199 yL_heldBy 2 := ⟨wa_m 569 (by decide +kernel) rfl, wa_m 570 (by decide +kernel) rfl, wa_m 15 (by decide +kernel) rfl, by decide +kernel, by decide +kernel, by decide +kernel⟩
theorem cs_L_201 : mCs RL 201 yL_slots 6 := ⟨wa_m 576 (by decide +kernel) rfl, wa_m 577 (by decide +kernel) rfl, wa_m 15 (by decide +kernel) rfl, by decide +kernel, by decide +kernel, by decide +kernel⟩
theorem cs_L_205 : mCs RL 205 yL_isFree 2 := ⟨wa_m 293 (by decide +kernel) rfl, wa_m 294 (by decide +kernel) rfl, wa_m 15 (by decide +kernel) rfl, by decide +kernel, by decide +kernel, by decide +kernel⟩
theorem cs_L_207 : mCs RL 207 yL_copies 4 := ⟨wa_m 591 (by decide +kernel) rfl, wa_m 592 (by decide +kernel) rfl, wa_m 15 (by decide +kernel) rfl, by decide +kernel, by decide +kernel, by decide +kernel⟩
theorem cs_L_211 : mCs RL 211 yL_begin 1 := ⟨wa_m 594 (by decide +kernel) rfl, wa_m 595 (by decide +kernel) rfl, wa_m 15 (by decide +kernel) rfl, by decide +kernel, by decide +kernel, by decide +kernel⟩
theorem cs_L_215 : mCs RL 215 yL_put 3 := ⟨wa_m 606 (by decide +kernel) rfl, wa_m 607 (by decide +kernel) rfl, wa_m 15 (by decide +kernel) rfl, by decide +kernel, by decide +kernel, by decide +kernel⟩
theorem cs_L_217 : mCs RL 217 yL_sets 4 := ⟨wa_m 679 (by decide +kernel) rfl, wa_m 680 (by decide +kernel) rfl, wa_m 15 (by decide +kernel) rfl, by decide +kernel, by decide +kernel, by decide +kernel⟩
theorem cs_L_221 : mCs RL 221 yL_delete 2 := ⟨wa_m 684 (by decide +kernel) rfl, wa_m 685 (by decide +kernel) rfl, wa_m 15 (by decide +kernel) rfl, by decide +kernel, by decide +kernel, by decide +kernel⟩
theorem cs_L_223 : mCs RL 223 yL_open 1 := ⟨wa_m 720 (by decide +kernel) rfl, wa_m 721 (by decide +kernel) rfl, wa_m 15 (by decide +kernel) rfl, by decide +kernel, by decide +kernel, by decide +kernel⟩
theorem cs_L_226 : mCs RL 226 yL_close 2 := ⟨wa_m 179 (by decide +kernel) rfl, wa_m 180 (by decide +kernel) rfl, wa_m 15 (by decide +kernel) rfl, by decide +kernel, by decide +kernel, by decide +kernel⟩
theorem cs_L_229 : mCs RL 229 yL_tear 2 := ⟨wa_m 327 (by decide +kernel) rfl, wa_m 328 (by decide +kernel) rfl, wa_m 15 (by decide +kernel) rfl, by decide +kernel, by decide +kernel, by decide +kernel⟩
theorem cv_L_231 : mCv RL 231 yX3_crash 0 := ⟨wa_m 734 (by decide +kernel) rfl, wa_m 735 (by decide +kernel) rfl, wa_m 736 (by decide +kernel) rfl, wa_m 16 (by decide +kernel) rfl, by decide +kernel, by decide +kernel, by decide +kernel⟩
theorem cs_L_234 : mCs RL 234 yL_wakes 5 := ⟨wa_m 746 (by decide +kernel) rfl, wa_m 747 (by decide +kernel) rfl, wa_m 15 (by decide +kernel) rfl, by decide +kernel, by decide +kernel, by decide +kernel⟩
theorem cs_L_238 : mCs RL 238 yL_crashInCommit 2 := ⟨wa_m 749 (by decide +kernel) rfl, wa_m 750 (by decide +kernel) rfl, wa_m 15 (by decide +kernel) rfl, by decide +kernel, by decide +kernel, by decide +kernel⟩
theorem cs_L_240 : mCs RL 240 yL_abandon 1 := ⟨wa_m 767 (by decide +kernel) rfl, wa_m 768 (by decide +kernel) rfl, wa_m 15 (by decide +kernel) rfl, by decide +kernel, by decide +kernel, by decide +kernel⟩
theorem cs_L_242 : mCs RL 242 yL_commit 1 := ⟨wa_m 774 (by decide +kernel) rfl, wa_m 775 (by decide +kernel) rfl, wa_m 15 (by decide +kernel) rfl, by decide +kernel, by decide +kernel, by decide +kernel⟩
theorem ci_L_244 : mCi RL 244 yX3_init 0 := ⟨wa_m 29 (by decide +kernel) rfl, wa_m 30 (by decide +kernel) rfl, wa_m 16 (by decide +kernel) rfl, by decide +kernel, by decide +kernel, by decide +kernel, by decide +kernel⟩
theorem cs_L_245 : mCs RL 245 yL_isSo 5 := ⟨wa_m 426 (by decide +kernel) rfl, wa_m 427 (by decide +kernel) rfl, wa_m 15 (by decide +kernel) rfl, by decide +kernel, by decide +kernel, by decide +kernel⟩
theorem cs_L_249 : mCs RL 249 yL_at 2 := ⟨wa_m 170 (by decide +kernel) rfl, wa_m 171 (by decide +kernel) rfl, wa_m 15 (by decide +kernel) rfl, by decide +kernel, by decide +kernel, by decide +kernel⟩
theorem cs_L_253 : mCs RL 253 yL_writes 7 := ⟨wa_m 588 (by decide +kernel) rfl, wa_m 589 (by decide +kernel) rfl, wa_m 15 (by decide +kernel) rfl, by decide +kernel, by decide +kernel, by decide +kernel⟩
theorem cs_L_257 : mCs RL 257 yL_reads 6 := ⟨wa_m 717 (by decide +kernel) rfl, wa_m 718 (by decide +kernel) rfl, wa_m 15 (by decide +kernel) rfl, by decide +kernel, by decide +kernel, by decide +kernel⟩
theorem cs_L_261 : mCs RL 261 yL_tears 3 := ⟨wa_m 728 (by decide +kernel) rfl, wa_m 729 (by decide +kernel) rfl, wa_m 15 (by decide +kernel) rfl, by decide +kernel, by decide +kernel, by decide +kernel⟩
theorem cs_L_265 : mCs RL 265 yL_ends 6 := ⟨wa_m 731 (by decide +kernel) rfl, wa_m 732 (by decide +kernel) rfl, wa_m 15 (by decide +kernel) rfl, by decide +kernel, by decide +kernel, by decide +kernel⟩
theorem cs_L_268 : mCs RL 268 yL_print 1 := ⟨wa_m 356 (by decide +kernel) rfl, wa_m 357 (by decide +kernel) rfl, wa_m 15 (by decide +kernel) rfl, by decide +kernel, by decide +kernel, by decide +kernel⟩
theorem ta_of {l : List Jvm.Cond} {u : Jvm.Cond} (h : l.all (fun w => (decide (w = u) || decide (w ∈ mDe)) || (decide (w ∈ lw_tbl) && goodWord w)) = true) : ∀ x ∈ l, x ∈ WA ∨ x = u ∨ x ∈ mDe := fun x hx => by
  have h1 := List.all_eq_true.mp h x hx
  simp only [Bool.or_eq_true, Bool.and_eq_true, decide_eq_true_eq] at h1
  rcases h1 with (h1 | h1) | h1
  · exact Or.inr (Or.inl h1)
  · exact Or.inr (Or.inr h1)
  · exact Or.inl (List.mem_filter.mpr h1)
theorem ta_66 : ∀ x ∈ vx_atS RX3 66 "java/lang/IllegalStateException" mNm, x ∈ WA ∨ x = .castable "java/lang/IllegalStateException" "java/lang/IllegalStateException" ∨ x ∈ mDe := ta_of (by decide +kernel)
theorem ta_152 : ∀ x ∈ vx_atS RX3 152 "java/lang/IndexOutOfBoundsException" mNm, x ∈ WA ∨ x = .castable "java/lang/IndexOutOfBoundsException" "java/lang/IndexOutOfBoundsException" ∨ x ∈ mDe := ta_of (by decide +kernel)
theorem ta_200 : ∀ x ∈ vx_atS RX3 200 "java/lang/IllegalArgumentException" mNm, x ∈ WA ∨ x = .castable "java/lang/IllegalArgumentException" "java/lang/IllegalArgumentException" ∨ x ∈ mDe := ta_of (by decide +kernel)
theorem ta_232 : ∀ x ∈ (nAll RX3 232).filter vx_no, x ∈ WA ∨ x = .castable nX nX ∨ x ∈ mDe := ta_of (by decide +kernel)
theorem th_X3_64 : mTh RX3 62 64 66 "java/lang/IllegalStateException" "there is a batch" := ⟨by decide +kernel, by decide +kernel, rfl, by decide +kernel, wa_m 338 (by decide +kernel) rfl, wa_m 26 (by decide +kernel) rfl, ta_66, by decide +kernel⟩
theorem th_X3_113 : mTh RX3 62 113 66 "java/lang/IllegalStateException" "all readers are open" := ⟨by decide +kernel, by decide +kernel, rfl, by decide +kernel, wa_m 338 (by decide +kernel) rfl, wa_m 26 (by decide +kernel) rfl, ta_66, by decide +kernel⟩
theorem th_X3_189 : mTh RX3 62 189 66 "java/lang/IllegalStateException" "the other slot is torn" := ⟨by decide +kernel, by decide +kernel, rfl, by decide +kernel, wa_m 338 (by decide +kernel) rfl, wa_m 26 (by decide +kernel) rfl, ta_66, by decide +kernel⟩
theorem th_X3_201 : mTh RX3 62 201 66 "java/lang/IllegalStateException" "no slot would be whole" := ⟨by decide +kernel, by decide +kernel, rfl, by decide +kernel, wa_m 338 (by decide +kernel) rfl, wa_m 26 (by decide +kernel) rfl, ta_66, by decide +kernel⟩
theorem th_X3_208 : mTh RX3 62 208 66 "java/lang/IllegalStateException" "there is no batch" := ⟨by decide +kernel, by decide +kernel, rfl, by decide +kernel, wa_m 338 (by decide +kernel) rfl, wa_m 26 (by decide +kernel) rfl, ta_66, by decide +kernel⟩
theorem th_X3_150 : mTh RX3 148 150 152 "java/lang/IndexOutOfBoundsException" "no such page" := ⟨by decide +kernel, by decide +kernel, rfl, by decide +kernel, wa_m 195 (by decide +kernel) rfl, wa_m 23 (by decide +kernel) rfl, ta_152, by decide +kernel⟩
theorem th_X3_180 : mTh RX3 148 180 152 "java/lang/IndexOutOfBoundsException" "no such word" := ⟨by decide +kernel, by decide +kernel, rfl, by decide +kernel, wa_m 195 (by decide +kernel) rfl, wa_m 23 (by decide +kernel) rfl, ta_152, by decide +kernel⟩
theorem th_X3_210 : mTh RX3 148 210 152 "java/lang/IndexOutOfBoundsException" "no open reader has this number" := ⟨by decide +kernel, by decide +kernel, rfl, by decide +kernel, wa_m 195 (by decide +kernel) rfl, wa_m 23 (by decide +kernel) rfl, ta_152, by decide +kernel⟩
theorem th_X3_212 : mTh RX3 148 212 152 "java/lang/IndexOutOfBoundsException" "no such page in use" := ⟨by decide +kernel, by decide +kernel, rfl, by decide +kernel, wa_m 195 (by decide +kernel) rfl, wa_m 23 (by decide +kernel) rfl, ta_152, by decide +kernel⟩
theorem th_X3_214 : mTh RX3 148 214 152 "java/lang/IndexOutOfBoundsException" "no such entry" := ⟨by decide +kernel, by decide +kernel, rfl, by decide +kernel, wa_m 195 (by decide +kernel) rfl, wa_m 23 (by decide +kernel) rfl, ta_152, by decide +kernel⟩
theorem th_X3_216 : mTh RX3 148 216 152 "java/lang/IndexOutOfBoundsException" "no such slot" := ⟨by decide +kernel, by decide +kernel, rfl, by decide +kernel, wa_m 195 (by decide +kernel) rfl, wa_m 23 (by decide +kernel) rfl, ta_152, by decide +kernel⟩
theorem th_X3_198 : mTh RX3 196 198 200 "java/lang/IllegalArgumentException" "words is out of range" := ⟨by decide +kernel, by decide +kernel, rfl, by decide +kernel, wa_m 498 (by decide +kernel) rfl, wa_m 24 (by decide +kernel) rfl, ta_200, by decide +kernel⟩
theorem th_X3_206 : mTh RX3 196 206 200 "java/lang/IllegalArgumentException" "key is not 0 to 99" := ⟨by decide +kernel, by decide +kernel, rfl, by decide +kernel, wa_m 498 (by decide +kernel) rfl, wa_m 24 (by decide +kernel) rfl, ta_200, by decide +kernel⟩
theorem tn_X3_230 : mTn RX3 228 230 232 "the tree does not have the key" := ⟨by decide +kernel, rfl, wa_m 531 (by decide +kernel) rfl, wa_m 25 (by decide +kernel) rfl, ta_232, by decide +kernel⟩
theorem ka_boolean : Jvm.Cond.arrayClass .boolean ∈ WA := wa_m 70 (by decide +kernel) rfl
theorem ka_byte : Jvm.Cond.arrayClass .byte ∈ WA := wa_m 263 (by decide +kernel) rfl
theorem ka_int : Jvm.Cond.arrayClass .int ∈ WA := wa_m 69 (by decide +kernel) rfl
theorem ka_long : Jvm.Cond.arrayClass .long ∈ WA := wa_m 161 (by decide +kernel) rfl
theorem kc_X3_148 : Jvm.Cond.classLink RX3 148 "java/lang/IndexOutOfBoundsException" ∈ WA := wa_m 195 (by decide +kernel) rfl
theorem kc_X3_16 : Jvm.Cond.classLink RX3 16 "Copperleaf$State" ∈ WA := wa_m 71 (by decide +kernel) rfl
theorem kc_X3_196 : Jvm.Cond.classLink RX3 196 "java/lang/IllegalArgumentException" ∈ WA := wa_m 498 (by decide +kernel) rfl
theorem kc_X3_228 : Jvm.Cond.classLink RX3 228 "java/util/NoSuchElementException" ∈ WA := wa_m 531 (by decide +kernel) rfl
theorem kc_X3_26 : Jvm.Cond.classLink RX3 26 "Copperleaf$Writer" ∈ WA := wa_m 96 (by decide +kernel) rfl
theorem kc_X3_62 : Jvm.Cond.classLink RX3 62 "java/lang/IllegalStateException" ∈ WA := wa_m 338 (by decide +kernel) rfl
theorem kc_X3_9 : Jvm.Cond.classLink RX3 9 "Copperleaf$Pages" ∈ WA := wa_m 35 (by decide +kernel) rfl
theorem kc_L_16 : Jvm.Cond.classLink RL 16 "Copperleaf" ∈ WA := wa_m 27 (by decide +kernel) rfl
theorem kc_L_21 : Jvm.Cond.classLink RL 21 "java/lang/IllegalStateException" ∈ WA := wa_m 330 (by decide +kernel) rfl
theorem kc_L_28 : Jvm.Cond.classLink RL 28 "java/lang/IllegalArgumentException" ∈ WA := wa_m 489 (by decide +kernel) rfl
theorem kc_L_35 : Jvm.Cond.classLink RL 35 "java/util/NoSuchElementException" ∈ WA := wa_m 490 (by decide +kernel) rfl
theorem kc_L_50 : Jvm.Cond.classLink RL 50 "java/lang/IndexOutOfBoundsException" ∈ WA := wa_m 182 (by decide +kernel) rfl
theorem ki_L_14 : Jvm.Cond.constant RL 14 (1000000007 : Int32) ∈ WA := wa_m 551 (by decide +kernel) rfl
theorem ki_L_172 : Jvm.Cond.constant RL 172 (-2147483648 : Int32) ∈ WA := wa_m 485 (by decide +kernel) rfl
theorem ki_L_23 : Jvm.Cond.constant RL 23 (-1000001 : Int32) ∈ WA := wa_m 292 (by decide +kernel) rfl
theorem ki_L_30 : Jvm.Cond.constant RL 30 (-1000002 : Int32) ∈ WA := wa_m 355 (by decide +kernel) rfl
theorem ki_L_37 : Jvm.Cond.constant RL 37 (-1000003 : Int32) ∈ WA := wa_m 547 (by decide +kernel) rfl
theorem ki_L_7 : Jvm.Cond.constant RL 7 (1033523655 : Int32) ∈ WA := wa_m 173 (by decide +kernel) rfl
theorem ki_L_8 : Jvm.Cond.constant RL 8 (1797581071 : Int32) ∈ WA := wa_m 174 (by decide +kernel) rfl
theorem ki_L_9 : Jvm.Cond.constant RL 9 (2147483647 : Int32) ∈ WA := wa_m 178 (by decide +kernel) rfl
theorem kl_X3_191 : Jvm.Cond.constantLong RX3 191 (-1 : Int64) ∈ WA := wa_m 354 (by decide +kernel) rfl
theorem kl_X3_240 : Jvm.Cond.constantLong RX3 240 (1000003 : Int64) ∈ WA := wa_m 290 (by decide +kernel) rfl
theorem kl_X3_242 : Jvm.Cond.constantLong RX3 242 (1009 : Int64) ∈ WA := wa_m 291 (by decide +kernel) rfl
theorem kl_L_10 : Jvm.Cond.constantLong RL 10 (31 : Int64) ∈ WA := wa_m 682 (by decide +kernel) rfl
theorem kl_L_108 : Jvm.Cond.constantLong RL 108 (37 : Int64) ∈ WA := wa_m 359 (by decide +kernel) rfl
theorem kl_L_12 : Jvm.Cond.constantLong RL 12 (-1 : Int64) ∈ WA := wa_m 683 (by decide +kernel) rfl
theorem kl_L_185 : Jvm.Cond.constantLong RL 185 (1000003 : Int64) ∈ WA := wa_m 579 (by decide +kernel) rfl
theorem kl_L_187 : Jvm.Cond.constantLong RL 187 (1009 : Int64) ∈ WA := wa_m 580 (by decide +kernel) rfl
theorem kl_L_97 : Jvm.Cond.constantLong RL 97 (-1000001 : Int64) ∈ WA := wa_m 326 (by decide +kernel) rfl
theorem kj_X0 : Jvm.Cond.initialized RX0 ∈ WA := wa_m 17 (by decide +kernel) rfl
theorem kj_X1 : Jvm.Cond.initialized RX1 ∈ WA := wa_m 18 (by decide +kernel) rfl
theorem kj_X2 : Jvm.Cond.initialized RX2 ∈ WA := wa_m 19 (by decide +kernel) rfl
theorem kj_X3 : Jvm.Cond.initialized RX3 ∈ WA := wa_m 16 (by decide +kernel) rfl
theorem kj_L : Jvm.Cond.initialized RL ∈ WA := wa_m 15 (by decide +kernel) rfl
theorem kn_X0 : Jvm.Cond.instantiable RX0 8 ∈ WA := wa_m 36 (by decide +kernel) rfl
theorem kn_X1 : Jvm.Cond.instantiable RX1 4 ∈ WA := wa_m 72 (by decide +kernel) rfl
theorem kn_X2 : Jvm.Cond.instantiable RX2 5 ∈ WA := wa_m 97 (by decide +kernel) rfl
theorem kn_X3 : Jvm.Cond.instantiable RX3 7 ∈ WA := wa_m 28 (by decide +kernel) rfl
theorem ko_X0 : Jvm.Cond.methodLink RX0 3 objectInit ∈ WA := wa_m 40 (by decide +kernel) rfl
theorem ko_X1 : Jvm.Cond.methodLink RX1 1 objectInit ∈ WA := wa_m 76 (by decide +kernel) rfl
theorem ko_X2 : Jvm.Cond.methodLink RX2 3 objectInit ∈ WA := wa_m 101 (by decide +kernel) rfl
theorem ko_X3 : Jvm.Cond.methodLink RX3 3 objectInit ∈ WA := wa_m 32 (by decide +kernel) rfl
theorem km_X0_init : Jvm.Cond.instanceMethod yX0_init ∈ WA := wa_m 38 (by decide +kernel) rfl
theorem km_X1_init : Jvm.Cond.instanceMethod yX1_init ∈ WA := wa_m 74 (by decide +kernel) rfl
theorem km_X2_init : Jvm.Cond.instanceMethod yX2_init ∈ WA := wa_m 99 (by decide +kernel) rfl
theorem ko_i : Jvm.Cond.instanceMethod objectInit ∈ WA := wa_m 33 (by decide +kernel) rfl
theorem ko_c : Jvm.Cond.code objectInit ⟨#[0xb1]⟩ 1 none ∈ WA := wa_m 34 (by decide +kernel) rfl
end
section
/-! the call sites, by program (wip/p33/gen2.py) -/
theorem lk_X0_setWord_2 : mLt m_X0_setWord m_X0_isCell 2 2 := ⟨37, dX0_setWord_2, cs_X0_37, ok_X0_isCell, rfl, rfl, Or.inl rfl, ⟨Nat.le_of_ble_eq_true rfl, Nat.le_of_ble_eq_true rfl⟩⟩
theorem lk_X0_keyOf_17 : mLv m_X0_keyOf m_X0_isLeaf 17 1 := ⟨41, dX0_keyOf_17, cv_X0_41, ok_X0_isLeaf, rfl, rfl, Or.inl rfl, ⟨Nat.le_of_ble_eq_true rfl, Nat.le_of_ble_eq_true rfl⟩⟩
theorem lk_X0_keyOf_27 : mLv m_X0_keyOf m_X0_wordOf 27 2 := ⟨45, dX0_keyOf_27, cv_X0_45, ok_X0_wordOf, rfl, rfl, Or.inl rfl, ⟨Nat.le_of_ble_eq_true rfl, Nat.le_of_ble_eq_true rfl⟩⟩
theorem lk_X0_keyOf_43 : mLt m_X0_keyOf m_X0_isCell 43 2 := ⟨37, dX0_keyOf_43, cs_X0_37, ok_X0_isCell, rfl, rfl, Or.inl rfl, ⟨Nat.le_of_ble_eq_true rfl, Nat.le_of_ble_eq_true rfl⟩⟩
theorem lk_X0_placeOf_10 : mLv m_X0_placeOf m_X0_countOf 10 1 := ⟨49, dX0_placeOf_10, cv_X0_49, ok_X0_countOf, rfl, rfl, Or.inl rfl, ⟨Nat.le_of_ble_eq_true rfl, Nat.le_of_ble_eq_true rfl⟩⟩
theorem lk_X0_placeOf_19 : mLv m_X0_placeOf m_X0_keyOf 19 2 := ⟨53, dX0_placeOf_19, cv_X0_53, ok_X0_keyOf, rfl, rfl, Or.inl rfl, ⟨Nat.le_of_ble_eq_true rfl, Nat.le_of_ble_eq_true rfl⟩⟩
theorem lk_X0_holds_3 : mLv m_X0_holds m_X0_countOf 3 1 := ⟨49, dX0_holds_3, cv_X0_49, ok_X0_countOf, rfl, rfl, Or.inl rfl, ⟨Nat.le_of_ble_eq_true rfl, Nat.le_of_ble_eq_true rfl⟩⟩
theorem lk_X0_holds_12 : mLv m_X0_holds m_X0_keyOf 12 2 := ⟨53, dX0_holds_12, cv_X0_53, ok_X0_keyOf, rfl, rfl, Or.inl rfl, ⟨Nat.le_of_ble_eq_true rfl, Nat.le_of_ble_eq_true rfl⟩⟩
theorem lk_X0_entryFor_14 : mLv m_X0_entryFor m_X0_countOf 14 1 := ⟨49, dX0_entryFor_14, cv_X0_49, ok_X0_countOf, rfl, rfl, Or.inl rfl, ⟨Nat.le_of_ble_eq_true rfl, Nat.le_of_ble_eq_true rfl⟩⟩
theorem lk_X0_entryFor_25 : mLv m_X0_entryFor m_X0_keyOf 25 2 := ⟨53, dX0_entryFor_25, cv_X0_53, ok_X0_keyOf, rfl, rfl, Or.inl rfl, ⟨Nat.le_of_ble_eq_true rfl, Nat.le_of_ble_eq_true rfl⟩⟩
theorem lk_X0_leafFor_14 : mLv m_X0_leafFor m_X0_isLeaf 14 1 := ⟨41, dX0_leafFor_14, cv_X0_41, ok_X0_isLeaf, rfl, rfl, Or.inl rfl, ⟨Nat.le_of_ble_eq_true rfl, Nat.le_of_ble_eq_true rfl⟩⟩
theorem lk_X0_leafFor_25 : mLv m_X0_leafFor m_X0_entryFor 25 2 := ⟨56, dX0_leafFor_25, cv_X0_56, ok_X0_entryFor, rfl, rfl, Or.inl rfl, ⟨Nat.le_of_ble_eq_true rfl, Nat.le_of_ble_eq_true rfl⟩⟩
theorem lk_X0_leafFor_28 : mLv m_X0_leafFor m_X0_wordOf 28 2 := ⟨45, dX0_leafFor_28, cv_X0_45, ok_X0_wordOf, rfl, rfl, Or.inl rfl, ⟨Nat.le_of_ble_eq_true rfl, Nat.le_of_ble_eq_true rfl⟩⟩
theorem lk_X0_levelsFrom_12 : mLv m_X0_levelsFrom m_X0_isLeaf 12 1 := ⟨41, dX0_levelsFrom_12, cv_X0_41, ok_X0_isLeaf, rfl, rfl, Or.inl rfl, ⟨Nat.le_of_ble_eq_true rfl, Nat.le_of_ble_eq_true rfl⟩⟩
theorem lk_X0_levelsFrom_21 : mLv m_X0_levelsFrom m_X0_wordOf 21 2 := ⟨45, dX0_levelsFrom_21, cv_X0_45, ok_X0_wordOf, rfl, rfl, Or.inl rfl, ⟨Nat.le_of_ble_eq_true rfl, Nat.le_of_ble_eq_true rfl⟩⟩
theorem lk_X0_listTree_34 : mLv m_X0_listTree m_X0_isLeaf 34 1 := ⟨41, dX0_listTree_34, cv_X0_41, ok_X0_isLeaf, rfl, rfl, Or.inl rfl, ⟨Nat.le_of_ble_eq_true rfl, Nat.le_of_ble_eq_true rfl⟩⟩
theorem lk_X0_listTree_47 : mLv m_X0_listTree m_X0_countOf 47 1 := ⟨49, dX0_listTree_47, cv_X0_49, ok_X0_countOf, rfl, rfl, Or.inl rfl, ⟨Nat.le_of_ble_eq_true rfl, Nat.le_of_ble_eq_true rfl⟩⟩
theorem lk_X0_listTree_79 : mLv m_X0_listTree m_X0_wordOf 79 2 := ⟨45, dX0_listTree_79, cv_X0_45, ok_X0_wordOf, rfl, rfl, Or.inl rfl, ⟨Nat.le_of_ble_eq_true rfl, Nat.le_of_ble_eq_true rfl⟩⟩
theorem lk_X0_markTree_2 : mLv m_X0_markTree m_X0_listTree 2 1 := ⟨59, dX0_markTree_2, cv_X0_59, ok_X0_listTree, rfl, rfl, Or.inl rfl, ⟨Nat.le_of_ble_eq_true rfl, Nat.le_of_ble_eq_true rfl⟩⟩
theorem lk_X0_countMarked_2 : mLv m_X0_countMarked m_X0_listTree 2 1 := ⟨59, dX0_countMarked_2, cv_X0_59, ok_X0_listTree, rfl, rfl, Or.inl rfl, ⟨Nat.le_of_ble_eq_true rfl, Nat.le_of_ble_eq_true rfl⟩⟩
theorem lk_X0_leastKeyFrom_2 : mLv m_X0_leastKeyFrom m_X0_listTree 2 1 := ⟨59, dX0_leastKeyFrom_2, cv_X0_59, ok_X0_listTree, rfl, rfl, Or.inl rfl, ⟨Nat.le_of_ble_eq_true rfl, Nat.le_of_ble_eq_true rfl⟩⟩
theorem lk_X0_leastKeyFrom_35 : mLv m_X0_leastKeyFrom m_X0_isLeaf 35 1 := ⟨41, dX0_leastKeyFrom_35, cv_X0_41, ok_X0_isLeaf, rfl, rfl, Or.inl rfl, ⟨Nat.le_of_ble_eq_true rfl, Nat.le_of_ble_eq_true rfl⟩⟩
theorem lk_X0_leastKeyFrom_45 : mLv m_X0_leastKeyFrom m_X0_placeOf 45 2 := ⟨62, dX0_leastKeyFrom_45, cv_X0_62, ok_X0_placeOf, rfl, rfl, Or.inl rfl, ⟨Nat.le_of_ble_eq_true rfl, Nat.le_of_ble_eq_true rfl⟩⟩
theorem lk_X0_leastKeyFrom_59 : mLv m_X0_leastKeyFrom m_X0_countOf 59 1 := ⟨49, dX0_leastKeyFrom_59, cv_X0_49, ok_X0_countOf, rfl, rfl, Or.inl rfl, ⟨Nat.le_of_ble_eq_true rfl, Nat.le_of_ble_eq_true rfl⟩⟩
theorem lk_X0_leastKeyFrom_70 : mLv m_X0_leastKeyFrom m_X0_keyOf 70 2 := ⟨53, dX0_leastKeyFrom_70, cv_X0_53, ok_X0_keyOf, rfl, rfl, Or.inl rfl, ⟨Nat.le_of_ble_eq_true rfl, Nat.le_of_ble_eq_true rfl⟩⟩
theorem lk_X0_keysBelow_2 : mLv m_X0_keysBelow m_X0_listTree 2 1 := ⟨59, dX0_keysBelow_2, cv_X0_59, ok_X0_listTree, rfl, rfl, Or.inl rfl, ⟨Nat.le_of_ble_eq_true rfl, Nat.le_of_ble_eq_true rfl⟩⟩
theorem lk_X0_keysBelow_34 : mLv m_X0_keysBelow m_X0_isLeaf 34 1 := ⟨41, dX0_keysBelow_34, cv_X0_41, ok_X0_isLeaf, rfl, rfl, Or.inl rfl, ⟨Nat.le_of_ble_eq_true rfl, Nat.le_of_ble_eq_true rfl⟩⟩
theorem lk_X0_keysBelow_51 : mLv m_X0_keysBelow m_X0_placeOf 51 2 := ⟨62, dX0_keysBelow_51, cv_X0_62, ok_X0_placeOf, rfl, rfl, Or.inl rfl, ⟨Nat.le_of_ble_eq_true rfl, Nat.le_of_ble_eq_true rfl⟩⟩
theorem lk_X0_take_1 : mLv m_X0_take m_X0_leastVacant 1 0 := ⟨65, dX0_take_1, cv_X0_65, ok_X0_leastVacant, rfl, rfl, Or.inl rfl, ⟨Nat.le_of_ble_eq_true rfl, Nat.le_of_ble_eq_true rfl⟩⟩
theorem lk_X0_writeAnew_25 : mLv m_X0_writeAnew m_X0_isLeaf 25 1 := ⟨41, dX0_writeAnew_25, cv_X0_41, ok_X0_isLeaf, rfl, rfl, Or.inl rfl, ⟨Nat.le_of_ble_eq_true rfl, Nat.le_of_ble_eq_true rfl⟩⟩
theorem lk_X0_writeAnew_28 : mLv m_X0_writeAnew m_X0_take 28 1 := ⟨69, dX0_writeAnew_28, cv_X0_69, ok_X0_take, rfl, rfl, Or.inl rfl, ⟨Nat.le_of_ble_eq_true rfl, Nat.le_of_ble_eq_true rfl⟩⟩
theorem lk_X0_writeAnew_35 : mLv m_X0_writeAnew m_X0_append 35 2 := ⟨73, dX0_writeAnew_35, cv_X0_73, ok_X0_append, rfl, rfl, Or.inl rfl, ⟨Nat.le_of_ble_eq_true rfl, Nat.le_of_ble_eq_true rfl⟩⟩
theorem lk_X0_insert_2 : mLv m_X0_insert m_X0_countOf 2 1 := ⟨49, dX0_insert_2, cv_X0_49, ok_X0_countOf, rfl, rfl, Or.inl rfl, ⟨Nat.le_of_ble_eq_true rfl, Nat.le_of_ble_eq_true rfl⟩⟩
theorem lk_X0_insert_9 : mLt m_X0_insert m_X0_isCell 9 2 := ⟨37, dX0_insert_9, cs_X0_37, ok_X0_isCell, rfl, rfl, Or.inl rfl, ⟨Nat.le_of_ble_eq_true rfl, Nat.le_of_ble_eq_true rfl⟩⟩
theorem lk_X0_remove_2 : mLv m_X0_remove m_X0_countOf 2 1 := ⟨49, dX0_remove_2, cv_X0_49, ok_X0_countOf, rfl, rfl, Or.inl rfl, ⟨Nat.le_of_ble_eq_true rfl, Nat.le_of_ble_eq_true rfl⟩⟩
theorem lk_X0_remove_8 : mLt m_X0_remove m_X0_isCell 8 2 := ⟨37, dX0_remove_8, cs_X0_37, ok_X0_isCell, rfl, rfl, Or.inl rfl, ⟨Nat.le_of_ble_eq_true rfl, Nat.le_of_ble_eq_true rfl⟩⟩
theorem lk_X0_append_2 : mLv m_X0_append m_X0_countOf 2 1 := ⟨49, dX0_append_2, cv_X0_49, ok_X0_countOf, rfl, rfl, Or.inl rfl, ⟨Nat.le_of_ble_eq_true rfl, Nat.le_of_ble_eq_true rfl⟩⟩
theorem lk_X0_append_8 : mLv m_X0_append m_X0_countOf 8 1 := ⟨49, dX0_append_8, cv_X0_49, ok_X0_countOf, rfl, rfl, Or.inl rfl, ⟨Nat.le_of_ble_eq_true rfl, Nat.le_of_ble_eq_true rfl⟩⟩
theorem lk_X0_append_18 : mLt m_X0_append m_X0_isCell 18 2 := ⟨37, dX0_append_18, cs_X0_37, ok_X0_isCell, rfl, rfl, Or.inl rfl, ⟨Nat.le_of_ble_eq_true rfl, Nat.le_of_ble_eq_true rfl⟩⟩
theorem lk_X0_append_31 : mLt m_X0_append m_X0_isCell 31 2 := ⟨37, dX0_append_31, cs_X0_37, ok_X0_isCell, rfl, rfl, Or.inl rfl, ⟨Nat.le_of_ble_eq_true rfl, Nat.le_of_ble_eq_true rfl⟩⟩
theorem lk_X0_move_7 : mLv m_X0_move m_X0_keyOf 7 2 := ⟨53, dX0_move_7, cv_X0_53, ok_X0_keyOf, rfl, rfl, Or.inl rfl, ⟨Nat.le_of_ble_eq_true rfl, Nat.le_of_ble_eq_true rfl⟩⟩
theorem lk_X0_move_13 : mLv m_X0_move m_X0_wordOf 13 2 := ⟨45, dX0_move_13, cv_X0_45, ok_X0_wordOf, rfl, rfl, Or.inl rfl, ⟨Nat.le_of_ble_eq_true rfl, Nat.le_of_ble_eq_true rfl⟩⟩
theorem lk_X0_move_16 : mLv m_X0_move m_X0_insert 16 4 := ⟨77, dX0_move_16, cv_X0_77, ok_X0_insert, rfl, rfl, Or.inl rfl, ⟨Nat.le_of_ble_eq_true rfl, Nat.le_of_ble_eq_true rfl⟩⟩
theorem lk_X0_move_22 : mLv m_X0_move m_X0_remove 22 2 := ⟨81, dX0_move_22, cv_X0_81, ok_X0_remove, rfl, rfl, Or.inl rfl, ⟨Nat.le_of_ble_eq_true rfl, Nat.le_of_ble_eq_true rfl⟩⟩
theorem lk_X2_store_2 : mLv m_X2_store m_X2_writePath 2 1 := ⟨26, dX2_store_2, cv_X2_26, ok_X2_writePath, rfl, rfl, Or.inl rfl, ⟨Nat.le_of_ble_eq_true rfl, Nat.le_of_ble_eq_true rfl⟩⟩
theorem lk_X2_store_12 : mLv m_X2_store m_X0_placeOf 12 2 := ⟨30, dX2_store_12, cv_X2_30, ok_X0_placeOf, rfl, rfl, Or.inl rfl, ⟨Nat.le_of_ble_eq_true rfl, Nat.le_of_ble_eq_true rfl⟩⟩
theorem lk_X2_store_25 : mLv m_X2_store m_X0_holds 25 3 := ⟨36, dX2_store_25, cv_X2_36, ok_X0_holds, rfl, rfl, Or.inl rfl, ⟨Nat.le_of_ble_eq_true rfl, Nat.le_of_ble_eq_true rfl⟩⟩
theorem lk_X2_store_39 : mLv m_X2_store m_X0_setWord 39 3 := ⟨40, dX2_store_39, cv_X2_40, ok_X0_setWord, rfl, rfl, Or.inl rfl, ⟨Nat.le_of_ble_eq_true rfl, Nat.le_of_ble_eq_true rfl⟩⟩
theorem lk_X2_store_53 : mLv m_X2_store m_X0_insert 53 4 := ⟨44, dX2_store_53, cv_X2_44, ok_X0_insert, rfl, rfl, Or.inl rfl, ⟨Nat.le_of_ble_eq_true rfl, Nat.le_of_ble_eq_true rfl⟩⟩
theorem lk_X2_store_70 : mLv m_X2_store m_X2_splitUpwards 70 0 := ⟨54, dX2_store_70, cv_X2_54, ok_X2_splitUpwards, rfl, rfl, Or.inl rfl, ⟨Nat.le_of_ble_eq_true rfl, Nat.le_of_ble_eq_true rfl⟩⟩
theorem lk_X2_drop_2 : mLv m_X2_drop m_X2_writePath 2 1 := ⟨26, dX2_drop_2, cv_X2_26, ok_X2_writePath, rfl, rfl, Or.inl rfl, ⟨Nat.le_of_ble_eq_true rfl, Nat.le_of_ble_eq_true rfl⟩⟩
theorem lk_X2_drop_17 : mLv m_X2_drop m_X0_placeOf 17 2 := ⟨30, dX2_drop_17, cv_X2_30, ok_X0_placeOf, rfl, rfl, Or.inl rfl, ⟨Nat.le_of_ble_eq_true rfl, Nat.le_of_ble_eq_true rfl⟩⟩
theorem lk_X2_drop_20 : mLv m_X2_drop m_X0_remove 20 2 := ⟨57, dX2_drop_20, cv_X2_57, ok_X0_remove, rfl, rfl, Or.inl rfl, ⟨Nat.le_of_ble_eq_true rfl, Nat.le_of_ble_eq_true rfl⟩⟩
theorem lk_X2_drop_61 : mLv m_X2_drop m_X0_countOf 61 1 := ⟨64, dX2_drop_61, cv_X2_64, ok_X0_countOf, rfl, rfl, Or.inl rfl, ⟨Nat.le_of_ble_eq_true rfl, Nat.le_of_ble_eq_true rfl⟩⟩
theorem lk_X2_drop_85 : mLv m_X2_drop m_X2_mend 85 2 := ⟨67, dX2_drop_85, cv_X2_67, ok_X2_mend, rfl, rfl, Or.inl rfl, ⟨Nat.le_of_ble_eq_true rfl, Nat.le_of_ble_eq_true rfl⟩⟩
theorem lk_X2_drop_95 : mLv m_X2_drop m_X2_shrinkRoot 95 0 := ⟨70, dX2_drop_95, cv_X2_70, ok_X2_shrinkRoot, rfl, rfl, Or.inl rfl, ⟨Nat.le_of_ble_eq_true rfl, Nat.le_of_ble_eq_true rfl⟩⟩
theorem lk_X2_writePath_15 : mLv m_X2_writePath m_X0_writeAnew 15 1 := ⟨76, dX2_writePath_15, cv_X2_76, ok_X0_writeAnew, rfl, rfl, Or.inl rfl, ⟨Nat.le_of_ble_eq_true rfl, Nat.le_of_ble_eq_true rfl⟩⟩
theorem lk_X2_writePath_51 : mLv m_X2_writePath m_X0_isLeaf 51 1 := ⟨79, dX2_writePath_51, cv_X2_79, ok_X0_isLeaf, rfl, rfl, Or.inl rfl, ⟨Nat.le_of_ble_eq_true rfl, Nat.le_of_ble_eq_true rfl⟩⟩
theorem lk_X2_writePath_63 : mLv m_X2_writePath m_X0_entryFor 63 2 := ⟨83, dX2_writePath_63, cv_X2_83, ok_X0_entryFor, rfl, rfl, Or.inl rfl, ⟨Nat.le_of_ble_eq_true rfl, Nat.le_of_ble_eq_true rfl⟩⟩
theorem lk_X2_writePath_72 : mLv m_X2_writePath m_X2_writeBelow 72 2 := ⟨86, dX2_writePath_72, cv_X2_86, ok_X2_writeBelow, rfl, rfl, Or.inl rfl, ⟨Nat.le_of_ble_eq_true rfl, Nat.le_of_ble_eq_true rfl⟩⟩
theorem lk_X2_writePath_82 : mLv m_X2_writePath m_X0_wordOf 82 2 := ⟨89, dX2_writePath_82, cv_X2_89, ok_X0_wordOf, rfl, rfl, Or.inl rfl, ⟨Nat.le_of_ble_eq_true rfl, Nat.le_of_ble_eq_true rfl⟩⟩
theorem lk_X2_splitUpwards_27 : mLv m_X2_splitUpwards m_X0_countOf 27 1 := ⟨64, dX2_splitUpwards_27, cv_X2_64, ok_X0_countOf, rfl, rfl, Or.inl rfl, ⟨Nat.le_of_ble_eq_true rfl, Nat.le_of_ble_eq_true rfl⟩⟩
theorem lk_X2_splitUpwards_37 : mLv m_X2_splitUpwards m_X2_splitOff 37 1 := ⟨92, dX2_splitUpwards_37, cv_X2_92, ok_X2_splitOff, rfl, rfl, Or.inl rfl, ⟨Nat.le_of_ble_eq_true rfl, Nat.le_of_ble_eq_true rfl⟩⟩
theorem lk_X2_splitUpwards_69 : mLv m_X2_splitUpwards m_X0_insert 69 4 := ⟨44, dX2_splitUpwards_69, cv_X2_44, ok_X0_insert, rfl, rfl, Or.inl rfl, ⟨Nat.le_of_ble_eq_true rfl, Nat.le_of_ble_eq_true rfl⟩⟩
theorem lk_X2_splitUpwards_78 : mLv m_X2_splitUpwards m_X2_growRoot 78 2 := ⟨95, dX2_splitUpwards_78, cv_X2_95, ok_X2_growRoot, rfl, rfl, Or.inl rfl, ⟨Nat.le_of_ble_eq_true rfl, Nat.le_of_ble_eq_true rfl⟩⟩
theorem lk_X2_splitOff_9 : mLv m_X2_splitOff m_X0_isLeaf 9 1 := ⟨79, dX2_splitOff_9, cv_X2_79, ok_X0_isLeaf, rfl, rfl, Or.inl rfl, ⟨Nat.le_of_ble_eq_true rfl, Nat.le_of_ble_eq_true rfl⟩⟩
theorem lk_X2_splitOff_12 : mLv m_X2_splitOff m_X0_take 12 1 := ⟨98, dX2_splitOff_12, cv_X2_98, ok_X0_take, rfl, rfl, Or.inl rfl, ⟨Nat.le_of_ble_eq_true rfl, Nat.le_of_ble_eq_true rfl⟩⟩
theorem lk_X2_splitOff_31 : mLv m_X2_splitOff m_X0_move 31 4 := ⟨102, dX2_splitOff_31, cv_X2_102, ok_X0_move, rfl, rfl, Or.inl rfl, ⟨Nat.le_of_ble_eq_true rfl, Nat.le_of_ble_eq_true rfl⟩⟩
theorem lk_X2_growRoot_5 : mLv m_X2_growRoot m_X0_take 5 1 := ⟨98, dX2_growRoot_5, cv_X2_98, ok_X0_take, rfl, rfl, Or.inl rfl, ⟨Nat.le_of_ble_eq_true rfl, Nat.le_of_ble_eq_true rfl⟩⟩
theorem lk_X2_growRoot_17 : mLv m_X2_growRoot m_X0_insert 17 4 := ⟨44, dX2_growRoot_17, cv_X2_44, ok_X0_insert, rfl, rfl, Or.inl rfl, ⟨Nat.le_of_ble_eq_true rfl, Nat.le_of_ble_eq_true rfl⟩⟩
theorem lk_X2_growRoot_28 : mLv m_X2_growRoot m_X0_insert 28 4 := ⟨44, dX2_growRoot_28, cv_X2_44, ok_X0_insert, rfl, rfl, Or.inl rfl, ⟨Nat.le_of_ble_eq_true rfl, Nat.le_of_ble_eq_true rfl⟩⟩
theorem lk_X2_mend_35 : mLv m_X2_mend m_X0_wordOf 35 2 := ⟨89, dX2_mend_35, cv_X2_89, ok_X0_wordOf, rfl, rfl, Or.inl rfl, ⟨Nat.le_of_ble_eq_true rfl, Nat.le_of_ble_eq_true rfl⟩⟩
theorem lk_X2_mend_38 : mLv m_X2_mend m_X0_countOf 38 1 := ⟨64, dX2_mend_38, cv_X2_64, ok_X0_countOf, rfl, rfl, Or.inl rfl, ⟨Nat.le_of_ble_eq_true rfl, Nat.le_of_ble_eq_true rfl⟩⟩
theorem lk_X2_mend_48 : mLv m_X2_mend m_X2_writeBelow 48 2 := ⟨86, dX2_mend_48, cv_X2_86, ok_X2_writeBelow, rfl, rfl, Or.inl rfl, ⟨Nat.le_of_ble_eq_true rfl, Nat.le_of_ble_eq_true rfl⟩⟩
theorem lk_X2_mend_55 : mLv m_X2_mend m_X2_lend 55 3 := ⟨105, dX2_mend_55, cv_X2_105, ok_X2_lend, rfl, rfl, Or.inl rfl, ⟨Nat.le_of_ble_eq_true rfl, Nat.le_of_ble_eq_true rfl⟩⟩
theorem lk_X2_mend_65 : mLv m_X2_mend m_X2_writeBelow 65 2 := ⟨86, dX2_mend_65, cv_X2_86, ok_X2_writeBelow, rfl, rfl, Or.inl rfl, ⟨Nat.le_of_ble_eq_true rfl, Nat.le_of_ble_eq_true rfl⟩⟩
theorem lk_X2_mend_72 : mLv m_X2_mend m_X2_join 72 2 := ⟨108, dX2_mend_72, cv_X2_108, ok_X2_join, rfl, rfl, Or.inl rfl, ⟨Nat.le_of_ble_eq_true rfl, Nat.le_of_ble_eq_true rfl⟩⟩
theorem lk_X2_writeBelow_16 : mLv m_X2_writeBelow m_X0_wordOf 16 2 := ⟨89, dX2_writeBelow_16, cv_X2_89, ok_X0_wordOf, rfl, rfl, Or.inl rfl, ⟨Nat.le_of_ble_eq_true rfl, Nat.le_of_ble_eq_true rfl⟩⟩
theorem lk_X2_writeBelow_19 : mLv m_X2_writeBelow m_X0_writeAnew 19 1 := ⟨76, dX2_writeBelow_19, cv_X2_76, ok_X0_writeAnew, rfl, rfl, Or.inl rfl, ⟨Nat.le_of_ble_eq_true rfl, Nat.le_of_ble_eq_true rfl⟩⟩
theorem lk_X2_writeBelow_22 : mLv m_X2_writeBelow m_X0_setWord 22 3 := ⟨40, dX2_writeBelow_22, cv_X2_40, ok_X0_setWord, rfl, rfl, Or.inl rfl, ⟨Nat.le_of_ble_eq_true rfl, Nat.le_of_ble_eq_true rfl⟩⟩
theorem lk_X2_lend_6 : mLv m_X2_lend m_X0_wordOf 6 2 := ⟨89, dX2_lend_6, cv_X2_89, ok_X0_wordOf, rfl, rfl, Or.inl rfl, ⟨Nat.le_of_ble_eq_true rfl, Nat.le_of_ble_eq_true rfl⟩⟩
theorem lk_X2_lend_17 : mLv m_X2_lend m_X0_wordOf 17 2 := ⟨89, dX2_lend_17, cv_X2_89, ok_X0_wordOf, rfl, rfl, Or.inl rfl, ⟨Nat.le_of_ble_eq_true rfl, Nat.le_of_ble_eq_true rfl⟩⟩
theorem lk_X2_lend_39 : mLv m_X2_lend m_X0_countOf 39 1 := ⟨64, dX2_lend_39, cv_X2_64, ok_X0_countOf, rfl, rfl, Or.inl rfl, ⟨Nat.le_of_ble_eq_true rfl, Nat.le_of_ble_eq_true rfl⟩⟩
theorem lk_X2_lend_47 : mLv m_X2_lend m_X0_move 47 4 := ⟨102, dX2_lend_47, cv_X2_102, ok_X0_move, rfl, rfl, Or.inl rfl, ⟨Nat.le_of_ble_eq_true rfl, Nat.le_of_ble_eq_true rfl⟩⟩
theorem lk_X2_lend_68 : mLv m_X2_lend m_X0_countOf 68 1 := ⟨64, dX2_lend_68, cv_X2_64, ok_X0_countOf, rfl, rfl, Or.inl rfl, ⟨Nat.le_of_ble_eq_true rfl, Nat.le_of_ble_eq_true rfl⟩⟩
theorem lk_X2_lend_71 : mLv m_X2_lend m_X0_move 71 4 := ⟨102, dX2_lend_71, cv_X2_102, ok_X0_move, rfl, rfl, Or.inl rfl, ⟨Nat.le_of_ble_eq_true rfl, Nat.le_of_ble_eq_true rfl⟩⟩
theorem lk_X2_join_8 : mLv m_X2_join m_X0_wordOf 8 2 := ⟨89, dX2_join_8, cv_X2_89, ok_X0_wordOf, rfl, rfl, Or.inl rfl, ⟨Nat.le_of_ble_eq_true rfl, Nat.le_of_ble_eq_true rfl⟩⟩
theorem lk_X2_join_23 : mLv m_X2_join m_X0_wordOf 23 2 := ⟨89, dX2_join_23, cv_X2_89, ok_X0_wordOf, rfl, rfl, Or.inl rfl, ⟨Nat.le_of_ble_eq_true rfl, Nat.le_of_ble_eq_true rfl⟩⟩
theorem lk_X2_join_26 : mLv m_X2_join m_X0_append 26 2 := ⟨111, dX2_join_26, cv_X2_111, ok_X0_append, rfl, rfl, Or.inl rfl, ⟨Nat.le_of_ble_eq_true rfl, Nat.le_of_ble_eq_true rfl⟩⟩
theorem lk_X2_join_37 : mLv m_X2_join m_X0_remove 37 2 := ⟨57, dX2_join_37, cv_X2_57, ok_X0_remove, rfl, rfl, Or.inl rfl, ⟨Nat.le_of_ble_eq_true rfl, Nat.le_of_ble_eq_true rfl⟩⟩
theorem lk_X2_join_45 : mLv m_X2_join m_X0_leave 45 1 := ⟨114, dX2_join_45, cv_X2_114, ok_X0_leave, rfl, rfl, Or.inl rfl, ⟨Nat.le_of_ble_eq_true rfl, Nat.le_of_ble_eq_true rfl⟩⟩
theorem lk_X2_shrinkRoot_13 : mLv m_X2_shrinkRoot m_X0_isLeaf 13 1 := ⟨79, dX2_shrinkRoot_13, cv_X2_79, ok_X0_isLeaf, rfl, rfl, Or.inl rfl, ⟨Nat.le_of_ble_eq_true rfl, Nat.le_of_ble_eq_true rfl⟩⟩
theorem lk_X2_shrinkRoot_24 : mLv m_X2_shrinkRoot m_X0_countOf 24 1 := ⟨64, dX2_shrinkRoot_24, cv_X2_64, ok_X0_countOf, rfl, rfl, Or.inl rfl, ⟨Nat.le_of_ble_eq_true rfl, Nat.le_of_ble_eq_true rfl⟩⟩
theorem lk_X2_shrinkRoot_41 : mLv m_X2_shrinkRoot m_X0_wordOf 41 2 := ⟨89, dX2_shrinkRoot_41, cv_X2_89, ok_X0_wordOf, rfl, rfl, Or.inl rfl, ⟨Nat.le_of_ble_eq_true rfl, Nat.le_of_ble_eq_true rfl⟩⟩
theorem lk_X2_shrinkRoot_52 : mLv m_X2_shrinkRoot m_X0_leave 52 1 := ⟨114, dX2_shrinkRoot_52, cv_X2_114, ok_X0_leave, rfl, rfl, Or.inl rfl, ⟨Nat.le_of_ble_eq_true rfl, Nat.le_of_ble_eq_true rfl⟩⟩
theorem lk_X3_init_121 : mLv m_X3_init m_X0_markTree 121 2 := ⟨54, dX3_init_121, cv_X3_54, ok_X0_markTree, rfl, rfl, Or.inl rfl, ⟨Nat.le_of_ble_eq_true rfl, Nat.le_of_ble_eq_true rfl⟩⟩
theorem lk_X3_beginBatch_28 : mLv m_X3_beginBatch m_X1_become 28 1 := ⟨69, dX3_beginBatch_28, cv_X3_69, ok_X1_become, rfl, rfl, Or.inl rfl, ⟨Nat.le_of_ble_eq_true rfl, Nat.le_of_ble_eq_true rfl⟩⟩
theorem lk_X3_put_1 : mLt m_X3_put m_X3_requireKey 1 1 := ⟨76, dX3_put_1, cs_X3_76, ok_X3_requireKey, rfl, rfl, Or.inl rfl, ⟨Nat.le_of_ble_eq_true rfl, Nat.le_of_ble_eq_true rfl⟩⟩
theorem lk_X3_put_5 : mLv m_X3_put m_X3_requireBatch 5 0 := ⟨80, dX3_put_5, cv_X3_80, ok_X3_requireBatch, rfl, rfl, Or.inl rfl, ⟨Nat.le_of_ble_eq_true rfl, Nat.le_of_ble_eq_true rfl⟩⟩
theorem lk_X3_put_14 : mLv m_X3_put m_X2_store 14 2 := ⟨83, dX3_put_14, cv_X3_83, ok_X2_store, rfl, rfl, Or.inl rfl, ⟨Nat.le_of_ble_eq_true rfl, Nat.le_of_ble_eq_true rfl⟩⟩
theorem lk_X3_delete_1 : mLt m_X3_delete m_X3_requireKey 1 1 := ⟨76, dX3_delete_1, cs_X3_76, ok_X3_requireKey, rfl, rfl, Or.inl rfl, ⟨Nat.le_of_ble_eq_true rfl, Nat.le_of_ble_eq_true rfl⟩⟩
theorem lk_X3_delete_5 : mLv m_X3_delete m_X3_requireBatch 5 0 := ⟨80, dX3_delete_5, cv_X3_80, ok_X3_requireBatch, rfl, rfl, Or.inl rfl, ⟨Nat.le_of_ble_eq_true rfl, Nat.le_of_ble_eq_true rfl⟩⟩
theorem lk_X3_delete_14 : mLv m_X3_delete m_X3_valueIn 14 2 := ⟨87, dX3_delete_14, cv_X3_87, ok_X3_valueIn, rfl, rfl, Or.inl rfl, ⟨Nat.le_of_ble_eq_true rfl, Nat.le_of_ble_eq_true rfl⟩⟩
theorem lk_X3_delete_23 : mLv m_X3_delete m_X2_drop 23 1 := ⟨91, dX3_delete_23, cv_X3_91, ok_X2_drop, rfl, rfl, Or.inl rfl, ⟨Nat.le_of_ble_eq_true rfl, Nat.le_of_ble_eq_true rfl⟩⟩
theorem lk_X3_commit_1 : mLv m_X3_commit m_X3_requireBatch 1 0 := ⟨80, dX3_commit_1, cv_X3_80, ok_X3_requireBatch, rfl, rfl, Or.inl rfl, ⟨Nat.le_of_ble_eq_true rfl, Nat.le_of_ble_eq_true rfl⟩⟩
theorem lk_X3_commit_8 : mLt m_X3_commit m_X3_otherSlot 8 1 := ⟨94, dX3_commit_8, cs_X3_94, ok_X3_otherSlot, rfl, rfl, Or.inl rfl, ⟨Nat.le_of_ble_eq_true rfl, Nat.le_of_ble_eq_true rfl⟩⟩
theorem lk_X3_commit_15 : mLv m_X3_commit m_X3_writeSlot 15 2 := ⟨98, dX3_commit_15, cv_X3_98, ok_X3_writeSlot, rfl, rfl, Or.inl rfl, ⟨Nat.le_of_ble_eq_true rfl, Nat.le_of_ble_eq_true rfl⟩⟩
theorem lk_X3_commit_31 : mLv m_X3_commit m_X1_become 31 1 := ⟨69, dX3_commit_31, cv_X3_69, ok_X1_become, rfl, rfl, Or.inl rfl, ⟨Nat.le_of_ble_eq_true rfl, Nat.le_of_ble_eq_true rfl⟩⟩
theorem lk_X3_commit_35 : mLv m_X3_commit m_X3_endBatch 35 0 := ⟨102, dX3_commit_35, cv_X3_102, ok_X3_endBatch, rfl, rfl, Or.inl rfl, ⟨Nat.le_of_ble_eq_true rfl, Nat.le_of_ble_eq_true rfl⟩⟩
theorem lk_X3_abandon_1 : mLv m_X3_abandon m_X3_requireBatch 1 0 := ⟨80, dX3_abandon_1, cv_X3_80, ok_X3_requireBatch, rfl, rfl, Or.inl rfl, ⟨Nat.le_of_ble_eq_true rfl, Nat.le_of_ble_eq_true rfl⟩⟩
theorem lk_X3_abandon_5 : mLv m_X3_abandon m_X3_pagesInUse 5 0 := ⟨105, dX3_abandon_5, cv_X3_105, ok_X3_pagesInUse, rfl, rfl, Or.inl rfl, ⟨Nat.le_of_ble_eq_true rfl, Nat.le_of_ble_eq_true rfl⟩⟩
theorem lk_X3_abandon_10 : mLv m_X3_abandon m_X3_endBatch 10 0 := ⟨102, dX3_abandon_10, cv_X3_102, ok_X3_endBatch, rfl, rfl, Or.inl rfl, ⟨Nat.le_of_ble_eq_true rfl, Nat.le_of_ble_eq_true rfl⟩⟩
theorem lk_X3_abandon_15 : mLv m_X3_abandon m_X3_pagesInUse 15 0 := ⟨105, dX3_abandon_15, cv_X3_105, ok_X3_pagesInUse, rfl, rfl, Or.inl rfl, ⟨Nat.le_of_ble_eq_true rfl, Nat.le_of_ble_eq_true rfl⟩⟩
theorem lk_X3_openReader_9 : mLv m_X3_openReader m_X3_isOpen 9 1 := ⟨109, dX3_openReader_9, cv_X3_109, ok_X3_isOpen, rfl, rfl, Or.inl rfl, ⟨Nat.le_of_ble_eq_true rfl, Nat.le_of_ble_eq_true rfl⟩⟩
theorem lk_X3_openReader_25 : mLv m_X3_openReader m_X1_become 25 1 := ⟨69, dX3_openReader_25, cv_X3_69, ok_X1_become, rfl, rfl, Or.inl rfl, ⟨Nat.le_of_ble_eq_true rfl, Nat.le_of_ble_eq_true rfl⟩⟩
theorem lk_X3_closeReader_2 : mLv m_X3_closeReader m_X3_requireReader 2 1 := ⟨115, dX3_closeReader_2, cv_X3_115, ok_X3_requireReader, rfl, rfl, Or.inl rfl, ⟨Nat.le_of_ble_eq_true rfl, Nat.le_of_ble_eq_true rfl⟩⟩
theorem lk_X3_closeReader_6 : mLv m_X3_closeReader m_X3_pagesInUse 6 0 := ⟨105, dX3_closeReader_6, cv_X3_105, ok_X3_pagesInUse, rfl, rfl, Or.inl rfl, ⟨Nat.le_of_ble_eq_true rfl, Nat.le_of_ble_eq_true rfl⟩⟩
theorem lk_X3_closeReader_29 : mLv m_X3_closeReader m_X3_keepStates 29 2 := ⟨118, dX3_closeReader_29, cv_X3_118, ok_X3_keepStates, rfl, rfl, Or.inl rfl, ⟨Nat.le_of_ble_eq_true rfl, Nat.le_of_ble_eq_true rfl⟩⟩
theorem lk_X3_closeReader_34 : mLv m_X3_closeReader m_X3_pagesInUse 34 0 := ⟨105, dX3_closeReader_34, cv_X3_105, ok_X3_pagesInUse, rfl, rfl, Or.inl rfl, ⟨Nat.le_of_ble_eq_true rfl, Nat.le_of_ble_eq_true rfl⟩⟩
theorem lk_X3_readers_11 : mLv m_X3_readers m_X3_isOpen 11 1 := ⟨109, dX3_readers_11, cv_X3_109, ok_X3_isOpen, rfl, rfl, Or.inl rfl, ⟨Nat.le_of_ble_eq_true rfl, Nat.le_of_ble_eq_true rfl⟩⟩
theorem lk_X3_heldBy_2 : mLv m_X3_heldBy m_X3_requireReader 2 1 := ⟨115, dX3_heldBy_2, cv_X3_115, ok_X3_requireReader, rfl, rfl, Or.inl rfl, ⟨Nat.le_of_ble_eq_true rfl, Nat.le_of_ble_eq_true rfl⟩⟩
theorem lk_X3_heldBy_14 : mLv m_X3_heldBy m_X3_keepStates 14 2 := ⟨118, dX3_heldBy_14, cv_X3_118, ok_X3_keepStates, rfl, rfl, Or.inl rfl, ⟨Nat.le_of_ble_eq_true rfl, Nat.le_of_ble_eq_true rfl⟩⟩
theorem lk_X3_epochOf_2 : mLv m_X3_epochOf m_X3_viewed 2 1 := ⟨124, dX3_epochOf_2, cv_X3_124, ok_X3_viewed, rfl, rfl, Or.inl rfl, ⟨Nat.le_of_ble_eq_true rfl, Nat.le_of_ble_eq_true rfl⟩⟩
theorem lk_X3_get_2 : mLv m_X3_get m_X3_viewed 2 1 := ⟨124, dX3_get_2, cv_X3_124, ok_X3_viewed, rfl, rfl, Or.inl rfl, ⟨Nat.le_of_ble_eq_true rfl, Nat.le_of_ble_eq_true rfl⟩⟩
theorem lk_X3_get_7 : mLt m_X3_get m_X3_requireKey 7 1 := ⟨76, dX3_get_7, cs_X3_76, ok_X3_requireKey, rfl, rfl, Or.inl rfl, ⟨Nat.le_of_ble_eq_true rfl, Nat.le_of_ble_eq_true rfl⟩⟩
theorem lk_X3_get_13 : mLv m_X3_get m_X3_valueIn 13 2 := ⟨87, dX3_get_13, cv_X3_87, ok_X3_valueIn, rfl, rfl, Or.inl rfl, ⟨Nat.le_of_ble_eq_true rfl, Nat.le_of_ble_eq_true rfl⟩⟩
theorem lk_X3_next_6 : mLv m_X3_next m_X3_viewed 6 1 := ⟨124, dX3_next_6, cv_X3_124, ok_X3_viewed, rfl, rfl, Or.inl rfl, ⟨Nat.le_of_ble_eq_true rfl, Nat.le_of_ble_eq_true rfl⟩⟩
theorem lk_X3_next_13 : mLv m_X3_next m_X0_leastKeyFrom 13 2 := ⟨128, dX3_next_13, cv_X3_128, ok_X0_leastKeyFrom, rfl, rfl, Or.inl rfl, ⟨Nat.le_of_ble_eq_true rfl, Nat.le_of_ble_eq_true rfl⟩⟩
theorem lk_X3_rank_6 : mLv m_X3_rank m_X3_viewed 6 1 := ⟨124, dX3_rank_6, cv_X3_124, ok_X3_viewed, rfl, rfl, Or.inl rfl, ⟨Nat.le_of_ble_eq_true rfl, Nat.le_of_ble_eq_true rfl⟩⟩
theorem lk_X3_rank_13 : mLv m_X3_rank m_X0_keysBelow 13 2 := ⟨132, dX3_rank_13, cv_X3_132, ok_X0_keysBelow, rfl, rfl, Or.inl rfl, ⟨Nat.le_of_ble_eq_true rfl, Nat.le_of_ble_eq_true rfl⟩⟩
theorem lk_X3_size_2 : mLv m_X3_size m_X3_viewed 2 1 := ⟨124, dX3_size_2, cv_X3_124, ok_X3_viewed, rfl, rfl, Or.inl rfl, ⟨Nat.le_of_ble_eq_true rfl, Nat.le_of_ble_eq_true rfl⟩⟩
theorem lk_X3_depth_6 : mLv m_X3_depth m_X3_viewed 6 1 := ⟨124, dX3_depth_6, cv_X3_124, ok_X3_viewed, rfl, rfl, Or.inl rfl, ⟨Nat.le_of_ble_eq_true rfl, Nat.le_of_ble_eq_true rfl⟩⟩
theorem lk_X3_depth_12 : mLv m_X3_depth m_X0_levelsFrom 12 1 := ⟨138, dX3_depth_12, cv_X3_138, ok_X0_levelsFrom, rfl, rfl, Or.inl rfl, ⟨Nat.le_of_ble_eq_true rfl, Nat.le_of_ble_eq_true rfl⟩⟩
theorem lk_X3_rootOf_2 : mLv m_X3_rootOf m_X3_viewed 2 1 := ⟨124, dX3_rootOf_2, cv_X3_124, ok_X3_viewed, rfl, rfl, Or.inl rfl, ⟨Nat.le_of_ble_eq_true rfl, Nat.le_of_ble_eq_true rfl⟩⟩
theorem lk_X3_sharedPages_2 : mLv m_X3_sharedPages m_X3_viewed 2 1 := ⟨124, dX3_sharedPages_2, cv_X3_124, ok_X3_viewed, rfl, rfl, Or.inl rfl, ⟨Nat.le_of_ble_eq_true rfl, Nat.le_of_ble_eq_true rfl⟩⟩
theorem lk_X3_sharedPages_11 : mLv m_X3_sharedPages m_X3_viewed 11 1 := ⟨124, dX3_sharedPages_11, cv_X3_124, ok_X3_viewed, rfl, rfl, Or.inl rfl, ⟨Nat.le_of_ble_eq_true rfl, Nat.le_of_ble_eq_true rfl⟩⟩
theorem lk_X3_sharedPages_26 : mLt m_X3_sharedPages m_X0_unmark 26 1 := ⟨141, dX3_sharedPages_26, cs_X3_141, ok_X0_unmark, rfl, rfl, Or.inl rfl, ⟨Nat.le_of_ble_eq_true rfl, Nat.le_of_ble_eq_true rfl⟩⟩
theorem lk_X3_sharedPages_41 : mLv m_X3_sharedPages m_X0_markTree 41 2 := ⟨54, dX3_sharedPages_41, cv_X3_54, ok_X0_markTree, rfl, rfl, Or.inl rfl, ⟨Nat.le_of_ble_eq_true rfl, Nat.le_of_ble_eq_true rfl⟩⟩
theorem lk_X3_sharedPages_50 : mLv m_X3_sharedPages m_X0_countMarked 50 1 := ⟨145, dX3_sharedPages_50, cv_X3_145, ok_X0_countMarked, rfl, rfl, Or.inl rfl, ⟨Nat.le_of_ble_eq_true rfl, Nat.le_of_ble_eq_true rfl⟩⟩
theorem lk_X3_isFree_19 : mLv m_X3_isFree m_X0_isVacant 19 1 := ⟨153, dX3_isFree_19, cv_X3_153, ok_X0_isVacant, rfl, rfl, Or.inl rfl, ⟨Nat.le_of_ble_eq_true rfl, Nat.le_of_ble_eq_true rfl⟩⟩
theorem lk_X3_pagesInUse_16 : mLv m_X3_pagesInUse m_X0_isVacant 16 1 := ⟨153, dX3_pagesInUse_16, cv_X3_153, ok_X0_isVacant, rfl, rfl, Or.inl rfl, ⟨Nat.le_of_ble_eq_true rfl, Nat.le_of_ble_eq_true rfl⟩⟩
theorem lk_X3_leastFree_4 : mLv m_X3_leastFree m_X0_leastVacant 4 0 := ⟨156, dX3_leastFree_4, cv_X3_156, ok_X0_leastVacant, rfl, rfl, Or.inl rfl, ⟨Nat.le_of_ble_eq_true rfl, Nat.le_of_ble_eq_true rfl⟩⟩
theorem lk_X3_entries_2 : mLv m_X3_entries m_X3_requirePage 2 1 := ⟨159, dX3_entries_2, cv_X3_159, ok_X3_requirePage, rfl, rfl, Or.inl rfl, ⟨Nat.le_of_ble_eq_true rfl, Nat.le_of_ble_eq_true rfl⟩⟩
theorem lk_X3_entries_10 : mLv m_X3_entries m_X0_countOf 10 1 := ⟨162, dX3_entries_10, cv_X3_162, ok_X0_countOf, rfl, rfl, Or.inl rfl, ⟨Nat.le_of_ble_eq_true rfl, Nat.le_of_ble_eq_true rfl⟩⟩
theorem lk_X3_keyAt_3 : mLv m_X3_keyAt m_X3_requireEntry 3 2 := ⟨165, dX3_keyAt_3, cv_X3_165, ok_X3_requireEntry, rfl, rfl, Or.inl rfl, ⟨Nat.le_of_ble_eq_true rfl, Nat.le_of_ble_eq_true rfl⟩⟩
theorem lk_X3_keyAt_12 : mLv m_X3_keyAt m_X0_keyOf 12 2 := ⟨168, dX3_keyAt_12, cv_X3_168, ok_X0_keyOf, rfl, rfl, Or.inl rfl, ⟨Nat.le_of_ble_eq_true rfl, Nat.le_of_ble_eq_true rfl⟩⟩
theorem lk_X3_pageAt_3 : mLv m_X3_pageAt m_X3_requireEntry 3 2 := ⟨165, dX3_pageAt_3, cv_X3_165, ok_X3_requireEntry, rfl, rfl, Or.inl rfl, ⟨Nat.le_of_ble_eq_true rfl, Nat.le_of_ble_eq_true rfl⟩⟩
theorem lk_X3_pageAt_11 : mLv m_X3_pageAt m_X0_isLeaf 11 1 := ⟨171, dX3_pageAt_11, cv_X3_171, ok_X0_isLeaf, rfl, rfl, Or.inl rfl, ⟨Nat.le_of_ble_eq_true rfl, Nat.le_of_ble_eq_true rfl⟩⟩
theorem lk_X3_pageAt_27 : mLv m_X3_pageAt m_X0_wordOf 27 2 := ⟨174, dX3_pageAt_27, cv_X3_174, ok_X0_wordOf, rfl, rfl, Or.inl rfl, ⟨Nat.le_of_ble_eq_true rfl, Nat.le_of_ble_eq_true rfl⟩⟩
theorem lk_X3_slotWord_1 : mLt m_X3_slotWord m_X3_requireSlot 1 1 := ⟨177, dX3_slotWord_1, cs_X3_177, ok_X3_requireSlot, rfl, rfl, Or.inl rfl, ⟨Nat.le_of_ble_eq_true rfl, Nat.le_of_ble_eq_true rfl⟩⟩
theorem lk_X3_slotWord_26 : mLv m_X3_slotWord m_X3_wordIn 26 2 := ⟨182, dX3_slotWord_26, cv_X3_182, ok_X3_wordIn, rfl, rfl, Or.inl rfl, ⟨Nat.le_of_ble_eq_true rfl, Nat.le_of_ble_eq_true rfl⟩⟩
theorem lk_X3_isWhole_1 : mLt m_X3_isWhole m_X3_requireSlot 1 1 := ⟨177, dX3_isWhole_1, cs_X3_177, ok_X3_requireSlot, rfl, rfl, Or.inl rfl, ⟨Nat.le_of_ble_eq_true rfl, Nat.le_of_ble_eq_true rfl⟩⟩
theorem lk_X3_isWhole_6 : mLv m_X3_isWhole m_X3_sumsUp 6 1 := ⟨186, dX3_isWhole_6, cv_X3_186, ok_X3_sumsUp, rfl, rfl, Or.inl rfl, ⟨Nat.le_of_ble_eq_true rfl, Nat.le_of_ble_eq_true rfl⟩⟩
theorem lk_X3_tear_1 : mLt m_X3_tear m_X3_requireSlot 1 1 := ⟨177, dX3_tear_1, cs_X3_177, ok_X3_requireSlot, rfl, rfl, Or.inl rfl, ⟨Nat.le_of_ble_eq_true rfl, Nat.le_of_ble_eq_true rfl⟩⟩
theorem lk_X3_tear_6 : mLt m_X3_tear m_X3_otherSlot 6 1 := ⟨94, dX3_tear_6, cs_X3_94, ok_X3_otherSlot, rfl, rfl, Or.inl rfl, ⟨Nat.le_of_ble_eq_true rfl, Nat.le_of_ble_eq_true rfl⟩⟩
theorem lk_X3_tear_9 : mLv m_X3_tear m_X3_sumsUp 9 1 := ⟨186, dX3_tear_9, cv_X3_186, ok_X3_sumsUp, rfl, rfl, Or.inl rfl, ⟨Nat.le_of_ble_eq_true rfl, Nat.le_of_ble_eq_true rfl⟩⟩
theorem lk_X3_tear_26 : mLv m_X3_tear m_X3_pagesInUse 26 0 := ⟨105, dX3_tear_26, cv_X3_105, ok_X3_pagesInUse, rfl, rfl, Or.inl rfl, ⟨Nat.le_of_ble_eq_true rfl, Nat.le_of_ble_eq_true rfl⟩⟩
theorem lk_X3_tear_52 : mLv m_X3_tear m_X3_keepStates 52 2 := ⟨118, dX3_tear_52, cv_X3_118, ok_X3_keepStates, rfl, rfl, Or.inl rfl, ⟨Nat.le_of_ble_eq_true rfl, Nat.le_of_ble_eq_true rfl⟩⟩
theorem lk_X3_tear_57 : mLv m_X3_tear m_X3_pagesInUse 57 0 := ⟨105, dX3_tear_57, cv_X3_105, ok_X3_pagesInUse, rfl, rfl, Or.inl rfl, ⟨Nat.le_of_ble_eq_true rfl, Nat.le_of_ble_eq_true rfl⟩⟩
theorem lk_X3_crash_25 : mLv m_X3_crash m_X3_latestWholeSlot 25 0 := ⟨193, dX3_crash_25, cv_X3_193, ok_X3_latestWholeSlot, rfl, rfl, Or.inl rfl, ⟨Nat.le_of_ble_eq_true rfl, Nat.le_of_ble_eq_true rfl⟩⟩
theorem lk_X3_crash_41 : mLv m_X3_crash m_X3_wordIn 41 2 := ⟨182, dX3_crash_41, cv_X3_182, ok_X3_wordIn, rfl, rfl, Or.inl rfl, ⟨Nat.le_of_ble_eq_true rfl, Nat.le_of_ble_eq_true rfl⟩⟩
theorem lk_X3_crash_58 : mLv m_X3_crash m_X3_wordIn 58 2 := ⟨182, dX3_crash_58, cv_X3_182, ok_X3_wordIn, rfl, rfl, Or.inl rfl, ⟨Nat.le_of_ble_eq_true rfl, Nat.le_of_ble_eq_true rfl⟩⟩
theorem lk_X3_crash_75 : mLv m_X3_crash m_X3_wordIn 75 2 := ⟨182, dX3_crash_75, cv_X3_182, ok_X3_wordIn, rfl, rfl, Or.inl rfl, ⟨Nat.le_of_ble_eq_true rfl, Nat.le_of_ble_eq_true rfl⟩⟩
theorem lk_X3_crash_83 : mLv m_X3_crash m_X3_endBatch 83 0 := ⟨102, dX3_crash_83, cv_X3_102, ok_X3_endBatch, rfl, rfl, Or.inl rfl, ⟨Nat.le_of_ble_eq_true rfl, Nat.le_of_ble_eq_true rfl⟩⟩
theorem lk_X3_crashInCommit_20 : mLv m_X3_crashInCommit m_X3_requireBatch 20 0 := ⟨80, dX3_crashInCommit_20, cv_X3_80, ok_X3_requireBatch, rfl, rfl, Or.inl rfl, ⟨Nat.le_of_ble_eq_true rfl, Nat.le_of_ble_eq_true rfl⟩⟩
theorem lk_X3_crashInCommit_37 : mLv m_X3_crashInCommit m_X3_sumsUp 37 1 := ⟨186, dX3_crashInCommit_37, cv_X3_186, ok_X3_sumsUp, rfl, rfl, Or.inl rfl, ⟨Nat.le_of_ble_eq_true rfl, Nat.le_of_ble_eq_true rfl⟩⟩
theorem lk_X3_crashInCommit_58 : mLt m_X3_crashInCommit m_X3_otherSlot 58 1 := ⟨94, dX3_crashInCommit_58, cs_X3_94, ok_X3_otherSlot, rfl, rfl, Or.inl rfl, ⟨Nat.le_of_ble_eq_true rfl, Nat.le_of_ble_eq_true rfl⟩⟩
theorem lk_X3_crashInCommit_62 : mLv m_X3_crashInCommit m_X3_writeSlot 62 2 := ⟨98, dX3_crashInCommit_62, cv_X3_98, ok_X3_writeSlot, rfl, rfl, Or.inl rfl, ⟨Nat.le_of_ble_eq_true rfl, Nat.le_of_ble_eq_true rfl⟩⟩
theorem lk_X3_crashInCommit_66 : mLv m_X3_crashInCommit m_X3_crash 66 0 := ⟨203, dX3_crashInCommit_66, cv_X3_203, ok_X3_crash, rfl, rfl, Or.inl rfl, ⟨Nat.le_of_ble_eq_true rfl, Nat.le_of_ble_eq_true rfl⟩⟩
theorem lk_X3_requireReader_2 : mLv m_X3_requireReader m_X3_isOpen 2 1 := ⟨109, dX3_requireReader_2, cv_X3_109, ok_X3_isOpen, rfl, rfl, Or.inl rfl, ⟨Nat.le_of_ble_eq_true rfl, Nat.le_of_ble_eq_true rfl⟩⟩
theorem lk_X3_requirePage_9 : mLv m_X3_requirePage m_X0_isVacant 9 1 := ⟨153, dX3_requirePage_9, cv_X3_153, ok_X0_isVacant, rfl, rfl, Or.inl rfl, ⟨Nat.le_of_ble_eq_true rfl, Nat.le_of_ble_eq_true rfl⟩⟩
theorem lk_X3_requireEntry_2 : mLv m_X3_requireEntry m_X3_requirePage 2 1 := ⟨159, dX3_requireEntry_2, cv_X3_159, ok_X3_requirePage, rfl, rfl, Or.inl rfl, ⟨Nat.le_of_ble_eq_true rfl, Nat.le_of_ble_eq_true rfl⟩⟩
theorem lk_X3_requireEntry_15 : mLv m_X3_requireEntry m_X0_countOf 15 1 := ⟨162, dX3_requireEntry_15, cv_X3_162, ok_X0_countOf, rfl, rfl, Or.inl rfl, ⟨Nat.le_of_ble_eq_true rfl, Nat.le_of_ble_eq_true rfl⟩⟩
theorem lk_X3_viewed_29 : mLv m_X3_viewed m_X3_requireReader 29 1 := ⟨115, dX3_viewed_29, cv_X3_115, ok_X3_requireReader, rfl, rfl, Or.inl rfl, ⟨Nat.le_of_ble_eq_true rfl, Nat.le_of_ble_eq_true rfl⟩⟩
theorem lk_X3_valueIn_9 : mLv m_X3_valueIn m_X0_leafFor 9 2 := ⟨218, dX3_valueIn_9, cv_X3_218, ok_X0_leafFor, rfl, rfl, Or.inl rfl, ⟨Nat.le_of_ble_eq_true rfl, Nat.le_of_ble_eq_true rfl⟩⟩
theorem lk_X3_valueIn_19 : mLv m_X3_valueIn m_X0_placeOf 19 2 := ⟨221, dX3_valueIn_19, cv_X3_221, ok_X0_placeOf, rfl, rfl, Or.inl rfl, ⟨Nat.le_of_ble_eq_true rfl, Nat.le_of_ble_eq_true rfl⟩⟩
theorem lk_X3_valueIn_32 : mLv m_X3_valueIn m_X0_holds 32 3 := ⟨224, dX3_valueIn_32, cv_X3_224, ok_X0_holds, rfl, rfl, Or.inl rfl, ⟨Nat.le_of_ble_eq_true rfl, Nat.le_of_ble_eq_true rfl⟩⟩
theorem lk_X3_valueIn_55 : mLv m_X3_valueIn m_X0_wordOf 55 2 := ⟨174, dX3_valueIn_55, cv_X3_174, ok_X0_wordOf, rfl, rfl, Or.inl rfl, ⟨Nat.le_of_ble_eq_true rfl, Nat.le_of_ble_eq_true rfl⟩⟩
theorem lk_X3_endBatch_15 : mLt m_X3_endBatch m_X0_unmark 15 1 := ⟨141, dX3_endBatch_15, cs_X3_141, ok_X0_unmark, rfl, rfl, Or.inl rfl, ⟨Nat.le_of_ble_eq_true rfl, Nat.le_of_ble_eq_true rfl⟩⟩
theorem lk_X3_endBatch_27 : mLv m_X3_endBatch m_X3_keepStates 27 2 := ⟨118, dX3_endBatch_27, cv_X3_118, ok_X3_keepStates, rfl, rfl, Or.inl rfl, ⟨Nat.le_of_ble_eq_true rfl, Nat.le_of_ble_eq_true rfl⟩⟩
theorem lk_X3_keepStates_1 : mLt m_X3_keepStates m_X0_unmark 1 1 := ⟨141, dX3_keepStates_1, cs_X3_141, ok_X0_unmark, rfl, rfl, Or.inl rfl, ⟨Nat.le_of_ble_eq_true rfl, Nat.le_of_ble_eq_true rfl⟩⟩
theorem lk_X3_keepStates_16 : mLv m_X3_keepStates m_X0_markTree 16 2 := ⟨54, dX3_keepStates_16, cv_X3_54, ok_X0_markTree, rfl, rfl, Or.inl rfl, ⟨Nat.le_of_ble_eq_true rfl, Nat.le_of_ble_eq_true rfl⟩⟩
theorem lk_X3_keepStates_28 : mLv m_X3_keepStates m_X3_sumsUp 28 1 := ⟨186, dX3_keepStates_28, cv_X3_186, ok_X3_sumsUp, rfl, rfl, Or.inl rfl, ⟨Nat.le_of_ble_eq_true rfl, Nat.le_of_ble_eq_true rfl⟩⟩
theorem lk_X3_keepStates_42 : mLv m_X3_keepStates m_X3_wordIn 42 2 := ⟨182, dX3_keepStates_42, cv_X3_182, ok_X3_wordIn, rfl, rfl, Or.inl rfl, ⟨Nat.le_of_ble_eq_true rfl, Nat.le_of_ble_eq_true rfl⟩⟩
theorem lk_X3_keepStates_46 : mLv m_X3_keepStates m_X0_markTree 46 2 := ⟨54, dX3_keepStates_46, cv_X3_54, ok_X0_markTree, rfl, rfl, Or.inl rfl, ⟨Nat.le_of_ble_eq_true rfl, Nat.le_of_ble_eq_true rfl⟩⟩
theorem lk_X3_keepStates_64 : mLv m_X3_keepStates m_X3_isOpen 64 1 := ⟨109, dX3_keepStates_64, cv_X3_109, ok_X3_isOpen, rfl, rfl, Or.inl rfl, ⟨Nat.le_of_ble_eq_true rfl, Nat.le_of_ble_eq_true rfl⟩⟩
theorem lk_X3_keepStates_89 : mLv m_X3_keepStates m_X0_markTree 89 2 := ⟨54, dX3_keepStates_89, cv_X3_54, ok_X0_markTree, rfl, rfl, Or.inl rfl, ⟨Nat.le_of_ble_eq_true rfl, Nat.le_of_ble_eq_true rfl⟩⟩
theorem lk_X3_sumsUp_3 : mLv m_X3_sumsUp m_X3_wordIn 3 2 := ⟨182, dX3_sumsUp_3, cv_X3_182, ok_X3_wordIn, rfl, rfl, Or.inl rfl, ⟨Nat.le_of_ble_eq_true rfl, Nat.le_of_ble_eq_true rfl⟩⟩
theorem lk_X3_sumsUp_9 : mLv m_X3_sumsUp m_X3_wordIn 9 2 := ⟨182, dX3_sumsUp_9, cv_X3_182, ok_X3_wordIn, rfl, rfl, Or.inl rfl, ⟨Nat.le_of_ble_eq_true rfl, Nat.le_of_ble_eq_true rfl⟩⟩
theorem lk_X3_sumsUp_15 : mLv m_X3_sumsUp m_X3_wordIn 15 2 := ⟨182, dX3_sumsUp_15, cv_X3_182, ok_X3_wordIn, rfl, rfl, Or.inl rfl, ⟨Nat.le_of_ble_eq_true rfl, Nat.le_of_ble_eq_true rfl⟩⟩
theorem lk_X3_sumsUp_18 : mLt m_X3_sumsUp m_X3_sumOf 18 3 := ⟨236, dX3_sumsUp_18, cs_X3_236, ok_X3_sumOf, rfl, rfl, Or.inl rfl, ⟨Nat.le_of_ble_eq_true rfl, Nat.le_of_ble_eq_true rfl⟩⟩
theorem lk_X3_sumsUp_25 : mLv m_X3_sumsUp m_X3_wordIn 25 2 := ⟨182, dX3_sumsUp_25, cv_X3_182, ok_X3_wordIn, rfl, rfl, Or.inl rfl, ⟨Nat.le_of_ble_eq_true rfl, Nat.le_of_ble_eq_true rfl⟩⟩
theorem lk_X3_writeSlot_39 : mLv m_X3_writeSlot m_X3_wordOfBatch 39 1 := ⟨244, dX3_writeSlot_39, cv_X3_244, ok_X3_wordOfBatch, rfl, rfl, Or.inl rfl, ⟨Nat.le_of_ble_eq_true rfl, Nat.le_of_ble_eq_true rfl⟩⟩
theorem lk_X3_wordOfBatch_79 : mLt m_X3_wordOfBatch m_X3_sumOf 79 3 := ⟨236, dX3_wordOfBatch_79, cs_X3_236, ok_X3_sumOf, rfl, rfl, Or.inl rfl, ⟨Nat.le_of_ble_eq_true rfl, Nat.le_of_ble_eq_true rfl⟩⟩
theorem lk_X3_latestWholeSlot_2 : mLv m_X3_latestWholeSlot m_X3_sumsUp 2 1 := ⟨186, dX3_latestWholeSlot_2, cv_X3_186, ok_X3_sumsUp, rfl, rfl, Or.inl rfl, ⟨Nat.le_of_ble_eq_true rfl, Nat.le_of_ble_eq_true rfl⟩⟩
theorem lk_X3_latestWholeSlot_12 : mLv m_X3_latestWholeSlot m_X3_sumsUp 12 1 := ⟨186, dX3_latestWholeSlot_12, cv_X3_186, ok_X3_sumsUp, rfl, rfl, Or.inl rfl, ⟨Nat.le_of_ble_eq_true rfl, Nat.le_of_ble_eq_true rfl⟩⟩
theorem lk_X3_latestWholeSlot_21 : mLv m_X3_latestWholeSlot m_X3_wordIn 21 2 := ⟨182, dX3_latestWholeSlot_21, cv_X3_182, ok_X3_wordIn, rfl, rfl, Or.inl rfl, ⟨Nat.le_of_ble_eq_true rfl, Nat.le_of_ble_eq_true rfl⟩⟩
theorem lk_X3_latestWholeSlot_27 : mLv m_X3_latestWholeSlot m_X3_wordIn 27 2 := ⟨182, dX3_latestWholeSlot_27, cv_X3_182, ok_X3_wordIn, rfl, rfl, Or.inl rfl, ⟨Nat.le_of_ble_eq_true rfl, Nat.le_of_ble_eq_true rfl⟩⟩
theorem lk_L_begin_1 : mLv m_L_begin m_X3_beginBatch 1 0 := ⟨15, dL_begin_1, cv_L_15, ok_X3_beginBatch, rfl, rfl, Or.inl rfl, ⟨Nat.le_of_ble_eq_true rfl, Nat.le_of_ble_eq_true rfl⟩⟩
theorem lk_L_put_3 : mLv m_L_put m_X3_put 3 2 := ⟨24, dL_put_3, cv_L_24, ok_X3_put, rfl, rfl, Or.inl rfl, ⟨Nat.le_of_ble_eq_true rfl, Nat.le_of_ble_eq_true rfl⟩⟩
theorem lk_L_delete_2 : mLv m_L_delete m_X3_delete 2 1 := ⟨31, dL_delete_2, cv_L_31, ok_X3_delete, rfl, rfl, Or.inl rfl, ⟨Nat.le_of_ble_eq_true rfl, Nat.le_of_ble_eq_true rfl⟩⟩
theorem lk_L_commit_1 : mLv m_L_commit m_X3_commit 1 0 := ⟨38, dL_commit_1, cv_L_38, ok_X3_commit, rfl, rfl, Or.inl rfl, ⟨Nat.le_of_ble_eq_true rfl, Nat.le_of_ble_eq_true rfl⟩⟩
theorem lk_L_abandon_1 : mLv m_L_abandon m_X3_abandon 1 0 := ⟨41, dL_abandon_1, cv_L_41, ok_X3_abandon, rfl, rfl, Or.inl rfl, ⟨Nat.le_of_ble_eq_true rfl, Nat.le_of_ble_eq_true rfl⟩⟩
theorem lk_L_open_1 : mLv m_L_open m_X3_openReader 1 0 := ⟨44, dL_open_1, cv_L_44, ok_X3_openReader, rfl, rfl, Or.inl rfl, ⟨Nat.le_of_ble_eq_true rfl, Nat.le_of_ble_eq_true rfl⟩⟩
theorem lk_L_close_2 : mLv m_L_close m_X3_closeReader 2 1 := ⟨47, dL_close_2, cv_L_47, ok_X3_closeReader, rfl, rfl, Or.inl rfl, ⟨Nat.le_of_ble_eq_true rfl, Nat.le_of_ble_eq_true rfl⟩⟩
theorem lk_L_heldBy_2 : mLv m_L_heldBy m_X3_heldBy 2 1 := ⟨52, dL_heldBy_2, cv_L_52, ok_X3_heldBy, rfl, rfl, Or.inl rfl, ⟨Nat.le_of_ble_eq_true rfl, Nat.le_of_ble_eq_true rfl⟩⟩
theorem lk_L_epochOf_2 : mLv m_L_epochOf m_X3_epochOf 2 1 := ⟨55, dL_epochOf_2, cv_L_55, ok_X3_epochOf, rfl, rfl, Or.inl rfl, ⟨Nat.le_of_ble_eq_true rfl, Nat.le_of_ble_eq_true rfl⟩⟩
theorem lk_L_get_3 : mLv m_L_get m_X3_get 3 2 := ⟨58, dL_get_3, cv_L_58, ok_X3_get, rfl, rfl, Or.inl rfl, ⟨Nat.le_of_ble_eq_true rfl, Nat.le_of_ble_eq_true rfl⟩⟩
theorem lk_L_next_3 : mLv m_L_next m_X3_next 3 2 := ⟨62, dL_next_3, cv_L_62, ok_X3_next, rfl, rfl, Or.inl rfl, ⟨Nat.le_of_ble_eq_true rfl, Nat.le_of_ble_eq_true rfl⟩⟩
theorem lk_L_rank_3 : mLv m_L_rank m_X3_rank 3 2 := ⟨65, dL_rank_3, cv_L_65, ok_X3_rank, rfl, rfl, Or.inl rfl, ⟨Nat.le_of_ble_eq_true rfl, Nat.le_of_ble_eq_true rfl⟩⟩
theorem lk_L_size_2 : mLv m_L_size m_X3_size 2 1 := ⟨68, dL_size_2, cv_L_68, ok_X3_size, rfl, rfl, Or.inl rfl, ⟨Nat.le_of_ble_eq_true rfl, Nat.le_of_ble_eq_true rfl⟩⟩
theorem lk_L_depth_2 : mLv m_L_depth m_X3_depth 2 1 := ⟨71, dL_depth_2, cv_L_71, ok_X3_depth, rfl, rfl, Or.inl rfl, ⟨Nat.le_of_ble_eq_true rfl, Nat.le_of_ble_eq_true rfl⟩⟩
theorem lk_L_rootOf_2 : mLv m_L_rootOf m_X3_rootOf 2 1 := ⟨74, dL_rootOf_2, cv_L_74, ok_X3_rootOf, rfl, rfl, Or.inl rfl, ⟨Nat.le_of_ble_eq_true rfl, Nat.le_of_ble_eq_true rfl⟩⟩
theorem lk_L_shared_3 : mLv m_L_shared m_X3_sharedPages 3 2 := ⟨77, dL_shared_3, cv_L_77, ok_X3_sharedPages, rfl, rfl, Or.inl rfl, ⟨Nat.le_of_ble_eq_true rfl, Nat.le_of_ble_eq_true rfl⟩⟩
theorem lk_L_isFree_2 : mLv m_L_isFree m_X3_isFree 2 1 := ⟨80, dL_isFree_2, cv_L_80, ok_X3_isFree, rfl, rfl, Or.inl rfl, ⟨Nat.le_of_ble_eq_true rfl, Nat.le_of_ble_eq_true rfl⟩⟩
theorem lk_L_entries_2 : mLv m_L_entries m_X3_entries 2 1 := ⟨84, dL_entries_2, cv_L_84, ok_X3_entries, rfl, rfl, Or.inl rfl, ⟨Nat.le_of_ble_eq_true rfl, Nat.le_of_ble_eq_true rfl⟩⟩
theorem lk_L_keyAt_3 : mLv m_L_keyAt m_X3_keyAt 3 2 := ⟨87, dL_keyAt_3, cv_L_87, ok_X3_keyAt, rfl, rfl, Or.inl rfl, ⟨Nat.le_of_ble_eq_true rfl, Nat.le_of_ble_eq_true rfl⟩⟩
theorem lk_L_pageAt_3 : mLv m_L_pageAt m_X3_pageAt 3 2 := ⟨90, dL_pageAt_3, cv_L_90, ok_X3_pageAt, rfl, rfl, Or.inl rfl, ⟨Nat.le_of_ble_eq_true rfl, Nat.le_of_ble_eq_true rfl⟩⟩
theorem lk_L_slotWord_3 : mLv m_L_slotWord m_X3_slotWord 3 2 := ⟨93, dL_slotWord_3, cv_L_93, ok_X3_slotWord, rfl, rfl, Or.inl rfl, ⟨Nat.le_of_ble_eq_true rfl, Nat.le_of_ble_eq_true rfl⟩⟩
theorem lk_L_isWhole_2 : mLv m_L_isWhole m_X3_isWhole 2 1 := ⟨99, dL_isWhole_2, cv_L_99, ok_X3_isWhole, rfl, rfl, Or.inl rfl, ⟨Nat.le_of_ble_eq_true rfl, Nat.le_of_ble_eq_true rfl⟩⟩
theorem lk_L_tear_2 : mLv m_L_tear m_X3_tear 2 1 := ⟨102, dL_tear_2, cv_L_102, ok_X3_tear, rfl, rfl, Or.inl rfl, ⟨Nat.le_of_ble_eq_true rfl, Nat.le_of_ble_eq_true rfl⟩⟩
theorem lk_L_crashInCommit_2 : mLv m_L_crashInCommit m_X3_crashInCommit 2 1 := ⟨105, dL_crashInCommit_2, cv_L_105, ok_X3_crashInCommit, rfl, rfl, Or.inl rfl, ⟨Nat.le_of_ble_eq_true rfl, Nat.le_of_ble_eq_true rfl⟩⟩
theorem lk_L_print_4 : mLv m_L_print m_X3_pagesInUse 4 0 := ⟨110, dL_print_4, cv_L_110, ok_X3_pagesInUse, rfl, rfl, Or.inl rfl, ⟨Nat.le_of_ble_eq_true rfl, Nat.le_of_ble_eq_true rfl⟩⟩
theorem lk_L_print_10 : mLv m_L_print m_X3_leastFree 10 0 := ⟨113, dL_print_10, cv_L_113, ok_X3_leastFree, rfl, rfl, Or.inl rfl, ⟨Nat.le_of_ble_eq_true rfl, Nat.le_of_ble_eq_true rfl⟩⟩
theorem lk_L_print_25 : mLv m_L_print m_X3_currentSlot 25 0 := ⟨116, dL_print_25, cv_L_116, ok_X3_currentSlot, rfl, rfl, Or.inl rfl, ⟨Nat.le_of_ble_eq_true rfl, Nat.le_of_ble_eq_true rfl⟩⟩
theorem lk_L_print_32 : mLv m_L_print m_X3_hasBatch 32 0 := ⟨119, dL_print_32, cv_L_119, ok_X3_hasBatch, rfl, rfl, Or.inl rfl, ⟨Nat.le_of_ble_eq_true rfl, Nat.le_of_ble_eq_true rfl⟩⟩
theorem lk_L_print_46 : mLv m_L_print m_X3_readers 46 0 := ⟨123, dL_print_46, cv_L_123, ok_X3_readers, rfl, rfl, Or.inl rfl, ⟨Nat.le_of_ble_eq_true rfl, Nat.le_of_ble_eq_true rfl⟩⟩
theorem lk_L_print_72 : mLx m_L_print m_L_slotWord 72 3 := ⟨126, _, _, dL_print_72, cs_L_126, ok_L_slotWord, rfl, rfl, Or.inl rfl, ⟨Nat.le_of_ble_eq_true rfl, Nat.le_of_ble_eq_true rfl⟩⟩
theorem lk_L_print_103 : mLx m_L_print m_L_rootOf 103 2 := ⟨131, _, _, dL_print_103, cs_L_131, ok_L_rootOf, rfl, rfl, Or.inl rfl, ⟨Nat.le_of_ble_eq_true rfl, Nat.le_of_ble_eq_true rfl⟩⟩
theorem lk_L_print_111 : mLx m_L_print m_L_epochOf 111 2 := ⟨134, _, _, dL_print_111, cs_L_134, ok_L_epochOf, rfl, rfl, Or.inl rfl, ⟨Nat.le_of_ble_eq_true rfl, Nat.le_of_ble_eq_true rfl⟩⟩
theorem lk_L_print_119 : mLx m_L_print m_L_size 119 2 := ⟨136, _, _, dL_print_119, cs_L_136, ok_L_size, rfl, rfl, Or.inl rfl, ⟨Nat.le_of_ble_eq_true rfl, Nat.le_of_ble_eq_true rfl⟩⟩
theorem lk_L_print_141 : mLx m_L_print m_L_entries 141 2 := ⟨138, _, _, dL_print_141, cs_L_138, ok_L_entries, rfl, rfl, Or.inl rfl, ⟨Nat.le_of_ble_eq_true rfl, Nat.le_of_ble_eq_true rfl⟩⟩
theorem lk_L_print_178 : mLx m_L_print m_L_keyAt 178 3 := ⟨140, _, _, dL_print_178, cs_L_140, ok_L_keyAt, rfl, rfl, Or.inl rfl, ⟨Nat.le_of_ble_eq_true rfl, Nat.le_of_ble_eq_true rfl⟩⟩
theorem lk_L_print_188 : mLx m_L_print m_L_pageAt 188 3 := ⟨143, _, _, dL_print_188, cs_L_143, ok_L_pageAt, rfl, rfl, Or.inl rfl, ⟨Nat.le_of_ble_eq_true rfl, Nat.le_of_ble_eq_true rfl⟩⟩
theorem lk_L_first_13 : mLx m_L_first m_L_pageAt 13 3 := ⟨143, _, _, dL_first_13, cs_L_143, ok_L_pageAt, rfl, rfl, Or.inl rfl, ⟨Nat.le_of_ble_eq_true rfl, Nat.le_of_ble_eq_true rfl⟩⟩
theorem lk_L_first_22 : mLx m_L_first m_L_pageAt 22 3 := ⟨143, _, _, dL_first_22, cs_L_143, ok_L_pageAt, rfl, rfl, Or.inl rfl, ⟨Nat.le_of_ble_eq_true rfl, Nat.le_of_ble_eq_true rfl⟩⟩
theorem lk_L_first_35 : mLx m_L_first m_L_keyAt 35 3 := ⟨140, _, _, dL_first_35, cs_L_140, ok_L_keyAt, rfl, rfl, Or.inl rfl, ⟨Nat.le_of_ble_eq_true rfl, Nat.le_of_ble_eq_true rfl⟩⟩
theorem lk_L_walks_40 : mLx m_L_walks m_L_pageAt 40 3 := ⟨143, _, _, dL_walks_40, cs_L_143, ok_L_pageAt, rfl, rfl, Or.inl rfl, ⟨Nat.le_of_ble_eq_true rfl, Nat.le_of_ble_eq_true rfl⟩⟩
theorem lk_L_walks_93 : mLx m_L_walks m_L_entries 93 2 := ⟨138, _, _, dL_walks_93, cs_L_138, ok_L_entries, rfl, rfl, Or.inl rfl, ⟨Nat.le_of_ble_eq_true rfl, Nat.le_of_ble_eq_true rfl⟩⟩
theorem lk_L_walks_131 : mLx m_L_walks m_L_pageAt 131 3 := ⟨143, _, _, dL_walks_131, cs_L_143, ok_L_pageAt, rfl, rfl, Or.inl rfl, ⟨Nat.le_of_ble_eq_true rfl, Nat.le_of_ble_eq_true rfl⟩⟩
theorem lk_L_walks_143 : mLx m_L_walks m_L_keyAt 143 3 := ⟨140, _, _, dL_walks_143, cs_L_140, ok_L_keyAt, rfl, rfl, Or.inl rfl, ⟨Nat.le_of_ble_eq_true rfl, Nat.le_of_ble_eq_true rfl⟩⟩
theorem lk_L_walks_185 : mLx m_L_walks m_L_pageAt 185 3 := ⟨143, _, _, dL_walks_185, cs_L_143, ok_L_pageAt, rfl, rfl, Or.inl rfl, ⟨Nat.le_of_ble_eq_true rfl, Nat.le_of_ble_eq_true rfl⟩⟩
theorem lk_L_walks_195 : mLx m_L_walks m_L_keyAt 195 3 := ⟨140, _, _, dL_walks_195, cs_L_140, ok_L_keyAt, rfl, rfl, Or.inl rfl, ⟨Nat.le_of_ble_eq_true rfl, Nat.le_of_ble_eq_true rfl⟩⟩
theorem lk_L_walks_274 : mLt m_L_walks m_L_first 274 2 := ⟨145, dL_walks_274, cs_L_145, ok_L_first, rfl, rfl, Or.inl rfl, ⟨Nat.le_of_ble_eq_true rfl, Nat.le_of_ble_eq_true rfl⟩⟩
theorem lk_L_holds_6 : mLt m_L_holds m_L_walks 6 4 := ⟨148, dL_holds_6, cs_L_148, ok_L_walks, rfl, rfl, Or.inl rfl, ⟨Nat.le_of_ble_eq_true rfl, Nat.le_of_ble_eq_true rfl⟩⟩
theorem lk_L_holds_29 : mLt m_L_holds m_L_turn 29 3 := ⟨152, dL_holds_29, cs_L_152, ok_L_turn, rfl, rfl, Or.inl rfl, ⟨Nat.le_of_ble_eq_true rfl, Nat.le_of_ble_eq_true rfl⟩⟩
theorem lk_L_holds_54 : mLt m_L_holds m_L_key 54 1 := ⟨156, dL_holds_54, cs_L_156, ok_L_key, rfl, rfl, Or.inl rfl, ⟨Nat.le_of_ble_eq_true rfl, Nat.le_of_ble_eq_true rfl⟩⟩
theorem lk_L_shows_3 : mLx m_L_shows m_L_rootOf 3 2 := ⟨131, _, _, dL_shows_3, cs_L_131, ok_L_rootOf, rfl, rfl, Or.inl rfl, ⟨Nat.le_of_ble_eq_true rfl, Nat.le_of_ble_eq_true rfl⟩⟩
theorem lk_L_shows_8 : mLx m_L_shows m_L_depth 8 2 := ⟨159, _, _, dL_shows_8, cs_L_159, ok_L_depth, rfl, rfl, Or.inl rfl, ⟨Nat.le_of_ble_eq_true rfl, Nat.le_of_ble_eq_true rfl⟩⟩
theorem lk_L_shows_17 : mLt m_L_shows m_L_holds 17 7 := ⟨161, dL_shows_17, cs_L_161, ok_L_holds, rfl, rfl, Or.inl rfl, ⟨Nat.le_of_ble_eq_true rfl, Nat.le_of_ble_eq_true rfl⟩⟩
theorem lk_L_shows_25 : mLx m_L_shows m_L_size 25 2 := ⟨136, _, _, dL_shows_25, cs_L_136, ok_L_size, rfl, rfl, Or.inl rfl, ⟨Nat.le_of_ble_eq_true rfl, Nat.le_of_ble_eq_true rfl⟩⟩
theorem lk_L_shows_41 : mLt m_L_shows m_L_low 41 2 := ⟨165, dL_shows_41, cs_L_165, ok_L_low, rfl, rfl, Or.inl rfl, ⟨Nat.le_of_ble_eq_true rfl, Nat.le_of_ble_eq_true rfl⟩⟩
theorem lk_L_shows_117 : mLx m_L_shows m_L_next 117 3 := ⟨168, _, _, dL_shows_117, cs_L_168, ok_L_next, rfl, rfl, Or.inl rfl, ⟨Nat.le_of_ble_eq_true rfl, Nat.le_of_ble_eq_true rfl⟩⟩
theorem lk_L_shows_129 : mLx m_L_shows m_L_rank 129 3 := ⟨170, _, _, dL_shows_129, cs_L_170, ok_L_rank, rfl, rfl, Or.inl rfl, ⟨Nat.le_of_ble_eq_true rfl, Nat.le_of_ble_eq_true rfl⟩⟩
theorem lk_L_shows_141 : mLx m_L_shows m_L_next 141 3 := ⟨168, _, _, dL_shows_141, cs_L_168, ok_L_next, rfl, rfl, Or.inl rfl, ⟨Nat.le_of_ble_eq_true rfl, Nat.le_of_ble_eq_true rfl⟩⟩
theorem lk_L_shows_166 : mLx m_L_shows m_L_next 166 3 := ⟨168, _, _, dL_shows_166, cs_L_168, ok_L_next, rfl, rfl, Or.inl rfl, ⟨Nat.le_of_ble_eq_true rfl, Nat.le_of_ble_eq_true rfl⟩⟩
theorem lk_L_shows_177 : mLx m_L_shows m_L_rank 177 3 := ⟨170, _, _, dL_shows_177, cs_L_170, ok_L_rank, rfl, rfl, Or.inl rfl, ⟨Nat.le_of_ble_eq_true rfl, Nat.le_of_ble_eq_true rfl⟩⟩
theorem lk_L_shows_203 : mLt m_L_shows m_L_turn 203 3 := ⟨152, dL_shows_203, cs_L_152, ok_L_turn, rfl, rfl, Or.inl rfl, ⟨Nat.le_of_ble_eq_true rfl, Nat.le_of_ble_eq_true rfl⟩⟩
theorem lk_L_shows_212 : mLt m_L_shows m_L_key 212 1 := ⟨156, dL_shows_212, cs_L_156, ok_L_key, rfl, rfl, Or.inl rfl, ⟨Nat.le_of_ble_eq_true rfl, Nat.le_of_ble_eq_true rfl⟩⟩
theorem lk_L_shows_215 : mLx m_L_shows m_L_get 215 3 := ⟨173, _, _, dL_shows_215, cs_L_173, ok_L_get, rfl, rfl, Or.inl rfl, ⟨Nat.le_of_ble_eq_true rfl, Nat.le_of_ble_eq_true rfl⟩⟩
theorem lk_L_shows_227 : mLt m_L_shows m_L_value 227 2 := ⟨175, dL_shows_227, cs_L_175, ok_L_value, rfl, rfl, Or.inl rfl, ⟨Nat.le_of_ble_eq_true rfl, Nat.le_of_ble_eq_true rfl⟩⟩
theorem lk_L_shows_242 : mLt m_L_shows m_L_key 242 1 := ⟨156, dL_shows_242, cs_L_156, ok_L_key, rfl, rfl, Or.inl rfl, ⟨Nat.le_of_ble_eq_true rfl, Nat.le_of_ble_eq_true rfl⟩⟩
theorem lk_L_shows_247 : mLx m_L_shows m_L_get 247 3 := ⟨173, _, _, dL_shows_247, cs_L_173, ok_L_get, rfl, rfl, Or.inl rfl, ⟨Nat.le_of_ble_eq_true rfl, Nat.le_of_ble_eq_true rfl⟩⟩
theorem lk_L_shows_267 : mLx m_L_shows m_L_get 267 3 := ⟨173, _, _, dL_shows_267, cs_L_173, ok_L_get, rfl, rfl, Or.inl rfl, ⟨Nat.le_of_ble_eq_true rfl, Nat.le_of_ble_eq_true rfl⟩⟩
theorem lk_L_shows_278 : mLx m_L_shows m_L_get 278 3 := ⟨173, _, _, dL_shows_278, cs_L_173, ok_L_get, rfl, rfl, Or.inl rfl, ⟨Nat.le_of_ble_eq_true rfl, Nat.le_of_ble_eq_true rfl⟩⟩
theorem lk_L_shares_20 : mLx m_L_shares m_L_rootOf 20 2 := ⟨131, _, _, dL_shares_20, cs_L_131, ok_L_rootOf, rfl, rfl, Or.inl rfl, ⟨Nat.le_of_ble_eq_true rfl, Nat.le_of_ble_eq_true rfl⟩⟩
theorem lk_L_shares_26 : mLt m_L_shares m_L_walks 26 4 := ⟨148, dL_shares_26, cs_L_148, ok_L_walks, rfl, rfl, Or.inl rfl, ⟨Nat.le_of_ble_eq_true rfl, Nat.le_of_ble_eq_true rfl⟩⟩
theorem lk_L_shares_35 : mLx m_L_shares m_L_rootOf 35 2 := ⟨131, _, _, dL_shares_35, cs_L_131, ok_L_rootOf, rfl, rfl, Or.inl rfl, ⟨Nat.le_of_ble_eq_true rfl, Nat.le_of_ble_eq_true rfl⟩⟩
theorem lk_L_shares_41 : mLt m_L_shares m_L_walks 41 4 := ⟨148, dL_shares_41, cs_L_148, ok_L_walks, rfl, rfl, Or.inl rfl, ⟨Nat.le_of_ble_eq_true rfl, Nat.le_of_ble_eq_true rfl⟩⟩
theorem lk_L_shares_75 : mLt m_L_shares m_L_bits 75 1 := ⟨178, dL_shares_75, cs_L_178, ok_L_bits, rfl, rfl, Or.inl rfl, ⟨Nat.le_of_ble_eq_true rfl, Nat.le_of_ble_eq_true rfl⟩⟩
theorem lk_L_shares_90 : mLx m_L_shares m_L_shared 90 3 := ⟨182, _, _, dL_shares_90, cs_L_182, ok_L_shared, rfl, rfl, Or.inl rfl, ⟨Nat.le_of_ble_eq_true rfl, Nat.le_of_ble_eq_true rfl⟩⟩
theorem lk_L_shares_101 : mLx m_L_shares m_L_shared 101 3 := ⟨182, _, _, dL_shares_101, cs_L_182, ok_L_shared, rfl, rfl, Or.inl rfl, ⟨Nat.le_of_ble_eq_true rfl, Nat.le_of_ble_eq_true rfl⟩⟩
theorem lk_L_slots_16 : mLx m_L_slots m_L_slotWord 16 3 := ⟨126, _, _, dL_slots_16, cs_L_126, ok_L_slotWord, rfl, rfl, Or.inl rfl, ⟨Nat.le_of_ble_eq_true rfl, Nat.le_of_ble_eq_true rfl⟩⟩
theorem lk_L_slots_27 : mLx m_L_slots m_L_slotWord 27 3 := ⟨126, _, _, dL_slots_27, cs_L_126, ok_L_slotWord, rfl, rfl, Or.inl rfl, ⟨Nat.le_of_ble_eq_true rfl, Nat.le_of_ble_eq_true rfl⟩⟩
theorem lk_L_slots_36 : mLx m_L_slots m_L_slotWord 36 3 := ⟨126, _, _, dL_slots_36, cs_L_126, ok_L_slotWord, rfl, rfl, Or.inl rfl, ⟨Nat.le_of_ble_eq_true rfl, Nat.le_of_ble_eq_true rfl⟩⟩
theorem lk_L_slots_45 : mLx m_L_slots m_L_isWhole 45 2 := ⟨189, _, _, dL_slots_45, cs_L_189, ok_L_isWhole, rfl, rfl, Or.inl rfl, ⟨Nat.le_of_ble_eq_true rfl, Nat.le_of_ble_eq_true rfl⟩⟩
theorem lk_L_slots_62 : mLx m_L_slots m_L_slotWord 62 3 := ⟨126, _, _, dL_slots_62, cs_L_126, ok_L_slotWord, rfl, rfl, Or.inl rfl, ⟨Nat.le_of_ble_eq_true rfl, Nat.le_of_ble_eq_true rfl⟩⟩
theorem lk_L_slots_103 : mLx m_L_slots m_L_slotWord 103 3 := ⟨126, _, _, dL_slots_103, cs_L_126, ok_L_slotWord, rfl, rfl, Or.inl rfl, ⟨Nat.le_of_ble_eq_true rfl, Nat.le_of_ble_eq_true rfl⟩⟩
theorem lk_L_slots_123 : mLx m_L_slots m_L_slotWord 123 3 := ⟨126, _, _, dL_slots_123, cs_L_126, ok_L_slotWord, rfl, rfl, Or.inl rfl, ⟨Nat.le_of_ble_eq_true rfl, Nat.le_of_ble_eq_true rfl⟩⟩
theorem lk_L_slots_138 : mLt m_L_slots m_L_holds 138 7 := ⟨161, dL_slots_138, cs_L_161, ok_L_holds, rfl, rfl, Or.inl rfl, ⟨Nat.le_of_ble_eq_true rfl, Nat.le_of_ble_eq_true rfl⟩⟩
theorem lk_L_slots_148 : mLx m_L_slots m_L_slotWord 148 3 := ⟨126, _, _, dL_slots_148, cs_L_126, ok_L_slotWord, rfl, rfl, Or.inl rfl, ⟨Nat.le_of_ble_eq_true rfl, Nat.le_of_ble_eq_true rfl⟩⟩
theorem lk_L_isSo_62 : mLt m_L_isSo m_L_shows 62 7 := ⟨191, dL_isSo_62, cs_L_191, ok_L_shows, rfl, rfl, Or.inl rfl, ⟨Nat.le_of_ble_eq_true rfl, Nat.le_of_ble_eq_true rfl⟩⟩
theorem lk_L_isSo_71 : mLx m_L_isSo m_L_epochOf 71 2 := ⟨134, _, _, dL_isSo_71, cs_L_134, ok_L_epochOf, rfl, rfl, Or.inl rfl, ⟨Nat.le_of_ble_eq_true rfl, Nat.le_of_ble_eq_true rfl⟩⟩
theorem lk_L_isSo_88 : mLt m_L_isSo m_L_low 88 2 := ⟨165, dL_isSo_88, cs_L_165, ok_L_low, rfl, rfl, Or.inl rfl, ⟨Nat.le_of_ble_eq_true rfl, Nat.le_of_ble_eq_true rfl⟩⟩
theorem lk_L_isSo_100 : mLt m_L_isSo m_L_shares 100 3 := ⟨195, dL_isSo_100, cs_L_195, ok_L_shares, rfl, rfl, Or.inl rfl, ⟨Nat.le_of_ble_eq_true rfl, Nat.le_of_ble_eq_true rfl⟩⟩
theorem lk_L_isSo_111 : mLx m_L_isSo m_L_epochOf 111 2 := ⟨134, _, _, dL_isSo_111, cs_L_134, ok_L_epochOf, rfl, rfl, Or.inl rfl, ⟨Nat.le_of_ble_eq_true rfl, Nat.le_of_ble_eq_true rfl⟩⟩
theorem lk_L_isSo_124 : mLx m_L_isSo m_L_get 124 3 := ⟨173, _, _, dL_isSo_124, cs_L_173, ok_L_get, rfl, rfl, Or.inl rfl, ⟨Nat.le_of_ble_eq_true rfl, Nat.le_of_ble_eq_true rfl⟩⟩
theorem lk_L_isSo_135 : mLx m_L_isSo m_L_heldBy 135 2 := ⟨199, _, _, dL_isSo_135, cs_L_199, ok_L_heldBy, rfl, rfl, Or.inl rfl, ⟨Nat.le_of_ble_eq_true rfl, Nat.le_of_ble_eq_true rfl⟩⟩
theorem lk_L_isSo_147 : mLx m_L_isSo m_L_shared 147 3 := ⟨182, _, _, dL_isSo_147, cs_L_182, ok_L_shared, rfl, rfl, Or.inl rfl, ⟨Nat.le_of_ble_eq_true rfl, Nat.le_of_ble_eq_true rfl⟩⟩
theorem lk_L_isSo_190 : mLt m_L_isSo m_L_shows 190 7 := ⟨191, dL_isSo_190, cs_L_191, ok_L_shows, rfl, rfl, Or.inl rfl, ⟨Nat.le_of_ble_eq_true rfl, Nat.le_of_ble_eq_true rfl⟩⟩
theorem lk_L_isSo_198 : mLx m_L_isSo m_L_epochOf 198 2 := ⟨134, _, _, dL_isSo_198, cs_L_134, ok_L_epochOf, rfl, rfl, Or.inl rfl, ⟨Nat.le_of_ble_eq_true rfl, Nat.le_of_ble_eq_true rfl⟩⟩
theorem lk_L_isSo_209 : mLv m_L_isSo m_X3_hasBatch 209 0 := ⟨119, dL_isSo_209, cv_L_119, ok_X3_hasBatch, rfl, rfl, Or.inl rfl, ⟨Nat.le_of_ble_eq_true rfl, Nat.le_of_ble_eq_true rfl⟩⟩
theorem lk_L_isSo_227 : mLv m_L_isSo m_X3_readers 227 0 := ⟨123, dL_isSo_227, cv_L_123, ok_X3_readers, rfl, rfl, Or.inl rfl, ⟨Nat.le_of_ble_eq_true rfl, Nat.le_of_ble_eq_true rfl⟩⟩
theorem lk_L_isSo_243 : mLt m_L_isSo m_L_slots 243 6 := ⟨201, dL_isSo_243, cs_L_201, ok_L_slots, rfl, rfl, Or.inl rfl, ⟨Nat.le_of_ble_eq_true rfl, Nat.le_of_ble_eq_true rfl⟩⟩
theorem lk_L_isSo_260 : mLv m_L_isSo m_X3_currentSlot 260 0 := ⟨116, dL_isSo_260, cv_L_116, ok_X3_currentSlot, rfl, rfl, Or.inl rfl, ⟨Nat.le_of_ble_eq_true rfl, Nat.le_of_ble_eq_true rfl⟩⟩
theorem lk_L_isSo_376 : mLx m_L_isSo m_L_isFree 376 2 := ⟨205, _, _, dL_isSo_376, cs_L_205, ok_L_isFree, rfl, rfl, Or.inl rfl, ⟨Nat.le_of_ble_eq_true rfl, Nat.le_of_ble_eq_true rfl⟩⟩
theorem lk_L_isSo_406 : mLv m_L_isSo m_X3_pagesInUse 406 0 := ⟨110, dL_isSo_406, cv_L_110, ok_X3_pagesInUse, rfl, rfl, Or.inl rfl, ⟨Nat.le_of_ble_eq_true rfl, Nat.le_of_ble_eq_true rfl⟩⟩
theorem lk_L_isSo_415 : mLv m_L_isSo m_X3_leastFree 415 0 := ⟨113, dL_isSo_415, cv_L_113, ok_X3_leastFree, rfl, rfl, Or.inl rfl, ⟨Nat.le_of_ble_eq_true rfl, Nat.le_of_ble_eq_true rfl⟩⟩
theorem lk_L_isSo_432 : mLv m_L_isSo m_X3_pagesInUse 432 0 := ⟨110, dL_isSo_432, cv_L_110, ok_X3_pagesInUse, rfl, rfl, Or.inl rfl, ⟨Nat.le_of_ble_eq_true rfl, Nat.le_of_ble_eq_true rfl⟩⟩
theorem lk_L_wakes_43 : mLt m_L_wakes m_L_copies 43 4 := ⟨207, dL_wakes_43, cs_L_207, ok_L_copies, rfl, rfl, Or.inl rfl, ⟨Nat.le_of_ble_eq_true rfl, Nat.le_of_ble_eq_true rfl⟩⟩
theorem lk_L_wakes_76 : mLv m_L_wakes m_X3_currentSlot 76 0 := ⟨116, dL_wakes_76, cv_L_116, ok_X3_currentSlot, rfl, rfl, Or.inl rfl, ⟨Nat.le_of_ble_eq_true rfl, Nat.le_of_ble_eq_true rfl⟩⟩
theorem lk_L_writes_16 : mLt m_L_writes m_L_copies 16 4 := ⟨207, dL_writes_16, cs_L_207, ok_L_copies, rfl, rfl, Or.inl rfl, ⟨Nat.le_of_ble_eq_true rfl, Nat.le_of_ble_eq_true rfl⟩⟩
theorem lk_L_writes_33 : mLx m_L_writes m_L_begin 33 1 := ⟨211, _, _, dL_writes_33, cs_L_211, ok_L_begin, rfl, rfl, Or.inl rfl, ⟨Nat.le_of_ble_eq_true rfl, Nat.le_of_ble_eq_true rfl⟩⟩
theorem lk_L_writes_53 : mLt m_L_writes m_L_low 53 2 := ⟨165, dL_writes_53, cs_L_165, ok_L_low, rfl, rfl, Or.inl rfl, ⟨Nat.le_of_ble_eq_true rfl, Nat.le_of_ble_eq_true rfl⟩⟩
theorem lk_L_writes_65 : mLt m_L_writes m_L_low 65 2 := ⟨165, dL_writes_65, cs_L_165, ok_L_low, rfl, rfl, Or.inl rfl, ⟨Nat.le_of_ble_eq_true rfl, Nat.le_of_ble_eq_true rfl⟩⟩
theorem lk_L_writes_78 : mLt m_L_writes m_L_low 78 2 := ⟨165, dL_writes_78, cs_L_165, ok_L_low, rfl, rfl, Or.inl rfl, ⟨Nat.le_of_ble_eq_true rfl, Nat.le_of_ble_eq_true rfl⟩⟩
theorem lk_L_writes_112 : mLt m_L_writes m_L_turn 112 3 := ⟨152, dL_writes_112, cs_L_152, ok_L_turn, rfl, rfl, Or.inl rfl, ⟨Nat.le_of_ble_eq_true rfl, Nat.le_of_ble_eq_true rfl⟩⟩
theorem lk_L_writes_121 : mLt m_L_writes m_L_low 121 2 := ⟨165, dL_writes_121, cs_L_165, ok_L_low, rfl, rfl, Or.inl rfl, ⟨Nat.le_of_ble_eq_true rfl, Nat.le_of_ble_eq_true rfl⟩⟩
theorem lk_L_writes_136 : mLt m_L_writes m_L_key 136 1 := ⟨156, dL_writes_136, cs_L_156, ok_L_key, rfl, rfl, Or.inl rfl, ⟨Nat.le_of_ble_eq_true rfl, Nat.le_of_ble_eq_true rfl⟩⟩
theorem lk_L_writes_142 : mLt m_L_writes m_L_value 142 2 := ⟨175, dL_writes_142, cs_L_175, ok_L_value, rfl, rfl, Or.inl rfl, ⟨Nat.le_of_ble_eq_true rfl, Nat.le_of_ble_eq_true rfl⟩⟩
theorem lk_L_writes_145 : mLx m_L_writes m_L_put 145 3 := ⟨215, _, _, dL_writes_145, cs_L_215, ok_L_put, rfl, rfl, Or.inl rfl, ⟨Nat.le_of_ble_eq_true rfl, Nat.le_of_ble_eq_true rfl⟩⟩
theorem lk_L_writes_174 : mLt m_L_writes m_L_sets 174 4 := ⟨217, dL_writes_174, cs_L_217, ok_L_sets, rfl, rfl, Or.inl rfl, ⟨Nat.le_of_ble_eq_true rfl, Nat.le_of_ble_eq_true rfl⟩⟩
theorem lk_L_writes_188 : mLt m_L_writes m_L_key 188 1 := ⟨156, dL_writes_188, cs_L_156, ok_L_key, rfl, rfl, Or.inl rfl, ⟨Nat.le_of_ble_eq_true rfl, Nat.le_of_ble_eq_true rfl⟩⟩
theorem lk_L_writes_191 : mLx m_L_writes m_L_delete 191 2 := ⟨221, _, _, dL_writes_191, cs_L_221, ok_L_delete, rfl, rfl, Or.inl rfl, ⟨Nat.le_of_ble_eq_true rfl, Nat.le_of_ble_eq_true rfl⟩⟩
theorem lk_L_writes_203 : mLt m_L_writes m_L_value 203 2 := ⟨175, dL_writes_203, cs_L_175, ok_L_value, rfl, rfl, Or.inl rfl, ⟨Nat.le_of_ble_eq_true rfl, Nat.le_of_ble_eq_true rfl⟩⟩
theorem lk_L_writes_227 : mLt m_L_writes m_L_sets 227 4 := ⟨217, dL_writes_227, cs_L_217, ok_L_sets, rfl, rfl, Or.inl rfl, ⟨Nat.le_of_ble_eq_true rfl, Nat.le_of_ble_eq_true rfl⟩⟩
theorem lk_L_writes_242 : mLx m_L_writes m_L_begin 242 1 := ⟨211, _, _, dL_writes_242, cs_L_211, ok_L_begin, rfl, rfl, Or.inl rfl, ⟨Nat.le_of_ble_eq_true rfl, Nat.le_of_ble_eq_true rfl⟩⟩
theorem lk_L_writes_254 : mLx m_L_writes m_L_put 254 3 := ⟨215, _, _, dL_writes_254, cs_L_215, ok_L_put, rfl, rfl, Or.inl rfl, ⟨Nat.le_of_ble_eq_true rfl, Nat.le_of_ble_eq_true rfl⟩⟩
theorem lk_L_writes_264 : mLx m_L_writes m_L_delete 264 2 := ⟨221, _, _, dL_writes_264, cs_L_221, ok_L_delete, rfl, rfl, Or.inl rfl, ⟨Nat.le_of_ble_eq_true rfl, Nat.le_of_ble_eq_true rfl⟩⟩
theorem lk_L_reads_2 : mLt m_L_reads m_L_low 2 2 := ⟨165, dL_reads_2, cs_L_165, ok_L_low, rfl, rfl, Or.inl rfl, ⟨Nat.le_of_ble_eq_true rfl, Nat.le_of_ble_eq_true rfl⟩⟩
theorem lk_L_reads_48 : mLt m_L_reads m_L_copies 48 4 := ⟨207, dL_reads_48, cs_L_207, ok_L_copies, rfl, rfl, Or.inl rfl, ⟨Nat.le_of_ble_eq_true rfl, Nat.le_of_ble_eq_true rfl⟩⟩
theorem lk_L_reads_60 : mLx m_L_reads m_L_open 60 1 := ⟨223, _, _, dL_reads_60, cs_L_223, ok_L_open, rfl, rfl, Or.inl rfl, ⟨Nat.le_of_ble_eq_true rfl, Nat.le_of_ble_eq_true rfl⟩⟩
theorem lk_L_reads_87 : mLt m_L_reads m_L_low 87 2 := ⟨165, dL_reads_87, cs_L_165, ok_L_low, rfl, rfl, Or.inl rfl, ⟨Nat.le_of_ble_eq_true rfl, Nat.le_of_ble_eq_true rfl⟩⟩
theorem lk_L_reads_93 : mLv m_L_reads m_X3_pagesInUse 93 0 := ⟨110, dL_reads_93, cv_L_110, ok_X3_pagesInUse, rfl, rfl, Or.inl rfl, ⟨Nat.le_of_ble_eq_true rfl, Nat.le_of_ble_eq_true rfl⟩⟩
theorem lk_L_reads_101 : mLx m_L_reads m_L_heldBy 101 2 := ⟨199, _, _, dL_reads_101, cs_L_199, ok_L_heldBy, rfl, rfl, Or.inl rfl, ⟨Nat.le_of_ble_eq_true rfl, Nat.le_of_ble_eq_true rfl⟩⟩
theorem lk_L_reads_109 : mLx m_L_reads m_L_close 109 2 := ⟨226, _, _, dL_reads_109, cs_L_226, ok_L_close, rfl, rfl, Or.inl rfl, ⟨Nat.le_of_ble_eq_true rfl, Nat.le_of_ble_eq_true rfl⟩⟩
theorem lk_L_reads_158 : mLv m_L_reads m_X3_pagesInUse 158 0 := ⟨110, dL_reads_158, cv_L_110, ok_X3_pagesInUse, rfl, rfl, Or.inl rfl, ⟨Nat.le_of_ble_eq_true rfl, Nat.le_of_ble_eq_true rfl⟩⟩
theorem lk_L_tears_1 : mLv m_L_tears m_X3_pagesInUse 1 0 := ⟨110, dL_tears_1, cv_L_110, ok_X3_pagesInUse, rfl, rfl, Or.inl rfl, ⟨Nat.le_of_ble_eq_true rfl, Nat.le_of_ble_eq_true rfl⟩⟩
theorem lk_L_tears_7 : mLx m_L_tears m_L_tear 7 2 := ⟨229, _, _, dL_tears_7, cs_L_229, ok_L_tear, rfl, rfl, Or.inl rfl, ⟨Nat.le_of_ble_eq_true rfl, Nat.le_of_ble_eq_true rfl⟩⟩
theorem lk_L_tears_47 : mLv m_L_tears m_X3_pagesInUse 47 0 := ⟨110, dL_tears_47, cv_L_110, ok_X3_pagesInUse, rfl, rfl, Or.inl rfl, ⟨Nat.le_of_ble_eq_true rfl, Nat.le_of_ble_eq_true rfl⟩⟩
theorem lk_L_tears_60 : mLx m_L_tears m_L_slotWord 60 3 := ⟨126, _, _, dL_tears_60, cs_L_126, ok_L_slotWord, rfl, rfl, Or.inl rfl, ⟨Nat.le_of_ble_eq_true rfl, Nat.le_of_ble_eq_true rfl⟩⟩
theorem lk_L_ends_3 : mLt m_L_ends m_L_low 3 2 := ⟨165, dL_ends_3, cs_L_165, ok_L_low, rfl, rfl, Or.inl rfl, ⟨Nat.le_of_ble_eq_true rfl, Nat.le_of_ble_eq_true rfl⟩⟩
theorem lk_L_ends_9 : mLv m_L_ends m_X3_currentSlot 9 0 := ⟨116, dL_ends_9, cv_L_116, ok_X3_currentSlot, rfl, rfl, Or.inl rfl, ⟨Nat.le_of_ble_eq_true rfl, Nat.le_of_ble_eq_true rfl⟩⟩
theorem lk_L_ends_27 : mLv m_L_ends m_X3_crash 27 0 := ⟨231, dL_ends_27, cv_L_231, ok_X3_crash, rfl, rfl, Or.inl rfl, ⟨Nat.le_of_ble_eq_true rfl, Nat.le_of_ble_eq_true rfl⟩⟩
theorem lk_L_ends_35 : mLt m_L_ends m_L_wakes 35 5 := ⟨234, dL_ends_35, cs_L_234, ok_L_wakes, rfl, rfl, Or.inl rfl, ⟨Nat.le_of_ble_eq_true rfl, Nat.le_of_ble_eq_true rfl⟩⟩
theorem lk_L_ends_48 : mLt m_L_ends m_L_low 48 2 := ⟨165, dL_ends_48, cs_L_165, ok_L_low, rfl, rfl, Or.inl rfl, ⟨Nat.le_of_ble_eq_true rfl, Nat.le_of_ble_eq_true rfl⟩⟩
theorem lk_L_ends_56 : mLx m_L_ends m_L_crashInCommit 56 2 := ⟨238, _, _, dL_ends_56, cs_L_238, ok_L_crashInCommit, rfl, rfl, Or.inl rfl, ⟨Nat.le_of_ble_eq_true rfl, Nat.le_of_ble_eq_true rfl⟩⟩
theorem lk_L_ends_153 : mLt m_L_ends m_L_copies 153 4 := ⟨207, dL_ends_153, cs_L_207, ok_L_copies, rfl, rfl, Or.inl rfl, ⟨Nat.le_of_ble_eq_true rfl, Nat.le_of_ble_eq_true rfl⟩⟩
theorem lk_L_ends_164 : mLt m_L_ends m_L_wakes 164 5 := ⟨234, dL_ends_164, cs_L_234, ok_L_wakes, rfl, rfl, Or.inl rfl, ⟨Nat.le_of_ble_eq_true rfl, Nat.le_of_ble_eq_true rfl⟩⟩
theorem lk_L_ends_182 : mLx m_L_ends m_L_abandon 182 1 := ⟨240, _, _, dL_ends_182, cs_L_240, ok_L_abandon, rfl, rfl, Or.inl rfl, ⟨Nat.le_of_ble_eq_true rfl, Nat.le_of_ble_eq_true rfl⟩⟩
theorem lk_L_ends_189 : mLx m_L_ends m_L_commit 189 1 := ⟨242, _, _, dL_ends_189, cs_L_242, ok_L_commit, rfl, rfl, Or.inl rfl, ⟨Nat.le_of_ble_eq_true rfl, Nat.le_of_ble_eq_true rfl⟩⟩
theorem lk_L_ends_209 : mLv m_L_ends m_X3_pagesInUse 209 0 := ⟨110, dL_ends_209, cv_L_110, ok_X3_pagesInUse, rfl, rfl, Or.inl rfl, ⟨Nat.le_of_ble_eq_true rfl, Nat.le_of_ble_eq_true rfl⟩⟩
theorem lk_L_ends_221 : mLx m_L_ends m_L_abandon 221 1 := ⟨240, _, _, dL_ends_221, cs_L_240, ok_L_abandon, rfl, rfl, Or.inl rfl, ⟨Nat.le_of_ble_eq_true rfl, Nat.le_of_ble_eq_true rfl⟩⟩
theorem lk_L_ends_232 : mLv m_L_ends m_X3_pagesInUse 232 0 := ⟨110, dL_ends_232, cv_L_110, ok_X3_pagesInUse, rfl, rfl, Or.inl rfl, ⟨Nat.le_of_ble_eq_true rfl, Nat.le_of_ble_eq_true rfl⟩⟩
theorem lk_L_ends_254 : mLt m_L_ends m_L_copies 254 4 := ⟨207, dL_ends_254, cs_L_207, ok_L_copies, rfl, rfl, Or.inl rfl, ⟨Nat.le_of_ble_eq_true rfl, Nat.le_of_ble_eq_true rfl⟩⟩
theorem lk_L_ends_266 : mLt m_L_ends m_L_copies 266 4 := ⟨207, dL_ends_266, cs_L_207, ok_L_copies, rfl, rfl, Or.inl rfl, ⟨Nat.le_of_ble_eq_true rfl, Nat.le_of_ble_eq_true rfl⟩⟩
theorem lk_L_ends_279 : mLx m_L_ends m_L_commit 279 1 := ⟨242, _, _, dL_ends_279, cs_L_242, ok_L_commit, rfl, rfl, Or.inl rfl, ⟨Nat.le_of_ble_eq_true rfl, Nat.le_of_ble_eq_true rfl⟩⟩
theorem lk_L_ends_290 : mLv m_L_ends m_X3_currentSlot 290 0 := ⟨116, dL_ends_290, cv_L_116, ok_X3_currentSlot, rfl, rfl, Or.inl rfl, ⟨Nat.le_of_ble_eq_true rfl, Nat.le_of_ble_eq_true rfl⟩⟩
theorem lk_L_law_42 (q : Nat × (Nat → Int32)) : mLt (m_L_law q) m_L_isSo 42 5 := ⟨245, dL_law_42, cs_L_245, ok_L_isSo, rfl, rfl, Or.inl rfl, ⟨Nat.le_of_ble_eq_true rfl, Nat.le_of_ble_eq_true rfl⟩⟩
theorem lk_L_law_67 (q : Nat × (Nat → Int32)) : mLt (m_L_law q) (m_L_at q) 67 2 := ⟨249, dL_law_67, cs_L_249, (ok_L_at q), rfl, rfl, Or.inr rfl, ⟨Nat.le_of_ble_eq_true rfl, Nat.le_of_ble_eq_true rfl⟩⟩
theorem lk_L_law_79 (q : Nat × (Nat → Int32)) : mLt (m_L_law q) (m_L_at q) 79 2 := ⟨249, dL_law_79, cs_L_249, (ok_L_at q), rfl, rfl, Or.inr rfl, ⟨Nat.le_of_ble_eq_true rfl, Nat.le_of_ble_eq_true rfl⟩⟩
theorem lk_L_law_88 (q : Nat × (Nat → Int32)) : mLt (m_L_law q) m_L_low 88 2 := ⟨165, dL_law_88, cs_L_165, ok_L_low, rfl, rfl, Or.inl rfl, ⟨Nat.le_of_ble_eq_true rfl, Nat.le_of_ble_eq_true rfl⟩⟩
theorem lk_L_law_113 (q : Nat × (Nat → Int32)) : mLt (m_L_law q) m_L_writes 113 7 := ⟨253, dL_law_113, cs_L_253, ok_L_writes, rfl, rfl, Or.inl rfl, ⟨Nat.le_of_ble_eq_true rfl, Nat.le_of_ble_eq_true rfl⟩⟩
theorem lk_L_law_137 (q : Nat × (Nat → Int32)) : mLt (m_L_law q) m_L_reads 137 6 := ⟨257, dL_law_137, cs_L_257, ok_L_reads, rfl, rfl, Or.inl rfl, ⟨Nat.le_of_ble_eq_true rfl, Nat.le_of_ble_eq_true rfl⟩⟩
theorem lk_L_law_154 (q : Nat × (Nat → Int32)) : mLt (m_L_law q) m_L_low 154 2 := ⟨165, dL_law_154, cs_L_165, ok_L_low, rfl, rfl, Or.inl rfl, ⟨Nat.le_of_ble_eq_true rfl, Nat.le_of_ble_eq_true rfl⟩⟩
theorem lk_L_law_159 (q : Nat × (Nat → Int32)) : mLt (m_L_law q) m_L_tears 159 3 := ⟨261, dL_law_159, cs_L_261, ok_L_tears, rfl, rfl, Or.inl rfl, ⟨Nat.le_of_ble_eq_true rfl, Nat.le_of_ble_eq_true rfl⟩⟩
theorem lk_L_law_176 (q : Nat × (Nat → Int32)) : mLt (m_L_law q) m_L_ends 176 6 := ⟨265, dL_law_176, cs_L_265, ok_L_ends, rfl, rfl, Or.inl rfl, ⟨Nat.le_of_ble_eq_true rfl, Nat.le_of_ble_eq_true rfl⟩⟩
theorem lk_L_law_182 (q : Nat × (Nat → Int32)) : mLt (m_L_law q) m_L_print 182 1 := ⟨268, dL_law_182, cs_L_268, ok_L_print, rfl, rfl, Or.inl rfl, ⟨Nat.le_of_ble_eq_true rfl, Nat.le_of_ble_eq_true rfl⟩⟩
theorem lk_L_law_194 (q : Nat × (Nat → Int32)) : mLx (m_L_law q) m_L_close 194 2 := ⟨226, _, _, dL_law_194, cs_L_226, ok_L_close, rfl, rfl, Or.inl rfl, ⟨Nat.le_of_ble_eq_true rfl, Nat.le_of_ble_eq_true rfl⟩⟩
theorem lk_L_law_204 (q : Nat × (Nat → Int32)) : mLx (m_L_law q) m_L_tear 204 2 := ⟨229, _, _, dL_law_204, cs_L_229, ok_L_tear, rfl, rfl, Or.inl rfl, ⟨Nat.le_of_ble_eq_true rfl, Nat.le_of_ble_eq_true rfl⟩⟩
theorem lk_L_law_214 (q : Nat × (Nat → Int32)) : mLv (m_L_law q) m_X3_leastFree 214 0 := ⟨113, dL_law_214, cv_L_113, ok_X3_leastFree, rfl, rfl, Or.inl rfl, ⟨Nat.le_of_ble_eq_true rfl, Nat.le_of_ble_eq_true rfl⟩⟩
theorem lk_L_law_217 (q : Nat × (Nat → Int32)) : mLx (m_L_law q) m_L_entries 217 2 := ⟨138, _, _, dL_law_217, cs_L_138, ok_L_entries, rfl, rfl, Or.inl rfl, ⟨Nat.le_of_ble_eq_true rfl, Nat.le_of_ble_eq_true rfl⟩⟩
theorem lk_L_law_227 (q : Nat × (Nat → Int32)) : mLx (m_L_law q) m_L_isFree 227 2 := ⟨205, _, _, dL_law_227, cs_L_205, ok_L_isFree, rfl, rfl, Or.inl rfl, ⟨Nat.le_of_ble_eq_true rfl, Nat.le_of_ble_eq_true rfl⟩⟩
theorem lk_L_law_238 (q : Nat × (Nat → Int32)) : mLx (m_L_law q) m_L_slotWord 238 3 := ⟨126, _, _, dL_law_238, cs_L_126, ok_L_slotWord, rfl, rfl, Or.inl rfl, ⟨Nat.le_of_ble_eq_true rfl, Nat.le_of_ble_eq_true rfl⟩⟩
theorem lk_L_law_249 (q : Nat × (Nat → Int32)) : mLt (m_L_law q) m_L_print 249 1 := ⟨268, dL_law_249, cs_L_268, ok_L_print, rfl, rfl, Or.inl rfl, ⟨Nat.le_of_ble_eq_true rfl, Nat.le_of_ble_eq_true rfl⟩⟩
theorem lk_L_law_280 (q : Nat × (Nat → Int32)) : mLt (m_L_law q) m_L_isSo 280 5 := ⟨245, dL_law_280, cs_L_245, ok_L_isSo, rfl, rfl, Or.inl rfl, ⟨Nat.le_of_ble_eq_true rfl, Nat.le_of_ble_eq_true rfl⟩⟩
end
