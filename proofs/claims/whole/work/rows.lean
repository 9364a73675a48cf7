section
/-! ===== BEGIN words of one list among another's, by their places ===== -/
theorem goodIn_r {big : List Cond} (ws : List Cond) (ps : List Nat) (hp : ws = ps.filterMap (fun i => big[i]?)) (h : ws.all goodWord = true) : GoodIn big ws := by
  intro w hw
  have h1 := List.all_eq_true.mp h w hw
  rw [hp] at hw
  obtain ⟨i, -, hi⟩ := List.mem_filterMap.mp hw
  have hm : w ∈ big := by first | exact List.mem_of_getElem? hi | exact List.getElem?_mem hi
  exact ⟨hm, good_of_word h1⟩
theorem goodIn_app {big a b : List Cond} (ha : GoodIn big a) (hb : GoodIn big b) : GoodIn big (a ++ b) := fun w h => (List.mem_append.mp h).elim (ha w) (hb w)
theorem goodIn_ca {big a b : List Cond} {c : Cond} (ha : GoodIn big (c :: a)) (hb : GoodIn big b) : GoodIn big (c :: (a ++ b)) := fun w h => (List.mem_cons.mp h).elim (fun e => ha w (List.mem_cons.mpr (Or.inl e))) (fun h => (List.mem_append.mp h).elim (fun h => ha w (List.mem_cons.mpr (Or.inr h))) (hb w))
theorem goodIn_sub {big ws : List Cond} (hm : ∀ w ∈ ws, w ∈ big) (h : ws.all goodWord = true) : GoodIn big ws := fun w hw => ⟨hm w hw, good_of_word (List.all_eq_true.mp h w hw)⟩
/-! ===== END ===== -/

/-! ===== BEGIN exceptions that leave a method, and their catching by the caller (launches without stack traces) ===== -/
section VXA
/-! The laws vx_back, vx_callV, vx_callS, vx_callSW, vx_throw0, vx_throwS follow proofs of the library, with one case more: JvmDerived/Free/Laws.lean (Back.of_free), Shelf42/LK1.lean (callV, callS), Shelf/KitTraced.lean (throwNew0V, throwNewS). -/
/-- where a method has thrown q: the class by its name, the cell, what was written, the world -/
def vx_T (XC : String → State → State → Prop) (st : State) (q : Addr) (t : State) (mc ms : Nat) (free : Addr → Prop) : Prop :=
  ∃ (E : String) (ce : Cell) (L : List Loc), XC E st t ∧ t.heap[q]? = some ce ∧ ce.vm = .none ∧ st.vm.findClass E = some ce.cls ∧ st.WarmedH t.vm ∧ st.sameButNew ({ t with vm := st.vm } : State) L mc ms ∧ ∀ z ∈ L, free z.base
def vx_Q (Qc : Array Value → State → Outcome → State → Prop) (XC : String → State → State → Prop) (mc ms : Nat) (free : Addr → Prop) : Array Value → State → Outcome → State → Prop := fun a st o t =>
  (Qc a st o t ∧ ∃ L, FrameEnd st o t L mc ms ∧ ∀ q ∈ L, free q.base) ∨ ∃ q, o = .threw q ∧ vx_T XC st q t mc ms free
/-- a callee that returns or throws -/
def vx_Met (l : Launch) (y : MethodName) (ws : List Cond) (rm : Room) (Pc : Array Value → State → Prop) (Qc : Array Value → State → Outcome → State → Prop) (XC : String → State → State → Prop) (mc ms : Nat) (free : Addr → Prop) : Prop :=
  MetFree l y (headSpec ws rm) Pc (fun _ _ _ _ _ => True) (vx_Q Qc XC mc ms free)
def vx_Post (XC : String → State → State → Prop) (mc ms : Nat) (free : Addr → Prop) : Pt → Array Value → Addr → Pt → Prop := fun A a q B =>
  ∃ (g : JFrame) (mk : MethodId) (t : State) (L : List Loc) (E : String) (ce : Cell), B.U.heap = t.heap ∧ B.U.vm = t.vm ∧ XC E (A.U.calling g mk a) t ∧ t.heap[q]? = some ce ∧ ce.vm = .none ∧ A.U.vm.findClass E = some ce.cls ∧ B.locs = A.locs ++ L ∧ (∀ z ∈ L, free z.base) ∧ B.cells = A.cells + mc ∧ B.slots = A.slots + ms
def vx_Back (l : Launch) (R : Room) (p : Program) (e : Env) (below : List Frame) (s : State) (sargs : Array Value) (y : MethodName) (len W9 : Nat)
    (Pre : Pt → Array Value → Prop) (Post : Pt → Array Value → Option Value → Pt → Prop) (PostX : Pt → Array Value → Addr → Pt → Prop) : Prop :=
  ∀ (m : MethodId) (meth : Method) (c : Code) (A : Pt) (g : JFrame) (ig : Instr) (mk : MethodId) (a : Array Value),
    Stand p l e R s m sargs below meth c A.U A.locs A.cells A.slots → g.method = m → g.locals.size = c.maxLocals → decode c.code g.pc = .ok (ig, len) →
    2 * g.monitorRoom + (g.stack.map fun v => v.category).sum ≤ W9 → A.U.methodNamed? y = some mk → Pre A a →
    (∃ (v : Option Value) (B : Pt), Stand p l e R s m sargs below meth c B.U B.locs B.cells B.slots ∧ Post A a v B ∧
      Steps p.tables e below (doInvoke e (A.U.setTop g) [] mk a).1 (B.U.setTop { g with pc := g.pc + len, stack := v.toList ++ g.stack })) ∨
    (∃ (q : Addr) (B : Pt), Stand p l e R s m sargs below meth c B.U B.locs B.cells B.slots ∧ PostX A a q B ∧
      Steps p.tables e below (doInvoke e (A.U.setTop g) [] mk a).1 ((B.U.setTop g).pushFrame (.throwing q)))
section Payer
variable {l : Launch} {R : Room} {p : Program} {e : Env} {below : List Frame} {s : State} {sargs : Array Value} {y : MethodName} {len W9 : Nat}
theorem vx_back {ws : List Cond} {rm : Room} {Pc : Array Value → State → Prop} {Qc : Array Value → State → Outcome → State → Prop} {XC : String → State → State → Prop} {mc ms : Nat} {free : Addr → Prop} {bytes : ByteArray} {maxL : Nat} {ret : Option FieldType}
    (hM : vx_Met l y ws rm Pc Qc XC mc ms free) (hblind : FrameBlind Pc) (hrc : rm.cells = mc) (hrs : rm.slots = ms)
    (hframes : rm.frames + 1 ≤ R.frames) (hlocals : W9 + (maxL + 11) + rm.locals ≤ R.locals)
    (hws : ∀ w ∈ ws, ∀ a' U, s.WarmedH U.vm → w.before a' U = true) (hcode : Cond.code y bytes maxL ret ∈ ws) (hinit : ∀ a' U, s.WarmedH U.vm → (Cond.initialized y.cls).before a' U = true) :
    vx_Back l R p e below s sargs y len W9 (PreOf R mc ms Pc) (PostOf Qc mc ms free) (vx_Post XC mc ms free) := by
  intro m meth c A g ig mk a X hg hsize hdg hW hn hp
  have h1 : (headSpec ws rm).pre.before a A.U = true := atoms_intro fun w hw => hws w hw _ _ X.warmed
  have h2 : (Cond.code y bytes maxL ret).before a A.U = true := hws _ hcode _ _ X.warmed
  have h3 : (Cond.initialized y.cls).before a A.U = true := hinit _ _ X.warmed
  have h4 : A.cells + (headSpec ws rm).room.cells ≤ R.cells := by rw [show (headSpec ws rm).room.cells = mc from hrc]; exact hp.1
  have h5 : A.slots + (headSpec ws rm).room.slots ≤ R.slots := by rw [show (headSpec ws rm).room.slots = ms from hrs]; exact hp.2.1
  have hPc : Pc a (A.U.calling g mk a) := hblind _ _ _ _ hp.2.2
  obtain ⟨U, Ls, c0, s0⟩ := A
  dsimp only [Pt.U, Pt.locs, Pt.cells, Pt.slots] at h1 h2 h3 h4 h5 X hn hPc ⊢
  obtain ⟨methY, cY, hmY, hcY, -, hlY, -, -, -, -⟩ := Cond.code_spec hn h2
  obtain ⟨kY, hkY, -⟩ := className_of_methodNamed hn
  have hinitY : kY.init = .initialized := Cond.initialized_spec (findClass_of_methodNamed hn) hkY h3
  have h : At U g.method c below := by rw [hg]; exact X.here
  have hlocals9 : W9 + (maxL + 11) + (headSpec ws rm).room.locals ≤ R.locals := hlocals
  have happ : (headSpec ws rm).appliesLoose y e.platform (U.calling g mk a) = true :=
    Spec.appliesLoose_calling (g := g) h hdg hn hkY hinitY
      (X.room_calling (g := g) (R' := (headSpec ws rm).room) hsize hmY hcY hframes (by rw [hlY]; omega) h4 h5) h1
  obtain ⟨mid, hmid⟩ := h.above
  have hfr : (U.setTop g).frames = (.java g :: mid) ++ below := by rw [State.frames_setTop' g h.top, hmid]; rfl
  obtain ⟨o, s₂, hsteps, -, hend, hq⟩ := Steps.callFree hM p X.admits X.cas X.clock (acts := []) hfr happ hPc trivial
  have hq' : vx_Q Qc XC mc ms free a (U.calling g mk a) o s₂ := hq
  rw [State.frames_setTop' g h.top] at hend
  obtain ⟨g₀, hg0⟩ := Option.isSome_iff_exists.mp h.top
  obtain ⟨r, hr⟩ := State.topJava?_eq_some.mp hg0
  have hr' : (({ U with heap := s₂.heap, slotsUsed := s₂.slotsUsed } : State).setVm s₂.vm).frames = .java g₀ :: r := hr
  rcases hq' with ⟨hqc, L, hfe, hL⟩ | ⟨q, rfl, E, ce, L, hx, hce, hcv, hcl, hW₂, hsm, hL⟩
  · obtain ⟨⟨v, rfl⟩, hW₂, e2, q2, q3, q4, q5, q6⟩ := id hfe
    have e3 : s₂ = ({ (U.calling g mk a).setFrames s₂.frames with heap := s₂.heap, slotsUsed := s₂.slotsUsed } : State).setVm s₂.vm := by
      have : s₂ = ({ s₂ with vm := (U.calling g mk a).vm } : State).setVm s₂.vm := rfl
      rw [e2] at this
      exact this
    obtain ⟨c₂, i₂, len₂, hc₂, hd₂, hf₂⟩ := hend
    have hW' : U.WarmedH s₂.vm := hW₂
    have hcc : c₂ = c := by
      have h1 : s₂.code? g.method = U.code? g.method := by
        rw [State.code?_eq, State.code?_eq, hW'.alike.method?]
      exact Option.some.inj (hc₂.symm.trans (h1.trans h.code))
    subst hcc
    have hlen : len₂ = len := by rw [hdg] at hd₂; cases hd₂; rfl
    subst hlen
    have hs₂ : s₂ = (({ U with heap := s₂.heap, slotsUsed := s₂.slotsUsed } : State).setVm s₂.vm).setTop { g with pc := g.pc + len₂, stack := v.toList ++ g.stack } := by
      refine e3.trans ?_
      rw [hf₂, State.calling_eq h.top, State.setFrames_setFrames, State.setTop_of_frames _ hr', hr]
      rfl
    have hsame : U.sameButNew ({ U with heap := s₂.heap, slotsUsed := s₂.slotsUsed } : State) L mc ms := by
      refine ⟨?_, q2, q3, q4, q5, q6⟩
      obtain ⟨t, ht, -⟩ := State.frames_cons hr
      show ({ U with heap := s₂.heap, slotsUsed := s₂.slotsUsed } : State) = { U.setFrames U.frames with heap := s₂.heap, slotsUsed := s₂.slotsUsed }
      rw [State.setFrames_self ht]
    subst hg
    refine Or.inl ⟨v, ⟨(({ U with heap := s₂.heap, slotsUsed := s₂.slotsUsed } : State).setVm s₂.vm), Ls ++ L, c0 + mc, s0 + ms⟩,
      ⟨X.admits, X.cas, X.clock, X.frames, X.room, X.hears, X.method, X.code, (X.here.setHeapUsed s₂.heap s₂.slotsUsed).setVm hW'.alike, X.tail, State.WarmedH.trans X.warmed hW', X.limits, X.bytes, X.same.trans (hsame.setVm s.vm)⟩,
      ⟨g, mk, s₂, L, rfl, rfl, hqc, rfl, hL, rfl, rfl⟩, ?_⟩
    show Steps p.tables e below _ ((({ U with heap := s₂.heap, slotsUsed := s₂.slotsUsed } : State).setVm s₂.vm).setTop { g with pc := g.pc + len₂, stack := v.toList ++ g.stack })
    rw [← hs₂]
    exact hsteps
  · obtain ⟨e2, q2, q3, q4, q5, q6⟩ := id hsm
    have e3 : s₂ = ({ (U.calling g mk a).setFrames s₂.frames with heap := s₂.heap, slotsUsed := s₂.slotsUsed } : State).setVm s₂.vm := by
      have : s₂ = ({ s₂ with vm := (U.calling g mk a).vm } : State).setVm s₂.vm := rfl
      rw [e2] at this
      exact this
    have hf₂ : s₂.frames = .throwing q :: .java g :: U.frames.tail := hend
    have hW' : U.WarmedH s₂.vm := hW₂
    have hs₂ : s₂ = ((({ U with heap := s₂.heap, slotsUsed := s₂.slotsUsed } : State).setVm s₂.vm).setTop g).pushFrame (.throwing q) := by
      refine e3.trans ?_
      rw [hf₂, State.calling_eq h.top, State.setFrames_setFrames, State.pushFrame, State.frames_setTop _ hr', State.setTop_of_frames _ hr', State.setFrames_setFrames, hr]
      rfl
    have hsame : U.sameButNew ({ U with heap := s₂.heap, slotsUsed := s₂.slotsUsed } : State) L mc ms := by
      refine ⟨?_, q2, q3, q4, q5, q6⟩
      obtain ⟨t, ht, -⟩ := State.frames_cons hr
      show ({ U with heap := s₂.heap, slotsUsed := s₂.slotsUsed } : State) = { U.setFrames U.frames with heap := s₂.heap, slotsUsed := s₂.slotsUsed }
      rw [State.setFrames_self ht]
    subst hg
    refine Or.inr ⟨q, ⟨(({ U with heap := s₂.heap, slotsUsed := s₂.slotsUsed } : State).setVm s₂.vm), Ls ++ L, c0 + mc, s0 + ms⟩,
      ⟨X.admits, X.cas, X.clock, X.frames, X.room, X.hears, X.method, X.code, (X.here.setHeapUsed s₂.heap s₂.slotsUsed).setVm hW'.alike, X.tail, State.WarmedH.trans X.warmed hW', X.limits, X.bytes, X.same.trans (hsame.setVm s.vm)⟩,
      ⟨g, mk, s₂, L, E, ce, rfl, rfl, hx, hce, hcv, hcl, rfl, hL, rfl, rfl⟩, ?_⟩
    show Steps p.tables e below _ (((({ U with heap := s₂.heap, slotsUsed := s₂.slotsUsed } : State).setVm s₂.vm).setTop g).pushFrame (.throwing q))
    rw [← hs₂]
    exact hsteps
end Payer
section Calls
variable {p : Program} {l : Launch} {e : Env} {R : Room} {s : State} {m : MethodId} {args : Array Value} {below : List Frame} {meth : Method} {c : Code} {T : State} {locs : List Loc} {cells slots : Nat}
theorem vx_callV (X : Stand p l e R s m args below meth c T locs cells slots) (hexec : p.tables.exec = Jvm.exec) {own C : String} {index : Nat} {y : MethodName} {bytes : ByteArray} {maxL : Nat} {ret : Option FieldType}
    (hown : s.vm.findClass own = some m.cls) (hlink : (Cond.methodLink own index y).before args s = true) (hinst : (Cond.instanceMethod y).before args s = true) (hsel : (Cond.selects C y y).before args s = true)
    (hcode : (Cond.code y bytes maxL ret).before args s = true) (hy : y.cls ≠ "java/lang/invoke/MethodHandle" ∧ y.cls ≠ "java/lang/invoke/VarHandle")
    {W9 : Nat} {Pre : Pt → Array Value → Prop} {Post : Pt → Array Value → Option Value → Pt → Prop} {PostX : Pt → Array Value → Addr → Pt → Prop} (hK : vx_Back l R p e below s args y 3 W9 Pre Post PostX)
    {b : Addr} {cellB : Cell} (hcell : T.heap[b]? = some cellB) (hobj : cellB.vm.isStatics = false) (hcls : s.vm.findClass C = some cellB.cls)
    {g : JFrame} (hg : g.method = m) (hsize : g.locals.size = c.maxLocals) {argsL rest : List Value} (hlen : ∀ sig, parseMethodDescriptor y.desc = some sig → argsL.length = sig.parameters.length)
    (hstack : g.stack = argsL.reverse ++ .ref b :: rest) (hW : 2 * g.monitorRoom + (rest.map fun v => v.category).sum ≤ W9) (hdg : decode c.code g.pc = .ok (.invokevirtual index, 3))
    (hpre : ∀ vm₁, s.WarmedH vm₁ → Pre ⟨T.setVm vm₁, locs, cells, slots⟩ (Value.ref b :: argsL).toArray) :
    (∃ (v : Option Value) (vm₁ : Vm) (B : Pt), s.WarmedH vm₁ ∧ Stand p l e R s m args below meth c B.U B.locs B.cells B.slots ∧ Post ⟨T.setVm vm₁, locs, cells, slots⟩ (Value.ref b :: argsL).toArray v B ∧
      ∀ target, Steps p.tables e below (B.U.setTop { g with pc := g.pc + 3, stack := v.toList ++ rest }) target → Steps p.tables e below (T.setTop g) target) ∨
    (∃ (q : Addr) (vm₁ : Vm) (B : Pt), s.WarmedH vm₁ ∧ Stand p l e R s m args below meth c B.U B.locs B.cells B.slots ∧ PostX ⟨T.setVm vm₁, locs, cells, slots⟩ (Value.ref b :: argsL).toArray q B ∧
      Steps p.tables e below (T.setTop g) ((B.U.setTop { g with stack := rest }).pushFrame (.throwing q))) := by
  obtain ⟨mk, methM, hnamed, hmethM, hstM, habM⟩ := Cond.instanceMethod_spec hinst
  obtain ⟨methM', cM, hmethM', -, -, -, -, -, -, hsigM⟩ := Cond.code_spec hnamed hcode
  cases hmethM.symm.trans hmethM'
  obtain ⟨c2, r2, m2, q1, q2, q3, q4, kP, hkP, hkPi⟩ := Cond.selects_spec hsel
  cases hcls.symm.trans q1
  cases (State.methodFound?_of_named hnamed hy).symm.trans q2
  cases hnamed.symm.trans q3
  have hselP : selectMethod e.platform s.vm cellB.cls mk = .method mk := by rw [Launch.admits_selectMethod X.admits]; exact q4
  obtain ⟨vm₁, X₁, hstep₁⟩ := X.invokevirtual hexec hown hlink hnamed hmethM hstM hkP hkPi hy (a := b) (cell := cellB) hcell
    (fun z h => by rw [h] at hobj; cases hobj) hselP hmethM habM hkP hkPi (g := g) hg (argsL := argsL) (rest := rest) (hlen _ hsigM) hstack hdg
  rcases hK m meth c ⟨T.setVm vm₁, locs, cells, slots⟩ { g with stack := rest } (.invokevirtual index) mk (Value.ref b :: argsL).toArray X₁ hg hsize hdg hW (X₁.named hnamed) (hpre vm₁ X₁.warmed) with ⟨v, B, X', hpost, hsteps⟩ | ⟨q, B, X', hpost, hsteps⟩
  · exact Or.inl ⟨v, vm₁, B, X₁.warmed, X', hpost, fun target h => hstep₁ _ fun acts => by rw [doInvoke_state]; exact hsteps.trans h⟩
  · exact Or.inr ⟨q, vm₁, B, X₁.warmed, X', hpost, hstep₁ _ fun acts => by rw [doInvoke_state]; exact hsteps⟩
theorem vx_callS (X : Stand p l e R s m args below meth c T locs cells slots) (hexec : p.tables.exec = Jvm.exec) {own : String} {index : Nat} {y : MethodName} {bytes : ByteArray} {maxL : Nat} {ret : Option FieldType}
    (hown : s.vm.findClass own = some m.cls) (hlink : (Cond.methodLink own index y).before args s = true) (hstat : (Cond.static y).before args s = true) (hinit : (Cond.initialized y.cls).before args s = true)
    (hcode : (Cond.code y bytes maxL ret).before args s = true) (hy : y.cls ≠ "java/lang/invoke/MethodHandle" ∧ y.cls ≠ "java/lang/invoke/VarHandle")
    {W9 : Nat} {Pre : Pt → Array Value → Prop} {Post : Pt → Array Value → Option Value → Pt → Prop} {PostX : Pt → Array Value → Addr → Pt → Prop} (hK : vx_Back l R p e below s args y 3 W9 Pre Post PostX)
    {g : JFrame} (hg : g.method = m) (hsize : g.locals.size = c.maxLocals) {argsL rest : List Value} (hlen : ∀ sig, parseMethodDescriptor y.desc = some sig → argsL.length = sig.parameters.length)
    (hstack : g.stack = argsL.reverse ++ rest) (hW : 2 * g.monitorRoom + (rest.map fun v => v.category).sum ≤ W9) (hdg : decode c.code g.pc = .ok (.invokestatic index, 3))
    (hpre : ∀ vm₁, s.WarmedH vm₁ → Pre ⟨T.setVm vm₁, locs, cells, slots⟩ argsL.toArray) :
    (∃ (v : Option Value) (vm₁ : Vm) (B : Pt), s.WarmedH vm₁ ∧ Stand p l e R s m args below meth c B.U B.locs B.cells B.slots ∧ Post ⟨T.setVm vm₁, locs, cells, slots⟩ argsL.toArray v B ∧
      ∀ target, Steps p.tables e below (B.U.setTop { g with pc := g.pc + 3, stack := v.toList ++ rest }) target → Steps p.tables e below (T.setTop g) target) ∨
    (∃ (q : Addr) (vm₁ : Vm) (B : Pt), s.WarmedH vm₁ ∧ Stand p l e R s m args below meth c B.U B.locs B.cells B.slots ∧ PostX ⟨T.setVm vm₁, locs, cells, slots⟩ argsL.toArray q B ∧
      Steps p.tables e below (T.setTop g) ((B.U.setTop { g with stack := rest }).pushFrame (.throwing q))) := by
  obtain ⟨mk, hnamed⟩ := Cond.code_named hcode
  obtain ⟨methM, cM, hmethM, -, -, -, -, -, -, hsigM⟩ := Cond.code_spec hnamed hcode
  have hstatic : methM.isStatic = true := Cond.static_spec hnamed hmethM hstat
  obtain ⟨kP, hkP, -⟩ := className_of_methodNamed hnamed
  have hinitP : kP.init = .initialized := Cond.initialized_spec (findClass_of_methodNamed hnamed) hkP hinit
  obtain ⟨vm₁, X₁, hstep₁⟩ := X.invokestatic hexec hown hlink hnamed hmethM hstatic hkP hinitP hy (g := g) hg (argsL := argsL) (rest := rest) (hlen _ hsigM) hstack hdg
  rcases hK m meth c ⟨T.setVm vm₁, locs, cells, slots⟩ { g with stack := rest } (.invokestatic index) mk argsL.toArray X₁ hg hsize hdg hW (X₁.named hnamed) (hpre vm₁ X₁.warmed) with ⟨v, B, X', hpost, hsteps⟩ | ⟨q, B, X', hpost, hsteps⟩
  · exact Or.inl ⟨v, vm₁, B, X₁.warmed, X', hpost, fun target h => hstep₁ _ fun acts => by rw [doInvoke_state]; exact hsteps.trans h⟩
  · exact Or.inr ⟨q, vm₁, B, X₁.warmed, X', hpost, hstep₁ _ fun acts => by rw [doInvoke_state]; exact hsteps⟩
end Calls
theorem vx_cls {s : State} {T : State} {vm₁ : Vm} {E : String} {k : ClassId} (hW : s.WarmedH vm₁) (h : (T.setVm vm₁).vm.findClass E = some k) : s.vm.findClass E = some k := by
  have h1 : vm₁.findClass E = some k := h
  rw [hW.alike.findClass] at h1
  exact h1
/-- the method's frame g, with q thrown over it -/
def vx_W (p : Program) (l : Launch) (e : Env) (R : Room) (s : State) (m : MethodId) (args : Array Value) (below : List Frame) (meth : Method) (c : Code) (H : Heap) (locs : List Loc) (cells slots : Nat) (Q : State → Prop) (g : JFrame) (q : Addr) : Prop :=
  ∀ T : State, T.heap = H → Stand p l e R s m args below meth c T locs cells slots → ∃ t, Steps p.tables e below ((T.setTop g).pushFrame (.throwing q)) t ∧ Q t
def vx_Run (p : Program) (l : Launch) (e : Env) (R : Room) (s : State) (m : MethodId) (args : Array Value) (below : List Frame) (meth : Method) (c : Code) (H : Heap) (locs : List Loc) (cells slots mc ms : Nat) (g : JFrame) (rest : List Value) (Qa : State → Outcome → State → Prop) (XC : String → State → State → Prop) (free : Addr → Prop) : Prop :=
  ∀ T : State, T.heap = H → Stand p l e R s m args below meth c T locs cells slots →
    (∃ (v : Option Value) (st₀ t T' : State) (L : List Loc), st₀.heap = H ∧ Stand p l e R s m args below meth c T' (locs ++ L) (cells + mc) (slots + ms) ∧ (∀ q ∈ L, free q.base) ∧ T'.heap = t.heap ∧ T'.vm = t.vm ∧ Qa st₀ (.returned v) t ∧
      Goes p e below T g T' { g with pc := g.pc + 3, stack := v.toList ++ rest }) ∨
    (∃ (q : Addr) (st₀ t T' : State) (L : List Loc) (E : String) (ce : Cell), st₀.heap = H ∧ Stand p l e R s m args below meth c T' (locs ++ L) (cells + mc) (slots + ms) ∧ (∀ z ∈ L, free z.base) ∧ T'.heap = t.heap ∧ T'.vm = t.vm ∧ XC E st₀ t ∧ t.heap[q]? = some ce ∧ ce.vm = .none ∧ s.vm.findClass E = some ce.cls ∧
      Steps p.tables e below (T.setTop g) ((T'.setTop { g with stack := rest }).pushFrame (.throwing q)))
def vx_X {S : Type} (px : S → Prop) (B : String → S → State → Prop) (A : Nat → Prop) : String → State → State → Prop := fun E st t => ∃ u : S, px u ∧ B E u t ∧ va_F A st t
section Runs
variable {p : Program} {l : Launch} {e : Env} {R : Room} {s : State} {m : MethodId} {args : Array Value} {below : List Frame} {meth : Method} {c : Code} {H : Heap} {locs : List Loc} {cells slots : Nat}
variable {y : MethodName} {bytes cc : ByteArray} {maxL nL mc ms n index : Nat} {ret : Option FieldType} {ws : List Cond} {rm : Room} {Pc : Array Value → State → Prop} {Qc : Array Value → State → Outcome → State → Prop} {XC : String → State → State → Prop} {free : Addr → Prop} {Ts : List Cond} {own C : String} {b : Addr} {As rest : List Value} {g : JFrame}
theorem vx_callBack (cb : CallB R s args own index y bytes maxL ret ws rm mc ms n) (hM : vx_Met l y ws rm Pc Qc XC mc ms free) (hbl : FrameBlind Pc) : vx_Back l R p e below s args y 3 8 (PreOf R mc ms Pc) (PostOf Qc mc ms free) (vx_Post XC mc ms free) := by
  obtain ⟨hrc, hrs, hfr, hlo, hws, hcw, -, hini, -⟩ := cb
  exact vx_back (bytes := bytes) (maxL := maxL) (ret := ret) hM hbl hrc hrs hfr hlo hws hcw (fun a' U hW => word_at hW (Or.inl (by first | rfl | simp [Cond.onTables, Cond.keeps, Cond.steady])) hini)
theorem vx_runV (S : CallFix p m c cc nL s args Ts own) (hM : vx_Met l y ws rm Pc Qc XC mc ms free) (cw : CallW R s args own C index y bytes maxL ret ws rm mc ms n) (hp : PreV s H C b Pc As)
    (hg : g.method = m) (hn : As.length = n) (hsize : g.locals.size = nL) (hstack : g.stack = As.reverse ++ .ref b :: rest) (hW : 2 * g.monitorRoom + (rest.map fun v => v.category).sum ≤ 8) (hdg : decode cc g.pc = .ok (.invokevirtual index, 3)) (hf : cells + mc ≤ R.cells ∧ slots + ms ≤ R.slots) :
    vx_Run p l e R s m args below meth c H locs cells slots mc ms g rest (Qc (Value.ref b :: As).toArray) XC free := by
  have hK : vx_Back l R p e below s args y 3 8 (PreOf R mc ms Pc) (PostOf Qc mc ms free) (vx_Post XC mc ms free) := vx_callBack cw.1 hM hp.1
  obtain ⟨⟨-, -, -, -, -, -, hcode, -, hy, hlen, hl⟩, hin, hse⟩ := cw
  obtain ⟨hx, hb, hml, ho, -⟩ := S
  obtain ⟨-, ⟨cellB, hcB, hoB, hclB⟩, hPc⟩ := hp
  intro T hT X
  rcases vx_callV X hx (C := C) (bytes := bytes) (maxL := maxL) (ret := ret) ho hl hin hse hcode hy hK (by rw [hT]; exact hcB) hoB hclB hg (hsize.trans hml.symm) (argsL := As) (rest := rest) (fun sig h => hn.trans (hlen sig h)) hstack hW (by rw [hb]; exact hdg)
    (fun vm₁ hW₁ => ⟨hf.1, hf.2, hPc (T.setVm vm₁) hT hW₁⟩) with ⟨v, vm₁, ⟨U', l2, c2, s2⟩, hW₁, X', ⟨g', mk, t, L, e1, e2, hq, h1, hL, h2, h3⟩, st⟩ | ⟨q, vm₁, ⟨U', l2, c2, s2⟩, hW₁, X', ⟨g', mk, t, L, E, ce, e1, e2, hq, hce, hcv, hcl, h1, hL, h2, h3⟩, st⟩
  · dsimp only [Pt.U, Pt.locs, Pt.cells, Pt.slots] at X' e1 e2 h1 h2 h3 st
    subst h1; subst h2; subst h3
    exact Or.inl ⟨v, (T.setVm vm₁).calling g' mk (Value.ref b :: As).toArray, t, U', L, hT, X', hL, e1, e2, hq, st⟩
  · dsimp only [Pt.U, Pt.locs, Pt.cells, Pt.slots] at X' e1 e2 h1 h2 h3 st hcl
    subst h1; subst h2; subst h3
    exact Or.inr ⟨q, (T.setVm vm₁).calling g' mk (Value.ref b :: As).toArray, t, U', L, E, ce, hT, X', hL, e1, e2, hq, hce, hcv, vx_cls hW₁ hcl, st⟩
theorem vx_runS (S : CallFix p m c cc nL s args Ts own) (hM : vx_Met l y ws rm Pc Qc XC mc ms free) (cw : CallB R s args own index y bytes maxL ret ws rm mc ms n ∧ (Cond.static y).before args s = true) (hp : PreS s H Pc As)
    (hg : g.method = m) (hn : As.length = n) (hsize : g.locals.size = nL) (hstack : g.stack = As.reverse ++ rest) (hW : 2 * g.monitorRoom + (rest.map fun v => v.category).sum ≤ 8) (hdg : decode cc g.pc = .ok (.invokestatic index, 3)) (hf : cells + mc ≤ R.cells ∧ slots + ms ≤ R.slots) :
    vx_Run p l e R s m args below meth c H locs cells slots mc ms g rest (Qc As.toArray) XC free := by
  have hK : vx_Back l R p e below s args y 3 8 (PreOf R mc ms Pc) (PostOf Qc mc ms free) (vx_Post XC mc ms free) := vx_callBack cw.1 hM hp.1
  obtain ⟨⟨-, -, -, -, -, -, hcode, hini, hy, hlen, hl⟩, hstt⟩ := cw
  obtain ⟨hx, hb, hml, ho, -⟩ := S
  intro T hT X
  rcases vx_callS X hx (bytes := bytes) (maxL := maxL) (ret := ret) ho hl hstt hini hcode hy hK hg (hsize.trans hml.symm) (argsL := As) (rest := rest) (fun sig h => hn.trans (hlen sig h)) hstack hW (by rw [hb]; exact hdg)
    (fun vm₁ hW₁ => ⟨hf.1, hf.2, hp.2 (T.setVm vm₁) hT hW₁⟩) with ⟨v, vm₁, ⟨U', l2, c2, s2⟩, hW₁, X', ⟨g', mk, t, L, e1, e2, hq, h1, hL, h2, h3⟩, st⟩ | ⟨q, vm₁, ⟨U', l2, c2, s2⟩, hW₁, X', ⟨g', mk, t, L, E, ce, e1, e2, hq, hce, hcv, hcl, h1, hL, h2, h3⟩, st⟩
  · dsimp only [Pt.U, Pt.locs, Pt.cells, Pt.slots] at X' e1 e2 h1 h2 h3 st
    subst h1; subst h2; subst h3
    exact Or.inl ⟨v, (T.setVm vm₁).calling g' mk As.toArray, t, U', L, hT, X', hL, e1, e2, hq, st⟩
  · dsimp only [Pt.U, Pt.locs, Pt.cells, Pt.slots] at X' e1 e2 h1 h2 h3 st hcl
    subst h1; subst h2; subst h3
    exact Or.inr ⟨q, (T.setVm vm₁).calling g' mk As.toArray, t, U', L, E, ce, hT, X', hL, e1, e2, hq, hce, hcv, vx_cls hW₁ hcl, st⟩
end Runs
section Rows
variable {p : Program} {l : Launch} {e : Env} {R : Room} {s : State} {m : MethodId} {args : Array Value} {below : List Frame} {meth : Method} {c : Code} {H : Heap} {locs : List Loc} {cells slots : Nat} {Q : State → Prop}
variable {mc ms : Nat} {free : Addr → Prop} {A0 A1 : Nat → Prop} {H0 : Heap} {a : Array Value} {pc : Nat} {ls : Array Slot} {st0 rest : List Value}
theorem vx_keep {st₀ t T' : State} {L : List Loc} (h0 : st₀.heap = H) (e1 : T'.heap = t.heap) (hS : va_S A0 H0 H locs) (hA : ∀ q, q < H.size → A1 q → A0 q) (hf : ∀ q, free q → A0 q) (hL : ∀ q ∈ L, free q.base) (hF : va_F A1 st₀ t) :
    H.size ≤ T'.heap.size ∧ (∀ q : Nat, q < H.size → ¬ A1 q → T'.heap[q]? = H[q]?) ∧ va_S A0 H0 T'.heap (locs ++ L) := by
  obtain ⟨hz, hk⟩ := hF
  rw [h0] at hz hk
  exact ⟨by rw [e1]; exact hz, fun q h1 h2 => by rw [e1]; exact hk q h1 h2,
    ⟨Nat.le_trans hS.1 (by rw [e1]; exact hz), fun q h1 h2 => by rw [e1, hk q (Nat.lt_of_lt_of_le h1 hS.1) (fun z => h2 (hA q (Nat.lt_of_lt_of_le h1 hS.1) z))]; exact hS.2.1 q h1 h2, fun q hq => by
      rcases List.mem_append.mp hq with h | h
      · exact hS.2.2 q h
      · exact hf _ (hL q h)⟩⟩
theorem vx_calli {S SX : Type} {post : Int32 → S → Prop} {px : SX → Prop} {B : S → State → Prop} {BX : String → SX → State → Prop} {AX : Nat → Prop} (hr : vx_Run p l e R s m args below meth c H locs cells slots mc ms (F0 m pc ls st0) rest (va_Qi post B A1 a) (vx_X px BX AX) free) (hS : va_S A0 H0 H locs) (hA : ∀ q, q < H.size → A1 q → A0 q) (hf : ∀ q, free q → A0 q) (hAX : ∀ q, q < H.size → AX q → A0 q)
    (kx : ∀ (E : String) (ce : Cell) (q9 : Addr) (u : SX) (t : State) (H1 : Heap) (locs1 : List Loc), t.heap = H1 → s.vm.Alike t.vm → px u → BX E u t → H.size ≤ H1.size → (∀ q : Nat, q < H.size → ¬ AX q → H1[q]? = H[q]?) → va_S A0 H0 H1 locs1 → H1[q9]? = some ce → ce.vm = .none → s.vm.findClass E = some ce.cls → vx_W p l e R s m args below meth c H1 locs1 (cells + mc) (slots + ms) Q (F0 m pc ls rest) q9)
    (kk : ∀ (r : Int32) (u : S) (t : State) (H1 : Heap) (locs1 : List Loc), t.heap = H1 → s.vm.Alike t.vm → post r u → B u t → H.size ≤ H1.size → (∀ q : Nat, q < H.size → ¬ A1 q → H1[q]? = H[q]?) → va_S A0 H0 H1 locs1 → W p l e R s m args below meth c H1 locs1 (cells + mc) (slots + ms) Q (F0 m (pc + 3) ls (.int r :: rest))) : W p l e R s m args below meth c H locs cells slots Q (F0 m pc ls st0) := by
  intro T hT X
  rcases hr T hT X with ⟨v, st₀, t, T', L, h0, X', hL, e1, e2, ⟨⟨r, u, hv, hp, hb⟩, hF⟩, st⟩ | ⟨q, st₀, t, T', L, E, ce, h0, X', hL, e1, e2, ⟨u, hp, hb, hF⟩, hce, hcv, hcl, st⟩
  · cases hv
    obtain ⟨k1, k2, k3⟩ := vx_keep h0 e1 hS hA hf hL hF
    obtain ⟨t2, a1, b1⟩ := kk r u t T'.heap (locs ++ L) e1.symm (by rw [← e2]; exact X'.warmed.alike) hp hb k1 k2 k3 T' rfl X'
    exact ⟨t2, st t2 a1, b1⟩
  · obtain ⟨k1, k2, k3⟩ := vx_keep h0 e1 hS hAX hf hL hF
    obtain ⟨t2, a1, b1⟩ := kx E ce q u t T'.heap (locs ++ L) e1.symm (by rw [← e2]; exact X'.warmed.alike) hp hb k1 k2 k3 (by rw [e1]; exact hce) hcv hcl T' rfl X'
    exact ⟨t2, st.trans a1, b1⟩
theorem vx_calll {S SX : Type} {post : Int64 → S → Prop} {px : SX → Prop} {B : S → State → Prop} {BX : String → SX → State → Prop} {AX : Nat → Prop} (hr : vx_Run p l e R s m args below meth c H locs cells slots mc ms (F0 m pc ls st0) rest (va_Ql post B A1 a) (vx_X px BX AX) free) (hS : va_S A0 H0 H locs) (hA : ∀ q, q < H.size → A1 q → A0 q) (hf : ∀ q, free q → A0 q) (hAX : ∀ q, q < H.size → AX q → A0 q)
    (kx : ∀ (E : String) (ce : Cell) (q9 : Addr) (u : SX) (t : State) (H1 : Heap) (locs1 : List Loc), t.heap = H1 → s.vm.Alike t.vm → px u → BX E u t → H.size ≤ H1.size → (∀ q : Nat, q < H.size → ¬ AX q → H1[q]? = H[q]?) → va_S A0 H0 H1 locs1 → H1[q9]? = some ce → ce.vm = .none → s.vm.findClass E = some ce.cls → vx_W p l e R s m args below meth c H1 locs1 (cells + mc) (slots + ms) Q (F0 m pc ls rest) q9)
    (kk : ∀ (r : Int64) (u : S) (t : State) (H1 : Heap) (locs1 : List Loc), t.heap = H1 → s.vm.Alike t.vm → post r u → B u t → H.size ≤ H1.size → (∀ q : Nat, q < H.size → ¬ A1 q → H1[q]? = H[q]?) → va_S A0 H0 H1 locs1 → W p l e R s m args below meth c H1 locs1 (cells + mc) (slots + ms) Q (F0 m (pc + 3) ls (.long r :: rest))) : W p l e R s m args below meth c H locs cells slots Q (F0 m pc ls st0) := by
  intro T hT X
  rcases hr T hT X with ⟨v, st₀, t, T', L, h0, X', hL, e1, e2, ⟨⟨r, u, hv, hp, hb⟩, hF⟩, st⟩ | ⟨q, st₀, t, T', L, E, ce, h0, X', hL, e1, e2, ⟨u, hp, hb, hF⟩, hce, hcv, hcl, st⟩
  · cases hv
    obtain ⟨k1, k2, k3⟩ := vx_keep h0 e1 hS hA hf hL hF
    obtain ⟨t2, a1, b1⟩ := kk r u t T'.heap (locs ++ L) e1.symm (by rw [← e2]; exact X'.warmed.alike) hp hb k1 k2 k3 T' rfl X'
    exact ⟨t2, st t2 a1, b1⟩
  · obtain ⟨k1, k2, k3⟩ := vx_keep h0 e1 hS hAX hf hL hF
    obtain ⟨t2, a1, b1⟩ := kx E ce q u t T'.heap (locs ++ L) e1.symm (by rw [← e2]; exact X'.warmed.alike) hp hb k1 k2 k3 (by rw [e1]; exact hce) hcv hcl T' rfl X'
    exact ⟨t2, st.trans a1, b1⟩
theorem vx_callf {S SX : Type} {post : UInt32 → S → Prop} {px : SX → Prop} {B : S → State → Prop} {BX : String → SX → State → Prop} {AX : Nat → Prop} (hr : vx_Run p l e R s m args below meth c H locs cells slots mc ms (F0 m pc ls st0) rest (va_Qf post B A1 a) (vx_X px BX AX) free) (hS : va_S A0 H0 H locs) (hA : ∀ q, q < H.size → A1 q → A0 q) (hf : ∀ q, free q → A0 q) (hAX : ∀ q, q < H.size → AX q → A0 q)
    (kx : ∀ (E : String) (ce : Cell) (q9 : Addr) (u : SX) (t : State) (H1 : Heap) (locs1 : List Loc), t.heap = H1 → s.vm.Alike t.vm → px u → BX E u t → H.size ≤ H1.size → (∀ q : Nat, q < H.size → ¬ AX q → H1[q]? = H[q]?) → va_S A0 H0 H1 locs1 → H1[q9]? = some ce → ce.vm = .none → s.vm.findClass E = some ce.cls → vx_W p l e R s m args below meth c H1 locs1 (cells + mc) (slots + ms) Q (F0 m pc ls rest) q9)
    (kk : ∀ (r : UInt32) (u : S) (t : State) (H1 : Heap) (locs1 : List Loc), t.heap = H1 → s.vm.Alike t.vm → post r u → B u t → H.size ≤ H1.size → (∀ q : Nat, q < H.size → ¬ A1 q → H1[q]? = H[q]?) → va_S A0 H0 H1 locs1 → W p l e R s m args below meth c H1 locs1 (cells + mc) (slots + ms) Q (F0 m (pc + 3) ls (.float r :: rest))) : W p l e R s m args below meth c H locs cells slots Q (F0 m pc ls st0) := by
  intro T hT X
  rcases hr T hT X with ⟨v, st₀, t, T', L, h0, X', hL, e1, e2, ⟨⟨r, u, hv, hp, hb⟩, hF⟩, st⟩ | ⟨q, st₀, t, T', L, E, ce, h0, X', hL, e1, e2, ⟨u, hp, hb, hF⟩, hce, hcv, hcl, st⟩
  · cases hv
    obtain ⟨k1, k2, k3⟩ := vx_keep h0 e1 hS hA hf hL hF
    obtain ⟨t2, a1, b1⟩ := kk r u t T'.heap (locs ++ L) e1.symm (by rw [← e2]; exact X'.warmed.alike) hp hb k1 k2 k3 T' rfl X'
    exact ⟨t2, st t2 a1, b1⟩
  · obtain ⟨k1, k2, k3⟩ := vx_keep h0 e1 hS hAX hf hL hF
    obtain ⟨t2, a1, b1⟩ := kx E ce q u t T'.heap (locs ++ L) e1.symm (by rw [← e2]; exact X'.warmed.alike) hp hb k1 k2 k3 (by rw [e1]; exact hce) hcv hcl T' rfl X'
    exact ⟨t2, st.trans a1, b1⟩
theorem vx_calld {S SX : Type} {post : UInt64 → S → Prop} {px : SX → Prop} {B : S → State → Prop} {BX : String → SX → State → Prop} {AX : Nat → Prop} (hr : vx_Run p l e R s m args below meth c H locs cells slots mc ms (F0 m pc ls st0) rest (va_Qd post B A1 a) (vx_X px BX AX) free) (hS : va_S A0 H0 H locs) (hA : ∀ q, q < H.size → A1 q → A0 q) (hf : ∀ q, free q → A0 q) (hAX : ∀ q, q < H.size → AX q → A0 q)
    (kx : ∀ (E : String) (ce : Cell) (q9 : Addr) (u : SX) (t : State) (H1 : Heap) (locs1 : List Loc), t.heap = H1 → s.vm.Alike t.vm → px u → BX E u t → H.size ≤ H1.size → (∀ q : Nat, q < H.size → ¬ AX q → H1[q]? = H[q]?) → va_S A0 H0 H1 locs1 → H1[q9]? = some ce → ce.vm = .none → s.vm.findClass E = some ce.cls → vx_W p l e R s m args below meth c H1 locs1 (cells + mc) (slots + ms) Q (F0 m pc ls rest) q9)
    (kk : ∀ (r : UInt64) (u : S) (t : State) (H1 : Heap) (locs1 : List Loc), t.heap = H1 → s.vm.Alike t.vm → post r u → B u t → H.size ≤ H1.size → (∀ q : Nat, q < H.size → ¬ A1 q → H1[q]? = H[q]?) → va_S A0 H0 H1 locs1 → W p l e R s m args below meth c H1 locs1 (cells + mc) (slots + ms) Q (F0 m (pc + 3) ls (.double r :: rest))) : W p l e R s m args below meth c H locs cells slots Q (F0 m pc ls st0) := by
  intro T hT X
  rcases hr T hT X with ⟨v, st₀, t, T', L, h0, X', hL, e1, e2, ⟨⟨r, u, hv, hp, hb⟩, hF⟩, st⟩ | ⟨q, st₀, t, T', L, E, ce, h0, X', hL, e1, e2, ⟨u, hp, hb, hF⟩, hce, hcv, hcl, st⟩
  · cases hv
    obtain ⟨k1, k2, k3⟩ := vx_keep h0 e1 hS hA hf hL hF
    obtain ⟨t2, a1, b1⟩ := kk r u t T'.heap (locs ++ L) e1.symm (by rw [← e2]; exact X'.warmed.alike) hp hb k1 k2 k3 T' rfl X'
    exact ⟨t2, st t2 a1, b1⟩
  · obtain ⟨k1, k2, k3⟩ := vx_keep h0 e1 hS hAX hf hL hF
    obtain ⟨t2, a1, b1⟩ := kx E ce q u t T'.heap (locs ++ L) e1.symm (by rw [← e2]; exact X'.warmed.alike) hp hb k1 k2 k3 (by rw [e1]; exact hce) hcv hcl T' rfl X'
    exact ⟨t2, st.trans a1, b1⟩
theorem vx_callv {S SX : Type} {post : S → Prop} {px : SX → Prop} {B : S → State → Prop} {BX : String → SX → State → Prop} {AX : Nat → Prop} (hr : vx_Run p l e R s m args below meth c H locs cells slots mc ms (F0 m pc ls st0) rest (va_Qv post B A1 a) (vx_X px BX AX) free) (hS : va_S A0 H0 H locs) (hA : ∀ q, q < H.size → A1 q → A0 q) (hf : ∀ q, free q → A0 q) (hAX : ∀ q, q < H.size → AX q → A0 q)
    (kx : ∀ (E : String) (ce : Cell) (q9 : Addr) (u : SX) (t : State) (H1 : Heap) (locs1 : List Loc), t.heap = H1 → s.vm.Alike t.vm → px u → BX E u t → H.size ≤ H1.size → (∀ q : Nat, q < H.size → ¬ AX q → H1[q]? = H[q]?) → va_S A0 H0 H1 locs1 → H1[q9]? = some ce → ce.vm = .none → s.vm.findClass E = some ce.cls → vx_W p l e R s m args below meth c H1 locs1 (cells + mc) (slots + ms) Q (F0 m pc ls rest) q9)
    (kk : ∀ (u : S) (t : State) (H1 : Heap) (locs1 : List Loc), t.heap = H1 → s.vm.Alike t.vm → post u → B u t → H.size ≤ H1.size → (∀ q : Nat, q < H.size → ¬ A1 q → H1[q]? = H[q]?) → va_S A0 H0 H1 locs1 → W p l e R s m args below meth c H1 locs1 (cells + mc) (slots + ms) Q (F0 m (pc + 3) ls (rest))) : W p l e R s m args below meth c H locs cells slots Q (F0 m pc ls st0) := by
  intro T hT X
  rcases hr T hT X with ⟨v, st₀, t, T', L, h0, X', hL, e1, e2, ⟨⟨u, hv, hp, hb⟩, hF⟩, st⟩ | ⟨q, st₀, t, T', L, E, ce, h0, X', hL, e1, e2, ⟨u, hp, hb, hF⟩, hce, hcv, hcl, st⟩
  · cases hv
    obtain ⟨k1, k2, k3⟩ := vx_keep h0 e1 hS hA hf hL hF
    obtain ⟨t2, a1, b1⟩ := kk u t T'.heap (locs ++ L) e1.symm (by rw [← e2]; exact X'.warmed.alike) hp hb k1 k2 k3 T' rfl X'
    exact ⟨t2, st t2 a1, b1⟩
  · obtain ⟨k1, k2, k3⟩ := vx_keep h0 e1 hS hAX hf hL hF
    obtain ⟨t2, a1, b1⟩ := kx E ce q u t T'.heap (locs ++ L) e1.symm (by rw [← e2]; exact X'.warmed.alike) hp hb k1 k2 k3 (by rw [e1]; exact hce) hcv hcl T' rfl X'
    exact ⟨t2, st.trans a1, b1⟩
/-- caught by the row x of this method's table; the rows ahead don't take it -/
theorem vx_catch {own name : String} {E : String} {ce : Cell} {q : Addr} (hown : s.vm.findClass own = some m.cls) (pre : List ExceptionTableEntry) (x : ExceptionTableEntry) (suf : List ExceptionTableEntry) (hsplit : c.exceptionTable.toList = pre ++ x :: suf)
    (hpass : ∀ z ∈ pre, covers z pc = false ∨ (z.catchType ≠ 0 ∧ ∃ nm : String, (Cond.classLink own z.catchType nm).before args s = true ∧ va_Nc E nm s)) (hx : covers x pc = true) (h0 : x.catchType ≠ 0)
    (hlink : (Cond.classLink own x.catchType name).before args s = true) (hcast : (Cond.castable E name).before args s = true) (hcell : H[q]? = some ce) (hv : ce.vm = .none) (hcl : s.vm.findClass E = some ce.cls)
    (kk : W p l e R s m args below meth c H locs cells slots Q (F0 m x.handlerPc ls [.ref q])) : vx_W p l e R s m args below meth c H locs cells slots Q (F0 m pc ls rest) q := by
  intro T hT X
  have hpl : e.platform.magicAccessors = ({} : Platform).magicAccessors := by rw [X.admits.platform]
  obtain ⟨c3, c4, hc3, hc4, hasg⟩ := Cond.castable_spec hcast
  cases Option.some.inj (hc3.symm.trans hcl)
  obtain ⟨c5, hc5, hcl5⟩ := Cond.classLink_spec hown hlink e.platform hpl
  cases Option.some.inj (hc4.symm.trans hc5)
  obtain ⟨vm', X', st⟩ := X.thenCaughtThrough q (g := F0 m pc ls rest) rfl (Steps.refl _) (by rw [hT]; exact hcell) (by rw [hv]; rfl) (by obtain ⟨k9, h9, -⟩ := Vm.findClass_spec hcl; exact ⟨k9, h9⟩) pre x suf hsplit
    (fun z hz => by
      rcases hpass z hz with h | ⟨hz0, nm, hl1, hn1⟩
      · exact Or.inl h
      · obtain ⟨c6, hc6, hcl6⟩ := Cond.classLink_spec hown hl1 e.platform hpl
        obtain ⟨a8, b8, h1, h2, h3⟩ := hn1
        cases Option.some.inj (h1.symm.trans hcl)
        cases Option.some.inj (h2.symm.trans hc6)
        exact Or.inr ⟨hz0, _, hcl6, h3⟩) hx (Or.inr ⟨h0, c4, hcl5, hasg⟩)
  obtain ⟨t, a1, b1⟩ := kk (T.setVm vm') hT X'
  exact ⟨t, st.trans a1, b1⟩
end Rows
section Ends
variable {p : Program} {l : Launch} {e : Env} {R : Room} {s : State} {m : MethodId} {args : Array Value} {below : List Frame} {meth : Method} {c : Code} {H : Heap} {locs : List Loc} {cells slots : Nat} {Q : State → Prop}
variable {mc ms : Nat} {free : Addr → Prop} {A0 A1 : Nat → Prop} {H0 : Heap} {a : Array Value} {ls : Array Slot} {st0 rest : List Value}
variable {Qc : Array Value → State → Outcome → State → Prop} {XC : String → State → State → Prop}
/-- what a body that may throw owes at its end -/
def vx_MQ (below : List Frame) (Qc : Array Value → State → Outcome → State → Prop) (XC : String → State → State → Prop) (a : Array Value) (s : State) (mc ms : Nat) (free : Addr → Prop) : State → Prop := fun t =>
  ∃ o, t.status = .running ∧ Ended t below o ∧ vx_Q Qc XC mc ms free a s o t
theorem vx_ret {g : JFrame} {mc ms : Nat} (k : W p l e R s m args below meth c H locs cells slots (MQ below Qc args s mc ms free) g) : W p l e R s m args below meth c H locs cells slots (vx_MQ below Qc XC args s mc ms free) g := by
  intro T hT X
  obtain ⟨t, a1, o, b1, b2, b3, b4⟩ := k T hT X
  exact ⟨t, a1, o, b1, b2, Or.inl ⟨b3, b4⟩⟩
/-- not caught here: it goes on to the caller -/
theorem vx_widen {g : JFrame} {q : Addr} {k n : Nat} (h1 : cells ≤ k) (h2 : slots ≤ n) (kk : vx_W p l e R s m args below meth c H locs k n Q g q) : vx_W p l e R s m args below meth c H locs cells slots Q g q := fun T hT X => kk T hT (stand_widen X h1 h2)
theorem vx_out {pc : Nat} {E : String} {ce : Cell} {q : Addr} {mc ms : Nat} (hout : ∀ x ∈ c.exceptionTable.toList, covers x pc = false) (hlocks : meth.locks = false) (hcell : H[q]? = some ce) (hv : ce.vm = .none) (hcl : s.vm.findClass E = some ce.cls)
    (hx : ∀ t : State, t.heap = H → s.vm.Alike t.vm → XC E s t) (hf : ∀ z ∈ locs, free z.base) (hc : cells ≤ mc) (hs : slots ≤ ms) :
    vx_W p l e R s m args below meth c H locs cells slots (vx_MQ below Qc XC args s mc ms free) (F0 m pc ls rest) q := by
  intro T hT X
  obtain ⟨st1, hrun, hend, hW, hsm⟩ := X.leaveThrown q (g := F0 m pc ls rest) rfl rfl rfl hout hlocks
  have hcell9 : (T.setFrames (.throwing q :: below)).heap[q]? = some ce := by
    show T.heap[q]? = some ce
    rw [hT]; exact hcell
  exact ⟨_, st1, .threw q, hrun, hend, Or.inr ⟨q, rfl, E, ce, locs, hx _ hT hW.alike, hcell9, hv, hcl, hW, hsm.mono hc hs, hf⟩⟩
theorem vx_frame {U : State} {k n : Nat} (h : s.sameButNew ({ U with vm := s.vm } : State) locs k n) : s.heap.size ≤ U.heap.size ∧ ∀ q : Nat, q < s.heap.size → (∀ z ∈ locs, z.base ≠ q) → U.heap[q]? = s.heap[q]? := by
  obtain ⟨-, h2, -, -, -, h6⟩ := h
  refine ⟨h2, fun q hq hz => ?_⟩
  obtain ⟨c9, e1, e2, e3, e4⟩ := h6 q _ (Array.getElem?_eq_getElem hq)
  have hs : c9.slots = (s.heap[q]).slots := Array.ext_getElem? fun i => e4 i fun hm => hz _ hm rfl
  have h9 : c9 = s.heap[q] := by
    rw [hs] at e2
    exact e2
  have e5 : U.heap[q]? = some c9 := e1
  rw [e5, h9, Array.getElem?_eq_getElem hq]
/-- the words of a throw but the four that speak of the heap -/
def vx_no (w : Cond) : Bool := decide (w ≠ .isRef (.static Bundle.tN "UNASSIGNED_STACK" Bundle.steD)) && decide (w ≠ .isRef (.static Bundle.tN "SUPPRESSED_SENTINEL" Bundle.listD)) && decide (w ≠ .laysStatic Bundle.tN "UNASSIGNED_STACK" Bundle.steD) && decide (w ≠ .laysStatic Bundle.tN "SUPPRESSED_SENTINEL" Bundle.listD)
def vx_at0 (own : String) (ic : Nat) (X : String) (names : List String) : List Cond := (Bundle.ownAtoms0 own ic X names).filter vx_no
def vx_atS (own : String) (ic : Nat) (X : String) (names : List String) : List Cond := (Bundle.ownAtoms own ic X names).filter vx_no
/-- a word that the tables alone decide, or a good one -/
def vx_ot (w : Cond) : Bool := w.onTables || goodWord w
theorem vx_ot_at {args a' : Array Value} {s U : State} {w : Cond} (hW : s.WarmedH U.vm) (hvm : s.vm = U.vm) (hg : vx_ot w = true) (h : w.before args s = true) : w.before a' U = true := by
  simp only [vx_ot, Bool.or_eq_true] at hg
  rcases hg with hg | hg
  · exact va_tabs hg hvm h
  · exact word_at hW (good_of_word hg) h
/-- a list's words: the good ones out of the method's own list, the others by premises of their own -/
theorem vx_hat {args : Array Value} {s : State} {L B : List Cond} (h1 : ∀ w ∈ L.filter goodWord, w.before args s = true) (h2 : ∀ w ∈ L.filter (fun w => !goodWord w), w ∈ B) (h3 : ∀ w ∈ B, w.before args s = true) : ∀ w ∈ L, w.before args s = true := by
  intro w hw
  by_cases g : goodWord w = true
  · exact h1 w (List.mem_filter.mpr ⟨hw, g⟩)
  · refine h3 w (h2 w (List.mem_filter.mpr ⟨hw, ?_⟩))
    show (!goodWord w) = true
    cases hgw : goodWord w
    · rfl
    · exact absurd hgw g
theorem vx_c {args : Array Value} {s : State} {w : Cond} {B : List Cond} (h : w.before args s = true) (t : ∀ w ∈ B, w.before args s = true) : ∀ w' ∈ w :: B, w'.before args s = true := fun w' h' => (List.mem_cons.mp h').elim (fun e => by rw [e]; exact h) (t w')
theorem vx_n {args : Array Value} {s : State} : ∀ w ∈ ([] : List Cond), w.before args s = true := fun _ h => nomatch h
theorem vx_own {args : Array Value} {s : State} {L : List Cond} (h1 : ∀ w ∈ L.filter vx_no, w.before args s = true)
    (hU : (Cond.isRef (.static Bundle.tN "UNASSIGNED_STACK" Bundle.steD)).before args s = true) (hN : (Cond.isRef (.static Bundle.tN "SUPPRESSED_SENTINEL" Bundle.listD)).before args s = true)
    (lU : (Cond.laysStatic Bundle.tN "UNASSIGNED_STACK" Bundle.steD).before args s = true) (lN : (Cond.laysStatic Bundle.tN "SUPPRESSED_SENTINEL" Bundle.listD).before args s = true) : ∀ w ∈ L, w.before args s = true := by
  intro w hw
  by_cases e1 : w = .isRef (.static Bundle.tN "UNASSIGNED_STACK" Bundle.steD)
  · rw [e1]; exact hU
  · by_cases e2 : w = .isRef (.static Bundle.tN "SUPPRESSED_SENTINEL" Bundle.listD)
    · rw [e2]; exact hN
    · by_cases e3 : w = .laysStatic Bundle.tN "UNASSIGNED_STACK" Bundle.steD
      · rw [e3]; exact lU
      · by_cases e4 : w = .laysStatic Bundle.tN "SUPPRESSED_SENTINEL" Bundle.listD
        · rw [e4]; exact lN
        · exact h1 w (List.mem_filter.mpr ⟨hw, by unfold vx_no; rw [decide_eq_true e1, decide_eq_true e2, decide_eq_true e3, decide_eq_true e4]; rfl⟩)
/-- where a static field lies, its class's statics cell in H -/
def vx_L (C n d : String) (A : Nat → Prop) (U : State) (H : Heap) : Prop := ∃ (c : ClassId) (k : Class) (i : Nat) (f : Field) (a : Nat) (cell : Cell), U.vm.findClass C = some c ∧ U.fieldFound? C n d = some (c, k, i, f) ∧ f.isStatic = true ∧ k.statics = some a ∧ H[a]? = some cell ∧ cell.vm.isStatics = true ∧ cell.cls = c ∧ f.slot < cell.slots.size ∧ k.staticTypes[f.slot]? = some f.type ∧ ¬ A a
theorem vx_L.moved {C n d : String} {A : Nat → Prop} {u U : State} {H : Heap} (hvm : u.vm.Alike U.vm) (h : vx_L C n d A u H) : vx_L C n d A U H := by
  obtain ⟨c, k, i, f, a, cell, h1, h2, h3, h4, h5, h6, h7, h8, h9, h10⟩ := h
  obtain ⟨k', hi', he⟩ := State.fieldFound?_setVm hvm h2
  exact ⟨c, k', i, f, a, cell, by rw [hvm.findClass]; exact h1, hi', h3, by rw [he]; exact h4, h5, h6, h7, h8, by rw [he]; exact h9, h10⟩
theorem vx_L.kept {C n d : String} {A : Nat → Prop} {U : State} {H H1 : Heap} (h : vx_L C n d A U H) (hq : ∀ a : Nat, a < H.size → ¬ A a → H1[a]? = H[a]?) : vx_L C n d A U H1 := by
  obtain ⟨c, k, i, f, a, cell, h1, h2, h3, h4, h5, h6, h7, h8, h9, h10⟩ := h
  exact ⟨c, k, i, f, a, cell, h1, h2, h3, h4, by rw [hq a (Array.getElem?_eq_some_iff.mp h5).1 h10]; exact h5, h6, h7, h8, h9, h10⟩
theorem vx_L.narrow {C n d : String} {A B : Nat → Prop} {U : State} {H : Heap} (h : vx_L C n d A U H) (hAB : ∀ q, B q → A q) : vx_L C n d B U H := by
  obtain ⟨c, k, i, f, a, cell, h1, h2, h3, h4, h5, h6, h7, h8, h9, h10⟩ := h
  exact ⟨c, k, i, f, a, cell, h1, h2, h3, h4, h5, h6, h7, h8, h9, fun z => h10 (hAB _ z)⟩
theorem vx_L.word {C n d : String} {A : Nat → Prop} {s : State} {args : Array Value} (h : vx_L C n d A s s.heap) : (Cond.laysStatic C n d).before args s = true := by
  obtain ⟨c, k, i, f, a, cell, h1, h2, h3, h4, h5, h6, h7, h8, h9, -⟩ := h
  show (Cond.laysStatic C n d).holds args s none s [] = true
  exact Cond.laysStatic_of h1 h2 h3 h4 h5 h6 h7 h8 h9
/-- .. and what it holds: null or some reference -/
def vx_Zq (C n d : String) (A : Nat → Prop) (U : State) (H : Heap) : Prop := va_Zq C n d A U H ∧ vx_L C n d A U H
theorem vx_Zq.moved {C n d : String} {A : Nat → Prop} {u U : State} {H : Heap} (hvm : u.vm.Alike U.vm) (h : vx_Zq C n d A u H) : vx_Zq C n d A U H := ⟨va_Zq.moved hvm h.1, vx_L.moved hvm h.2⟩
theorem vx_Zq.kept {C n d : String} {A : Nat → Prop} {U : State} {H H1 : Heap} (h : vx_Zq C n d A U H) (hq : ∀ a : Nat, a < H.size → ¬ A a → H1[a]? = H[a]?) : vx_Zq C n d A U H1 := ⟨va_Zq.kept h.1 hq, vx_L.kept h.2 hq⟩
theorem vx_Zq.narrow {C n d : String} {A B : Nat → Prop} {U : State} {H : Heap} (h : vx_Zq C n d A U H) (hAB : ∀ q, B q → A q) : vx_Zq C n d B U H := ⟨va_Zq.narrow h.1 hAB, vx_L.narrow h.2 hAB⟩
theorem vx_Zqof {args : Array Value} {s : State} {C n d : String} {A : Nat → Prop} (hl : (Cond.laysStatic C n d).before args s = true) (hini : (Cond.initialized C).before args s = true) (h : (Cond.isRef (.static C n d)).before args s = true) (hA : ∀ a : Nat, a < s.heap.size → ¬ A a) : vx_Zq C n d A s s.heap := by
  refine ⟨va_Zqof hl hini h hA, ?_⟩
  obtain ⟨c, k, i, f, a, cell, h1, h2, h3, h4, h5, h6, h7, h8, h9⟩ := Cond.laysStatic_spec hl
  exact ⟨c, k, i, f, a, cell, h1, h2, h3, h4, h5, h6, h7, h8, h9, hA a (Array.getElem?_eq_some_iff.mp h5).1⟩
theorem vx_isRef {C n d : String} {v : Value} {A : Nat → Prop} {s : State} {args : Array Value} (h : va_Z C n d v A s s.heap) (hv : v.isRef = true) : (Cond.isRef (.static C n d)).before args s = true := by
  obtain ⟨cf, kf, fi, f, a, cell, h1, h2, h3, h4, h5, h6, h7, -⟩ := h
  have he : (Term.static C n d).eval args s none [] s = some v := by
    simp [Term.eval, State.fieldNamed?, h1, h2, h4, h5, h6, h7]
  simp only [Cond.before, Cond.holds, Cond.value, he]
  cases v <;> simp_all [Value.isRef]
theorem vx_isRefq {C n d : String} {A : Nat → Prop} {s : State} {args : Array Value} (h : va_Zq C n d A s s.heap) : (Cond.isRef (.static C n d)).before args s = true := by
  rcases h with h | ⟨t, h⟩
  · exact vx_isRef h rfl
  · exact vx_isRef h rfl
/-- the same frame, seen from here: as if the method were called anew in this heap -/
theorem vx_rebase {T : State} (X : Stand p l e R s m args below meth c T locs cells slots) {R' : Room} (hf : R'.frames ≤ R.frames) (hl : R'.locals ≤ R.locals) (hc : cells + R'.cells ≤ R.cells) (hs : slots + R'.slots ≤ R.slots) :
    Stand p l e R' ((T.setVm s.vm).setFrames (.invoking m args :: below)) m args below meth c T [] 0 0 := by
  have htop : (T.setVm s.vm).topJava?.isSome := X.here.top
  have hF : ((T.setVm s.vm).setFrames (.invoking m args :: below)).frames = .invoking m args :: below := State.frames_setFrames _ (State.cur_lt_of_top htop)
  obtain ⟨g₀, hg0⟩ := Option.isSome_iff_exists.mp htop
  obtain ⟨r, hr⟩ := State.topJava?_eq_some.mp hg0
  have hl9 : e.platform.stackLimits (T.setVm s.vm).me = e.platform.stackLimits s.me := X.limits
  have hb9 : (T.setVm s.vm).me.stackBytes = s.me.stackBytes := X.bytes
  refine ⟨X.admits, X.cas, X.clock, hF, ?_, X.hears, X.method, X.code, X.here, X.tail, X.warmed, ?_, ?_, ?_⟩
  · have h := X.room
    have hU : ((T.setVm s.vm).setFrames (.invoking m args :: below)).localsInUse = s.localsInUse := by
      rw [State.localsInUse_invoking hF (meth := meth) (c := c) X.method X.code, State.localsInUse_invoking X.frames X.method X.code]
    simp only [State.hasRoom, Bool.and_eq_true, decide_eq_true_eq] at h ⊢
    obtain ⟨⟨⟨⟨h1, h2, h3, h4, h5, h6⟩, h7⟩, h8⟩, h9⟩ := h
    rw [X.frames, List.length_cons] at h2 h3
    have q1 := X.heapSize
    have q2 := X.used
    simp only [hF, hU, List.length_cons, State.stackLimits_setFrames, State.stackBytes_setFrames, hl9, hb9]
    refine ⟨⟨⟨⟨by omega, by omega, by omega, by omega, by omega, h6⟩, ?_⟩, ?_⟩, X.book⟩
    · show T.heap.size + R'.cells ≤ e.platform.maxCells
      omega
    · show T.slotsUsed + R'.slots ≤ e.platform.maxSlots
      omega
  · rw [State.stackLimits_setFrames]; rfl
  · rw [State.stackBytes_setFrames]; rfl
  · refine ⟨?_, Nat.le_refl _, Nat.le_refl _, ?_, ?_, fun a c9 h9 => ⟨c9, h9, rfl, rfl, fun _ _ => rfl⟩⟩
    · obtain ⟨t, ht, -⟩ := State.frames_cons hr
      show T.setVm s.vm = { ((T.setVm s.vm).setFrames (.invoking m args :: below)).setFrames (T.setVm s.vm).frames with heap := T.heap, slotsUsed := T.slotsUsed }
      rw [State.setFrames_setFrames, State.setFrames_self ht]
      rfl
    · show T.slotsUsed = T.slotsUsed + ((T.heap.toList.drop T.heap.size).map (·.slots.size)).sum
      rw [List.drop_eq_nil_of_le (Nat.le_of_eq Array.length_toList)]
      rfl
    · show ((T.heap.toList.drop T.heap.size).map (·.slots.size)).sum ≤ 0
      rw [List.drop_eq_nil_of_le (Nat.le_of_eq Array.length_toList)]
      exact Nat.le_refl _
/-- 'throw new E()': new; dup; invokespecial; athrow -/
theorem vx_throw0 {cc : ByteArray} {pc : Nat} (hexec : p.tables.exec = Jvm.exec) (hb : c.code = cc) (hl : l.stackTraces = false) {own cls : String} {names : List String} {ik ic mc ms : Nat} {A : Nat → Prop}
    (hown : s.vm.findClass own = some m.cls) (hcls : Bundle.fit cls = true) (hnames : ∀ n ∈ names, Bundle.fit n = true)
    (hk : (Cond.classLink own ik cls).before args s = true) (hini : (Cond.initialized cls).before args s = true) (hat : ∀ w ∈ vx_at0 own ic cls names, w.before args s = true)
    (hgood : ∀ w ∈ Cond.classLink own ik cls :: Cond.initialized cls :: vx_at0 own ic cls names, vx_ot w = true)
    (hU : vx_Zq Bundle.tN "UNASSIGNED_STACK" Bundle.steD A s s.heap) (hN : vx_Zq Bundle.tN "SUPPRESSED_SENTINEL" Bundle.listD A s s.heap) (hS : va_S A s.heap H locs) (hsize : ls.size = c.maxLocals)
    (d0 : decode cc pc = .ok (.new ik, 3)) (d3 : decode cc (pc + 3) = .ok (.dup, 1)) (d4 : decode cc (pc + 4) = .ok (.invokespecial ic, 3)) (d7 : decode cc (pc + 7) = .ok (.athrow, 1))
    (hout : ∀ x ∈ c.exceptionTable.toList, covers x (pc + 7) = false)
    (hRframes : names.length + 3 < R.frames) (hRlocals : (rest.map fun v => v.category).sum + (13 * (names.length + 1) + 42) ≤ R.locals) (hRcells : cells + 1 ≤ R.cells) (hRslots : slots + 6 ≤ R.slots) (hlocks : meth.locks = false)
    (hx : ∀ t : State, s.vm.Alike t.vm → H.size ≤ t.heap.size → (∀ q : Nat, q < H.size → t.heap[q]? = H[q]?) → XC cls s t)
    (hf : ∀ z ∈ locs, free z.base) (hc : cells + 1 ≤ mc) (hs : slots + 6 ≤ ms) :
    W p l e R s m args below meth c H locs cells slots (vx_MQ below Qc XC args s mc ms free) (F0 m pc ls rest) := by
  intro T hT X
  have htr : e.platform.stackTraces = false := (show e.platform.stackTraces = l.stackTraces by rw [X.admits.platform]).trans hl
  have Y := vx_rebase X (R' := { frames := R.frames, locals := R.locals, cells := 1, slots := 6 }) (Nat.le_refl _) (Nat.le_refl _) hRcells hRslots
  obtain ⟨s', hA⟩ : ∃ z, z = (T.setVm s.vm).setFrames (.invoking m args :: below) := ⟨_, rfl⟩
  rw [← hA] at Y
  have hvm : s'.vm = s.vm := by rw [hA]; rfl
  have hhp : s'.heap = H := by rw [hA]; exact hT
  have hW0 : s.WarmedH s'.vm := by rw [hvm]; exact State.WarmedH.refl s
  have hat' : ∀ w ∈ vx_at0 own ic cls names, w.before args s' = true := fun w hw => vx_ot_at hW0 hvm.symm (hgood w (List.mem_cons_of_mem _ (List.mem_cons_of_mem _ hw))) (hat w hw)
  have hk' : (Cond.classLink own ik cls).before args s' = true := vx_ot_at hW0 hvm.symm (hgood _ List.mem_cons_self) hk
  have hini' : (Cond.initialized cls).before args s' = true := vx_ot_at hW0 hvm.symm (hgood _ (List.mem_cons_of_mem _ List.mem_cons_self)) hini
  have hU' : vx_Zq Bundle.tN "UNASSIGNED_STACK" Bundle.steD A s' s'.heap := by rw [hhp]; exact vx_Zq.moved hW0.alike (hU.kept hS.2.1)
  have hN' : vx_Zq Bundle.tN "SUPPRESSED_SENTINEL" Bundle.listD A s' s'.heap := by rw [hhp]; exact vx_Zq.moved hW0.alike (hN.kept hS.2.1)
  have h : ∀ w ∈ Bundle.ownAtoms0 own ic cls names, w.before args s' = true := vx_own hat' (vx_isRefq hU'.1) (vx_isRefq hN'.1) hU'.2.word hN'.2.word
  have hown' : s'.vm.findClass own = some m.cls := by rw [hvm]; exact hown
  have hins : (Cond.instantiable cls 6).before args s' = true := h _ (by simp [Bundle.ownAtoms0])
  obtain ⟨vm₁, cX, kX, hfX, hkX, -, -, X₁, st1⟩ := Y.newCold hexec (own := own) (C := cls) (index := ik) (n := 6) hown' hk' hins hini'
    (g := F0 m pc ls rest) rfl (by rw [hb]; exact d0) (Nat.le_refl _) (Nat.le_refl _)
  generalize hT1 : (T.setVm vm₁).pushCell { cls := cX, slots := kX.instanceTypes.map defaultValue, vm := .none } = T1 at X₁ st1
  have hcat : (Value.ref T.heap.size).category = 1 := rfl
  have hcellA : T1.heap[T.heap.size]? = some (freshCell cX kX) := by rw [← hT1]; exact State.heap_pushCell_size _ _
  have d3' : decode c.code (pc + 3) = .ok (.dup, 1) := by rw [hb]; exact d3
  obtain ⟨U, hsteps, hrun, hend, hW, hsame, ce, hce, hO⟩ := X₁.ctorThrow0 hexec htr (own := own) (cls := cls) (names := names) (ic := ic) hown' hcls hnames h (fun x hx => nomatch hx) hfX hkX hcellA (by rw [hhp, hT]; exact Nat.le_refl _)
    (g := { method := m, pc := pc + 4, locals := ls, stack := .ref T.heap.size :: .ref T.heap.size :: rest, locked := none }) rfl hsize rfl rfl (rest := rest) rfl
    (by rw [hb]; exact d4) (by rw [hb]; exact d7) hout hRframes (by simp only [List.map_cons, List.sum_cons, hcat]; omega) hlocks
  obtain ⟨f1, f2⟩ := vx_frame hsame
  rw [hhp] at f1 f2
  have hWs : s.WarmedH U.vm := State.WarmedH.trans hW0 hW
  have hcl : s.vm.findClass cls = some ce.cls := by
    have h9 := hO.cls
    rw [hvm] at h9
    exact h9
  have hall : s.sameButNew ({ U with vm := s.vm } : State) locs mc ms := by
    subst hA
    obtain ⟨e1, e2⟩ := hsame
    rw [State.setFrames_setFrames] at e1
    have h2 : (T.setVm s.vm).sameButNew ({ U with vm := s.vm } : State) [] (0 + 1) (0 + 6) := ⟨e1, e2⟩
    have h3 := X.same.trans h2
    rw [List.append_nil] at h3
    exact h3.mono hc hs
  refine ⟨U, ?_, .threw T.heap.size, hrun, hend, Or.inr ⟨T.heap.size, rfl, cls, ce, locs, hx U hWs.alike f1 (fun q hq => f2 q hq (fun z hz => nomatch hz)), hce, hO.vm, hcl, hWs, hall, hf⟩⟩
  refine st1 _ ?_
  show Steps p.tables e below (T1.setTop { method := m, pc := pc + 3, locals := ls, stack := .ref T.heap.size :: rest, locked := none }) _
  jvm_step X₁.here [X₁.here.top, hexec, d3', Value.category]
  exact hsteps
/-- 'throw new E("text")': new; dup; ldc; invokespecial; athrow -/
theorem vx_throwS {cc : ByteArray} {pc : Nat} (hexec : p.tables.exec = Jvm.exec) (hb : c.code = cc) (hl : l.stackTraces = false) {own cls text : String} {names : List String} {ik is ic mc ms sa : Nat} {A : Nat → Prop}
    (hown : s.vm.findClass own = some m.cls) (hcls : Bundle.fit cls = true) (hnames : ∀ n ∈ names, Bundle.fit n = true)
    (hk : (Cond.classLink own ik cls).before args s = true) (hini : (Cond.initialized cls).before args s = true) (hstr : vk_R own is text sa s) (hat : ∀ w ∈ vx_atS own ic cls names, w.before args s = true)
    (hgood : ∀ w ∈ Cond.classLink own ik cls :: Cond.initialized cls :: vx_atS own ic cls names, vx_ot w = true)
    (hU : vx_Zq Bundle.tN "UNASSIGNED_STACK" Bundle.steD A s s.heap) (hN : vx_Zq Bundle.tN "SUPPRESSED_SENTINEL" Bundle.listD A s s.heap) (hS : va_S A s.heap H locs) (hsize : ls.size = c.maxLocals)
    (d0 : decode cc pc = .ok (.new ik, 3)) (d3 : decode cc (pc + 3) = .ok (.dup, 1)) (d4 : decode cc (pc + 4) = .ok (.ldc is, 2)) (d6 : decode cc (pc + 6) = .ok (.invokespecial ic, 3)) (d9 : decode cc (pc + 9) = .ok (.athrow, 1))
    (hout : ∀ x ∈ c.exceptionTable.toList, covers x (pc + 9) = false)
    (hRframes : names.length + 3 < R.frames) (hRlocals : (rest.map fun v => v.category).sum + (13 * (names.length + 1) + 43) ≤ R.locals) (hRcells : cells + 1 ≤ R.cells) (hRslots : slots + 6 ≤ R.slots) (hlocks : meth.locks = false)
    (hx : ∀ t : State, s.vm.Alike t.vm → H.size ≤ t.heap.size → (∀ q : Nat, q < H.size → t.heap[q]? = H[q]?) → XC cls s t)
    (hf : ∀ z ∈ locs, free z.base) (hc : cells + 1 ≤ mc) (hs : slots + 6 ≤ ms) :
    W p l e R s m args below meth c H locs cells slots (vx_MQ below Qc XC args s mc ms free) (F0 m pc ls rest) := by
  intro T hT X
  have htr : e.platform.stackTraces = false := (show e.platform.stackTraces = l.stackTraces by rw [X.admits.platform]).trans hl
  have Y := vx_rebase X (R' := { frames := R.frames, locals := R.locals, cells := 1, slots := 6 }) (Nat.le_refl _) (Nat.le_refl _) hRcells hRslots
  obtain ⟨s', hA⟩ : ∃ z, z = (T.setVm s.vm).setFrames (.invoking m args :: below) := ⟨_, rfl⟩
  rw [← hA] at Y
  have hvm : s'.vm = s.vm := by rw [hA]; rfl
  have hhp : s'.heap = H := by rw [hA]; exact hT
  have hW0 : s.WarmedH s'.vm := by rw [hvm]; exact State.WarmedH.refl s
  have hat' : ∀ w ∈ vx_atS own ic cls names, w.before args s' = true := fun w hw => vx_ot_at hW0 hvm.symm (hgood w (List.mem_cons_of_mem _ (List.mem_cons_of_mem _ hw))) (hat w hw)
  have hk' : (Cond.classLink own ik cls).before args s' = true := vx_ot_at hW0 hvm.symm (hgood _ List.mem_cons_self) hk
  have hini' : (Cond.initialized cls).before args s' = true := vx_ot_at hW0 hvm.symm (hgood _ (List.mem_cons_of_mem _ List.mem_cons_self)) hini
  have hU' : vx_Zq Bundle.tN "UNASSIGNED_STACK" Bundle.steD A s' s'.heap := by rw [hhp]; exact vx_Zq.moved hW0.alike (hU.kept hS.2.1)
  have hN' : vx_Zq Bundle.tN "SUPPRESSED_SENTINEL" Bundle.listD A s' s'.heap := by rw [hhp]; exact vx_Zq.moved hW0.alike (hN.kept hS.2.1)
  have h : ∀ w ∈ Bundle.ownAtoms own ic cls names, w.before args s' = true := vx_own hat' (vx_isRefq hU'.1) (vx_isRefq hN'.1) hU'.2.word hN'.2.word
  have hown' : s'.vm.findClass own = some m.cls := by rw [hvm]; exact hown
  have hins : (Cond.instantiable cls 6).before args s' = true := h _ (by simp [Bundle.ownAtoms])
  obtain ⟨vm₁, cX, kX, hfX, hkX, -, -, X₁, st1⟩ := Y.newCold hexec (own := own) (C := cls) (index := ik) (n := 6) hown' hk' hins hini'
    (g := F0 m pc ls rest) rfl (by rw [hb]; exact d0) (Nat.le_refl _) (Nat.le_refl _)
  generalize hT1 : (T.setVm vm₁).pushCell { cls := cX, slots := kX.instanceTypes.map defaultValue, vm := .none } = T1 at X₁ st1
  have hcat : (Value.ref T.heap.size).category = 1 := rfl
  have hcellA : T1.heap[T.heap.size]? = some (freshCell cX kX) := by rw [← hT1]; exact State.heap_pushCell_size _ _
  have d3' : decode c.code (pc + 3) = .ok (.dup, 1) := by rw [hb]; exact d3
  have d4' : decode c.code (pc + 4) = .ok (.ldc is, 2) := by rw [hb]; exact d4
  have hstr' : vk_R own is text sa s' := vk_R.warm hW0 hstr
  obtain ⟨U, hsteps, hrun, hend, hW, hsame, ce, hce, hO⟩ := X₁.ctorThrowS hexec htr (own := own) (cls := cls) (names := names) (ic := ic) hown' hcls hnames h (fun x hx => nomatch hx) hfX hkX hcellA (by rw [hhp, hT]; exact Nat.le_refl _) (msg := .ref sa) rfl
    (g := { method := m, pc := pc + 6, locals := ls, stack := .ref sa :: .ref T.heap.size :: .ref T.heap.size :: rest, locked := none }) rfl hsize rfl rfl (rest := rest) rfl
    (by rw [hb]; exact d6) (by rw [hb]; exact d9) hout hRframes (by simp only [List.map_cons, List.sum_cons, hcat]; omega) hlocks
  obtain ⟨f1, f2⟩ := vx_frame hsame
  rw [hhp] at f1 f2
  have hWs : s.WarmedH U.vm := State.WarmedH.trans hW0 hW
  have hcl : s.vm.findClass cls = some ce.cls := by
    have h9 := hO.cls
    rw [hvm] at h9
    exact h9
  have hall : s.sameButNew ({ U with vm := s.vm } : State) locs mc ms := by
    subst hA
    obtain ⟨e1, e2⟩ := hsame
    rw [State.setFrames_setFrames] at e1
    have h2 : (T.setVm s.vm).sameButNew ({ U with vm := s.vm } : State) [] (0 + 1) (0 + 6) := ⟨e1, e2⟩
    have h3 := X.same.trans h2
    rw [List.append_nil] at h3
    exact h3.mono hc hs
  refine ⟨U, ?_, .threw T.heap.size, hrun, hend, Or.inr ⟨T.heap.size, rfl, cls, ce, locs, hx U hWs.alike f1 (fun q hq => f2 q hq (fun z hz => nomatch hz)), hce, hO.vm, hcl, hWs, hall, hf⟩⟩
  refine st1 _ ?_
  show Steps p.tables e below (T1.setTop { method := m, pc := pc + 3, locals := ls, stack := .ref T.heap.size :: rest, locked := none }) _
  jvm_step X₁.here [X₁.here.top, hexec, d3', Value.category]
  exact X₁.ldcString hexec (own := own) (text := text) (index := is) (a := sa) hown' hstr'.1 hstr'.2
    (g := { method := m, pc := pc + 4, locals := ls, stack := .ref T.heap.size :: .ref T.heap.size :: rest, locked := none }) rfl d4' _ hsteps
/-- 'throw new E("text")', the text by a wide index -/
theorem vx_throwSW {cc : ByteArray} {pc : Nat} (hexec : p.tables.exec = Jvm.exec) (hb : c.code = cc) (hl : l.stackTraces = false) {own cls text : String} {names : List String} {ik is ic mc ms sa : Nat} {A : Nat → Prop}
    (hown : s.vm.findClass own = some m.cls) (hcls : Bundle.fit cls = true) (hnames : ∀ n ∈ names, Bundle.fit n = true)
    (hk : (Cond.classLink own ik cls).before args s = true) (hini : (Cond.initialized cls).before args s = true) (hstr : vk_R own is text sa s) (hat : ∀ w ∈ vx_atS own ic cls names, w.before args s = true)
    (hgood : ∀ w ∈ Cond.classLink own ik cls :: Cond.initialized cls :: vx_atS own ic cls names, vx_ot w = true)
    (hU : vx_Zq Bundle.tN "UNASSIGNED_STACK" Bundle.steD A s s.heap) (hN : vx_Zq Bundle.tN "SUPPRESSED_SENTINEL" Bundle.listD A s s.heap) (hS : va_S A s.heap H locs) (hsize : ls.size = c.maxLocals)
    (d0 : decode cc pc = .ok (.new ik, 3)) (d3 : decode cc (pc + 3) = .ok (.dup, 1)) (d4 : decode cc (pc + 4) = .ok (.ldc_w is, 3)) (d7 : decode cc (pc + 7) = .ok (.invokespecial ic, 3)) (d10 : decode cc (pc + 10) = .ok (.athrow, 1))
    (hout : ∀ x ∈ c.exceptionTable.toList, covers x (pc + 10) = false)
    (hRframes : names.length + 3 < R.frames) (hRlocals : (rest.map fun v => v.category).sum + (13 * (names.length + 1) + 43) ≤ R.locals) (hRcells : cells + 1 ≤ R.cells) (hRslots : slots + 6 ≤ R.slots) (hlocks : meth.locks = false)
    (hx : ∀ t : State, s.vm.Alike t.vm → H.size ≤ t.heap.size → (∀ q : Nat, q < H.size → t.heap[q]? = H[q]?) → XC cls s t)
    (hf : ∀ z ∈ locs, free z.base) (hc : cells + 1 ≤ mc) (hs : slots + 6 ≤ ms) :
    W p l e R s m args below meth c H locs cells slots (vx_MQ below Qc XC args s mc ms free) (F0 m pc ls rest) := by
  intro T hT X
  have htr : e.platform.stackTraces = false := (show e.platform.stackTraces = l.stackTraces by rw [X.admits.platform]).trans hl
  have Y := vx_rebase X (R' := { frames := R.frames, locals := R.locals, cells := 1, slots := 6 }) (Nat.le_refl _) (Nat.le_refl _) hRcells hRslots
  obtain ⟨s', hA⟩ : ∃ z, z = (T.setVm s.vm).setFrames (.invoking m args :: below) := ⟨_, rfl⟩
  rw [← hA] at Y
  have hvm : s'.vm = s.vm := by rw [hA]; rfl
  have hhp : s'.heap = H := by rw [hA]; exact hT
  have hW0 : s.WarmedH s'.vm := by rw [hvm]; exact State.WarmedH.refl s
  have hat' : ∀ w ∈ vx_atS own ic cls names, w.before args s' = true := fun w hw => vx_ot_at hW0 hvm.symm (hgood w (List.mem_cons_of_mem _ (List.mem_cons_of_mem _ hw))) (hat w hw)
  have hk' : (Cond.classLink own ik cls).before args s' = true := vx_ot_at hW0 hvm.symm (hgood _ List.mem_cons_self) hk
  have hini' : (Cond.initialized cls).before args s' = true := vx_ot_at hW0 hvm.symm (hgood _ (List.mem_cons_of_mem _ List.mem_cons_self)) hini
  have hU' : vx_Zq Bundle.tN "UNASSIGNED_STACK" Bundle.steD A s' s'.heap := by rw [hhp]; exact vx_Zq.moved hW0.alike (hU.kept hS.2.1)
  have hN' : vx_Zq Bundle.tN "SUPPRESSED_SENTINEL" Bundle.listD A s' s'.heap := by rw [hhp]; exact vx_Zq.moved hW0.alike (hN.kept hS.2.1)
  have h : ∀ w ∈ Bundle.ownAtoms own ic cls names, w.before args s' = true := vx_own hat' (vx_isRefq hU'.1) (vx_isRefq hN'.1) hU'.2.word hN'.2.word
  have hown' : s'.vm.findClass own = some m.cls := by rw [hvm]; exact hown
  have hins : (Cond.instantiable cls 6).before args s' = true := h _ (by simp [Bundle.ownAtoms])
  obtain ⟨vm₁, cX, kX, hfX, hkX, -, -, X₁, st1⟩ := Y.newCold hexec (own := own) (C := cls) (index := ik) (n := 6) hown' hk' hins hini'
    (g := F0 m pc ls rest) rfl (by rw [hb]; exact d0) (Nat.le_refl _) (Nat.le_refl _)
  generalize hT1 : (T.setVm vm₁).pushCell { cls := cX, slots := kX.instanceTypes.map defaultValue, vm := .none } = T1 at X₁ st1
  have hcat : (Value.ref T.heap.size).category = 1 := rfl
  have hcellA : T1.heap[T.heap.size]? = some (freshCell cX kX) := by rw [← hT1]; exact State.heap_pushCell_size _ _
  have d3' : decode c.code (pc + 3) = .ok (.dup, 1) := by rw [hb]; exact d3
  have d4' : decode c.code (pc + 4) = .ok (.ldc_w is, 3) := by rw [hb]; exact d4
  have hstr' : vk_R own is text sa s' := vk_R.warm hW0 hstr
  obtain ⟨U, hsteps, hrun, hend, hW, hsame, ce, hce, hO⟩ := X₁.ctorThrowS hexec htr (own := own) (cls := cls) (names := names) (ic := ic) hown' hcls hnames h (fun x hx => nomatch hx) hfX hkX hcellA (by rw [hhp, hT]; exact Nat.le_refl _) (msg := .ref sa) rfl
    (g := { method := m, pc := pc + 7, locals := ls, stack := .ref sa :: .ref T.heap.size :: .ref T.heap.size :: rest, locked := none }) rfl hsize rfl rfl (rest := rest) rfl
    (by rw [hb]; exact d7) (by rw [hb]; exact d10) hout hRframes (by simp only [List.map_cons, List.sum_cons, hcat]; omega) hlocks
  obtain ⟨f1, f2⟩ := vx_frame hsame
  rw [hhp] at f1 f2
  have hWs : s.WarmedH U.vm := State.WarmedH.trans hW0 hW
  have hcl : s.vm.findClass cls = some ce.cls := by
    have h9 := hO.cls
    rw [hvm] at h9
    exact h9
  have hall : s.sameButNew ({ U with vm := s.vm } : State) locs mc ms := by
    subst hA
    obtain ⟨e1, e2⟩ := hsame
    rw [State.setFrames_setFrames] at e1
    have h2 : (T.setVm s.vm).sameButNew ({ U with vm := s.vm } : State) [] (0 + 1) (0 + 6) := ⟨e1, e2⟩
    have h3 := X.same.trans h2
    rw [List.append_nil] at h3
    exact h3.mono hc hs
  refine ⟨U, ?_, .threw T.heap.size, hrun, hend, Or.inr ⟨T.heap.size, rfl, cls, ce, locs, hx U hWs.alike f1 (fun q hq => f2 q hq (fun z hz => nomatch hz)), hce, hO.vm, hcl, hWs, hall, hf⟩⟩
  refine st1 _ ?_
  show Steps p.tables e below (T1.setTop { method := m, pc := pc + 3, locals := ls, stack := .ref T.heap.size :: rest, locked := none }) _
  jvm_step X₁.here [X₁.here.top, hexec, d3', Value.category]
  exact X₁.ldcStringW hexec (own := own) (text := text) (index := is) (a := sa) hown' hstr'.1 hstr'.2
    (g := { method := m, pc := pc + 4, locals := ls, stack := .ref T.heap.size :: .ref T.heap.size :: rest, locked := none }) rfl d4' _ hsteps
end Ends
section Bodies
variable {l : Launch}
theorem vx_ofW {y : MethodName} {ws ws' : List Cond} {rm : Room} {Pc : Array Value → State → Prop} {Qc : Array Value → State → Outcome → State → Prop} {XC : String → State → State → Prop} {mc ms : Nat} {free : Addr → Prop} {cc : ByteArray} {maxL : Nat} {ret : Option FieldType}
    (hy : plainName y.cls = true) (hw : ws = Cond.code y cc maxL ret :: ws')
    (body : ∀ p e s m args below meth c s₁, BodyLoose p l y (headSpec ws rm) cc maxL ret e s m args below meth c s₁ → c.maxLocals = maxL → (∀ x ∈ c.exceptionTable.toList, False) → Pc args s →
      W p l e (headSpec ws rm).room s m args below meth c s.heap [] 0 0 (vx_MQ below Qc XC args s mc ms free) (entryFrame m args maxL)) : vx_Met l y ws rm Pc Qc XC mc ms free := by
  refine MetFree.of_bodyS (code := cc) (maxLocals := maxL) (ret := ret) hy ?_ ?_
  · intro args s m h hn
    obtain ⟨meth, c, h1, h2, h3, h4, h5, h6, -, -⟩ := Cond.code_spec hn (atoms_spec (ws := ws) h _ (by rw [hw]; exact List.mem_cons_self))
    exact ⟨meth, c, h1, h2, h3, h4, h5, h6⟩
  · intro p e s m args below meth c s₁ B hml hP _
    have hh0 : s₁.heap = s.heap := by rw [B.state]; rfl
    have ht : ∀ x ∈ c.exceptionTable.toList, False := by
      obtain ⟨meth9, c9, h1, h2, -, -, -, -, h7, -⟩ := Cond.code_spec B.named (atoms_spec (ws := ws) B.pre _ (by rw [hw]; exact List.mem_cons_self))
      cases Option.some.inj (h1.symm.trans B.method)
      cases Option.some.inj (h2.symm.trans (Stand.of_body B).code)
      intro x hx
      rw [Array.isEmpty_iff.mp h7] at hx
      cases hx
    obtain ⟨t, a1, o, b1, b2, b3⟩ := body p e s m args below meth c s₁ B hml ht hP s₁ hh0 (Stand.of_body B)
    exact ⟨t, o, a1, b1, b2, b3⟩
/-- the table of a body with handlers -/
theorem vx_table {p : Program} {x y : MethodName} {S : Spec} {cc bytes : ByteArray} {maxL maxL' : Nat} {ret ret' : Option FieldType} {e : Env} {s s₁ : State} {m : MethodId} {args : Array Value} {below : List Frame} {meth : Method} {c : Code} {hh : List (Nat × Nat × Nat × Nat)}
    (B : BodyLoose p l y S cc maxL ret e s m args below meth c s₁) (h : (Cond.codeWith y bytes maxL' ret' hh).before args s = true) : c.exceptionTable.toList = tableOf hh := by
  obtain ⟨m9, meth9, c9, hn9, h1, h2, -, -, h6, -⟩ := Cond.codeWith_spec h
  cases Option.some.inj (hn9.symm.trans B.named)
  cases Option.some.inj (h1.symm.trans B.method)
  cases Option.some.inj (h2.symm.trans (Stand.of_body B).code)
  rw [← h6, table_eq]
end Bodies
end VXA
/-! ===== END ===== -/
/-! ===== BEGIN a static call of a method with an exception table ===== -/
section VXS
variable {p : Program} {l : Launch} {e : Env} {R : Room} {s : State} {m : MethodId} {args : Array Value} {below : List Frame} {meth : Method} {c : Code} {T : State} {H : Heap} {locs : List Loc} {cells slots : Nat}
abbrev vx_CSW (R : Room) (s : State) (args : Array Value) (own : String) (index : Nat) (y : MethodName) (bytes : ByteArray) (maxL : Nat) (ret : Option FieldType) (hh : List (Nat × Nat × Nat × Nat)) (ws : List Cond) (rm : Room) (mc ms n : Nat) : Prop :=
  (rm.cells = mc ∧ rm.slots = ms ∧ rm.frames + 1 ≤ R.frames ∧ 8 + (maxL + 11) + rm.locals ≤ R.locals ∧ (∀ w ∈ ws, ∀ (a' : Array Value) (U : State), s.WarmedH U.vm → w.before a' U = true) ∧ Cond.codeWith y bytes maxL ret hh ∈ ws) ∧
  (Cond.codeWith y bytes maxL ret hh).before args s = true ∧ (Cond.initialized y.cls).before args s = true ∧ (y.cls ≠ "java/lang/invoke/MethodHandle" ∧ y.cls ≠ "java/lang/invoke/VarHandle") ∧
  (∀ sig, parseMethodDescriptor y.desc = some sig → n = sig.parameters.length) ∧ (Cond.methodLink own index y).before args s = true ∧ (Cond.static y).before args s = true
theorem vx_cwSW {own : String} {index maxL mc ms : Nat} {y : MethodName} {bytes : ByteArray} {ret : Option FieldType} {hh : List (Nat × Nat × Nat × Nat)} {Ts ws ws' : List Cond} {rm : Room} (n : Nat) (ht : ∀ w ∈ Ts, w.before args s = true) (hT : GoodIn Ts (va_wsS own index y ws)) (hw : ws = Cond.codeWith y bytes maxL ret hh :: ws') (hrc : rm.cells = mc) (hrs : rm.slots = ms)
    (hd : y.cls ≠ "java/lang/invoke/MethodHandle" ∧ y.cls ≠ "java/lang/invoke/VarHandle" ∧ (parseMethodDescriptor y.desc).map (fun d => d.parameters.length) = some n) (hR : rm.frames + 1 ≤ R.frames ∧ 8 + (maxL + 11) + rm.locals ≤ R.locals) :
    vx_CSW R s args own index y bytes maxL ret hh ws rm mc ms n := by
  have ok : ∀ w ∈ va_wsS own index y ws, w.before args s = true := fun w h => ht w (hT w h).1
  have hG : GoodIn Ts ws := fun w h => hT w (by unfold va_wsS; exact List.mem_append_right _ h)
  have hc : Cond.codeWith y bytes maxL ret hh ∈ ws := by rw [hw]; exact List.mem_cons_self
  refine ⟨⟨hrc, hrs, hR.1, hR.2, pay_in ht hG, hc⟩, ht _ (hG _ hc).1, ok _ (by simp [va_wsS]), ⟨hd.1, hd.2.1⟩, fun sig h => ?_, ok _ (by simp [va_wsS]), ok _ (by simp [va_wsS])⟩
  have h2 := hd.2.2
  rw [h] at h2
  exact (Option.some.inj h2).symm
theorem vx_callSW (X : Stand p l e R s m args below meth c T locs cells slots) (hexec : p.tables.exec = Jvm.exec) {own : String} {index : Nat} {y : MethodName} {bytes : ByteArray} {maxL : Nat} {ret : Option FieldType} {hh : List (Nat × Nat × Nat × Nat)}
    (hown : s.vm.findClass own = some m.cls) (hlink : (Cond.methodLink own index y).before args s = true) (hstat : (Cond.static y).before args s = true) (hinit : (Cond.initialized y.cls).before args s = true)
    (hcode : (Cond.codeWith y bytes maxL ret hh).before args s = true) (hy : y.cls ≠ "java/lang/invoke/MethodHandle" ∧ y.cls ≠ "java/lang/invoke/VarHandle")
    {W9 : Nat} {Pre : Pt → Array Value → Prop} {Post : Pt → Array Value → Option Value → Pt → Prop} (hK : Back l R p e below s args y 3 W9 Pre Post)
    {g : JFrame} (hg : g.method = m) (hsize : g.locals.size = c.maxLocals) {argsL rest : List Value} (hlen : ∀ sig, parseMethodDescriptor y.desc = some sig → argsL.length = sig.parameters.length)
    (hstack : g.stack = argsL.reverse ++ rest) (hW : 2 * g.monitorRoom + (rest.map fun v => v.category).sum ≤ W9) (hdg : decode c.code g.pc = .ok (.invokestatic index, 3))
    (hpre : ∀ vm₁, s.WarmedH vm₁ → Pre ⟨T.setVm vm₁, locs, cells, slots⟩ argsL.toArray) :
    ∃ (v : Option Value) (vm₁ : Vm) (B : Pt), s.WarmedH vm₁ ∧ Stand p l e R s m args below meth c B.U B.locs B.cells B.slots ∧ Post ⟨T.setVm vm₁, locs, cells, slots⟩ argsL.toArray v B ∧
      ∀ target, Steps p.tables e below (B.U.setTop { g with pc := g.pc + 3, stack := v.toList ++ rest }) target → Steps p.tables e below (T.setTop g) target := by
  obtain ⟨mk, methM, cM, hnamed, hmethM, -, -, -, -, -, -, hsigM⟩ := Cond.codeWith_spec hcode
  have hstatic : methM.isStatic = true := Cond.static_spec hnamed hmethM hstat
  obtain ⟨kP, hkP, -⟩ := className_of_methodNamed hnamed
  have hinitP : kP.init = .initialized := Cond.initialized_spec (findClass_of_methodNamed hnamed) hkP hinit
  obtain ⟨vm₁, X₁, hstep₁⟩ := X.invokestatic hexec hown hlink hnamed hmethM hstatic hkP hinitP hy (g := g) hg (argsL := argsL) (rest := rest) (hlen _ hsigM) hstack hdg
  obtain ⟨v, B, X', hpost, hsteps⟩ := hK m meth c ⟨T.setVm vm₁, locs, cells, slots⟩ { g with stack := rest } (.invokestatic index) mk argsL.toArray X₁ hg hsize hdg hW (X₁.named hnamed) (hpre vm₁ X₁.warmed)
  exact ⟨v, vm₁, B, X₁.warmed, X', hpost, fun target h => hstep₁ _ fun acts => by rw [doInvoke_state]; exact hsteps.trans h⟩
theorem vx_runSW {y : MethodName} {bytes cc : ByteArray} {maxL nL mc ms n index : Nat} {ret : Option FieldType} {hh : List (Nat × Nat × Nat × Nat)} {ws : List Cond} {rm : Room} {Pc : Array Value → State → Prop} {Qc : Array Value → State → Outcome → State → Prop} {free : Addr → Prop} {Ts : List Cond} {own : String} {As rest : List Value} {g : JFrame}
    (S : CallFix p m c cc nL s args Ts own) (hM : Met l y ws rm Pc Qc mc ms free) (cw : vx_CSW R s args own index y bytes maxL ret hh ws rm mc ms n) (hp : PreS s H Pc As)
    (hg : g.method = m) (hn : As.length = n) (hsize : g.locals.size = nL) (hstack : g.stack = As.reverse ++ rest) (hW : 2 * g.monitorRoom + (rest.map fun v => v.category).sum ≤ 8) (hdg : decode cc g.pc = .ok (.invokestatic index, 3)) (hf : cells + mc ≤ R.cells ∧ slots + ms ≤ R.slots) :
    va_Run p l e R s m args below meth c H locs cells slots mc ms g rest (Qc As.toArray) (free) := by
  obtain ⟨⟨hrc, hrs, hfr, hlo, hws, hcw⟩, hcode, hini, hy, hlen, hl, hstt⟩ := cw
  have hK : Back l R p e below s args y 3 8 (PreOf R mc ms Pc) (PostOf Qc mc ms free) := va_backW (hh := hh) (bytes := bytes) (maxL := maxL) (ret := ret) hM hp.1 hrc hrs hfr hlo hws hcw (fun a' U hW => word_at hW (Or.inl (by first | rfl | simp [Cond.onTables, Cond.keeps, Cond.steady])) hini)
  obtain ⟨hx, hb, hml, ho, -⟩ := S
  intro T hT X
  obtain ⟨v, vm₁, ⟨U', l2, c2, s2⟩, hW₁, X', ⟨g', mk, t, L, e1, e2, hq, h1, hL, h2, h3⟩, st⟩ := vx_callSW X hx (hh := hh) (bytes := bytes) (maxL := maxL) (ret := ret) ho hl hstt hini hcode hy hK hg (hsize.trans hml.symm) (argsL := As) (rest := rest) (fun sig h => hn.trans (hlen sig h)) hstack hW (by rw [hb]; exact hdg)
    (fun vm₁ hW₁ => ⟨hf.1, hf.2, hp.2 (T.setVm vm₁) hT hW₁⟩)
  dsimp only [Pt.U, Pt.locs, Pt.cells, Pt.slots] at X' e1 e2 h1 h2 h3 st
  subst h1; subst h2; subst h3
  exact ⟨v, (T.setVm vm₁).calling g' mk As.toArray, t, U', L, hT, X', hL, e1, e2, hq, st⟩
/-- not caught here, past rows that name other classes: it goes on to the caller -/
theorem vx_outP {p : Program} {l : Launch} {e : Env} {R : Room} {s : State} {m : MethodId} {args : Array Value} {below : List Frame} {meth : Method} {c : Code} {H : Heap} {locs : List Loc} {cells slots : Nat} {free : Addr → Prop} {ls : Array Slot} {rest : List Value} {Qc : Array Value → State → Outcome → State → Prop} {XC : String → State → State → Prop}
    {pc : Nat} {own E : String} {ce : Cell} {q : Addr} {mc ms : Nat} (hown : s.vm.findClass own = some m.cls) (hlocks : meth.locks = false)
    (hpass : ∀ z ∈ c.exceptionTable.toList, covers z pc = false ∨ (z.catchType ≠ 0 ∧ ∃ nm : String, (Cond.classLink own z.catchType nm).before args s = true ∧ va_Nc E nm s)) (hcell : H[q]? = some ce) (hv : ce.vm = .none) (hcl : s.vm.findClass E = some ce.cls)
    (hx : ∀ t : State, t.heap = H → s.vm.Alike t.vm → XC E s t) (hf : ∀ z ∈ locs, free z.base) (hc : cells ≤ mc) (hs : slots ≤ ms) :
    vx_W p l e R s m args below meth c H locs cells slots (vx_MQ below Qc XC args s mc ms free) (F0 m pc ls rest) q := by
  intro T hT X
  have hpl : e.platform.magicAccessors = ({} : Platform).magicAccessors := by rw [X.admits.platform]
  obtain ⟨vm', hW', X', st⟩ := X.outThrough hlocks q (g := F0 m pc ls rest) rfl rfl rfl (cell := ce) (by rw [hT]; exact hcell) (by rw [hv]; rfl)
    (by obtain ⟨k9, h9, -⟩ := Vm.findClass_spec hcl; exact ⟨k9, h9⟩) (fun z hz => by
      rcases hpass z hz with h | ⟨hz0, nm, hl1, hn1⟩
      · exact Or.inl h
      · obtain ⟨c6, hc6, hcl6⟩ := Cond.classLink_spec hown hl1 e.platform hpl
        obtain ⟨a8, b8, h1, h2, h3⟩ := hn1
        cases Option.some.inj (h1.symm.trans hcl)
        cases Option.some.inj (h2.symm.trans hc6)
        exact Or.inr ⟨hz0, _, hcl6, h3⟩)
  obtain ⟨g₀, hfr⟩ := X'.frames_eq
  have hcell9 : ((T.setVm vm').setFrames (.throwing q :: below)).heap[q]? = some ce := by
    show T.heap[q]? = some ce
    rw [hT]; exact hcell
  have hend : Ended ((T.setVm vm').setFrames (.throwing q :: below)) below (.threw q) := State.frames_setFrames _ (State.cur_lt_of_frames hfr)
  refine ⟨(T.setVm vm').setFrames (.throwing q :: below), ?_, .threw q, X'.here.running, hend, Or.inr ⟨q, rfl, E, ce, locs, hx _ hT (X'.ends _).1.alike, hcell9, hv, hcl, (X'.ends _).1, (X'.ends _).2.mono hc hs, hf⟩⟩
  rw [X.pushThrowing_eq]
  exact st
/-- a thing of a world lies in the heap -/
theorem vx_lt {D : va_G} {cl : List vw_C} {ws : va_W} {H1 : Heap} (h : va_P D cl ws H1) {k : Nat} {q : Nat × va_E} (hk : ws[k]? = some q) : q.1 < H1.size := (h k q hk).lt
end VXS
/-! ===== END ===== -/
/-! ===== BEGIN methods with a table of their own: called by a name, returning or throwing ===== -/
section VXH
/-! vx_backW, vx_callVX, vx_callSX, vx_callVW, vx_runVW, vx_runVX, vx_runSX, vx_ofWH follow the same proofs as their sisters above (Free/Laws.lean, Shelf42/LK1.lean); vx_outP calls Shelf42/NT130.lean (outThrough). -/
section
variable {l : Launch} {R : Room} {p : Program} {e : Env} {below : List Frame} {s : State} {sargs : Array Value} {y : MethodName} {len W9 : Nat}
theorem vx_backW {ws : List Cond} {rm : Room} {Pc : Array Value → State → Prop} {Qc : Array Value → State → Outcome → State → Prop} {XC : String → State → State → Prop} {mc ms : Nat} {free : Addr → Prop} {bytes : ByteArray} {maxL : Nat} {ret : Option FieldType} {hh : List (Nat × Nat × Nat × Nat)}
    (hM : vx_Met l y ws rm Pc Qc XC mc ms free) (hblind : FrameBlind Pc) (hrc : rm.cells = mc) (hrs : rm.slots = ms)
    (hframes : rm.frames + 1 ≤ R.frames) (hlocals : W9 + (maxL + 11) + rm.locals ≤ R.locals)
    (hws : ∀ w ∈ ws, ∀ a' U, s.WarmedH U.vm → w.before a' U = true) (hcode : Cond.codeWith y bytes maxL ret hh ∈ ws) (hinit : ∀ a' U, s.WarmedH U.vm → (Cond.initialized y.cls).before a' U = true) :
    vx_Back l R p e below s sargs y len W9 (PreOf R mc ms Pc) (PostOf Qc mc ms free) (vx_Post XC mc ms free) := by
  intro m meth c A g ig mk a X hg hsize hdg hW hn hp
  have h1 : (headSpec ws rm).pre.before a A.U = true := atoms_intro fun w hw => hws w hw _ _ X.warmed
  have h2 : (Cond.codeWith y bytes maxL ret hh).before a A.U = true := hws _ hcode _ _ X.warmed
  have h3 : (Cond.initialized y.cls).before a A.U = true := hinit _ _ X.warmed
  have h4 : A.cells + (headSpec ws rm).room.cells ≤ R.cells := by rw [show (headSpec ws rm).room.cells = mc from hrc]; exact hp.1
  have h5 : A.slots + (headSpec ws rm).room.slots ≤ R.slots := by rw [show (headSpec ws rm).room.slots = ms from hrs]; exact hp.2.1
  have hPc : Pc a (A.U.calling g mk a) := hblind _ _ _ _ hp.2.2
  obtain ⟨U, Ls, c0, s0⟩ := A
  dsimp only [Pt.U, Pt.locs, Pt.cells, Pt.slots] at h1 h2 h3 h4 h5 X hn hPc ⊢
  obtain ⟨m9, methY, cY, hn9, hmY, hcY, -, hlY, -⟩ := Cond.codeWith_spec h2
  cases Option.some.inj (hn9.symm.trans hn)
  obtain ⟨kY, hkY, -⟩ := className_of_methodNamed hn
  have hinitY : kY.init = .initialized := Cond.initialized_spec (findClass_of_methodNamed hn) hkY h3
  have h : At U g.method c below := by rw [hg]; exact X.here
  have hlocals9 : W9 + (maxL + 11) + (headSpec ws rm).room.locals ≤ R.locals := hlocals
  have happ : (headSpec ws rm).appliesLoose y e.platform (U.calling g mk a) = true :=
    Spec.appliesLoose_calling (g := g) h hdg hn hkY hinitY
      (X.room_calling (g := g) (R' := (headSpec ws rm).room) hsize hmY hcY hframes (by rw [hlY]; omega) h4 h5) h1
  obtain ⟨mid, hmid⟩ := h.above
  have hfr : (U.setTop g).frames = (.java g :: mid) ++ below := by rw [State.frames_setTop' g h.top, hmid]; rfl
  obtain ⟨o, s₂, hsteps, -, hend, hq⟩ := Steps.callFree hM p X.admits X.cas X.clock (acts := []) hfr happ hPc trivial
  have hq' : vx_Q Qc XC mc ms free a (U.calling g mk a) o s₂ := hq
  rw [State.frames_setTop' g h.top] at hend
  obtain ⟨g₀, hg0⟩ := Option.isSome_iff_exists.mp h.top
  obtain ⟨r, hr⟩ := State.topJava?_eq_some.mp hg0
  have hr' : (({ U with heap := s₂.heap, slotsUsed := s₂.slotsUsed } : State).setVm s₂.vm).frames = .java g₀ :: r := hr
  rcases hq' with ⟨hqc, L, hfe, hL⟩ | ⟨q, rfl, E, ce, L, hx, hce, hcv, hcl, hW₂, hsm, hL⟩
  · obtain ⟨⟨v, rfl⟩, hW₂, e2, q2, q3, q4, q5, q6⟩ := id hfe
    have e3 : s₂ = ({ (U.calling g mk a).setFrames s₂.frames with heap := s₂.heap, slotsUsed := s₂.slotsUsed } : State).setVm s₂.vm := by
      have : s₂ = ({ s₂ with vm := (U.calling g mk a).vm } : State).setVm s₂.vm := rfl
      rw [e2] at this
      exact this
    obtain ⟨c₂, i₂, len₂, hc₂, hd₂, hf₂⟩ := hend
    have hW' : U.WarmedH s₂.vm := hW₂
    have hcc : c₂ = c := by
      have h1 : s₂.code? g.method = U.code? g.method := by
        rw [State.code?_eq, State.code?_eq, hW'.alike.method?]
      exact Option.some.inj (hc₂.symm.trans (h1.trans h.code))
    subst hcc
    have hlen : len₂ = len := by rw [hdg] at hd₂; cases hd₂; rfl
    subst hlen
    have hs₂ : s₂ = (({ U with heap := s₂.heap, slotsUsed := s₂.slotsUsed } : State).setVm s₂.vm).setTop { g with pc := g.pc + len₂, stack := v.toList ++ g.stack } := by
      refine e3.trans ?_
      rw [hf₂, State.calling_eq h.top, State.setFrames_setFrames, State.setTop_of_frames _ hr', hr]
      rfl
    have hsame : U.sameButNew ({ U with heap := s₂.heap, slotsUsed := s₂.slotsUsed } : State) L mc ms := by
      refine ⟨?_, q2, q3, q4, q5, q6⟩
      obtain ⟨t, ht, -⟩ := State.frames_cons hr
      show ({ U with heap := s₂.heap, slotsUsed := s₂.slotsUsed } : State) = { U.setFrames U.frames with heap := s₂.heap, slotsUsed := s₂.slotsUsed }
      rw [State.setFrames_self ht]
    subst hg
    refine Or.inl ⟨v, ⟨(({ U with heap := s₂.heap, slotsUsed := s₂.slotsUsed } : State).setVm s₂.vm), Ls ++ L, c0 + mc, s0 + ms⟩,
      ⟨X.admits, X.cas, X.clock, X.frames, X.room, X.hears, X.method, X.code, (X.here.setHeapUsed s₂.heap s₂.slotsUsed).setVm hW'.alike, X.tail, State.WarmedH.trans X.warmed hW', X.limits, X.bytes, X.same.trans (hsame.setVm s.vm)⟩,
      ⟨g, mk, s₂, L, rfl, rfl, hqc, rfl, hL, rfl, rfl⟩, ?_⟩
    show Steps p.tables e below _ ((({ U with heap := s₂.heap, slotsUsed := s₂.slotsUsed } : State).setVm s₂.vm).setTop { g with pc := g.pc + len₂, stack := v.toList ++ g.stack })
    rw [← hs₂]
    exact hsteps
  · obtain ⟨e2, q2, q3, q4, q5, q6⟩ := id hsm
    have e3 : s₂ = ({ (U.calling g mk a).setFrames s₂.frames with heap := s₂.heap, slotsUsed := s₂.slotsUsed } : State).setVm s₂.vm := by
      have : s₂ = ({ s₂ with vm := (U.calling g mk a).vm } : State).setVm s₂.vm := rfl
      rw [e2] at this
      exact this
    have hf₂ : s₂.frames = .throwing q :: .java g :: U.frames.tail := hend
    have hW' : U.WarmedH s₂.vm := hW₂
    have hs₂ : s₂ = ((({ U with heap := s₂.heap, slotsUsed := s₂.slotsUsed } : State).setVm s₂.vm).setTop g).pushFrame (.throwing q) := by
      refine e3.trans ?_
      rw [hf₂, State.calling_eq h.top, State.setFrames_setFrames, State.pushFrame, State.frames_setTop _ hr', State.setTop_of_frames _ hr', State.setFrames_setFrames, hr]
      rfl
    have hsame : U.sameButNew ({ U with heap := s₂.heap, slotsUsed := s₂.slotsUsed } : State) L mc ms := by
      refine ⟨?_, q2, q3, q4, q5, q6⟩
      obtain ⟨t, ht, -⟩ := State.frames_cons hr
      show ({ U with heap := s₂.heap, slotsUsed := s₂.slotsUsed } : State) = { U.setFrames U.frames with heap := s₂.heap, slotsUsed := s₂.slotsUsed }
      rw [State.setFrames_self ht]
    subst hg
    refine Or.inr ⟨q, ⟨(({ U with heap := s₂.heap, slotsUsed := s₂.slotsUsed } : State).setVm s₂.vm), Ls ++ L, c0 + mc, s0 + ms⟩,
      ⟨X.admits, X.cas, X.clock, X.frames, X.room, X.hears, X.method, X.code, (X.here.setHeapUsed s₂.heap s₂.slotsUsed).setVm hW'.alike, X.tail, State.WarmedH.trans X.warmed hW', X.limits, X.bytes, X.same.trans (hsame.setVm s.vm)⟩,
      ⟨g, mk, s₂, L, E, ce, rfl, rfl, hx, hce, hcv, hcl, rfl, hL, rfl, rfl⟩, ?_⟩
    show Steps p.tables e below _ (((({ U with heap := s₂.heap, slotsUsed := s₂.slotsUsed } : State).setVm s₂.vm).setTop g).pushFrame (.throwing q))
    rw [← hs₂]
    exact hsteps
end
variable {p : Program} {l : Launch} {e : Env} {R : Room} {s : State} {m : MethodId} {args : Array Value} {below : List Frame} {meth : Method} {c : Code} {T : State} {H : Heap} {locs : List Loc} {cells slots : Nat}
theorem vx_callVX (X : Stand p l e R s m args below meth c T locs cells slots) (hexec : p.tables.exec = Jvm.exec) {own C : String} {index : Nat} {y : MethodName} {bytes : ByteArray} {maxL : Nat} {ret : Option FieldType} {hh : List (Nat × Nat × Nat × Nat)}
    (hown : s.vm.findClass own = some m.cls) (hlink : (Cond.methodLink own index y).before args s = true) (hinst : (Cond.instanceMethod y).before args s = true) (hsel : (Cond.selects C y y).before args s = true)
    (hcode : (Cond.codeWith y bytes maxL ret hh).before args s = true) (hy : y.cls ≠ "java/lang/invoke/MethodHandle" ∧ y.cls ≠ "java/lang/invoke/VarHandle")
    {W9 : Nat} {Pre : Pt → Array Value → Prop} {Post : Pt → Array Value → Option Value → Pt → Prop} {PostX : Pt → Array Value → Addr → Pt → Prop} (hK : vx_Back l R p e below s args y 3 W9 Pre Post PostX)
    {b : Addr} {cellB : Cell} (hcell : T.heap[b]? = some cellB) (hobj : cellB.vm.isStatics = false) (hcls : s.vm.findClass C = some cellB.cls)
    {g : JFrame} (hg : g.method = m) (hsize : g.locals.size = c.maxLocals) {argsL rest : List Value} (hlen : ∀ sig, parseMethodDescriptor y.desc = some sig → argsL.length = sig.parameters.length)
    (hstack : g.stack = argsL.reverse ++ .ref b :: rest) (hW : 2 * g.monitorRoom + (rest.map fun v => v.category).sum ≤ W9) (hdg : decode c.code g.pc = .ok (.invokevirtual index, 3))
    (hpre : ∀ vm₁, s.WarmedH vm₁ → Pre ⟨T.setVm vm₁, locs, cells, slots⟩ (Value.ref b :: argsL).toArray) :
    (∃ (v : Option Value) (vm₁ : Vm) (B : Pt), s.WarmedH vm₁ ∧ Stand p l e R s m args below meth c B.U B.locs B.cells B.slots ∧ Post ⟨T.setVm vm₁, locs, cells, slots⟩ (Value.ref b :: argsL).toArray v B ∧
      ∀ target, Steps p.tables e below (B.U.setTop { g with pc := g.pc + 3, stack := v.toList ++ rest }) target → Steps p.tables e below (T.setTop g) target) ∨
    (∃ (q : Addr) (vm₁ : Vm) (B : Pt), s.WarmedH vm₁ ∧ Stand p l e R s m args below meth c B.U B.locs B.cells B.slots ∧ PostX ⟨T.setVm vm₁, locs, cells, slots⟩ (Value.ref b :: argsL).toArray q B ∧
      Steps p.tables e below (T.setTop g) ((B.U.setTop { g with stack := rest }).pushFrame (.throwing q))) := by
  obtain ⟨mk, methM, hnamed, hmethM, hstM, habM⟩ := Cond.instanceMethod_spec hinst
  obtain ⟨m8, methM', cM, hn8, hmethM', -, -, -, -, -, -, hsigM⟩ := Cond.codeWith_spec hcode
  cases Option.some.inj (hn8.symm.trans hnamed)
  cases hmethM.symm.trans hmethM'
  obtain ⟨c2, r2, m2, q1, q2, q3, q4, kP, hkP, hkPi⟩ := Cond.selects_spec hsel
  cases hcls.symm.trans q1
  cases (State.methodFound?_of_named hnamed hy).symm.trans q2
  cases hnamed.symm.trans q3
  have hselP : selectMethod e.platform s.vm cellB.cls mk = .method mk := by rw [Launch.admits_selectMethod X.admits]; exact q4
  obtain ⟨vm₁, X₁, hstep₁⟩ := X.invokevirtual hexec hown hlink hnamed hmethM hstM hkP hkPi hy (a := b) (cell := cellB) hcell
    (fun z h => by rw [h] at hobj; cases hobj) hselP hmethM habM hkP hkPi (g := g) hg (argsL := argsL) (rest := rest) (hlen _ hsigM) hstack hdg
  rcases hK m meth c ⟨T.setVm vm₁, locs, cells, slots⟩ { g with stack := rest } (.invokevirtual index) mk (Value.ref b :: argsL).toArray X₁ hg hsize hdg hW (X₁.named hnamed) (hpre vm₁ X₁.warmed) with ⟨v, B, X', hpost, hsteps⟩ | ⟨q, B, X', hpost, hsteps⟩
  · exact Or.inl ⟨v, vm₁, B, X₁.warmed, X', hpost, fun target h => hstep₁ _ fun acts => by rw [doInvoke_state]; exact hsteps.trans h⟩
  · exact Or.inr ⟨q, vm₁, B, X₁.warmed, X', hpost, hstep₁ _ fun acts => by rw [doInvoke_state]; exact hsteps⟩
theorem vx_callSX (X : Stand p l e R s m args below meth c T locs cells slots) (hexec : p.tables.exec = Jvm.exec) {own : String} {index : Nat} {y : MethodName} {bytes : ByteArray} {maxL : Nat} {ret : Option FieldType} {hh : List (Nat × Nat × Nat × Nat)}
    (hown : s.vm.findClass own = some m.cls) (hlink : (Cond.methodLink own index y).before args s = true) (hstat : (Cond.static y).before args s = true) (hinit : (Cond.initialized y.cls).before args s = true)
    (hcode : (Cond.codeWith y bytes maxL ret hh).before args s = true) (hy : y.cls ≠ "java/lang/invoke/MethodHandle" ∧ y.cls ≠ "java/lang/invoke/VarHandle")
    {W9 : Nat} {Pre : Pt → Array Value → Prop} {Post : Pt → Array Value → Option Value → Pt → Prop} {PostX : Pt → Array Value → Addr → Pt → Prop} (hK : vx_Back l R p e below s args y 3 W9 Pre Post PostX)
    {g : JFrame} (hg : g.method = m) (hsize : g.locals.size = c.maxLocals) {argsL rest : List Value} (hlen : ∀ sig, parseMethodDescriptor y.desc = some sig → argsL.length = sig.parameters.length)
    (hstack : g.stack = argsL.reverse ++ rest) (hW : 2 * g.monitorRoom + (rest.map fun v => v.category).sum ≤ W9) (hdg : decode c.code g.pc = .ok (.invokestatic index, 3))
    (hpre : ∀ vm₁, s.WarmedH vm₁ → Pre ⟨T.setVm vm₁, locs, cells, slots⟩ argsL.toArray) :
    (∃ (v : Option Value) (vm₁ : Vm) (B : Pt), s.WarmedH vm₁ ∧ Stand p l e R s m args below meth c B.U B.locs B.cells B.slots ∧ Post ⟨T.setVm vm₁, locs, cells, slots⟩ argsL.toArray v B ∧
      ∀ target, Steps p.tables e below (B.U.setTop { g with pc := g.pc + 3, stack := v.toList ++ rest }) target → Steps p.tables e below (T.setTop g) target) ∨
    (∃ (q : Addr) (vm₁ : Vm) (B : Pt), s.WarmedH vm₁ ∧ Stand p l e R s m args below meth c B.U B.locs B.cells B.slots ∧ PostX ⟨T.setVm vm₁, locs, cells, slots⟩ argsL.toArray q B ∧
      Steps p.tables e below (T.setTop g) ((B.U.setTop { g with stack := rest }).pushFrame (.throwing q))) := by
  obtain ⟨mk, methM, cM, hnamed, hmethM, -, -, -, -, -, -, hsigM⟩ := Cond.codeWith_spec hcode
  have hstatic : methM.isStatic = true := Cond.static_spec hnamed hmethM hstat
  obtain ⟨kP, hkP, -⟩ := className_of_methodNamed hnamed
  have hinitP : kP.init = .initialized := Cond.initialized_spec (findClass_of_methodNamed hnamed) hkP hinit
  obtain ⟨vm₁, X₁, hstep₁⟩ := X.invokestatic hexec hown hlink hnamed hmethM hstatic hkP hinitP hy (g := g) hg (argsL := argsL) (rest := rest) (hlen _ hsigM) hstack hdg
  rcases hK m meth c ⟨T.setVm vm₁, locs, cells, slots⟩ { g with stack := rest } (.invokestatic index) mk argsL.toArray X₁ hg hsize hdg hW (X₁.named hnamed) (hpre vm₁ X₁.warmed) with ⟨v, B, X', hpost, hsteps⟩ | ⟨q, B, X', hpost, hsteps⟩
  · exact Or.inl ⟨v, vm₁, B, X₁.warmed, X', hpost, fun target h => hstep₁ _ fun acts => by rw [doInvoke_state]; exact hsteps.trans h⟩
  · exact Or.inr ⟨q, vm₁, B, X₁.warmed, X', hpost, hstep₁ _ fun acts => by rw [doInvoke_state]; exact hsteps⟩
theorem vx_callVW (X : Stand p l e R s m args below meth c T locs cells slots) (hexec : p.tables.exec = Jvm.exec) {own C : String} {index : Nat} {y : MethodName} {bytes : ByteArray} {maxL : Nat} {ret : Option FieldType} {hh : List (Nat × Nat × Nat × Nat)}
    (hown : s.vm.findClass own = some m.cls) (hlink : (Cond.methodLink own index y).before args s = true) (hinst : (Cond.instanceMethod y).before args s = true) (hsel : (Cond.selects C y y).before args s = true)
    (hcode : (Cond.codeWith y bytes maxL ret hh).before args s = true) (hy : y.cls ≠ "java/lang/invoke/MethodHandle" ∧ y.cls ≠ "java/lang/invoke/VarHandle")
    {W9 : Nat} {Pre : Pt → Array Value → Prop} {Post : Pt → Array Value → Option Value → Pt → Prop} (hK : Back l R p e below s args y 3 W9 Pre Post)
    {b : Addr} {cellB : Cell} (hcell : T.heap[b]? = some cellB) (hobj : cellB.vm.isStatics = false) (hcls : s.vm.findClass C = some cellB.cls)
    {g : JFrame} (hg : g.method = m) (hsize : g.locals.size = c.maxLocals) {argsL rest : List Value} (hlen : ∀ sig, parseMethodDescriptor y.desc = some sig → argsL.length = sig.parameters.length)
    (hstack : g.stack = argsL.reverse ++ .ref b :: rest) (hW : 2 * g.monitorRoom + (rest.map fun v => v.category).sum ≤ W9) (hdg : decode c.code g.pc = .ok (.invokevirtual index, 3))
    (hpre : ∀ vm₁, s.WarmedH vm₁ → Pre ⟨T.setVm vm₁, locs, cells, slots⟩ (Value.ref b :: argsL).toArray) :
    ∃ (v : Option Value) (vm₁ : Vm) (B : Pt), s.WarmedH vm₁ ∧ Stand p l e R s m args below meth c B.U B.locs B.cells B.slots ∧ Post ⟨T.setVm vm₁, locs, cells, slots⟩ (Value.ref b :: argsL).toArray v B ∧
      ∀ target, Steps p.tables e below (B.U.setTop { g with pc := g.pc + 3, stack := v.toList ++ rest }) target → Steps p.tables e below (T.setTop g) target := by
  obtain ⟨mk, methM, hnamed, hmethM, hstM, habM⟩ := Cond.instanceMethod_spec hinst
  obtain ⟨m8, methM', cM, hn8, hmethM', -, -, -, -, -, -, hsigM⟩ := Cond.codeWith_spec hcode
  cases Option.some.inj (hn8.symm.trans hnamed)
  cases hmethM.symm.trans hmethM'
  obtain ⟨c2, r2, m2, q1, q2, q3, q4, kP, hkP, hkPi⟩ := Cond.selects_spec hsel
  cases hcls.symm.trans q1
  cases (State.methodFound?_of_named hnamed hy).symm.trans q2
  cases hnamed.symm.trans q3
  have hselP : selectMethod e.platform s.vm cellB.cls mk = .method mk := by rw [Launch.admits_selectMethod X.admits]; exact q4
  obtain ⟨vm₁, X₁, hstep₁⟩ := X.invokevirtual hexec hown hlink hnamed hmethM hstM hkP hkPi hy (a := b) (cell := cellB) hcell
    (fun z h => by rw [h] at hobj; cases hobj) hselP hmethM habM hkP hkPi (g := g) hg (argsL := argsL) (rest := rest) (hlen _ hsigM) hstack hdg
  obtain ⟨v, B, X', hpost, hsteps⟩ := hK m meth c ⟨T.setVm vm₁, locs, cells, slots⟩ { g with stack := rest } (.invokevirtual index) mk (Value.ref b :: argsL).toArray X₁ hg hsize hdg hW (X₁.named hnamed) (hpre vm₁ X₁.warmed)
  exact ⟨v, vm₁, B, X₁.warmed, X', hpost, fun target h => hstep₁ _ fun acts => by rw [doInvoke_state]; exact hsteps.trans h⟩
abbrev vx_CVW (R : Room) (s : State) (args : Array Value) (own C : String) (index : Nat) (y : MethodName) (bytes : ByteArray) (maxL : Nat) (ret : Option FieldType) (hh : List (Nat × Nat × Nat × Nat)) (ws : List Cond) (rm : Room) (mc ms n : Nat) : Prop :=
  (rm.cells = mc ∧ rm.slots = ms ∧ rm.frames + 1 ≤ R.frames ∧ 8 + (maxL + 11) + rm.locals ≤ R.locals ∧ (∀ w ∈ ws, ∀ (a' : Array Value) (U : State), s.WarmedH U.vm → w.before a' U = true) ∧ Cond.codeWith y bytes maxL ret hh ∈ ws) ∧
  (Cond.codeWith y bytes maxL ret hh).before args s = true ∧ (Cond.initialized y.cls).before args s = true ∧ (y.cls ≠ "java/lang/invoke/MethodHandle" ∧ y.cls ≠ "java/lang/invoke/VarHandle") ∧
  (∀ sig, parseMethodDescriptor y.desc = some sig → n = sig.parameters.length) ∧ (Cond.methodLink own index y).before args s = true ∧ (Cond.instanceMethod y).before args s = true ∧ (Cond.selects C y y).before args s = true
theorem vx_cwVW {own C : String} {index maxL mc ms : Nat} {y : MethodName} {bytes : ByteArray} {ret : Option FieldType} {hh : List (Nat × Nat × Nat × Nat)} {Ts ws ws' : List Cond} {rm : Room} (n : Nat) (ht : ∀ w ∈ Ts, w.before args s = true) (hT : GoodIn Ts (wsV own index C y ws)) (hw : ws = Cond.codeWith y bytes maxL ret hh :: ws') (hrc : rm.cells = mc) (hrs : rm.slots = ms)
    (hd : y.cls = C ∧ y.cls ≠ "java/lang/invoke/MethodHandle" ∧ y.cls ≠ "java/lang/invoke/VarHandle" ∧ (parseMethodDescriptor y.desc).map (fun d => d.parameters.length) = some n) (hR : rm.frames + 1 ≤ R.frames ∧ 8 + (maxL + 11) + rm.locals ≤ R.locals) :
    vx_CVW R s args own C index y bytes maxL ret hh ws rm mc ms n := by
  obtain ⟨hC, hd⟩ := hd
  subst hC
  have ok : ∀ w ∈ wsV own index y.cls y ws, w.before args s = true := fun w h => ht w (hT w h).1
  have hG : GoodIn Ts ws := fun w h => hT w (by unfold wsV; exact List.mem_append_right _ h)
  have hc : Cond.codeWith y bytes maxL ret hh ∈ ws := by rw [hw]; exact List.mem_cons_self
  refine ⟨⟨hrc, hrs, hR.1, hR.2, pay_in ht hG, hc⟩, ht _ (hG _ hc).1, ok _ (by simp [wsV]), ⟨hd.1, hd.2.1⟩, fun sig h => ?_, ok _ (by simp [wsV]), ok _ (by simp [wsV]), ok _ (by simp [wsV])⟩
  have h2 := hd.2.2
  rw [h] at h2
  exact (Option.some.inj h2).symm
theorem vx_runVW {y : MethodName} {bytes cc : ByteArray} {maxL nL mc ms n index : Nat} {ret : Option FieldType} {hh : List (Nat × Nat × Nat × Nat)} {ws : List Cond} {rm : Room} {Pc : Array Value → State → Prop} {Qc : Array Value → State → Outcome → State → Prop} {free : Addr → Prop} {Ts : List Cond} {own C : String} {b : Addr} {As rest : List Value} {g : JFrame}
    (S : CallFix p m c cc nL s args Ts own) (hM : Met l y ws rm Pc Qc mc ms free) (cw : vx_CVW R s args own C index y bytes maxL ret hh ws rm mc ms n) (hp : PreV s H C b Pc As)
    (hg : g.method = m) (hn : As.length = n) (hsize : g.locals.size = nL) (hstack : g.stack = As.reverse ++ .ref b :: rest) (hW : 2 * g.monitorRoom + (rest.map fun v => v.category).sum ≤ 8) (hdg : decode cc g.pc = .ok (.invokevirtual index, 3)) (hf : cells + mc ≤ R.cells ∧ slots + ms ≤ R.slots) :
    va_Run p l e R s m args below meth c H locs cells slots mc ms g rest (Qc (Value.ref b :: As).toArray) free := by
  obtain ⟨⟨hrc, hrs, hfr, hlo, hws, hcw⟩, hcode, hini, hy, hlen, hl, hin, hse⟩ := cw
  have hK : Back l R p e below s args y 3 8 (PreOf R mc ms Pc) (PostOf Qc mc ms free) := va_backW (hh := hh) (bytes := bytes) (maxL := maxL) (ret := ret) hM hp.1 hrc hrs hfr hlo hws hcw (fun a' U hW => word_at hW (Or.inl (by first | rfl | simp [Cond.onTables, Cond.keeps, Cond.steady])) hini)
  obtain ⟨hx, hb, hml, ho, -⟩ := S
  obtain ⟨-, ⟨cellB, hcB, hoB, hclB⟩, hPc⟩ := hp
  intro T hT X
  obtain ⟨v, vm₁, ⟨U', l2, c2, s2⟩, hW₁, X', ⟨g', mk, t, L, e1, e2, hq, h1, hL, h2, h3⟩, st⟩ := vx_callVW X hx (C := C) (hh := hh) (bytes := bytes) (maxL := maxL) (ret := ret) ho hl hin hse hcode hy hK (by rw [hT]; exact hcB) hoB hclB hg (hsize.trans hml.symm) (argsL := As) (rest := rest) (fun sig h => hn.trans (hlen sig h)) hstack hW (by rw [hb]; exact hdg)
    (fun vm₁ hW₁ => ⟨hf.1, hf.2, hPc (T.setVm vm₁) hT hW₁⟩)
  dsimp only [Pt.U, Pt.locs, Pt.cells, Pt.slots] at X' e1 e2 h1 h2 h3 st
  subst h1; subst h2; subst h3
  exact ⟨v, (T.setVm vm₁).calling g' mk (Value.ref b :: As).toArray, t, U', L, hT, X', hL, e1, e2, hq, st⟩
section
variable {y : MethodName} {bytes cc : ByteArray} {maxL nL mc ms n index : Nat} {ret : Option FieldType} {ws : List Cond} {rm : Room} {Pc : Array Value → State → Prop} {Qc : Array Value → State → Outcome → State → Prop} {XC : String → State → State → Prop} {free : Addr → Prop} {Ts : List Cond} {own C : String} {b : Addr} {As rest : List Value} {g : JFrame}
theorem vx_runVX {hh : List (Nat × Nat × Nat × Nat)} (S : CallFix p m c cc nL s args Ts own) (hM : vx_Met l y ws rm Pc Qc XC mc ms free) (cw : vx_CVW R s args own C index y bytes maxL ret hh ws rm mc ms n) (hp : PreV s H C b Pc As)
    (hg : g.method = m) (hn : As.length = n) (hsize : g.locals.size = nL) (hstack : g.stack = As.reverse ++ .ref b :: rest) (hW : 2 * g.monitorRoom + (rest.map fun v => v.category).sum ≤ 8) (hdg : decode cc g.pc = .ok (.invokevirtual index, 3)) (hf : cells + mc ≤ R.cells ∧ slots + ms ≤ R.slots) :
    vx_Run p l e R s m args below meth c H locs cells slots mc ms g rest (Qc (Value.ref b :: As).toArray) XC free := by
  obtain ⟨⟨hrc, hrs, hfr, hlo, hws, hcw⟩, hcode, hini, hy, hlen, hl, hin, hse⟩ := cw
  have hK : vx_Back l R p e below s args y 3 8 (PreOf R mc ms Pc) (PostOf Qc mc ms free) (vx_Post XC mc ms free) := vx_backW (hh := hh) (bytes := bytes) (maxL := maxL) (ret := ret) hM hp.1 hrc hrs hfr hlo hws hcw (fun a' U hW => word_at hW (Or.inl (by first | rfl | simp [Cond.onTables, Cond.keeps, Cond.steady])) hini)
  obtain ⟨hx, hb, hml, ho, -⟩ := S
  obtain ⟨-, ⟨cellB, hcB, hoB, hclB⟩, hPc⟩ := hp
  intro T hT X
  rcases vx_callVX X hx (C := C) (hh := hh) (bytes := bytes) (maxL := maxL) (ret := ret) ho hl hin hse hcode hy hK (by rw [hT]; exact hcB) hoB hclB hg (hsize.trans hml.symm) (argsL := As) (rest := rest) (fun sig h => hn.trans (hlen sig h)) hstack hW (by rw [hb]; exact hdg)
    (fun vm₁ hW₁ => ⟨hf.1, hf.2, hPc (T.setVm vm₁) hT hW₁⟩) with ⟨v, vm₁, ⟨U', l2, c2, s2⟩, hW₁, X', ⟨g', mk, t, L, e1, e2, hq, h1, hL, h2, h3⟩, st⟩ | ⟨q, vm₁, ⟨U', l2, c2, s2⟩, hW₁, X', ⟨g', mk, t, L, E, ce, e1, e2, hq, hce, hcv, hcl, h1, hL, h2, h3⟩, st⟩
  · dsimp only [Pt.U, Pt.locs, Pt.cells, Pt.slots] at X' e1 e2 h1 h2 h3 st
    subst h1; subst h2; subst h3
    exact Or.inl ⟨v, (T.setVm vm₁).calling g' mk (Value.ref b :: As).toArray, t, U', L, hT, X', hL, e1, e2, hq, st⟩
  · dsimp only [Pt.U, Pt.locs, Pt.cells, Pt.slots] at X' e1 e2 h1 h2 h3 st hcl
    subst h1; subst h2; subst h3
    exact Or.inr ⟨q, (T.setVm vm₁).calling g' mk (Value.ref b :: As).toArray, t, U', L, E, ce, hT, X', hL, e1, e2, hq, hce, hcv, vx_cls hW₁ hcl, st⟩
theorem vx_runSX {hh : List (Nat × Nat × Nat × Nat)} (S : CallFix p m c cc nL s args Ts own) (hM : vx_Met l y ws rm Pc Qc XC mc ms free) (cw : vx_CSW R s args own index y bytes maxL ret hh ws rm mc ms n) (hp : PreS s H Pc As)
    (hg : g.method = m) (hn : As.length = n) (hsize : g.locals.size = nL) (hstack : g.stack = As.reverse ++ rest) (hW : 2 * g.monitorRoom + (rest.map fun v => v.category).sum ≤ 8) (hdg : decode cc g.pc = .ok (.invokestatic index, 3)) (hf : cells + mc ≤ R.cells ∧ slots + ms ≤ R.slots) :
    vx_Run p l e R s m args below meth c H locs cells slots mc ms g rest (Qc As.toArray) XC free := by
  obtain ⟨⟨hrc, hrs, hfr, hlo, hws, hcw⟩, hcode, hini, hy, hlen, hl, hstt⟩ := cw
  have hK : vx_Back l R p e below s args y 3 8 (PreOf R mc ms Pc) (PostOf Qc mc ms free) (vx_Post XC mc ms free) := vx_backW (hh := hh) (bytes := bytes) (maxL := maxL) (ret := ret) hM hp.1 hrc hrs hfr hlo hws hcw (fun a' U hW => word_at hW (Or.inl (by first | rfl | simp [Cond.onTables, Cond.keeps, Cond.steady])) hini)
  obtain ⟨hx, hb, hml, ho, -⟩ := S
  intro T hT X
  rcases vx_callSX X hx (hh := hh) (bytes := bytes) (maxL := maxL) (ret := ret) ho hl hstt hini hcode hy hK hg (hsize.trans hml.symm) (argsL := As) (rest := rest) (fun sig h => hn.trans (hlen sig h)) hstack hW (by rw [hb]; exact hdg)
    (fun vm₁ hW₁ => ⟨hf.1, hf.2, hp.2 (T.setVm vm₁) hT hW₁⟩) with ⟨v, vm₁, ⟨U', l2, c2, s2⟩, hW₁, X', ⟨g', mk, t, L, e1, e2, hq, h1, hL, h2, h3⟩, st⟩ | ⟨q, vm₁, ⟨U', l2, c2, s2⟩, hW₁, X', ⟨g', mk, t, L, E, ce, e1, e2, hq, hce, hcv, hcl, h1, hL, h2, h3⟩, st⟩
  · dsimp only [Pt.U, Pt.locs, Pt.cells, Pt.slots] at X' e1 e2 h1 h2 h3 st
    subst h1; subst h2; subst h3
    exact Or.inl ⟨v, (T.setVm vm₁).calling g' mk As.toArray, t, U', L, hT, X', hL, e1, e2, hq, st⟩
  · dsimp only [Pt.U, Pt.locs, Pt.cells, Pt.slots] at X' e1 e2 h1 h2 h3 st hcl
    subst h1; subst h2; subst h3
    exact Or.inr ⟨q, (T.setVm vm₁).calling g' mk As.toArray, t, U', L, E, ce, hT, X', hL, e1, e2, hq, hce, hcv, vx_cls hW₁ hcl, st⟩
end
end VXH
theorem vx_ofWH {l : Launch} {y : MethodName} {ws ws' : List Cond} {rm : Room} {Pc : Array Value → State → Prop} {Qc : Array Value → State → Outcome → State → Prop} {XC : String → State → State → Prop} {mc ms : Nat} {free : Addr → Prop} {cc : ByteArray} {maxL : Nat} {ret : Option FieldType} {hh : List (Nat × Nat × Nat × Nat)}
    (hy : plainName y.cls = true) (hw : ws = Cond.codeWith y cc maxL ret hh :: ws')
    (body : ∀ p e s m args below meth c s₁, BodyLoose p l y (headSpec ws rm) cc maxL ret e s m args below meth c s₁ → c.maxLocals = maxL → Pc args s →
      W p l e (headSpec ws rm).room s m args below meth c s.heap [] 0 0 (vx_MQ below Qc XC args s mc ms free) (entryFrame m args maxL)) : vx_Met l y ws rm Pc Qc XC mc ms free := by
  refine MetFree.of_bodyS (code := cc) (maxLocals := maxL) (ret := ret) hy ?_ ?_
  · intro args s m h hn
    obtain ⟨m9, meth, c, hn9, h1, h2, h3, h4, -, h5, h6, -⟩ := Cond.codeWith_spec (atoms_spec (ws := ws) h _ (by rw [hw]; exact List.mem_cons_self))
    cases hn.symm.trans hn9
    exact ⟨meth, c, h1, h2, h3, h4, h5, h6⟩
  · intro p e s m args below meth c s₁ B hml hP _
    have hh0 : s₁.heap = s.heap := by rw [B.state]; rfl
    obtain ⟨t, a1, o, b1, b2, b3⟩ := body p e s m args below meth c s₁ B hml hP s₁ hh0 (Stand.of_body B)
    exact ⟨t, o, a1, b1, b2, b3⟩
/-! ===== END ===== -/
end
section
-- ===== PART A: goes FIRST, ahead of the names: the tables' words, and 'selects' of the private methods out of them =====
/-- a private method of a class that the tables say can be made, by its rows of tables_1 -/
def lw_okq (q : MethodName × Nat) : Prop := (q.1.cls ≠ "java/lang/invoke/MethodHandle" ∧ q.1.cls ≠ "java/lang/invoke/VarHandle") ∧ Cond.instantiable q.1.cls q.2 ∈ tables_1 ∧ Cond.privateMethod q.1 ∈ tables_1 ∧ Cond.instanceMethod q.1 ∈ tables_1
theorem lw_p0 : lw_okq (⟨"Copperleaf", "isOpen", "(I)Z"⟩, 7) := ⟨⟨by decide +kernel, by decide +kernel⟩, List.mem_of_getElem? (i := 14) (by decide +kernel), List.mem_of_getElem? (i := 157) (by decide +kernel), List.mem_of_getElem? (i := 158) (by decide +kernel)⟩
theorem lw_p1 : lw_okq (⟨"Copperleaf", "latestWholeSlot", "()I"⟩, 7) := ⟨⟨by decide +kernel, by decide +kernel⟩, List.mem_of_getElem? (i := 14) (by decide +kernel), List.mem_of_getElem? (i := 185) (by decide +kernel), List.mem_of_getElem? (i := 186) (by decide +kernel)⟩
theorem lw_p2 : lw_okq (⟨"Copperleaf", "sumsUp", "(I)Z"⟩, 7) := ⟨⟨by decide +kernel, by decide +kernel⟩, List.mem_of_getElem? (i := 14) (by decide +kernel), List.mem_of_getElem? (i := 189) (by decide +kernel), List.mem_of_getElem? (i := 190) (by decide +kernel)⟩
theorem lw_p3 : lw_okq (⟨"Copperleaf", "wordIn", "(II)J"⟩, 7) := ⟨⟨by decide +kernel, by decide +kernel⟩, List.mem_of_getElem? (i := 14) (by decide +kernel), List.mem_of_getElem? (i := 193) (by decide +kernel), List.mem_of_getElem? (i := 194) (by decide +kernel)⟩
theorem lw_p4 : lw_okq (⟨"Copperleaf", "endBatch", "()V"⟩, 7) := ⟨⟨by decide +kernel, by decide +kernel⟩, List.mem_of_getElem? (i := 14) (by decide +kernel), List.mem_of_getElem? (i := 202) (by decide +kernel), List.mem_of_getElem? (i := 203) (by decide +kernel)⟩
theorem lw_p5 : lw_okq (⟨"Copperleaf", "keepStates", "([ZI)V"⟩, 7) := ⟨⟨by decide +kernel, by decide +kernel⟩, List.mem_of_getElem? (i := 14) (by decide +kernel), List.mem_of_getElem? (i := 209) (by decide +kernel), List.mem_of_getElem? (i := 210) (by decide +kernel)⟩
theorem lw_p6 : lw_okq (⟨"java/lang/Throwable", "fillInStackTrace", "(I)Ljava/lang/Throwable;"⟩, 6) := ⟨⟨by decide +kernel, by decide +kernel⟩, List.mem_of_getElem? (i := 260) (by decide +kernel), List.mem_of_getElem? (i := 258) (by decide +kernel), List.mem_of_getElem? (i := 259) (by decide +kernel)⟩
theorem lw_p7 : lw_okq (⟨"Copperleaf", "requireBatch", "()V"⟩, 7) := ⟨⟨by decide +kernel, by decide +kernel⟩, List.mem_of_getElem? (i := 14) (by decide +kernel), List.mem_of_getElem? (i := 321) (by decide +kernel), List.mem_of_getElem? (i := 322) (by decide +kernel)⟩
theorem lw_p8 : lw_okq (⟨"Copperleaf", "valueIn", "(LCopperleaf$State;I)I"⟩, 7) := ⟨⟨by decide +kernel, by decide +kernel⟩, List.mem_of_getElem? (i := 14) (by decide +kernel), List.mem_of_getElem? (i := 411) (by decide +kernel), List.mem_of_getElem? (i := 412) (by decide +kernel)⟩
theorem lw_p9 : lw_okq (⟨"Copperleaf", "writeSlot", "(II)V"⟩, 7) := ⟨⟨by decide +kernel, by decide +kernel⟩, List.mem_of_getElem? (i := 14) (by decide +kernel), List.mem_of_getElem? (i := 475) (by decide +kernel), List.mem_of_getElem? (i := 476) (by decide +kernel)⟩
theorem lw_p10 : lw_okq (⟨"Copperleaf", "wordOfBatch", "(I)J"⟩, 7) := ⟨⟨by decide +kernel, by decide +kernel⟩, List.mem_of_getElem? (i := 14) (by decide +kernel), List.mem_of_getElem? (i := 479) (by decide +kernel), List.mem_of_getElem? (i := 480) (by decide +kernel)⟩
theorem lw_p11 : lw_okq (⟨"Copperleaf", "requireReader", "(I)V"⟩, 7) := ⟨⟨by decide +kernel, by decide +kernel⟩, List.mem_of_getElem? (i := 14) (by decide +kernel), List.mem_of_getElem? (i := 507) (by decide +kernel), List.mem_of_getElem? (i := 508) (by decide +kernel)⟩
theorem lw_p12 : lw_okq (⟨"Copperleaf", "viewed", "(I)LCopperleaf$State;"⟩, 7) := ⟨⟨by decide +kernel, by decide +kernel⟩, List.mem_of_getElem? (i := 14) (by decide +kernel), List.mem_of_getElem? (i := 541) (by decide +kernel), List.mem_of_getElem? (i := 542) (by decide +kernel)⟩
theorem lw_p13 : lw_okq (⟨"Copperleaf", "requirePage", "(I)V"⟩, 7) := ⟨⟨by decide +kernel, by decide +kernel⟩, List.mem_of_getElem? (i := 14) (by decide +kernel), List.mem_of_getElem? (i := 626) (by decide +kernel), List.mem_of_getElem? (i := 627) (by decide +kernel)⟩
theorem lw_p14 : lw_okq (⟨"Copperleaf", "requireEntry", "(II)V"⟩, 7) := ⟨⟨by decide +kernel, by decide +kernel⟩, List.mem_of_getElem? (i := 14) (by decide +kernel), List.mem_of_getElem? (i := 639) (by decide +kernel), List.mem_of_getElem? (i := 640) (by decide +kernel)⟩
theorem lw_p15 : lw_okq (⟨"CopperleafModel", "closesAll", "()V"⟩, 18) := ⟨⟨by decide +kernel, by decide +kernel⟩, List.mem_of_getElem? (i := 691) (by decide +kernel), List.mem_of_getElem? (i := 697) (by decide +kernel), List.mem_of_getElem? (i := 698) (by decide +kernel)⟩
def lw_privs_1 : List (MethodName × Nat) := [(⟨"Copperleaf", "isOpen", "(I)Z"⟩, 7), (⟨"Copperleaf", "latestWholeSlot", "()I"⟩, 7), (⟨"Copperleaf", "sumsUp", "(I)Z"⟩, 7), (⟨"Copperleaf", "wordIn", "(II)J"⟩, 7), (⟨"Copperleaf", "endBatch", "()V"⟩, 7), (⟨"Copperleaf", "keepStates", "([ZI)V"⟩, 7), (⟨"java/lang/Throwable", "fillInStackTrace", "(I)Ljava/lang/Throwable;"⟩, 6), (⟨"Copperleaf", "requireBatch", "()V"⟩, 7), (⟨"Copperleaf", "valueIn", "(LCopperleaf$State;I)I"⟩, 7), (⟨"Copperleaf", "writeSlot", "(II)V"⟩, 7), (⟨"Copperleaf", "wordOfBatch", "(I)J"⟩, 7), (⟨"Copperleaf", "requireReader", "(I)V"⟩, 7), (⟨"Copperleaf", "viewed", "(I)LCopperleaf$State;"⟩, 7), (⟨"Copperleaf", "requirePage", "(I)V"⟩, 7), (⟨"Copperleaf", "requireEntry", "(II)V"⟩, 7), (⟨"CopperleafModel", "closesAll", "()V"⟩, 18)]
theorem lw_r1 : ∀ q ∈ lw_privs_1, lw_okq q := List.forall_mem_cons.mpr ⟨lw_p0, List.forall_mem_cons.mpr ⟨lw_p1, List.forall_mem_cons.mpr ⟨lw_p2, List.forall_mem_cons.mpr ⟨lw_p3, List.forall_mem_cons.mpr ⟨lw_p4, List.forall_mem_cons.mpr ⟨lw_p5, List.forall_mem_cons.mpr ⟨lw_p6, List.forall_mem_cons.mpr ⟨lw_p7, List.forall_mem_cons.mpr ⟨lw_p8, List.forall_mem_cons.mpr ⟨lw_p9, List.forall_mem_cons.mpr ⟨lw_p10, List.forall_mem_cons.mpr ⟨lw_p11, List.forall_mem_cons.mpr ⟨lw_p12, List.forall_mem_cons.mpr ⟨lw_p13, List.forall_mem_cons.mpr ⟨lw_p14, List.forall_mem_cons.mpr ⟨lw_p15, fun _ h => absurd h List.not_mem_nil⟩⟩⟩⟩⟩⟩⟩⟩⟩⟩⟩⟩⟩⟩⟩⟩
theorem lw_p16 : lw_okq (⟨"CopperleafModel", "goes", "(ZZZ)Z"⟩, 18) := ⟨⟨by decide +kernel, by decide +kernel⟩, List.mem_of_getElem? (i := 691) (by decide +kernel), List.mem_of_getElem? (i := 764) (by decide +kernel), List.mem_of_getElem? (i := 765) (by decide +kernel)⟩
theorem lw_p17 : lw_okq (⟨"CopperleafModel", "finds", "(II)V"⟩, 18) := ⟨⟨by decide +kernel, by decide +kernel⟩, List.mem_of_getElem? (i := 691) (by decide +kernel), List.mem_of_getElem? (i := 779) (by decide +kernel), List.mem_of_getElem? (i := 780) (by decide +kernel)⟩
theorem lw_p18 : lw_okq (⟨"CopperleafModel", "keyOf", "(II)I"⟩, 18) := ⟨⟨by decide +kernel, by decide +kernel⟩, List.mem_of_getElem? (i := 691) (by decide +kernel), List.mem_of_getElem? (i := 783) (by decide +kernel), List.mem_of_getElem? (i := 784) (by decide +kernel)⟩
theorem lw_p19 : lw_okq (⟨"CopperleafModel", "leastKey", "(I)I"⟩, 18) := ⟨⟨by decide +kernel, by decide +kernel⟩, List.mem_of_getElem? (i := 691) (by decide +kernel), List.mem_of_getElem? (i := 787) (by decide +kernel), List.mem_of_getElem? (i := 788) (by decide +kernel)⟩
theorem lw_p20 : lw_okq (⟨"CopperleafModel", "writesWay", "()V"⟩, 18) := ⟨⟨by decide +kernel, by decide +kernel⟩, List.mem_of_getElem? (i := 691) (by decide +kernel), List.mem_of_getElem? (i := 791) (by decide +kernel), List.mem_of_getElem? (i := 792) (by decide +kernel)⟩
theorem lw_p21 : lw_okq (⟨"CopperleafModel", "takes", "(I)I"⟩, 18) := ⟨⟨by decide +kernel, by decide +kernel⟩, List.mem_of_getElem? (i := 691) (by decide +kernel), List.mem_of_getElem? (i := 795) (by decide +kernel), List.mem_of_getElem? (i := 796) (by decide +kernel)⟩
theorem lw_p22 : lw_okq (⟨"CopperleafModel", "meetsAll", "(I)I"⟩, 18) := ⟨⟨by decide +kernel, by decide +kernel⟩, List.mem_of_getElem? (i := 691) (by decide +kernel), List.mem_of_getElem? (i := 799) (by decide +kernel), List.mem_of_getElem? (i := 800) (by decide +kernel)⟩
theorem lw_p23 : lw_okq (⟨"CopperleafModel", "forgets", "()V"⟩, 18) := ⟨⟨by decide +kernel, by decide +kernel⟩, List.mem_of_getElem? (i := 691) (by decide +kernel), List.mem_of_getElem? (i := 803) (by decide +kernel), List.mem_of_getElem? (i := 804) (by decide +kernel)⟩
theorem lw_p24 : lw_okq (⟨"CopperleafModel", "meets", "(I)V"⟩, 18) := ⟨⟨by decide +kernel, by decide +kernel⟩, List.mem_of_getElem? (i := 691) (by decide +kernel), List.mem_of_getElem? (i := 807) (by decide +kernel), List.mem_of_getElem? (i := 808) (by decide +kernel)⟩
theorem lw_p25 : lw_okq (⟨"CopperleafModel", "whole", "(I)Z"⟩, 18) := ⟨⟨by decide +kernel, by decide +kernel⟩, List.mem_of_getElem? (i := 691) (by decide +kernel), List.mem_of_getElem? (i := 811) (by decide +kernel), List.mem_of_getElem? (i := 812) (by decide +kernel)⟩
theorem lw_p26 : lw_okq (⟨"CopperleafModel", "leastNotMet", "()I"⟩, 18) := ⟨⟨by decide +kernel, by decide +kernel⟩, List.mem_of_getElem? (i := 691) (by decide +kernel), List.mem_of_getElem? (i := 817) (by decide +kernel), List.mem_of_getElem? (i := 818) (by decide +kernel)⟩
theorem lw_p27 : lw_okq (⟨"CopperleafModel", "copies", "(II)V"⟩, 18) := ⟨⟨by decide +kernel, by decide +kernel⟩, List.mem_of_getElem? (i := 691) (by decide +kernel), List.mem_of_getElem? (i := 821) (by decide +kernel), List.mem_of_getElem? (i := 822) (by decide +kernel)⟩
theorem lw_p28 : lw_okq (⟨"CopperleafModel", "own", "(II)I"⟩, 18) := ⟨⟨by decide +kernel, by decide +kernel⟩, List.mem_of_getElem? (i := 691) (by decide +kernel), List.mem_of_getElem? (i := 825) (by decide +kernel), List.mem_of_getElem? (i := 826) (by decide +kernel)⟩
theorem lw_p29 : lw_okq (⟨"CopperleafModel", "place", "(II)I"⟩, 18) := ⟨⟨by decide +kernel, by decide +kernel⟩, List.mem_of_getElem? (i := 691) (by decide +kernel), List.mem_of_getElem? (i := 829) (by decide +kernel), List.mem_of_getElem? (i := 830) (by decide +kernel)⟩
theorem lw_p30 : lw_okq (⟨"CopperleafModel", "has", "(III)Z"⟩, 18) := ⟨⟨by decide +kernel, by decide +kernel⟩, List.mem_of_getElem? (i := 691) (by decide +kernel), List.mem_of_getElem? (i := 833) (by decide +kernel), List.mem_of_getElem? (i := 834) (by decide +kernel)⟩
theorem lw_p31 : lw_okq (⟨"CopperleafModel", "lays", "(IIII)V"⟩, 18) := ⟨⟨by decide +kernel, by decide +kernel⟩, List.mem_of_getElem? (i := 691) (by decide +kernel), List.mem_of_getElem? (i := 837) (by decide +kernel), List.mem_of_getElem? (i := 838) (by decide +kernel)⟩
def lw_privs_2 : List (MethodName × Nat) := [(⟨"CopperleafModel", "goes", "(ZZZ)Z"⟩, 18), (⟨"CopperleafModel", "finds", "(II)V"⟩, 18), (⟨"CopperleafModel", "keyOf", "(II)I"⟩, 18), (⟨"CopperleafModel", "leastKey", "(I)I"⟩, 18), (⟨"CopperleafModel", "writesWay", "()V"⟩, 18), (⟨"CopperleafModel", "takes", "(I)I"⟩, 18), (⟨"CopperleafModel", "meetsAll", "(I)I"⟩, 18), (⟨"CopperleafModel", "forgets", "()V"⟩, 18), (⟨"CopperleafModel", "meets", "(I)V"⟩, 18), (⟨"CopperleafModel", "whole", "(I)Z"⟩, 18), (⟨"CopperleafModel", "leastNotMet", "()I"⟩, 18), (⟨"CopperleafModel", "copies", "(II)V"⟩, 18), (⟨"CopperleafModel", "own", "(II)I"⟩, 18), (⟨"CopperleafModel", "place", "(II)I"⟩, 18), (⟨"CopperleafModel", "has", "(III)Z"⟩, 18), (⟨"CopperleafModel", "lays", "(IIII)V"⟩, 18)]
theorem lw_r2 : ∀ q ∈ lw_privs_2, lw_okq q := List.forall_mem_cons.mpr ⟨lw_p16, List.forall_mem_cons.mpr ⟨lw_p17, List.forall_mem_cons.mpr ⟨lw_p18, List.forall_mem_cons.mpr ⟨lw_p19, List.forall_mem_cons.mpr ⟨lw_p20, List.forall_mem_cons.mpr ⟨lw_p21, List.forall_mem_cons.mpr ⟨lw_p22, List.forall_mem_cons.mpr ⟨lw_p23, List.forall_mem_cons.mpr ⟨lw_p24, List.forall_mem_cons.mpr ⟨lw_p25, List.forall_mem_cons.mpr ⟨lw_p26, List.forall_mem_cons.mpr ⟨lw_p27, List.forall_mem_cons.mpr ⟨lw_p28, List.forall_mem_cons.mpr ⟨lw_p29, List.forall_mem_cons.mpr ⟨lw_p30, List.forall_mem_cons.mpr ⟨lw_p31, fun _ h => absurd h List.not_mem_nil⟩⟩⟩⟩⟩⟩⟩⟩⟩⟩⟩⟩⟩⟩⟩⟩
theorem lw_p32 : lw_okq (⟨"CopperleafModel", "splits", "()V"⟩, 18) := ⟨⟨by decide +kernel, by decide +kernel⟩, List.mem_of_getElem? (i := 691) (by decide +kernel), List.mem_of_getElem? (i := 841) (by decide +kernel), List.mem_of_getElem? (i := 842) (by decide +kernel)⟩
theorem lw_p33 : lw_okq (⟨"CopperleafModel", "moves", "(III)V"⟩, 18) := ⟨⟨by decide +kernel, by decide +kernel⟩, List.mem_of_getElem? (i := 691) (by decide +kernel), List.mem_of_getElem? (i := 845) (by decide +kernel), List.mem_of_getElem? (i := 846) (by decide +kernel)⟩
theorem lw_p34 : lw_okq (⟨"CopperleafModel", "drops", "(II)V"⟩, 18) := ⟨⟨by decide +kernel, by decide +kernel⟩, List.mem_of_getElem? (i := 691) (by decide +kernel), List.mem_of_getElem? (i := 853) (by decide +kernel), List.mem_of_getElem? (i := 854) (by decide +kernel)⟩
theorem lw_p35 : lw_okq (⟨"CopperleafModel", "joins", "()V"⟩, 18) := ⟨⟨by decide +kernel, by decide +kernel⟩, List.mem_of_getElem? (i := 691) (by decide +kernel), List.mem_of_getElem? (i := 857) (by decide +kernel), List.mem_of_getElem? (i := 858) (by decide +kernel)⟩
theorem lw_p36 : lw_okq (⟨"CopperleafModel", "mends", "(I)V"⟩, 18) := ⟨⟨by decide +kernel, by decide +kernel⟩, List.mem_of_getElem? (i := 691) (by decide +kernel), List.mem_of_getElem? (i := 861) (by decide +kernel), List.mem_of_getElem? (i := 862) (by decide +kernel)⟩
theorem lw_p37 : lw_okq (⟨"CopperleafModel", "writes", "(I)V"⟩, 18) := ⟨⟨by decide +kernel, by decide +kernel⟩, List.mem_of_getElem? (i := 691) (by decide +kernel), List.mem_of_getElem? (i := 869) (by decide +kernel), List.mem_of_getElem? (i := 870) (by decide +kernel)⟩
theorem lw_p38 : lw_okq (⟨"CopperleafModel", "word", "(I)J"⟩, 18) := ⟨⟨by decide +kernel, by decide +kernel⟩, List.mem_of_getElem? (i := 691) (by decide +kernel), List.mem_of_getElem? (i := 873) (by decide +kernel), List.mem_of_getElem? (i := 874) (by decide +kernel)⟩
theorem lw_p39 : lw_okq (⟨"CopperleafModel", "keys", "(I)I"⟩, 18) := ⟨⟨by decide +kernel, by decide +kernel⟩, List.mem_of_getElem? (i := 691) (by decide +kernel), List.mem_of_getElem? (i := 877) (by decide +kernel), List.mem_of_getElem? (i := 878) (by decide +kernel)⟩
theorem lw_p40 : lw_okq (⟨"CopperleafModel", "below", "(II)I"⟩, 18) := ⟨⟨by decide +kernel, by decide +kernel⟩, List.mem_of_getElem? (i := 691) (by decide +kernel), List.mem_of_getElem? (i := 881) (by decide +kernel), List.mem_of_getElem? (i := 882) (by decide +kernel)⟩
theorem lw_p41 : lw_okq (⟨"CopperleafModel", "reads", "(I)I"⟩, 18) := ⟨⟨by decide +kernel, by decide +kernel⟩, List.mem_of_getElem? (i := 691) (by decide +kernel), List.mem_of_getElem? (i := 885) (by decide +kernel), List.mem_of_getElem? (i := 886) (by decide +kernel)⟩
theorem lw_p42 : lw_okq (⟨"CopperleafModel", "isReader", "(I)Z"⟩, 18) := ⟨⟨by decide +kernel, by decide +kernel⟩, List.mem_of_getElem? (i := 691) (by decide +kernel), List.mem_of_getElem? (i := 901) (by decide +kernel), List.mem_of_getElem? (i := 902) (by decide +kernel)⟩
theorem lw_p43 : lw_okq (⟨"CopperleafModel", "held", "(I)I"⟩, 18) := ⟨⟨by decide +kernel, by decide +kernel⟩, List.mem_of_getElem? (i := 691) (by decide +kernel), List.mem_of_getElem? (i := 905) (by decide +kernel), List.mem_of_getElem? (i := 906) (by decide +kernel)⟩
theorem lw_p44 : lw_okq (⟨"CopperleafModel", "isView", "(I)Z"⟩, 18) := ⟨⟨by decide +kernel, by decide +kernel⟩, List.mem_of_getElem? (i := 691) (by decide +kernel), List.mem_of_getElem? (i := 921) (by decide +kernel), List.mem_of_getElem? (i := 922) (by decide +kernel)⟩
theorem lw_p45 : lw_okq (⟨"CopperleafModel", "top", "(I)I"⟩, 18) := ⟨⟨by decide +kernel, by decide +kernel⟩, List.mem_of_getElem? (i := 691) (by decide +kernel), List.mem_of_getElem? (i := 929) (by decide +kernel), List.mem_of_getElem? (i := 930) (by decide +kernel)⟩
theorem lw_p46 : lw_okq (⟨"CopperleafModel", "shared", "(I)I"⟩, 18) := ⟨⟨by decide +kernel, by decide +kernel⟩, List.mem_of_getElem? (i := 691) (by decide +kernel), List.mem_of_getElem? (i := 957) (by decide +kernel), List.mem_of_getElem? (i := 958) (by decide +kernel)⟩
theorem lw_p47 : lw_okq (⟨"CopperleafModel", "inUse", "(I)Z"⟩, 18) := ⟨⟨by decide +kernel, by decide +kernel⟩, List.mem_of_getElem? (i := 691) (by decide +kernel), List.mem_of_getElem? (i := 965) (by decide +kernel), List.mem_of_getElem? (i := 966) (by decide +kernel)⟩
def lw_privs_3 : List (MethodName × Nat) := [(⟨"CopperleafModel", "splits", "()V"⟩, 18), (⟨"CopperleafModel", "moves", "(III)V"⟩, 18), (⟨"CopperleafModel", "drops", "(II)V"⟩, 18), (⟨"CopperleafModel", "joins", "()V"⟩, 18), (⟨"CopperleafModel", "mends", "(I)V"⟩, 18), (⟨"CopperleafModel", "writes", "(I)V"⟩, 18), (⟨"CopperleafModel", "word", "(I)J"⟩, 18), (⟨"CopperleafModel", "keys", "(I)I"⟩, 18), (⟨"CopperleafModel", "below", "(II)I"⟩, 18), (⟨"CopperleafModel", "reads", "(I)I"⟩, 18), (⟨"CopperleafModel", "isReader", "(I)Z"⟩, 18), (⟨"CopperleafModel", "held", "(I)I"⟩, 18), (⟨"CopperleafModel", "isView", "(I)Z"⟩, 18), (⟨"CopperleafModel", "top", "(I)I"⟩, 18), (⟨"CopperleafModel", "shared", "(I)I"⟩, 18), (⟨"CopperleafModel", "inUse", "(I)Z"⟩, 18)]
theorem lw_r3 : ∀ q ∈ lw_privs_3, lw_okq q := List.forall_mem_cons.mpr ⟨lw_p32, List.forall_mem_cons.mpr ⟨lw_p33, List.forall_mem_cons.mpr ⟨lw_p34, List.forall_mem_cons.mpr ⟨lw_p35, List.forall_mem_cons.mpr ⟨lw_p36, List.forall_mem_cons.mpr ⟨lw_p37, List.forall_mem_cons.mpr ⟨lw_p38, List.forall_mem_cons.mpr ⟨lw_p39, List.forall_mem_cons.mpr ⟨lw_p40, List.forall_mem_cons.mpr ⟨lw_p41, List.forall_mem_cons.mpr ⟨lw_p42, List.forall_mem_cons.mpr ⟨lw_p43, List.forall_mem_cons.mpr ⟨lw_p44, List.forall_mem_cons.mpr ⟨lw_p45, List.forall_mem_cons.mpr ⟨lw_p46, List.forall_mem_cons.mpr ⟨lw_p47, fun _ h => absurd h List.not_mem_nil⟩⟩⟩⟩⟩⟩⟩⟩⟩⟩⟩⟩⟩⟩⟩⟩
theorem lw_p48 : lw_okq (⟨"CopperleafModel", "isEntry", "(II)Z"⟩, 18) := ⟨⟨by decide +kernel, by decide +kernel⟩, List.mem_of_getElem? (i := 691) (by decide +kernel), List.mem_of_getElem? (i := 985) (by decide +kernel), List.mem_of_getElem? (i := 986) (by decide +kernel)⟩
theorem lw_p49 : lw_okq (⟨"CopperleafModel", "restarts", "()I"⟩, 18) := ⟨⟨by decide +kernel, by decide +kernel⟩, List.mem_of_getElem? (i := 691) (by decide +kernel), List.mem_of_getElem? (i := 1014) (by decide +kernel), List.mem_of_getElem? (i := 1015) (by decide +kernel)⟩
def lw_privs_4 : List (MethodName × Nat) := [(⟨"CopperleafModel", "isEntry", "(II)Z"⟩, 18), (⟨"CopperleafModel", "restarts", "()I"⟩, 18)]
theorem lw_r4 : ∀ q ∈ lw_privs_4, lw_okq q := List.forall_mem_cons.mpr ⟨lw_p48, List.forall_mem_cons.mpr ⟨lw_p49, fun _ h => absurd h List.not_mem_nil⟩⟩
def lw_privs : List (MethodName × Nat) := lw_privs_1 ++ (lw_privs_2 ++ (lw_privs_3 ++ (lw_privs_4)))
def lw_tbl : List Cond := k2_sels lw_privs ++ tables_1
theorem lw_privs_ok : ∀ q ∈ lw_privs, lw_okq q := by
  show ∀ q ∈ lw_privs_1 ++ (lw_privs_2 ++ (lw_privs_3 ++ (lw_privs_4))), lw_okq q
  exact List.forall_mem_append.mpr ⟨lw_r1, List.forall_mem_append.mpr ⟨lw_r2, List.forall_mem_append.mpr ⟨lw_r3, lw_r4⟩⟩⟩
end
section
/-! names, out of claim/NAMES.whole.lean.txt -/
def RX0 : String := "Copperleaf$Pages"
def TX0 : u_T := fun k => match k with
  | 0 => ("Copperleaf$Pages", "counts", "[I", true)
  | 1 => ("Copperleaf$Pages", "inner", "[Z", true)
  | 2 => ("Copperleaf$Pages", "leafKeys", "[I", true)
  | 3 => ("Copperleaf$Pages", "words", "[I", true)
  | 4 => ("Copperleaf$Pages", "kept", "[Z", true)
  | 5 => ("Copperleaf$Pages", "written", "[Z", true)
  | 6 => ("Copperleaf$Pages", "marked", "[Z", true)
  | _ => ("Copperleaf$Pages", "listed", "[I", true)
def tyX0 : Nat → FieldType := fun k => match k with
  | 0 => .array .int
  | 1 => .array .boolean
  | 2 => .array .int
  | 3 => .array .int
  | 4 => .array .boolean
  | 5 => .array .boolean
  | 6 => .array .boolean
  | _ => .array .int
abbrev wsX00 : List Cond := u_ws RX0 TX0 8
theorem nmX0 : ∀ a, a < 8 → ∀ b, b < 8 → a ≠ b → (TX0 a).2.1 ≠ (TX0 b).2.1 := by decide +kernel
theorem tyX0_ok : ∀ k, k < 8 → parseFieldDescriptor (TX0 k).2.2.1 = some (tyX0 k) := by decide +kernel
abbrev cX0_init : ByteArray := prog_2_method_1_code
def yX0_init : MethodName := ⟨RX0, "<init>", "()V"⟩
abbrev cX0_isCell : ByteArray := prog_2_method_2_code
def yX0_isCell : MethodName := ⟨RX0, "isCell", "(II)Z"⟩
abbrev cX0_isVacant : ByteArray := prog_2_method_3_code
def yX0_isVacant : MethodName := ⟨RX0, "isVacant", "(I)Z"⟩
abbrev cX0_leastVacant : ByteArray := prog_2_method_4_code
def yX0_leastVacant : MethodName := ⟨RX0, "leastVacant", "()I"⟩
abbrev cX0_countOf : ByteArray := prog_2_method_5_code
def yX0_countOf : MethodName := ⟨RX0, "countOf", "(I)I"⟩
abbrev cX0_isLeaf : ByteArray := prog_2_method_6_code
def yX0_isLeaf : MethodName := ⟨RX0, "isLeaf", "(I)Z"⟩
abbrev cX0_wordOf : ByteArray := prog_2_method_7_code
def yX0_wordOf : MethodName := ⟨RX0, "wordOf", "(II)I"⟩
abbrev cX0_setWord : ByteArray := prog_2_method_8_code
def yX0_setWord : MethodName := ⟨RX0, "setWord", "(III)V"⟩
abbrev cX0_keyOf : ByteArray := prog_2_method_9_code
def yX0_keyOf : MethodName := ⟨RX0, "keyOf", "(II)I"⟩
abbrev cX0_placeOf : ByteArray := prog_2_method_10_code
def yX0_placeOf : MethodName := ⟨RX0, "placeOf", "(II)I"⟩
abbrev cX0_holds : ByteArray := prog_2_method_11_code
def yX0_holds : MethodName := ⟨RX0, "holds", "(III)Z"⟩
abbrev cX0_entryFor : ByteArray := prog_2_method_12_code
def yX0_entryFor : MethodName := ⟨RX0, "entryFor", "(II)I"⟩
abbrev cX0_leafFor : ByteArray := prog_2_method_13_code
def yX0_leafFor : MethodName := ⟨RX0, "leafFor", "(II)I"⟩
abbrev cX0_levelsFrom : ByteArray := prog_2_method_14_code
def yX0_levelsFrom : MethodName := ⟨RX0, "levelsFrom", "(I)I"⟩
abbrev cX0_listTree : ByteArray := prog_2_method_15_code
def yX0_listTree : MethodName := ⟨RX0, "listTree", "(I)I"⟩
abbrev cX0_unmark : ByteArray := prog_2_method_16_code
def yX0_unmark : MethodName := ⟨RX0, "unmark", "([Z)V"⟩
abbrev cX0_markTree : ByteArray := prog_2_method_17_code
def yX0_markTree : MethodName := ⟨RX0, "markTree", "([ZI)V"⟩
abbrev cX0_countMarked : ByteArray := prog_2_method_18_code
def yX0_countMarked : MethodName := ⟨RX0, "countMarked", "(I)I"⟩
abbrev cX0_leastKeyFrom : ByteArray := prog_2_method_19_code
def yX0_leastKeyFrom : MethodName := ⟨RX0, "leastKeyFrom", "(II)I"⟩
abbrev cX0_keysBelow : ByteArray := prog_2_method_20_code
def yX0_keysBelow : MethodName := ⟨RX0, "keysBelow", "(II)I"⟩
abbrev cX0_take : ByteArray := prog_2_method_21_code
def yX0_take : MethodName := ⟨RX0, "take", "(Z)I"⟩
abbrev cX0_leave : ByteArray := prog_2_method_22_code
def yX0_leave : MethodName := ⟨RX0, "leave", "(I)V"⟩
abbrev cX0_writeAnew : ByteArray := prog_2_method_23_code
def yX0_writeAnew : MethodName := ⟨RX0, "writeAnew", "(I)I"⟩
abbrev cX0_insert : ByteArray := prog_2_method_24_code
def yX0_insert : MethodName := ⟨RX0, "insert", "(IIII)V"⟩
abbrev cX0_remove : ByteArray := prog_2_method_25_code
def yX0_remove : MethodName := ⟨RX0, "remove", "(II)V"⟩
abbrev cX0_append : ByteArray := prog_2_method_26_code
def yX0_append : MethodName := ⟨RX0, "append", "(II)V"⟩
abbrev cX0_move : ByteArray := prog_2_method_27_code
def yX0_move : MethodName := ⟨RX0, "move", "(IIII)V"⟩
def RX1 : String := "Copperleaf$State"
def TX1 : u_T := fun k => match k with
  | 0 => ("Copperleaf$State", "epoch", "I", false)
  | 1 => ("Copperleaf$State", "root", "I", false)
  | 2 => ("Copperleaf$State", "keys", "I", false)
  | _ => ("Copperleaf$State", "open", "Z", false)
def tyX1 : Nat → FieldType := fun k => match k with
  | 0 => .int
  | 1 => .int
  | 2 => .int
  | _ => .boolean
abbrev wsX10 : List Cond := u_ws RX1 TX1 4
theorem nmX1 : ∀ a, a < 4 → ∀ b, b < 4 → a ≠ b → (TX1 a).2.1 ≠ (TX1 b).2.1 := by decide +kernel
theorem tyX1_ok : ∀ k, k < 4 → parseFieldDescriptor (TX1 k).2.2.1 = some (tyX1 k) := by decide +kernel
abbrev cX1_init : ByteArray := prog_3_method_1_code
def yX1_init : MethodName := ⟨RX1, "<init>", "()V"⟩
abbrev cX1_become : ByteArray := prog_3_method_2_code
def yX1_become : MethodName := ⟨RX1, "become", "(LCopperleaf$State;)V"⟩
def RX2 : String := "Copperleaf$Writer"
def TX2 : u_T := fun k => match k with
  | 0 => ("Copperleaf$Writer", "pages", "LCopperleaf$Pages;", true)
  | 1 => ("Copperleaf$Writer", "batch", "LCopperleaf$State;", true)
  | 2 => ("Copperleaf$Writer", "path", "[I", true)
  | 3 => ("Copperleaf$Writer", "taken", "[I", true)
  | _ => ("Copperleaf$Writer", "bottom", "I", false)
def tyX2 : Nat → FieldType := fun k => match k with
  | 0 => .object "Copperleaf$Pages"
  | 1 => .object "Copperleaf$State"
  | 2 => .array .int
  | 3 => .array .int
  | _ => .int
abbrev wsX20 : List Cond := u_ws RX2 TX2 5
theorem nmX2 : ∀ a, a < 5 → ∀ b, b < 5 → a ≠ b → (TX2 a).2.1 ≠ (TX2 b).2.1 := by decide +kernel
theorem tyX2_ok : ∀ k, k < 5 → parseFieldDescriptor (TX2 k).2.2.1 = some (tyX2 k) := by decide +kernel
abbrev cX2_init : ByteArray := prog_4_method_1_code
def yX2_init : MethodName := ⟨RX2, "<init>", "(LCopperleaf$Pages;LCopperleaf$State;)V"⟩
abbrev cX2_store : ByteArray := prog_4_method_2_code
def yX2_store : MethodName := ⟨RX2, "store", "(II)Z"⟩
abbrev cX2_drop : ByteArray := prog_4_method_3_code
def yX2_drop : MethodName := ⟨RX2, "drop", "(I)V"⟩
abbrev cX2_writePath : ByteArray := prog_4_method_4_code
def yX2_writePath : MethodName := ⟨RX2, "writePath", "(I)I"⟩
abbrev cX2_splitUpwards : ByteArray := prog_4_method_5_code
def yX2_splitUpwards : MethodName := ⟨RX2, "splitUpwards", "()V"⟩
abbrev cX2_splitOff : ByteArray := prog_4_method_6_code
def yX2_splitOff : MethodName := ⟨RX2, "splitOff", "(I)I"⟩
abbrev cX2_growRoot : ByteArray := prog_4_method_7_code
def yX2_growRoot : MethodName := ⟨RX2, "growRoot", "(II)V"⟩
abbrev cX2_mend : ByteArray := prog_4_method_8_code
def yX2_mend : MethodName := ⟨RX2, "mend", "(II)V"⟩
abbrev cX2_writeBelow : ByteArray := prog_4_method_9_code
def yX2_writeBelow : MethodName := ⟨RX2, "writeBelow", "(II)V"⟩
abbrev cX2_lend : ByteArray := prog_4_method_10_code
def yX2_lend : MethodName := ⟨RX2, "lend", "(III)V"⟩
abbrev cX2_join : ByteArray := prog_4_method_11_code
def yX2_join : MethodName := ⟨RX2, "join", "(II)V"⟩
abbrev cX2_shrinkRoot : ByteArray := prog_4_method_12_code
def yX2_shrinkRoot : MethodName := ⟨RX2, "shrinkRoot", "()V"⟩
def RX3 : String := "Copperleaf"
def TX3 : u_T := fun k => match k with
  | 0 => ("Copperleaf", "pages", "LCopperleaf$Pages;", true)
  | 1 => ("Copperleaf", "current", "LCopperleaf$State;", true)
  | 2 => ("Copperleaf", "batch", "LCopperleaf$State;", true)
  | 3 => ("Copperleaf", "writer", "LCopperleaf$Writer;", true)
  | 4 => ("Copperleaf", "readerStates", "[LCopperleaf$State;", true)
  | 5 => ("Copperleaf", "slotWords", "[J", true)
  | _ => ("Copperleaf", "slotInUse", "I", false)
def tyX3 : Nat → FieldType := fun k => match k with
  | 0 => .object "Copperleaf$Pages"
  | 1 => .object "Copperleaf$State"
  | 2 => .object "Copperleaf$State"
  | 3 => .object "Copperleaf$Writer"
  | 4 => .array (.object "Copperleaf$State")
  | 5 => .array .long
  | _ => .int
abbrev wsX30 : List Cond := u_ws RX3 TX3 7
theorem nmX3 : ∀ a, a < 7 → ∀ b, b < 7 → a ≠ b → (TX3 a).2.1 ≠ (TX3 b).2.1 := by decide +kernel
theorem tyX3_ok : ∀ k, k < 7 → parseFieldDescriptor (TX3 k).2.2.1 = some (tyX3 k) := by decide +kernel
abbrev cX3_init : ByteArray := prog_1_method_1_code
def yX3_init : MethodName := ⟨RX3, "<init>", "()V"⟩
abbrev cX3_beginBatch : ByteArray := prog_1_method_2_code
def yX3_beginBatch : MethodName := ⟨RX3, "beginBatch", "()I"⟩
abbrev cX3_hasBatch : ByteArray := prog_1_method_3_code
def yX3_hasBatch : MethodName := ⟨RX3, "hasBatch", "()Z"⟩
abbrev cX3_put : ByteArray := prog_1_method_4_code
def yX3_put : MethodName := ⟨RX3, "put", "(II)Z"⟩
abbrev cX3_delete : ByteArray := prog_1_method_5_code
def yX3_delete : MethodName := ⟨RX3, "delete", "(I)I"⟩
abbrev cX3_commit : ByteArray := prog_1_method_6_code
def yX3_commit : MethodName := ⟨RX3, "commit", "()I"⟩
abbrev cX3_abandon : ByteArray := prog_1_method_7_code
def yX3_abandon : MethodName := ⟨RX3, "abandon", "()I"⟩
abbrev cX3_openReader : ByteArray := prog_1_method_8_code
def yX3_openReader : MethodName := ⟨RX3, "openReader", "()I"⟩
abbrev cX3_closeReader : ByteArray := prog_1_method_9_code
def yX3_closeReader : MethodName := ⟨RX3, "closeReader", "(I)I"⟩
abbrev cX3_readers : ByteArray := prog_1_method_10_code
def yX3_readers : MethodName := ⟨RX3, "readers", "()I"⟩
abbrev cX3_heldBy : ByteArray := prog_1_method_11_code
def yX3_heldBy : MethodName := ⟨RX3, "heldBy", "(I)I"⟩
abbrev cX3_epochOf : ByteArray := prog_1_method_12_code
def yX3_epochOf : MethodName := ⟨RX3, "epochOf", "(I)I"⟩
abbrev cX3_get : ByteArray := prog_1_method_13_code
def yX3_get : MethodName := ⟨RX3, "get", "(II)I"⟩
abbrev cX3_next : ByteArray := prog_1_method_14_code
def yX3_next : MethodName := ⟨RX3, "next", "(II)I"⟩
abbrev cX3_rank : ByteArray := prog_1_method_15_code
def yX3_rank : MethodName := ⟨RX3, "rank", "(II)I"⟩
abbrev cX3_size : ByteArray := prog_1_method_16_code
def yX3_size : MethodName := ⟨RX3, "size", "(I)I"⟩
abbrev cX3_depth : ByteArray := prog_1_method_17_code
def yX3_depth : MethodName := ⟨RX3, "depth", "(I)I"⟩
abbrev cX3_rootOf : ByteArray := prog_1_method_18_code
def yX3_rootOf : MethodName := ⟨RX3, "rootOf", "(I)I"⟩
abbrev cX3_sharedPages : ByteArray := prog_1_method_19_code
def yX3_sharedPages : MethodName := ⟨RX3, "sharedPages", "(II)I"⟩
abbrev cX3_isFree : ByteArray := prog_1_method_20_code
def yX3_isFree : MethodName := ⟨RX3, "isFree", "(I)Z"⟩
abbrev cX3_pagesInUse : ByteArray := prog_1_method_21_code
def yX3_pagesInUse : MethodName := ⟨RX3, "pagesInUse", "()I"⟩
abbrev cX3_leastFree : ByteArray := prog_1_method_22_code
def yX3_leastFree : MethodName := ⟨RX3, "leastFree", "()I"⟩
abbrev cX3_entries : ByteArray := prog_1_method_23_code
def yX3_entries : MethodName := ⟨RX3, "entries", "(I)I"⟩
abbrev cX3_keyAt : ByteArray := prog_1_method_24_code
def yX3_keyAt : MethodName := ⟨RX3, "keyAt", "(II)I"⟩
abbrev cX3_pageAt : ByteArray := prog_1_method_25_code
def yX3_pageAt : MethodName := ⟨RX3, "pageAt", "(II)I"⟩
abbrev cX3_currentSlot : ByteArray := prog_1_method_26_code
def yX3_currentSlot : MethodName := ⟨RX3, "currentSlot", "()I"⟩
abbrev cX3_slotWord : ByteArray := prog_1_method_27_code
def yX3_slotWord : MethodName := ⟨RX3, "slotWord", "(II)J"⟩
abbrev cX3_isWhole : ByteArray := prog_1_method_28_code
def yX3_isWhole : MethodName := ⟨RX3, "isWhole", "(I)Z"⟩
abbrev cX3_tear : ByteArray := prog_1_method_29_code
def yX3_tear : MethodName := ⟨RX3, "tear", "(I)I"⟩
abbrev cX3_crash : ByteArray := prog_1_method_30_code
def yX3_crash : MethodName := ⟨RX3, "crash", "()I"⟩
abbrev cX3_crashInCommit : ByteArray := prog_1_method_31_code
def yX3_crashInCommit : MethodName := ⟨RX3, "crashInCommit", "(I)I"⟩
abbrev cX3_requireKey : ByteArray := prog_1_method_32_code
def yX3_requireKey : MethodName := ⟨RX3, "requireKey", "(I)V"⟩
abbrev cX3_requireBatch : ByteArray := prog_1_method_33_code
def yX3_requireBatch : MethodName := ⟨RX3, "requireBatch", "()V"⟩
abbrev cX3_requireReader : ByteArray := prog_1_method_34_code
def yX3_requireReader : MethodName := ⟨RX3, "requireReader", "(I)V"⟩
abbrev cX3_requirePage : ByteArray := prog_1_method_35_code
def yX3_requirePage : MethodName := ⟨RX3, "requirePage", "(I)V"⟩
abbrev cX3_requireEntry : ByteArray := prog_1_method_36_code
def yX3_requireEntry : MethodName := ⟨RX3, "requireEntry", "(II)V"⟩
abbrev cX3_requireSlot : ByteArray := prog_1_method_37_code
def yX3_requireSlot : MethodName := ⟨RX3, "requireSlot", "(I)V"⟩
abbrev cX3_viewed : ByteArray := prog_1_method_38_code
def yX3_viewed : MethodName := ⟨RX3, "viewed", "(I)LCopperleaf$State;"⟩
abbrev cX3_valueIn : ByteArray := prog_1_method_39_code
def yX3_valueIn : MethodName := ⟨RX3, "valueIn", "(LCopperleaf$State;I)I"⟩
abbrev cX3_isOpen : ByteArray := prog_1_method_40_code
def yX3_isOpen : MethodName := ⟨RX3, "isOpen", "(I)Z"⟩
abbrev cX3_endBatch : ByteArray := prog_1_method_41_code
def yX3_endBatch : MethodName := ⟨RX3, "endBatch", "()V"⟩
abbrev cX3_keepStates : ByteArray := prog_1_method_42_code
def yX3_keepStates : MethodName := ⟨RX3, "keepStates", "([ZI)V"⟩
abbrev cX3_otherSlot : ByteArray := prog_1_method_43_code
def yX3_otherSlot : MethodName := ⟨RX3, "otherSlot", "(I)I"⟩
abbrev cX3_wordIn : ByteArray := prog_1_method_44_code
def yX3_wordIn : MethodName := ⟨RX3, "wordIn", "(II)J"⟩
abbrev cX3_sumsUp : ByteArray := prog_1_method_45_code
def yX3_sumsUp : MethodName := ⟨RX3, "sumsUp", "(I)Z"⟩
abbrev cX3_sumOf : ByteArray := prog_1_method_46_code
def yX3_sumOf : MethodName := ⟨RX3, "sumOf", "(JJJ)J"⟩
abbrev cX3_writeSlot : ByteArray := prog_1_method_47_code
def yX3_writeSlot : MethodName := ⟨RX3, "writeSlot", "(II)V"⟩
abbrev cX3_wordOfBatch : ByteArray := prog_1_method_48_code
def yX3_wordOfBatch : MethodName := ⟨RX3, "wordOfBatch", "(I)J"⟩
abbrev cX3_latestWholeSlot : ByteArray := prog_1_method_49_code
def yX3_latestWholeSlot : MethodName := ⟨RX3, "latestWholeSlot", "()I"⟩
def RX4 : String := "CopperleafModel"
def TX4 : u_T := fun k => match k with
  | 0 => ("CopperleafModel", "many", "[I", true)
  | 1 => ("CopperleafModel", "inner", "[Z", true)
  | 2 => ("CopperleafModel", "item", "[I", true)
  | 3 => ("CopperleafModel", "value", "[I", true)
  | 4 => ("CopperleafModel", "written", "[Z", true)
  | 5 => ("CopperleafModel", "met", "[Z", true)
  | 6 => ("CopperleafModel", "rest", "[I", true)
  | 7 => ("CopperleafModel", "epoch", "I", false)
  | 8 => ("CopperleafModel", "root", "I", false)
  | 9 => ("CopperleafModel", "batch", "I", false)
  | 10 => ("CopperleafModel", "slot", "I", false)
  | 11 => ("CopperleafModel", "words", "[J", true)
  | 12 => ("CopperleafModel", "opened", "[I", true)
  | 13 => ("CopperleafModel", "openedEpoch", "[I", true)
  | 14 => ("CopperleafModel", "thrown", "I", false)
  | 15 => ("CopperleafModel", "way", "[I", true)
  | 16 => ("CopperleafModel", "taken", "[I", true)
  | _ => ("CopperleafModel", "deep", "I", false)
def tyX4 : Nat → FieldType := fun k => match k with
  | 0 => .array .int
  | 1 => .array .boolean
  | 2 => .array .int
  | 3 => .array .int
  | 4 => .array .boolean
  | 5 => .array .boolean
  | 6 => .array .int
  | 7 => .int
  | 8 => .int
  | 9 => .int
  | 10 => .int
  | 11 => .array .long
  | 12 => .array .int
  | 13 => .array .int
  | 14 => .int
  | 15 => .array .int
  | 16 => .array .int
  | _ => .int
abbrev wsX40 : List Cond := u_ws RX4 TX4 18
theorem nmX4 : ∀ a, a < 18 → ∀ b, b < 18 → a ≠ b → (TX4 a).2.1 ≠ (TX4 b).2.1 := by decide +kernel
theorem tyX4_ok : ∀ k, k < 18 → parseFieldDescriptor (TX4 k).2.2.1 = some (tyX4 k) := by decide +kernel
abbrev cX4_init : ByteArray := prog_6_method_1_code
def yX4_init : MethodName := ⟨RX4, "<init>", "()V"⟩
abbrev cX4_thrown : ByteArray := prog_6_method_2_code
def yX4_thrown : MethodName := ⟨RX4, "thrown", "()I"⟩
abbrev cX4_in : ByteArray := prog_6_method_3_code
def yX4_in : MethodName := ⟨RX4, "in", "(III)Z"⟩
abbrev cX4_goes : ByteArray := prog_6_method_4_code
def yX4_goes : MethodName := ⟨RX4, "goes", "(ZZZ)Z"⟩
abbrev cX4_closesAll : ByteArray := prog_6_method_5_code
def yX4_closesAll : MethodName := ⟨RX4, "closesAll", "()V"⟩
abbrev cX4_meets : ByteArray := prog_6_method_6_code
def yX4_meets : MethodName := ⟨RX4, "meets", "(I)V"⟩
abbrev cX4_forgets : ByteArray := prog_6_method_7_code
def yX4_forgets : MethodName := ⟨RX4, "forgets", "()V"⟩
abbrev cX4_meetsAll : ByteArray := prog_6_method_8_code
def yX4_meetsAll : MethodName := ⟨RX4, "meetsAll", "(I)I"⟩
abbrev cX4_leastNotMet : ByteArray := prog_6_method_9_code
def yX4_leastNotMet : MethodName := ⟨RX4, "leastNotMet", "()I"⟩
abbrev cX4_inUse : ByteArray := prog_6_method_10_code
def yX4_inUse : MethodName := ⟨RX4, "inUse", "(I)Z"⟩
abbrev cX4_takes : ByteArray := prog_6_method_11_code
def yX4_takes : MethodName := ⟨RX4, "takes", "(I)I"⟩
abbrev cX4_copies : ByteArray := prog_6_method_12_code
def yX4_copies : MethodName := ⟨RX4, "copies", "(II)V"⟩
abbrev cX4_lays : ByteArray := prog_6_method_13_code
def yX4_lays : MethodName := ⟨RX4, "lays", "(IIII)V"⟩
abbrev cX4_drops : ByteArray := prog_6_method_14_code
def yX4_drops : MethodName := ⟨RX4, "drops", "(II)V"⟩
abbrev cX4_moves : ByteArray := prog_6_method_15_code
def yX4_moves : MethodName := ⟨RX4, "moves", "(III)V"⟩
abbrev cX4_leastKey : ByteArray := prog_6_method_16_code
def yX4_leastKey : MethodName := ⟨RX4, "leastKey", "(I)I"⟩
abbrev cX4_keyOf : ByteArray := prog_6_method_17_code
def yX4_keyOf : MethodName := ⟨RX4, "keyOf", "(II)I"⟩
abbrev cX4_finds : ByteArray := prog_6_method_18_code
def yX4_finds : MethodName := ⟨RX4, "finds", "(II)V"⟩
abbrev cX4_place : ByteArray := prog_6_method_19_code
def yX4_place : MethodName := ⟨RX4, "place", "(II)I"⟩
abbrev cX4_has : ByteArray := prog_6_method_20_code
def yX4_has : MethodName := ⟨RX4, "has", "(III)Z"⟩
abbrev cX4_own : ByteArray := prog_6_method_21_code
def yX4_own : MethodName := ⟨RX4, "own", "(II)I"⟩
abbrev cX4_writesWay : ByteArray := prog_6_method_22_code
def yX4_writesWay : MethodName := ⟨RX4, "writesWay", "()V"⟩
abbrev cX4_splits : ByteArray := prog_6_method_23_code
def yX4_splits : MethodName := ⟨RX4, "splits", "()V"⟩
abbrev cX4_mends : ByteArray := prog_6_method_24_code
def yX4_mends : MethodName := ⟨RX4, "mends", "(I)V"⟩
abbrev cX4_joins : ByteArray := prog_6_method_25_code
def yX4_joins : MethodName := ⟨RX4, "joins", "()V"⟩
abbrev cX4_beginBatch : ByteArray := prog_6_method_26_code
def yX4_beginBatch : MethodName := ⟨RX4, "beginBatch", "()I"⟩
abbrev cX4_hasBatch : ByteArray := prog_6_method_27_code
def yX4_hasBatch : MethodName := ⟨RX4, "hasBatch", "()Z"⟩
abbrev cX4_put : ByteArray := prog_6_method_28_code
def yX4_put : MethodName := ⟨RX4, "put", "(II)Z"⟩
abbrev cX4_delete : ByteArray := prog_6_method_29_code
def yX4_delete : MethodName := ⟨RX4, "delete", "(I)I"⟩
abbrev cX4_word : ByteArray := prog_6_method_30_code
def yX4_word : MethodName := ⟨RX4, "word", "(I)J"⟩
abbrev cX4_writes : ByteArray := prog_6_method_31_code
def yX4_writes : MethodName := ⟨RX4, "writes", "(I)V"⟩
abbrev cX4_reads : ByteArray := prog_6_method_32_code
def yX4_reads : MethodName := ⟨RX4, "reads", "(I)I"⟩
abbrev cX4_commit : ByteArray := prog_6_method_33_code
def yX4_commit : MethodName := ⟨RX4, "commit", "()I"⟩
abbrev cX4_abandon : ByteArray := prog_6_method_34_code
def yX4_abandon : MethodName := ⟨RX4, "abandon", "()I"⟩
abbrev cX4_isReader : ByteArray := prog_6_method_35_code
def yX4_isReader : MethodName := ⟨RX4, "isReader", "(I)Z"⟩
abbrev cX4_openReader : ByteArray := prog_6_method_36_code
def yX4_openReader : MethodName := ⟨RX4, "openReader", "()I"⟩
abbrev cX4_held : ByteArray := prog_6_method_37_code
def yX4_held : MethodName := ⟨RX4, "held", "(I)I"⟩
abbrev cX4_closeReader : ByteArray := prog_6_method_38_code
def yX4_closeReader : MethodName := ⟨RX4, "closeReader", "(I)I"⟩
abbrev cX4_readers : ByteArray := prog_6_method_39_code
def yX4_readers : MethodName := ⟨RX4, "readers", "()I"⟩
abbrev cX4_heldBy : ByteArray := prog_6_method_40_code
def yX4_heldBy : MethodName := ⟨RX4, "heldBy", "(I)I"⟩
abbrev cX4_isView : ByteArray := prog_6_method_41_code
def yX4_isView : MethodName := ⟨RX4, "isView", "(I)Z"⟩
abbrev cX4_top : ByteArray := prog_6_method_42_code
def yX4_top : MethodName := ⟨RX4, "top", "(I)I"⟩
abbrev cX4_below : ByteArray := prog_6_method_43_code
def yX4_below : MethodName := ⟨RX4, "below", "(II)I"⟩
abbrev cX4_keys : ByteArray := prog_6_method_44_code
def yX4_keys : MethodName := ⟨RX4, "keys", "(I)I"⟩
abbrev cX4_epochOf : ByteArray := prog_6_method_45_code
def yX4_epochOf : MethodName := ⟨RX4, "epochOf", "(I)I"⟩
abbrev cX4_get : ByteArray := prog_6_method_46_code
def yX4_get : MethodName := ⟨RX4, "get", "(II)I"⟩
abbrev cX4_next : ByteArray := prog_6_method_47_code
def yX4_next : MethodName := ⟨RX4, "next", "(II)I"⟩
abbrev cX4_rank : ByteArray := prog_6_method_48_code
def yX4_rank : MethodName := ⟨RX4, "rank", "(II)I"⟩
abbrev cX4_size : ByteArray := prog_6_method_49_code
def yX4_size : MethodName := ⟨RX4, "size", "(I)I"⟩
abbrev cX4_depth : ByteArray := prog_6_method_50_code
def yX4_depth : MethodName := ⟨RX4, "depth", "(I)I"⟩
abbrev cX4_rootOf : ByteArray := prog_6_method_51_code
def yX4_rootOf : MethodName := ⟨RX4, "rootOf", "(I)I"⟩
abbrev cX4_shared : ByteArray := prog_6_method_52_code
def yX4_shared : MethodName := ⟨RX4, "shared", "(I)I"⟩
abbrev cX4_sharedPages : ByteArray := prog_6_method_53_code
def yX4_sharedPages : MethodName := ⟨RX4, "sharedPages", "(II)I"⟩
abbrev cX4_isFree : ByteArray := prog_6_method_54_code
def yX4_isFree : MethodName := ⟨RX4, "isFree", "(I)Z"⟩
abbrev cX4_pagesInUse : ByteArray := prog_6_method_55_code
def yX4_pagesInUse : MethodName := ⟨RX4, "pagesInUse", "()I"⟩
abbrev cX4_leastFree : ByteArray := prog_6_method_56_code
def yX4_leastFree : MethodName := ⟨RX4, "leastFree", "()I"⟩
abbrev cX4_entries : ByteArray := prog_6_method_57_code
def yX4_entries : MethodName := ⟨RX4, "entries", "(I)I"⟩
abbrev cX4_isEntry : ByteArray := prog_6_method_58_code
def yX4_isEntry : MethodName := ⟨RX4, "isEntry", "(II)Z"⟩
abbrev cX4_keyAt : ByteArray := prog_6_method_59_code
def yX4_keyAt : MethodName := ⟨RX4, "keyAt", "(II)I"⟩
abbrev cX4_pageAt : ByteArray := prog_6_method_60_code
def yX4_pageAt : MethodName := ⟨RX4, "pageAt", "(II)I"⟩
abbrev cX4_whole : ByteArray := prog_6_method_61_code
def yX4_whole : MethodName := ⟨RX4, "whole", "(I)Z"⟩
abbrev cX4_currentSlot : ByteArray := prog_6_method_62_code
def yX4_currentSlot : MethodName := ⟨RX4, "currentSlot", "()I"⟩
abbrev cX4_slotWord : ByteArray := prog_6_method_63_code
def yX4_slotWord : MethodName := ⟨RX4, "slotWord", "(II)J"⟩
abbrev cX4_isWhole : ByteArray := prog_6_method_64_code
def yX4_isWhole : MethodName := ⟨RX4, "isWhole", "(I)Z"⟩
abbrev cX4_tear : ByteArray := prog_6_method_65_code
def yX4_tear : MethodName := ⟨RX4, "tear", "(I)I"⟩
abbrev cX4_restarts : ByteArray := prog_6_method_66_code
def yX4_restarts : MethodName := ⟨RX4, "restarts", "()I"⟩
abbrev cX4_crash : ByteArray := prog_6_method_67_code
def yX4_crash : MethodName := ⟨RX4, "crash", "()I"⟩
abbrev cX4_crashInCommit : ByteArray := prog_6_method_68_code
def yX4_crashInCommit : MethodName := ⟨RX4, "crashInCommit", "(I)I"⟩
def RL : String := "CopperleafLaw"
abbrev cL_beginBatch : ByteArray := method_3_code
def yL_beginBatch : MethodName := ⟨RL, "beginBatch", "(LCopperleaf;[J)I"⟩
abbrev cL_put : ByteArray := method_4_code
def yL_put : MethodName := ⟨RL, "put", "(LCopperleaf;II[J)I"⟩
abbrev cL_delete : ByteArray := method_5_code
def yL_delete : MethodName := ⟨RL, "delete", "(LCopperleaf;I[J)I"⟩
abbrev cL_commit : ByteArray := method_6_code
def yL_commit : MethodName := ⟨RL, "commit", "(LCopperleaf;[J)I"⟩
abbrev cL_abandon : ByteArray := method_7_code
def yL_abandon : MethodName := ⟨RL, "abandon", "(LCopperleaf;[J)I"⟩
abbrev cL_openReader : ByteArray := method_8_code
def yL_openReader : MethodName := ⟨RL, "openReader", "(LCopperleaf;[J)I"⟩
abbrev cL_closeReader : ByteArray := method_9_code
def yL_closeReader : MethodName := ⟨RL, "closeReader", "(LCopperleaf;I[J)I"⟩
abbrev cL_heldBy : ByteArray := method_10_code
def yL_heldBy : MethodName := ⟨RL, "heldBy", "(LCopperleaf;I[J)I"⟩
abbrev cL_epochOf : ByteArray := method_11_code
def yL_epochOf : MethodName := ⟨RL, "epochOf", "(LCopperleaf;I[J)I"⟩
abbrev cL_get : ByteArray := method_12_code
def yL_get : MethodName := ⟨RL, "get", "(LCopperleaf;II[J)I"⟩
abbrev cL_next : ByteArray := method_13_code
def yL_next : MethodName := ⟨RL, "next", "(LCopperleaf;II[J)I"⟩
abbrev cL_rank : ByteArray := method_14_code
def yL_rank : MethodName := ⟨RL, "rank", "(LCopperleaf;II[J)I"⟩
abbrev cL_size : ByteArray := method_15_code
def yL_size : MethodName := ⟨RL, "size", "(LCopperleaf;I[J)I"⟩
abbrev cL_depth : ByteArray := method_16_code
def yL_depth : MethodName := ⟨RL, "depth", "(LCopperleaf;I[J)I"⟩
abbrev cL_rootOf : ByteArray := method_17_code
def yL_rootOf : MethodName := ⟨RL, "rootOf", "(LCopperleaf;I[J)I"⟩
abbrev cL_sharedPages : ByteArray := method_18_code
def yL_sharedPages : MethodName := ⟨RL, "sharedPages", "(LCopperleaf;II[J)I"⟩
abbrev cL_isFree : ByteArray := method_19_code
def yL_isFree : MethodName := ⟨RL, "isFree", "(LCopperleaf;I[J)I"⟩
abbrev cL_entries : ByteArray := method_20_code
def yL_entries : MethodName := ⟨RL, "entries", "(LCopperleaf;I[J)I"⟩
abbrev cL_keyAt : ByteArray := method_21_code
def yL_keyAt : MethodName := ⟨RL, "keyAt", "(LCopperleaf;II[J)I"⟩
abbrev cL_pageAt : ByteArray := method_22_code
def yL_pageAt : MethodName := ⟨RL, "pageAt", "(LCopperleaf;II[J)I"⟩
abbrev cL_slotWord : ByteArray := method_23_code
def yL_slotWord : MethodName := ⟨RL, "slotWord", "(LCopperleaf;II[J)I"⟩
abbrev cL_isWhole : ByteArray := method_24_code
def yL_isWhole : MethodName := ⟨RL, "isWhole", "(LCopperleaf;I[J)I"⟩
abbrev cL_tear : ByteArray := method_25_code
def yL_tear : MethodName := ⟨RL, "tear", "(LCopperleaf;I[J)I"⟩
abbrev cL_crashInCommit : ByteArray := method_26_code
def yL_crashInCommit : MethodName := ⟨RL, "crashInCommit", "(LCopperleaf;I[J)I"⟩
abbrev cL_law : ByteArray := code
def yL_law : MethodName := ⟨RL, "law", "([I)Z"⟩
abbrev vwCl : List vw_C := [(RX0, TX0, 8), (RX1, TX1, 4), (RX2, TX2, 5), (RX3, TX3, 7), (RX4, TX4, 18)]
end
section
/-! decode rows, out of claim/NAMES.whole.lean.txt -/
theorem dX0_init_0 : decode cX0_init 0 = .ok (.aload_n 0, 1) := by decide +kernel
theorem dX0_init_1 : decode cX0_init 1 = .ok (.invokespecial 3, 3) := by decide +kernel
theorem dX0_init_4 : decode cX0_init 4 = .ok (.aload_n 0, 1) := by decide +kernel
theorem dX0_init_5 : decode cX0_init 5 = .ok (.sipush 800, 3) := by decide +kernel
theorem dX0_init_8 : decode cX0_init 8 = .ok (.newarray .int, 2) := by decide +kernel
theorem dX0_init_10 : decode cX0_init 10 = .ok (.putfield 9, 3) := by decide +kernel
theorem dX0_init_13 : decode cX0_init 13 = .ok (.aload_n 0, 1) := by decide +kernel
theorem dX0_init_14 : decode cX0_init 14 = .ok (.sipush 800, 3) := by decide +kernel
theorem dX0_init_17 : decode cX0_init 17 = .ok (.newarray .boolean, 2) := by decide +kernel
theorem dX0_init_19 : decode cX0_init 19 = .ok (.putfield 15, 3) := by decide +kernel
theorem dX0_init_22 : decode cX0_init 22 = .ok (.aload_n 0, 1) := by decide +kernel
theorem dX0_init_23 : decode cX0_init 23 = .ok (.sipush 4000, 3) := by decide +kernel
theorem dX0_init_26 : decode cX0_init 26 = .ok (.newarray .int, 2) := by decide +kernel
theorem dX0_init_28 : decode cX0_init 28 = .ok (.putfield 19, 3) := by decide +kernel
theorem dX0_init_31 : decode cX0_init 31 = .ok (.aload_n 0, 1) := by decide +kernel
theorem dX0_init_32 : decode cX0_init 32 = .ok (.sipush 4000, 3) := by decide +kernel
theorem dX0_init_35 : decode cX0_init 35 = .ok (.newarray .int, 2) := by decide +kernel
theorem dX0_init_37 : decode cX0_init 37 = .ok (.putfield 22, 3) := by decide +kernel
theorem dX0_init_40 : decode cX0_init 40 = .ok (.aload_n 0, 1) := by decide +kernel
theorem dX0_init_41 : decode cX0_init 41 = .ok (.sipush 800, 3) := by decide +kernel
theorem dX0_init_44 : decode cX0_init 44 = .ok (.newarray .boolean, 2) := by decide +kernel
theorem dX0_init_46 : decode cX0_init 46 = .ok (.putfield 25, 3) := by decide +kernel
theorem dX0_init_49 : decode cX0_init 49 = .ok (.aload_n 0, 1) := by decide +kernel
theorem dX0_init_50 : decode cX0_init 50 = .ok (.sipush 800, 3) := by decide +kernel
theorem dX0_init_53 : decode cX0_init 53 = .ok (.newarray .boolean, 2) := by decide +kernel
theorem dX0_init_55 : decode cX0_init 55 = .ok (.putfield 28, 3) := by decide +kernel
theorem dX0_init_58 : decode cX0_init 58 = .ok (.aload_n 0, 1) := by decide +kernel
theorem dX0_init_59 : decode cX0_init 59 = .ok (.sipush 800, 3) := by decide +kernel
theorem dX0_init_62 : decode cX0_init 62 = .ok (.newarray .boolean, 2) := by decide +kernel
theorem dX0_init_64 : decode cX0_init 64 = .ok (.putfield 31, 3) := by decide +kernel
theorem dX0_init_67 : decode cX0_init 67 = .ok (.aload_n 0, 1) := by decide +kernel
theorem dX0_init_68 : decode cX0_init 68 = .ok (.sipush 800, 3) := by decide +kernel
theorem dX0_init_71 : decode cX0_init 71 = .ok (.newarray .int, 2) := by decide +kernel
theorem dX0_init_73 : decode cX0_init 73 = .ok (.putfield 34, 3) := by decide +kernel
theorem dX0_init_76 : decode cX0_init 76 = .ok (.return_, 1) := by decide +kernel
theorem dX0_isCell_0 : decode cX0_isCell 0 = .ok (.iload_n 0, 1) := by decide +kernel
theorem dX0_isCell_1 : decode cX0_isCell 1 = .ok (.ifCond .lt 23, 3) := by decide +kernel
theorem dX0_isCell_4 : decode cX0_isCell 4 = .ok (.iload_n 0, 1) := by decide +kernel
theorem dX0_isCell_5 : decode cX0_isCell 5 = .ok (.sipush 800, 3) := by decide +kernel
theorem dX0_isCell_8 : decode cX0_isCell 8 = .ok (.if_icmp .ge 16, 3) := by decide +kernel
theorem dX0_isCell_11 : decode cX0_isCell 11 = .ok (.iload_n 1, 1) := by decide +kernel
theorem dX0_isCell_12 : decode cX0_isCell 12 = .ok (.ifCond .lt 12, 3) := by decide +kernel
theorem dX0_isCell_15 : decode cX0_isCell 15 = .ok (.iload_n 1, 1) := by decide +kernel
theorem dX0_isCell_16 : decode cX0_isCell 16 = .ok (.iconst 5, 1) := by decide +kernel
theorem dX0_isCell_17 : decode cX0_isCell 17 = .ok (.if_icmp .ge 7, 3) := by decide +kernel
theorem dX0_isCell_20 : decode cX0_isCell 20 = .ok (.iconst 1, 1) := by decide +kernel
theorem dX0_isCell_21 : decode cX0_isCell 21 = .ok (.goto 4, 3) := by decide +kernel
theorem dX0_isCell_24 : decode cX0_isCell 24 = .ok (.iconst 0, 1) := by decide +kernel
theorem dX0_isCell_25 : decode cX0_isCell 25 = .ok (.ireturn, 1) := by decide +kernel
theorem dX0_isVacant_0 : decode cX0_isVacant 0 = .ok (.iload_n 1, 1) := by decide +kernel
theorem dX0_isVacant_1 : decode cX0_isVacant 1 = .ok (.ifCond .lt 28, 3) := by decide +kernel
theorem dX0_isVacant_4 : decode cX0_isVacant 4 = .ok (.iload_n 1, 1) := by decide +kernel
theorem dX0_isVacant_5 : decode cX0_isVacant 5 = .ok (.sipush 800, 3) := by decide +kernel
theorem dX0_isVacant_8 : decode cX0_isVacant 8 = .ok (.if_icmp .ge 21, 3) := by decide +kernel
theorem dX0_isVacant_11 : decode cX0_isVacant 11 = .ok (.aload_n 0, 1) := by decide +kernel
theorem dX0_isVacant_12 : decode cX0_isVacant 12 = .ok (.getfield 25, 3) := by decide +kernel
theorem dX0_isVacant_15 : decode cX0_isVacant 15 = .ok (.iload_n 1, 1) := by decide +kernel
theorem dX0_isVacant_16 : decode cX0_isVacant 16 = .ok (.baload, 1) := by decide +kernel
theorem dX0_isVacant_17 : decode cX0_isVacant 17 = .ok (.ifCond .ne 16, 3) := by decide +kernel
theorem dX0_isVacant_20 : decode cX0_isVacant 20 = .ok (.aload_n 0, 1) := by decide +kernel
theorem dX0_isVacant_21 : decode cX0_isVacant 21 = .ok (.getfield 28, 3) := by decide +kernel
theorem dX0_isVacant_24 : decode cX0_isVacant 24 = .ok (.iload_n 1, 1) := by decide +kernel
theorem dX0_isVacant_25 : decode cX0_isVacant 25 = .ok (.baload, 1) := by decide +kernel
theorem dX0_isVacant_26 : decode cX0_isVacant 26 = .ok (.ifCond .ne 7, 3) := by decide +kernel
theorem dX0_isVacant_29 : decode cX0_isVacant 29 = .ok (.iconst 1, 1) := by decide +kernel
theorem dX0_isVacant_30 : decode cX0_isVacant 30 = .ok (.goto 4, 3) := by decide +kernel
theorem dX0_isVacant_33 : decode cX0_isVacant 33 = .ok (.iconst 0, 1) := by decide +kernel
theorem dX0_isVacant_34 : decode cX0_isVacant 34 = .ok (.ireturn, 1) := by decide +kernel
theorem dX0_leastVacant_0 : decode cX0_leastVacant 0 = .ok (.iconst 0, 1) := by decide +kernel
theorem dX0_leastVacant_1 : decode cX0_leastVacant 1 = .ok (.istore_n 1, 1) := by decide +kernel
theorem dX0_leastVacant_2 : decode cX0_leastVacant 2 = .ok (.iload_n 1, 1) := by decide +kernel
theorem dX0_leastVacant_3 : decode cX0_leastVacant 3 = .ok (.sipush 800, 3) := by decide +kernel
theorem dX0_leastVacant_6 : decode cX0_leastVacant 6 = .ok (.if_icmp .ge 29, 3) := by decide +kernel
theorem dX0_leastVacant_9 : decode cX0_leastVacant 9 = .ok (.aload_n 0, 1) := by decide +kernel
theorem dX0_leastVacant_10 : decode cX0_leastVacant 10 = .ok (.getfield 25, 3) := by decide +kernel
theorem dX0_leastVacant_13 : decode cX0_leastVacant 13 = .ok (.iload_n 1, 1) := by decide +kernel
theorem dX0_leastVacant_14 : decode cX0_leastVacant 14 = .ok (.baload, 1) := by decide +kernel
theorem dX0_leastVacant_15 : decode cX0_leastVacant 15 = .ok (.ifCond .ne 14, 3) := by decide +kernel
theorem dX0_leastVacant_18 : decode cX0_leastVacant 18 = .ok (.aload_n 0, 1) := by decide +kernel
theorem dX0_leastVacant_19 : decode cX0_leastVacant 19 = .ok (.getfield 28, 3) := by decide +kernel
theorem dX0_leastVacant_22 : decode cX0_leastVacant 22 = .ok (.iload_n 1, 1) := by decide +kernel
theorem dX0_leastVacant_23 : decode cX0_leastVacant 23 = .ok (.baload, 1) := by decide +kernel
theorem dX0_leastVacant_24 : decode cX0_leastVacant 24 = .ok (.ifCond .ne 5, 3) := by decide +kernel
theorem dX0_leastVacant_27 : decode cX0_leastVacant 27 = .ok (.iload_n 1, 1) := by decide +kernel
theorem dX0_leastVacant_28 : decode cX0_leastVacant 28 = .ok (.ireturn, 1) := by decide +kernel
theorem dX0_leastVacant_29 : decode cX0_leastVacant 29 = .ok (.iinc 1 1, 3) := by decide +kernel
theorem dX0_leastVacant_32 : decode cX0_leastVacant 32 = .ok (.goto (-30), 3) := by decide +kernel
theorem dX0_leastVacant_35 : decode cX0_leastVacant 35 = .ok (.sipush 800, 3) := by decide +kernel
theorem dX0_leastVacant_38 : decode cX0_leastVacant 38 = .ok (.ireturn, 1) := by decide +kernel
theorem dX0_countOf_0 : decode cX0_countOf 0 = .ok (.iload_n 1, 1) := by decide +kernel
theorem dX0_countOf_1 : decode cX0_countOf 1 = .ok (.ifCond .lt 19, 3) := by decide +kernel
theorem dX0_countOf_4 : decode cX0_countOf 4 = .ok (.iload_n 1, 1) := by decide +kernel
theorem dX0_countOf_5 : decode cX0_countOf 5 = .ok (.sipush 800, 3) := by decide +kernel
theorem dX0_countOf_8 : decode cX0_countOf 8 = .ok (.if_icmp .ge 12, 3) := by decide +kernel
theorem dX0_countOf_11 : decode cX0_countOf 11 = .ok (.aload_n 0, 1) := by decide +kernel
theorem dX0_countOf_12 : decode cX0_countOf 12 = .ok (.getfield 9, 3) := by decide +kernel
theorem dX0_countOf_15 : decode cX0_countOf 15 = .ok (.iload_n 1, 1) := by decide +kernel
theorem dX0_countOf_16 : decode cX0_countOf 16 = .ok (.iaload, 1) := by decide +kernel
theorem dX0_countOf_17 : decode cX0_countOf 17 = .ok (.goto 4, 3) := by decide +kernel
theorem dX0_countOf_20 : decode cX0_countOf 20 = .ok (.iconst 0, 1) := by decide +kernel
theorem dX0_countOf_21 : decode cX0_countOf 21 = .ok (.ireturn, 1) := by decide +kernel
theorem dX0_isLeaf_0 : decode cX0_isLeaf 0 = .ok (.iload_n 1, 1) := by decide +kernel
theorem dX0_isLeaf_1 : decode cX0_isLeaf 1 = .ok (.ifCond .lt 19, 3) := by decide +kernel
theorem dX0_isLeaf_4 : decode cX0_isLeaf 4 = .ok (.iload_n 1, 1) := by decide +kernel
theorem dX0_isLeaf_5 : decode cX0_isLeaf 5 = .ok (.sipush 800, 3) := by decide +kernel
theorem dX0_isLeaf_8 : decode cX0_isLeaf 8 = .ok (.if_icmp .ge 12, 3) := by decide +kernel
theorem dX0_isLeaf_11 : decode cX0_isLeaf 11 = .ok (.aload_n 0, 1) := by decide +kernel
theorem dX0_isLeaf_12 : decode cX0_isLeaf 12 = .ok (.getfield 15, 3) := by decide +kernel
theorem dX0_isLeaf_15 : decode cX0_isLeaf 15 = .ok (.iload_n 1, 1) := by decide +kernel
theorem dX0_isLeaf_16 : decode cX0_isLeaf 16 = .ok (.baload, 1) := by decide +kernel
theorem dX0_isLeaf_17 : decode cX0_isLeaf 17 = .ok (.ifCond .ne 7, 3) := by decide +kernel
theorem dX0_isLeaf_20 : decode cX0_isLeaf 20 = .ok (.iconst 1, 1) := by decide +kernel
theorem dX0_isLeaf_21 : decode cX0_isLeaf 21 = .ok (.goto 4, 3) := by decide +kernel
theorem dX0_isLeaf_24 : decode cX0_isLeaf 24 = .ok (.iconst 0, 1) := by decide +kernel
theorem dX0_isLeaf_25 : decode cX0_isLeaf 25 = .ok (.ireturn, 1) := by decide +kernel
theorem dX0_wordOf_0 : decode cX0_wordOf 0 = .ok (.iload_n 1, 1) := by decide +kernel
theorem dX0_wordOf_1 : decode cX0_wordOf 1 = .ok (.ifCond .lt 23, 3) := by decide +kernel
theorem dX0_wordOf_4 : decode cX0_wordOf 4 = .ok (.iload_n 1, 1) := by decide +kernel
theorem dX0_wordOf_5 : decode cX0_wordOf 5 = .ok (.sipush 800, 3) := by decide +kernel
theorem dX0_wordOf_8 : decode cX0_wordOf 8 = .ok (.if_icmp .ge 16, 3) := by decide +kernel
theorem dX0_wordOf_11 : decode cX0_wordOf 11 = .ok (.iload_n 2, 1) := by decide +kernel
theorem dX0_wordOf_12 : decode cX0_wordOf 12 = .ok (.ifCond .lt 12, 3) := by decide +kernel
theorem dX0_wordOf_15 : decode cX0_wordOf 15 = .ok (.iload_n 2, 1) := by decide +kernel
theorem dX0_wordOf_16 : decode cX0_wordOf 16 = .ok (.iconst 5, 1) := by decide +kernel
theorem dX0_wordOf_17 : decode cX0_wordOf 17 = .ok (.if_icmp .ge 7, 3) := by decide +kernel
theorem dX0_wordOf_20 : decode cX0_wordOf 20 = .ok (.iconst 1, 1) := by decide +kernel
theorem dX0_wordOf_21 : decode cX0_wordOf 21 = .ok (.goto 4, 3) := by decide +kernel
theorem dX0_wordOf_24 : decode cX0_wordOf 24 = .ok (.iconst 0, 1) := by decide +kernel
theorem dX0_wordOf_25 : decode cX0_wordOf 25 = .ok (.istore_n 3, 1) := by decide +kernel
theorem dX0_wordOf_26 : decode cX0_wordOf 26 = .ok (.iload_n 3, 1) := by decide +kernel
theorem dX0_wordOf_27 : decode cX0_wordOf 27 = .ok (.ifCond .eq 16, 3) := by decide +kernel
theorem dX0_wordOf_30 : decode cX0_wordOf 30 = .ok (.aload_n 0, 1) := by decide +kernel
theorem dX0_wordOf_31 : decode cX0_wordOf 31 = .ok (.getfield 22, 3) := by decide +kernel
theorem dX0_wordOf_34 : decode cX0_wordOf 34 = .ok (.iload_n 1, 1) := by decide +kernel
theorem dX0_wordOf_35 : decode cX0_wordOf 35 = .ok (.iconst 5, 1) := by decide +kernel
theorem dX0_wordOf_36 : decode cX0_wordOf 36 = .ok (.imul, 1) := by decide +kernel
theorem dX0_wordOf_37 : decode cX0_wordOf 37 = .ok (.iload_n 2, 1) := by decide +kernel
theorem dX0_wordOf_38 : decode cX0_wordOf 38 = .ok (.iadd, 1) := by decide +kernel
theorem dX0_wordOf_39 : decode cX0_wordOf 39 = .ok (.iaload, 1) := by decide +kernel
theorem dX0_wordOf_40 : decode cX0_wordOf 40 = .ok (.goto 4, 3) := by decide +kernel
theorem dX0_wordOf_43 : decode cX0_wordOf 43 = .ok (.iconst (-1), 1) := by decide +kernel
theorem dX0_wordOf_44 : decode cX0_wordOf 44 = .ok (.ireturn, 1) := by decide +kernel
theorem dX0_setWord_0 : decode cX0_setWord 0 = .ok (.iload_n 1, 1) := by decide +kernel
theorem dX0_setWord_1 : decode cX0_setWord 1 = .ok (.iload_n 2, 1) := by decide +kernel
theorem dX0_setWord_2 : decode cX0_setWord 2 = .ok (.invokestatic 37, 3) := by decide +kernel
theorem dX0_setWord_5 : decode cX0_setWord 5 = .ok (.ifCond .eq 14, 3) := by decide +kernel
theorem dX0_setWord_8 : decode cX0_setWord 8 = .ok (.aload_n 0, 1) := by decide +kernel
theorem dX0_setWord_9 : decode cX0_setWord 9 = .ok (.getfield 22, 3) := by decide +kernel
theorem dX0_setWord_12 : decode cX0_setWord 12 = .ok (.iload_n 1, 1) := by decide +kernel
theorem dX0_setWord_13 : decode cX0_setWord 13 = .ok (.iconst 5, 1) := by decide +kernel
theorem dX0_setWord_14 : decode cX0_setWord 14 = .ok (.imul, 1) := by decide +kernel
theorem dX0_setWord_15 : decode cX0_setWord 15 = .ok (.iload_n 2, 1) := by decide +kernel
theorem dX0_setWord_16 : decode cX0_setWord 16 = .ok (.iadd, 1) := by decide +kernel
theorem dX0_setWord_17 : decode cX0_setWord 17 = .ok (.iload_n 3, 1) := by decide +kernel
theorem dX0_setWord_18 : decode cX0_setWord 18 = .ok (.iastore, 1) := by decide +kernel
theorem dX0_setWord_19 : decode cX0_setWord 19 = .ok (.return_, 1) := by decide +kernel
theorem dX0_keyOf_0 : decode cX0_keyOf 0 = .ok (.iload_n 1, 1) := by decide +kernel
theorem dX0_keyOf_1 : decode cX0_keyOf 1 = .ok (.istore_n 3, 1) := by decide +kernel
theorem dX0_keyOf_2 : decode cX0_keyOf 2 = .ok (.iload_n 2, 1) := by decide +kernel
theorem dX0_keyOf_3 : decode cX0_keyOf 3 = .ok (.istore 4, 2) := by decide +kernel
theorem dX0_keyOf_5 : decode cX0_keyOf 5 = .ok (.iconst 0, 1) := by decide +kernel
theorem dX0_keyOf_6 : decode cX0_keyOf 6 = .ok (.istore 5, 2) := by decide +kernel
theorem dX0_keyOf_8 : decode cX0_keyOf 8 = .ok (.iload 5, 2) := by decide +kernel
theorem dX0_keyOf_10 : decode cX0_keyOf 10 = .ok (.bipush 8, 2) := by decide +kernel
theorem dX0_keyOf_12 : decode cX0_keyOf 12 = .ok (.if_icmp .ge 28, 3) := by decide +kernel
theorem dX0_keyOf_15 : decode cX0_keyOf 15 = .ok (.aload_n 0, 1) := by decide +kernel
theorem dX0_keyOf_16 : decode cX0_keyOf 16 = .ok (.iload_n 3, 1) := by decide +kernel
theorem dX0_keyOf_17 : decode cX0_keyOf 17 = .ok (.invokevirtual 41, 3) := by decide +kernel
theorem dX0_keyOf_20 : decode cX0_keyOf 20 = .ok (.ifCond .ne 20, 3) := by decide +kernel
theorem dX0_keyOf_23 : decode cX0_keyOf 23 = .ok (.aload_n 0, 1) := by decide +kernel
theorem dX0_keyOf_24 : decode cX0_keyOf 24 = .ok (.iload_n 3, 1) := by decide +kernel
theorem dX0_keyOf_25 : decode cX0_keyOf 25 = .ok (.iload 4, 2) := by decide +kernel
theorem dX0_keyOf_27 : decode cX0_keyOf 27 = .ok (.invokevirtual 45, 3) := by decide +kernel
theorem dX0_keyOf_30 : decode cX0_keyOf 30 = .ok (.istore_n 3, 1) := by decide +kernel
theorem dX0_keyOf_31 : decode cX0_keyOf 31 = .ok (.iconst 0, 1) := by decide +kernel
theorem dX0_keyOf_32 : decode cX0_keyOf 32 = .ok (.istore 4, 2) := by decide +kernel
theorem dX0_keyOf_34 : decode cX0_keyOf 34 = .ok (.iinc 5 1, 3) := by decide +kernel
theorem dX0_keyOf_37 : decode cX0_keyOf 37 = .ok (.goto (-29), 3) := by decide +kernel
theorem dX0_keyOf_40 : decode cX0_keyOf 40 = .ok (.iload_n 3, 1) := by decide +kernel
theorem dX0_keyOf_41 : decode cX0_keyOf 41 = .ok (.iload 4, 2) := by decide +kernel
theorem dX0_keyOf_43 : decode cX0_keyOf 43 = .ok (.invokestatic 37, 3) := by decide +kernel
theorem dX0_keyOf_46 : decode cX0_keyOf 46 = .ok (.ifCond .eq 17, 3) := by decide +kernel
theorem dX0_keyOf_49 : decode cX0_keyOf 49 = .ok (.aload_n 0, 1) := by decide +kernel
theorem dX0_keyOf_50 : decode cX0_keyOf 50 = .ok (.getfield 19, 3) := by decide +kernel
theorem dX0_keyOf_53 : decode cX0_keyOf 53 = .ok (.iload_n 3, 1) := by decide +kernel
theorem dX0_keyOf_54 : decode cX0_keyOf 54 = .ok (.iconst 5, 1) := by decide +kernel
theorem dX0_keyOf_55 : decode cX0_keyOf 55 = .ok (.imul, 1) := by decide +kernel
theorem dX0_keyOf_56 : decode cX0_keyOf 56 = .ok (.iload 4, 2) := by decide +kernel
theorem dX0_keyOf_58 : decode cX0_keyOf 58 = .ok (.iadd, 1) := by decide +kernel
theorem dX0_keyOf_59 : decode cX0_keyOf 59 = .ok (.iaload, 1) := by decide +kernel
theorem dX0_keyOf_60 : decode cX0_keyOf 60 = .ok (.goto 4, 3) := by decide +kernel
theorem dX0_keyOf_63 : decode cX0_keyOf 63 = .ok (.iconst (-1), 1) := by decide +kernel
theorem dX0_keyOf_64 : decode cX0_keyOf 64 = .ok (.ireturn, 1) := by decide +kernel
theorem dX0_placeOf_0 : decode cX0_placeOf 0 = .ok (.iconst 0, 1) := by decide +kernel
theorem dX0_placeOf_1 : decode cX0_placeOf 1 = .ok (.istore_n 3, 1) := by decide +kernel
theorem dX0_placeOf_2 : decode cX0_placeOf 2 = .ok (.iload_n 3, 1) := by decide +kernel
theorem dX0_placeOf_3 : decode cX0_placeOf 3 = .ok (.iconst 5, 1) := by decide +kernel
theorem dX0_placeOf_4 : decode cX0_placeOf 4 = .ok (.if_icmp .ge 28, 3) := by decide +kernel
theorem dX0_placeOf_7 : decode cX0_placeOf 7 = .ok (.iload_n 3, 1) := by decide +kernel
theorem dX0_placeOf_8 : decode cX0_placeOf 8 = .ok (.aload_n 0, 1) := by decide +kernel
theorem dX0_placeOf_9 : decode cX0_placeOf 9 = .ok (.iload_n 1, 1) := by decide +kernel
theorem dX0_placeOf_10 : decode cX0_placeOf 10 = .ok (.invokevirtual 49, 3) := by decide +kernel
theorem dX0_placeOf_13 : decode cX0_placeOf 13 = .ok (.if_icmp .ge 19, 3) := by decide +kernel
theorem dX0_placeOf_16 : decode cX0_placeOf 16 = .ok (.aload_n 0, 1) := by decide +kernel
theorem dX0_placeOf_17 : decode cX0_placeOf 17 = .ok (.iload_n 1, 1) := by decide +kernel
theorem dX0_placeOf_18 : decode cX0_placeOf 18 = .ok (.iload_n 3, 1) := by decide +kernel
theorem dX0_placeOf_19 : decode cX0_placeOf 19 = .ok (.invokevirtual 53, 3) := by decide +kernel
theorem dX0_placeOf_22 : decode cX0_placeOf 22 = .ok (.iload_n 2, 1) := by decide +kernel
theorem dX0_placeOf_23 : decode cX0_placeOf 23 = .ok (.if_icmp .ge 9, 3) := by decide +kernel
theorem dX0_placeOf_26 : decode cX0_placeOf 26 = .ok (.iinc 3 1, 3) := by decide +kernel
theorem dX0_placeOf_29 : decode cX0_placeOf 29 = .ok (.goto (-27), 3) := by decide +kernel
theorem dX0_placeOf_32 : decode cX0_placeOf 32 = .ok (.iload_n 3, 1) := by decide +kernel
theorem dX0_placeOf_33 : decode cX0_placeOf 33 = .ok (.ireturn, 1) := by decide +kernel
theorem dX0_holds_0 : decode cX0_holds 0 = .ok (.iload_n 2, 1) := by decide +kernel
theorem dX0_holds_1 : decode cX0_holds 1 = .ok (.aload_n 0, 1) := by decide +kernel
theorem dX0_holds_2 : decode cX0_holds 2 = .ok (.iload_n 1, 1) := by decide +kernel
theorem dX0_holds_3 : decode cX0_holds 3 = .ok (.invokevirtual 49, 3) := by decide +kernel
theorem dX0_holds_6 : decode cX0_holds 6 = .ok (.if_icmp .ge 17, 3) := by decide +kernel
theorem dX0_holds_9 : decode cX0_holds 9 = .ok (.aload_n 0, 1) := by decide +kernel
theorem dX0_holds_10 : decode cX0_holds 10 = .ok (.iload_n 1, 1) := by decide +kernel
theorem dX0_holds_11 : decode cX0_holds 11 = .ok (.iload_n 2, 1) := by decide +kernel
theorem dX0_holds_12 : decode cX0_holds 12 = .ok (.invokevirtual 53, 3) := by decide +kernel
theorem dX0_holds_15 : decode cX0_holds 15 = .ok (.iload_n 3, 1) := by decide +kernel
theorem dX0_holds_16 : decode cX0_holds 16 = .ok (.if_icmp .ne 7, 3) := by decide +kernel
theorem dX0_holds_19 : decode cX0_holds 19 = .ok (.iconst 1, 1) := by decide +kernel
theorem dX0_holds_20 : decode cX0_holds 20 = .ok (.goto 4, 3) := by decide +kernel
theorem dX0_holds_23 : decode cX0_holds 23 = .ok (.iconst 0, 1) := by decide +kernel
theorem dX0_holds_24 : decode cX0_holds 24 = .ok (.ireturn, 1) := by decide +kernel
theorem dX0_entryFor_0 : decode cX0_entryFor 0 = .ok (.iconst 0, 1) := by decide +kernel
theorem dX0_entryFor_1 : decode cX0_entryFor 1 = .ok (.istore_n 3, 1) := by decide +kernel
theorem dX0_entryFor_2 : decode cX0_entryFor 2 = .ok (.iload_n 3, 1) := by decide +kernel
theorem dX0_entryFor_3 : decode cX0_entryFor 3 = .ok (.iconst 1, 1) := by decide +kernel
theorem dX0_entryFor_4 : decode cX0_entryFor 4 = .ok (.iadd, 1) := by decide +kernel
theorem dX0_entryFor_5 : decode cX0_entryFor 5 = .ok (.iconst 5, 1) := by decide +kernel
theorem dX0_entryFor_6 : decode cX0_entryFor 6 = .ok (.if_icmp .ge 32, 3) := by decide +kernel
theorem dX0_entryFor_9 : decode cX0_entryFor 9 = .ok (.iload_n 3, 1) := by decide +kernel
theorem dX0_entryFor_10 : decode cX0_entryFor 10 = .ok (.iconst 1, 1) := by decide +kernel
theorem dX0_entryFor_11 : decode cX0_entryFor 11 = .ok (.iadd, 1) := by decide +kernel
theorem dX0_entryFor_12 : decode cX0_entryFor 12 = .ok (.aload_n 0, 1) := by decide +kernel
theorem dX0_entryFor_13 : decode cX0_entryFor 13 = .ok (.iload_n 1, 1) := by decide +kernel
theorem dX0_entryFor_14 : decode cX0_entryFor 14 = .ok (.invokevirtual 49, 3) := by decide +kernel
theorem dX0_entryFor_17 : decode cX0_entryFor 17 = .ok (.if_icmp .ge 21, 3) := by decide +kernel
theorem dX0_entryFor_20 : decode cX0_entryFor 20 = .ok (.aload_n 0, 1) := by decide +kernel
theorem dX0_entryFor_21 : decode cX0_entryFor 21 = .ok (.iload_n 1, 1) := by decide +kernel
theorem dX0_entryFor_22 : decode cX0_entryFor 22 = .ok (.iload_n 3, 1) := by decide +kernel
theorem dX0_entryFor_23 : decode cX0_entryFor 23 = .ok (.iconst 1, 1) := by decide +kernel
theorem dX0_entryFor_24 : decode cX0_entryFor 24 = .ok (.iadd, 1) := by decide +kernel
theorem dX0_entryFor_25 : decode cX0_entryFor 25 = .ok (.invokevirtual 53, 3) := by decide +kernel
theorem dX0_entryFor_28 : decode cX0_entryFor 28 = .ok (.iload_n 2, 1) := by decide +kernel
theorem dX0_entryFor_29 : decode cX0_entryFor 29 = .ok (.if_icmp .gt 9, 3) := by decide +kernel
theorem dX0_entryFor_32 : decode cX0_entryFor 32 = .ok (.iinc 3 1, 3) := by decide +kernel
theorem dX0_entryFor_35 : decode cX0_entryFor 35 = .ok (.goto (-33), 3) := by decide +kernel
theorem dX0_entryFor_38 : decode cX0_entryFor 38 = .ok (.iload_n 3, 1) := by decide +kernel
theorem dX0_entryFor_39 : decode cX0_entryFor 39 = .ok (.ireturn, 1) := by decide +kernel
theorem dX0_leafFor_0 : decode cX0_leafFor 0 = .ok (.iload_n 1, 1) := by decide +kernel
theorem dX0_leafFor_1 : decode cX0_leafFor 1 = .ok (.istore_n 3, 1) := by decide +kernel
theorem dX0_leafFor_2 : decode cX0_leafFor 2 = .ok (.iconst 0, 1) := by decide +kernel
theorem dX0_leafFor_3 : decode cX0_leafFor 3 = .ok (.istore 4, 2) := by decide +kernel
theorem dX0_leafFor_5 : decode cX0_leafFor 5 = .ok (.iload 4, 2) := by decide +kernel
theorem dX0_leafFor_7 : decode cX0_leafFor 7 = .ok (.bipush 8, 2) := by decide +kernel
theorem dX0_leafFor_9 : decode cX0_leafFor 9 = .ok (.if_icmp .ge 29, 3) := by decide +kernel
theorem dX0_leafFor_12 : decode cX0_leafFor 12 = .ok (.aload_n 0, 1) := by decide +kernel
theorem dX0_leafFor_13 : decode cX0_leafFor 13 = .ok (.iload_n 3, 1) := by decide +kernel
theorem dX0_leafFor_14 : decode cX0_leafFor 14 = .ok (.invokevirtual 41, 3) := by decide +kernel
theorem dX0_leafFor_17 : decode cX0_leafFor 17 = .ok (.ifCond .ne 21, 3) := by decide +kernel
theorem dX0_leafFor_20 : decode cX0_leafFor 20 = .ok (.aload_n 0, 1) := by decide +kernel
theorem dX0_leafFor_21 : decode cX0_leafFor 21 = .ok (.iload_n 3, 1) := by decide +kernel
theorem dX0_leafFor_22 : decode cX0_leafFor 22 = .ok (.aload_n 0, 1) := by decide +kernel
theorem dX0_leafFor_23 : decode cX0_leafFor 23 = .ok (.iload_n 3, 1) := by decide +kernel
theorem dX0_leafFor_24 : decode cX0_leafFor 24 = .ok (.iload_n 2, 1) := by decide +kernel
theorem dX0_leafFor_25 : decode cX0_leafFor 25 = .ok (.invokevirtual 56, 3) := by decide +kernel
theorem dX0_leafFor_28 : decode cX0_leafFor 28 = .ok (.invokevirtual 45, 3) := by decide +kernel
theorem dX0_leafFor_31 : decode cX0_leafFor 31 = .ok (.istore_n 3, 1) := by decide +kernel
theorem dX0_leafFor_32 : decode cX0_leafFor 32 = .ok (.iinc 4 1, 3) := by decide +kernel
theorem dX0_leafFor_35 : decode cX0_leafFor 35 = .ok (.goto (-30), 3) := by decide +kernel
theorem dX0_leafFor_38 : decode cX0_leafFor 38 = .ok (.iload_n 3, 1) := by decide +kernel
theorem dX0_leafFor_39 : decode cX0_leafFor 39 = .ok (.ireturn, 1) := by decide +kernel
theorem dX0_levelsFrom_0 : decode cX0_levelsFrom 0 = .ok (.iconst 1, 1) := by decide +kernel
theorem dX0_levelsFrom_1 : decode cX0_levelsFrom 1 = .ok (.istore_n 2, 1) := by decide +kernel
theorem dX0_levelsFrom_2 : decode cX0_levelsFrom 2 = .ok (.iload_n 1, 1) := by decide +kernel
theorem dX0_levelsFrom_3 : decode cX0_levelsFrom 3 = .ok (.istore_n 3, 1) := by decide +kernel
theorem dX0_levelsFrom_4 : decode cX0_levelsFrom 4 = .ok (.iload_n 2, 1) := by decide +kernel
theorem dX0_levelsFrom_5 : decode cX0_levelsFrom 5 = .ok (.bipush 8, 2) := by decide +kernel
theorem dX0_levelsFrom_7 : decode cX0_levelsFrom 7 = .ok (.if_icmp .ge 24, 3) := by decide +kernel
theorem dX0_levelsFrom_10 : decode cX0_levelsFrom 10 = .ok (.aload_n 0, 1) := by decide +kernel
theorem dX0_levelsFrom_11 : decode cX0_levelsFrom 11 = .ok (.iload_n 3, 1) := by decide +kernel
theorem dX0_levelsFrom_12 : decode cX0_levelsFrom 12 = .ok (.invokevirtual 41, 3) := by decide +kernel
theorem dX0_levelsFrom_15 : decode cX0_levelsFrom 15 = .ok (.ifCond .ne 16, 3) := by decide +kernel
theorem dX0_levelsFrom_18 : decode cX0_levelsFrom 18 = .ok (.aload_n 0, 1) := by decide +kernel
theorem dX0_levelsFrom_19 : decode cX0_levelsFrom 19 = .ok (.iload_n 3, 1) := by decide +kernel
theorem dX0_levelsFrom_20 : decode cX0_levelsFrom 20 = .ok (.iconst 0, 1) := by decide +kernel
theorem dX0_levelsFrom_21 : decode cX0_levelsFrom 21 = .ok (.invokevirtual 45, 3) := by decide +kernel
theorem dX0_levelsFrom_24 : decode cX0_levelsFrom 24 = .ok (.istore_n 3, 1) := by decide +kernel
theorem dX0_levelsFrom_25 : decode cX0_levelsFrom 25 = .ok (.iinc 2 1, 3) := by decide +kernel
theorem dX0_levelsFrom_28 : decode cX0_levelsFrom 28 = .ok (.goto (-24), 3) := by decide +kernel
theorem dX0_levelsFrom_31 : decode cX0_levelsFrom 31 = .ok (.iload_n 2, 1) := by decide +kernel
theorem dX0_levelsFrom_32 : decode cX0_levelsFrom 32 = .ok (.ireturn, 1) := by decide +kernel
theorem dX0_listTree_0 : decode cX0_listTree 0 = .ok (.aload_n 0, 1) := by decide +kernel
theorem dX0_listTree_1 : decode cX0_listTree 1 = .ok (.getfield 34, 3) := by decide +kernel
theorem dX0_listTree_4 : decode cX0_listTree 4 = .ok (.iconst 0, 1) := by decide +kernel
theorem dX0_listTree_5 : decode cX0_listTree 5 = .ok (.iload_n 1, 1) := by decide +kernel
theorem dX0_listTree_6 : decode cX0_listTree 6 = .ok (.iastore, 1) := by decide +kernel
theorem dX0_listTree_7 : decode cX0_listTree 7 = .ok (.iconst 1, 1) := by decide +kernel
theorem dX0_listTree_8 : decode cX0_listTree 8 = .ok (.istore_n 2, 1) := by decide +kernel
theorem dX0_listTree_9 : decode cX0_listTree 9 = .ok (.iconst 0, 1) := by decide +kernel
theorem dX0_listTree_10 : decode cX0_listTree 10 = .ok (.istore_n 3, 1) := by decide +kernel
theorem dX0_listTree_11 : decode cX0_listTree 11 = .ok (.iload_n 3, 1) := by decide +kernel
theorem dX0_listTree_12 : decode cX0_listTree 12 = .ok (.sipush 800, 3) := by decide +kernel
theorem dX0_listTree_15 : decode cX0_listTree 15 = .ok (.if_icmp .ge 83, 3) := by decide +kernel
theorem dX0_listTree_18 : decode cX0_listTree 18 = .ok (.iload_n 3, 1) := by decide +kernel
theorem dX0_listTree_19 : decode cX0_listTree 19 = .ok (.iload_n 2, 1) := by decide +kernel
theorem dX0_listTree_20 : decode cX0_listTree 20 = .ok (.if_icmp .ge 78, 3) := by decide +kernel
theorem dX0_listTree_23 : decode cX0_listTree 23 = .ok (.aload_n 0, 1) := by decide +kernel
theorem dX0_listTree_24 : decode cX0_listTree 24 = .ok (.getfield 34, 3) := by decide +kernel
theorem dX0_listTree_27 : decode cX0_listTree 27 = .ok (.iload_n 3, 1) := by decide +kernel
theorem dX0_listTree_28 : decode cX0_listTree 28 = .ok (.iaload, 1) := by decide +kernel
theorem dX0_listTree_29 : decode cX0_listTree 29 = .ok (.istore 4, 2) := by decide +kernel
theorem dX0_listTree_31 : decode cX0_listTree 31 = .ok (.aload_n 0, 1) := by decide +kernel
theorem dX0_listTree_32 : decode cX0_listTree 32 = .ok (.iload 4, 2) := by decide +kernel
theorem dX0_listTree_34 : decode cX0_listTree 34 = .ok (.invokevirtual 41, 3) := by decide +kernel
theorem dX0_listTree_37 : decode cX0_listTree 37 = .ok (.ifCond .eq 7, 3) := by decide +kernel
theorem dX0_listTree_40 : decode cX0_listTree 40 = .ok (.iconst 0, 1) := by decide +kernel
theorem dX0_listTree_41 : decode cX0_listTree 41 = .ok (.goto 9, 3) := by decide +kernel
theorem dX0_listTree_44 : decode cX0_listTree 44 = .ok (.aload_n 0, 1) := by decide +kernel
theorem dX0_listTree_45 : decode cX0_listTree 45 = .ok (.iload 4, 2) := by decide +kernel
theorem dX0_listTree_47 : decode cX0_listTree 47 = .ok (.invokevirtual 49, 3) := by decide +kernel
theorem dX0_listTree_50 : decode cX0_listTree 50 = .ok (.istore 5, 2) := by decide +kernel
theorem dX0_listTree_52 : decode cX0_listTree 52 = .ok (.iconst 0, 1) := by decide +kernel
theorem dX0_listTree_53 : decode cX0_listTree 53 = .ok (.istore 6, 2) := by decide +kernel
theorem dX0_listTree_55 : decode cX0_listTree 55 = .ok (.iload 6, 2) := by decide +kernel
theorem dX0_listTree_57 : decode cX0_listTree 57 = .ok (.iload 5, 2) := by decide +kernel
theorem dX0_listTree_59 : decode cX0_listTree 59 = .ok (.if_icmp .ge 33, 3) := by decide +kernel
theorem dX0_listTree_62 : decode cX0_listTree 62 = .ok (.iload_n 2, 1) := by decide +kernel
theorem dX0_listTree_63 : decode cX0_listTree 63 = .ok (.sipush 800, 3) := by decide +kernel
theorem dX0_listTree_66 : decode cX0_listTree 66 = .ok (.if_icmp .ge 26, 3) := by decide +kernel
theorem dX0_listTree_69 : decode cX0_listTree 69 = .ok (.aload_n 0, 1) := by decide +kernel
theorem dX0_listTree_70 : decode cX0_listTree 70 = .ok (.getfield 34, 3) := by decide +kernel
theorem dX0_listTree_73 : decode cX0_listTree 73 = .ok (.iload_n 2, 1) := by decide +kernel
theorem dX0_listTree_74 : decode cX0_listTree 74 = .ok (.aload_n 0, 1) := by decide +kernel
theorem dX0_listTree_75 : decode cX0_listTree 75 = .ok (.iload 4, 2) := by decide +kernel
theorem dX0_listTree_77 : decode cX0_listTree 77 = .ok (.iload 6, 2) := by decide +kernel
theorem dX0_listTree_79 : decode cX0_listTree 79 = .ok (.invokevirtual 45, 3) := by decide +kernel
theorem dX0_listTree_82 : decode cX0_listTree 82 = .ok (.iastore, 1) := by decide +kernel
theorem dX0_listTree_83 : decode cX0_listTree 83 = .ok (.iinc 2 1, 3) := by decide +kernel
theorem dX0_listTree_86 : decode cX0_listTree 86 = .ok (.iinc 6 1, 3) := by decide +kernel
theorem dX0_listTree_89 : decode cX0_listTree 89 = .ok (.goto (-34), 3) := by decide +kernel
theorem dX0_listTree_92 : decode cX0_listTree 92 = .ok (.iinc 3 1, 3) := by decide +kernel
theorem dX0_listTree_95 : decode cX0_listTree 95 = .ok (.goto (-84), 3) := by decide +kernel
theorem dX0_listTree_98 : decode cX0_listTree 98 = .ok (.iload_n 2, 1) := by decide +kernel
theorem dX0_listTree_99 : decode cX0_listTree 99 = .ok (.ireturn, 1) := by decide +kernel
theorem dX0_unmark_0 : decode cX0_unmark 0 = .ok (.iconst 0, 1) := by decide +kernel
theorem dX0_unmark_1 : decode cX0_unmark 1 = .ok (.istore_n 1, 1) := by decide +kernel
theorem dX0_unmark_2 : decode cX0_unmark 2 = .ok (.iload_n 1, 1) := by decide +kernel
theorem dX0_unmark_3 : decode cX0_unmark 3 = .ok (.aload_n 0, 1) := by decide +kernel
theorem dX0_unmark_4 : decode cX0_unmark 4 = .ok (.arraylength, 1) := by decide +kernel
theorem dX0_unmark_5 : decode cX0_unmark 5 = .ok (.if_icmp .ge 13, 3) := by decide +kernel
theorem dX0_unmark_8 : decode cX0_unmark 8 = .ok (.aload_n 0, 1) := by decide +kernel
theorem dX0_unmark_9 : decode cX0_unmark 9 = .ok (.iload_n 1, 1) := by decide +kernel
theorem dX0_unmark_10 : decode cX0_unmark 10 = .ok (.iconst 0, 1) := by decide +kernel
theorem dX0_unmark_11 : decode cX0_unmark 11 = .ok (.bastore, 1) := by decide +kernel
theorem dX0_unmark_12 : decode cX0_unmark 12 = .ok (.iinc 1 1, 3) := by decide +kernel
theorem dX0_unmark_15 : decode cX0_unmark 15 = .ok (.goto (-13), 3) := by decide +kernel
theorem dX0_unmark_18 : decode cX0_unmark 18 = .ok (.return_, 1) := by decide +kernel
theorem dX0_markTree_0 : decode cX0_markTree 0 = .ok (.aload_n 0, 1) := by decide +kernel
theorem dX0_markTree_1 : decode cX0_markTree 1 = .ok (.iload_n 2, 1) := by decide +kernel
theorem dX0_markTree_2 : decode cX0_markTree 2 = .ok (.invokevirtual 59, 3) := by decide +kernel
theorem dX0_markTree_5 : decode cX0_markTree 5 = .ok (.istore_n 3, 1) := by decide +kernel
theorem dX0_markTree_6 : decode cX0_markTree 6 = .ok (.iconst 0, 1) := by decide +kernel
theorem dX0_markTree_7 : decode cX0_markTree 7 = .ok (.istore 4, 2) := by decide +kernel
theorem dX0_markTree_9 : decode cX0_markTree 9 = .ok (.iload 4, 2) := by decide +kernel
theorem dX0_markTree_11 : decode cX0_markTree 11 = .ok (.sipush 800, 3) := by decide +kernel
theorem dX0_markTree_14 : decode cX0_markTree 14 = .ok (.if_icmp .ge 41, 3) := by decide +kernel
theorem dX0_markTree_17 : decode cX0_markTree 17 = .ok (.iload 4, 2) := by decide +kernel
theorem dX0_markTree_19 : decode cX0_markTree 19 = .ok (.iload_n 3, 1) := by decide +kernel
theorem dX0_markTree_20 : decode cX0_markTree 20 = .ok (.if_icmp .ge 35, 3) := by decide +kernel
theorem dX0_markTree_23 : decode cX0_markTree 23 = .ok (.aload_n 0, 1) := by decide +kernel
theorem dX0_markTree_24 : decode cX0_markTree 24 = .ok (.getfield 34, 3) := by decide +kernel
theorem dX0_markTree_27 : decode cX0_markTree 27 = .ok (.iload 4, 2) := by decide +kernel
theorem dX0_markTree_29 : decode cX0_markTree 29 = .ok (.iaload, 1) := by decide +kernel
theorem dX0_markTree_30 : decode cX0_markTree 30 = .ok (.istore 5, 2) := by decide +kernel
theorem dX0_markTree_32 : decode cX0_markTree 32 = .ok (.iload 5, 2) := by decide +kernel
theorem dX0_markTree_34 : decode cX0_markTree 34 = .ok (.ifCond .lt 15, 3) := by decide +kernel
theorem dX0_markTree_37 : decode cX0_markTree 37 = .ok (.iload 5, 2) := by decide +kernel
theorem dX0_markTree_39 : decode cX0_markTree 39 = .ok (.aload_n 1, 1) := by decide +kernel
theorem dX0_markTree_40 : decode cX0_markTree 40 = .ok (.arraylength, 1) := by decide +kernel
theorem dX0_markTree_41 : decode cX0_markTree 41 = .ok (.if_icmp .ge 8, 3) := by decide +kernel
theorem dX0_markTree_44 : decode cX0_markTree 44 = .ok (.aload_n 1, 1) := by decide +kernel
theorem dX0_markTree_45 : decode cX0_markTree 45 = .ok (.iload 5, 2) := by decide +kernel
theorem dX0_markTree_47 : decode cX0_markTree 47 = .ok (.iconst 1, 1) := by decide +kernel
theorem dX0_markTree_48 : decode cX0_markTree 48 = .ok (.bastore, 1) := by decide +kernel
theorem dX0_markTree_49 : decode cX0_markTree 49 = .ok (.iinc 4 1, 3) := by decide +kernel
theorem dX0_markTree_52 : decode cX0_markTree 52 = .ok (.goto (-43), 3) := by decide +kernel
theorem dX0_markTree_55 : decode cX0_markTree 55 = .ok (.return_, 1) := by decide +kernel
theorem dX0_countMarked_0 : decode cX0_countMarked 0 = .ok (.aload_n 0, 1) := by decide +kernel
theorem dX0_countMarked_1 : decode cX0_countMarked 1 = .ok (.iload_n 1, 1) := by decide +kernel
theorem dX0_countMarked_2 : decode cX0_countMarked 2 = .ok (.invokevirtual 59, 3) := by decide +kernel
theorem dX0_countMarked_5 : decode cX0_countMarked 5 = .ok (.istore_n 2, 1) := by decide +kernel
theorem dX0_countMarked_6 : decode cX0_countMarked 6 = .ok (.iconst 0, 1) := by decide +kernel
theorem dX0_countMarked_7 : decode cX0_countMarked 7 = .ok (.istore_n 3, 1) := by decide +kernel
theorem dX0_countMarked_8 : decode cX0_countMarked 8 = .ok (.iconst 0, 1) := by decide +kernel
theorem dX0_countMarked_9 : decode cX0_countMarked 9 = .ok (.istore 4, 2) := by decide +kernel
theorem dX0_countMarked_11 : decode cX0_countMarked 11 = .ok (.iload 4, 2) := by decide +kernel
theorem dX0_countMarked_13 : decode cX0_countMarked 13 = .ok (.sipush 800, 3) := by decide +kernel
theorem dX0_countMarked_16 : decode cX0_countMarked 16 = .ok (.if_icmp .ge 50, 3) := by decide +kernel
theorem dX0_countMarked_19 : decode cX0_countMarked 19 = .ok (.iload 4, 2) := by decide +kernel
theorem dX0_countMarked_21 : decode cX0_countMarked 21 = .ok (.iload_n 2, 1) := by decide +kernel
theorem dX0_countMarked_22 : decode cX0_countMarked 22 = .ok (.if_icmp .ge 44, 3) := by decide +kernel
theorem dX0_countMarked_25 : decode cX0_countMarked 25 = .ok (.aload_n 0, 1) := by decide +kernel
theorem dX0_countMarked_26 : decode cX0_countMarked 26 = .ok (.getfield 34, 3) := by decide +kernel
theorem dX0_countMarked_29 : decode cX0_countMarked 29 = .ok (.iload 4, 2) := by decide +kernel
theorem dX0_countMarked_31 : decode cX0_countMarked 31 = .ok (.iaload, 1) := by decide +kernel
theorem dX0_countMarked_32 : decode cX0_countMarked 32 = .ok (.istore 5, 2) := by decide +kernel
theorem dX0_countMarked_34 : decode cX0_countMarked 34 = .ok (.iload 5, 2) := by decide +kernel
theorem dX0_countMarked_36 : decode cX0_countMarked 36 = .ok (.ifCond .lt 24, 3) := by decide +kernel
theorem dX0_countMarked_39 : decode cX0_countMarked 39 = .ok (.iload 5, 2) := by decide +kernel
theorem dX0_countMarked_41 : decode cX0_countMarked 41 = .ok (.sipush 800, 3) := by decide +kernel
theorem dX0_countMarked_44 : decode cX0_countMarked 44 = .ok (.if_icmp .ge 16, 3) := by decide +kernel
theorem dX0_countMarked_47 : decode cX0_countMarked 47 = .ok (.aload_n 0, 1) := by decide +kernel
theorem dX0_countMarked_48 : decode cX0_countMarked 48 = .ok (.getfield 31, 3) := by decide +kernel
theorem dX0_countMarked_51 : decode cX0_countMarked 51 = .ok (.iload 5, 2) := by decide +kernel
theorem dX0_countMarked_53 : decode cX0_countMarked 53 = .ok (.baload, 1) := by decide +kernel
theorem dX0_countMarked_54 : decode cX0_countMarked 54 = .ok (.ifCond .eq 6, 3) := by decide +kernel
theorem dX0_countMarked_57 : decode cX0_countMarked 57 = .ok (.iinc 3 1, 3) := by decide +kernel
theorem dX0_countMarked_60 : decode cX0_countMarked 60 = .ok (.iinc 4 1, 3) := by decide +kernel
theorem dX0_countMarked_63 : decode cX0_countMarked 63 = .ok (.goto (-52), 3) := by decide +kernel
theorem dX0_countMarked_66 : decode cX0_countMarked 66 = .ok (.iload_n 3, 1) := by decide +kernel
theorem dX0_countMarked_67 : decode cX0_countMarked 67 = .ok (.ireturn, 1) := by decide +kernel
theorem dX0_leastKeyFrom_0 : decode cX0_leastKeyFrom 0 = .ok (.aload_n 0, 1) := by decide +kernel
theorem dX0_leastKeyFrom_1 : decode cX0_leastKeyFrom 1 = .ok (.iload_n 1, 1) := by decide +kernel
theorem dX0_leastKeyFrom_2 : decode cX0_leastKeyFrom 2 = .ok (.invokevirtual 59, 3) := by decide +kernel
theorem dX0_leastKeyFrom_5 : decode cX0_leastKeyFrom 5 = .ok (.istore_n 3, 1) := by decide +kernel
theorem dX0_leastKeyFrom_6 : decode cX0_leastKeyFrom 6 = .ok (.iconst 0, 1) := by decide +kernel
theorem dX0_leastKeyFrom_7 : decode cX0_leastKeyFrom 7 = .ok (.istore 4, 2) := by decide +kernel
theorem dX0_leastKeyFrom_9 : decode cX0_leastKeyFrom 9 = .ok (.iload 4, 2) := by decide +kernel
theorem dX0_leastKeyFrom_11 : decode cX0_leastKeyFrom 11 = .ok (.sipush 800, 3) := by decide +kernel
theorem dX0_leastKeyFrom_14 : decode cX0_leastKeyFrom 14 = .ok (.if_icmp .ge 66, 3) := by decide +kernel
theorem dX0_leastKeyFrom_17 : decode cX0_leastKeyFrom 17 = .ok (.iload 4, 2) := by decide +kernel
theorem dX0_leastKeyFrom_19 : decode cX0_leastKeyFrom 19 = .ok (.iload_n 3, 1) := by decide +kernel
theorem dX0_leastKeyFrom_20 : decode cX0_leastKeyFrom 20 = .ok (.if_icmp .ge 60, 3) := by decide +kernel
theorem dX0_leastKeyFrom_23 : decode cX0_leastKeyFrom 23 = .ok (.aload_n 0, 1) := by decide +kernel
theorem dX0_leastKeyFrom_24 : decode cX0_leastKeyFrom 24 = .ok (.getfield 34, 3) := by decide +kernel
theorem dX0_leastKeyFrom_27 : decode cX0_leastKeyFrom 27 = .ok (.iload 4, 2) := by decide +kernel
theorem dX0_leastKeyFrom_29 : decode cX0_leastKeyFrom 29 = .ok (.iaload, 1) := by decide +kernel
theorem dX0_leastKeyFrom_30 : decode cX0_leastKeyFrom 30 = .ok (.istore 5, 2) := by decide +kernel
theorem dX0_leastKeyFrom_32 : decode cX0_leastKeyFrom 32 = .ok (.aload_n 0, 1) := by decide +kernel
theorem dX0_leastKeyFrom_33 : decode cX0_leastKeyFrom 33 = .ok (.iload 5, 2) := by decide +kernel
theorem dX0_leastKeyFrom_35 : decode cX0_leastKeyFrom 35 = .ok (.invokevirtual 41, 3) := by decide +kernel
theorem dX0_leastKeyFrom_38 : decode cX0_leastKeyFrom 38 = .ok (.ifCond .eq 13, 3) := by decide +kernel
theorem dX0_leastKeyFrom_41 : decode cX0_leastKeyFrom 41 = .ok (.aload_n 0, 1) := by decide +kernel
theorem dX0_leastKeyFrom_42 : decode cX0_leastKeyFrom 42 = .ok (.iload 5, 2) := by decide +kernel
theorem dX0_leastKeyFrom_44 : decode cX0_leastKeyFrom 44 = .ok (.iload_n 2, 1) := by decide +kernel
theorem dX0_leastKeyFrom_45 : decode cX0_leastKeyFrom 45 = .ok (.invokevirtual 62, 3) := by decide +kernel
theorem dX0_leastKeyFrom_48 : decode cX0_leastKeyFrom 48 = .ok (.goto 4, 3) := by decide +kernel
theorem dX0_leastKeyFrom_51 : decode cX0_leastKeyFrom 51 = .ok (.iconst 5, 1) := by decide +kernel
theorem dX0_leastKeyFrom_52 : decode cX0_leastKeyFrom 52 = .ok (.istore 6, 2) := by decide +kernel
theorem dX0_leastKeyFrom_54 : decode cX0_leastKeyFrom 54 = .ok (.iload 6, 2) := by decide +kernel
theorem dX0_leastKeyFrom_56 : decode cX0_leastKeyFrom 56 = .ok (.aload_n 0, 1) := by decide +kernel
theorem dX0_leastKeyFrom_57 : decode cX0_leastKeyFrom 57 = .ok (.iload 5, 2) := by decide +kernel
theorem dX0_leastKeyFrom_59 : decode cX0_leastKeyFrom 59 = .ok (.invokevirtual 49, 3) := by decide +kernel
theorem dX0_leastKeyFrom_62 : decode cX0_leastKeyFrom 62 = .ok (.if_icmp .ge 12, 3) := by decide +kernel
theorem dX0_leastKeyFrom_65 : decode cX0_leastKeyFrom 65 = .ok (.aload_n 0, 1) := by decide +kernel
theorem dX0_leastKeyFrom_66 : decode cX0_leastKeyFrom 66 = .ok (.iload 5, 2) := by decide +kernel
theorem dX0_leastKeyFrom_68 : decode cX0_leastKeyFrom 68 = .ok (.iload 6, 2) := by decide +kernel
theorem dX0_leastKeyFrom_70 : decode cX0_leastKeyFrom 70 = .ok (.invokevirtual 53, 3) := by decide +kernel
theorem dX0_leastKeyFrom_73 : decode cX0_leastKeyFrom 73 = .ok (.ireturn, 1) := by decide +kernel
theorem dX0_leastKeyFrom_74 : decode cX0_leastKeyFrom 74 = .ok (.iinc 4 1, 3) := by decide +kernel
theorem dX0_leastKeyFrom_77 : decode cX0_leastKeyFrom 77 = .ok (.goto (-68), 3) := by decide +kernel
theorem dX0_leastKeyFrom_80 : decode cX0_leastKeyFrom 80 = .ok (.iconst (-1), 1) := by decide +kernel
theorem dX0_leastKeyFrom_81 : decode cX0_leastKeyFrom 81 = .ok (.ireturn, 1) := by decide +kernel
theorem dX0_keysBelow_0 : decode cX0_keysBelow 0 = .ok (.aload_n 0, 1) := by decide +kernel
theorem dX0_keysBelow_1 : decode cX0_keysBelow 1 = .ok (.iload_n 1, 1) := by decide +kernel
theorem dX0_keysBelow_2 : decode cX0_keysBelow 2 = .ok (.invokevirtual 59, 3) := by decide +kernel
theorem dX0_keysBelow_5 : decode cX0_keysBelow 5 = .ok (.istore_n 3, 1) := by decide +kernel
theorem dX0_keysBelow_6 : decode cX0_keysBelow 6 = .ok (.iconst 0, 1) := by decide +kernel
theorem dX0_keysBelow_7 : decode cX0_keysBelow 7 = .ok (.istore 4, 2) := by decide +kernel
theorem dX0_keysBelow_9 : decode cX0_keysBelow 9 = .ok (.iconst 0, 1) := by decide +kernel
theorem dX0_keysBelow_10 : decode cX0_keysBelow 10 = .ok (.istore 5, 2) := by decide +kernel
theorem dX0_keysBelow_12 : decode cX0_keysBelow 12 = .ok (.iload 5, 2) := by decide +kernel
theorem dX0_keysBelow_14 : decode cX0_keysBelow 14 = .ok (.sipush 800, 3) := by decide +kernel
theorem dX0_keysBelow_17 : decode cX0_keysBelow 17 = .ok (.if_icmp .ge 46, 3) := by decide +kernel
theorem dX0_keysBelow_20 : decode cX0_keysBelow 20 = .ok (.iload 5, 2) := by decide +kernel
theorem dX0_keysBelow_22 : decode cX0_keysBelow 22 = .ok (.iload_n 3, 1) := by decide +kernel
theorem dX0_keysBelow_23 : decode cX0_keysBelow 23 = .ok (.if_icmp .ge 40, 3) := by decide +kernel
theorem dX0_keysBelow_26 : decode cX0_keysBelow 26 = .ok (.aload_n 0, 1) := by decide +kernel
theorem dX0_keysBelow_27 : decode cX0_keysBelow 27 = .ok (.aload_n 0, 1) := by decide +kernel
theorem dX0_keysBelow_28 : decode cX0_keysBelow 28 = .ok (.getfield 34, 3) := by decide +kernel
theorem dX0_keysBelow_31 : decode cX0_keysBelow 31 = .ok (.iload 5, 2) := by decide +kernel
theorem dX0_keysBelow_33 : decode cX0_keysBelow 33 = .ok (.iaload, 1) := by decide +kernel
theorem dX0_keysBelow_34 : decode cX0_keysBelow 34 = .ok (.invokevirtual 41, 3) := by decide +kernel
theorem dX0_keysBelow_37 : decode cX0_keysBelow 37 = .ok (.ifCond .eq 20, 3) := by decide +kernel
theorem dX0_keysBelow_40 : decode cX0_keysBelow 40 = .ok (.iload 4, 2) := by decide +kernel
theorem dX0_keysBelow_42 : decode cX0_keysBelow 42 = .ok (.aload_n 0, 1) := by decide +kernel
theorem dX0_keysBelow_43 : decode cX0_keysBelow 43 = .ok (.aload_n 0, 1) := by decide +kernel
theorem dX0_keysBelow_44 : decode cX0_keysBelow 44 = .ok (.getfield 34, 3) := by decide +kernel
theorem dX0_keysBelow_47 : decode cX0_keysBelow 47 = .ok (.iload 5, 2) := by decide +kernel
theorem dX0_keysBelow_49 : decode cX0_keysBelow 49 = .ok (.iaload, 1) := by decide +kernel
theorem dX0_keysBelow_50 : decode cX0_keysBelow 50 = .ok (.iload_n 2, 1) := by decide +kernel
theorem dX0_keysBelow_51 : decode cX0_keysBelow 51 = .ok (.invokevirtual 62, 3) := by decide +kernel
theorem dX0_keysBelow_54 : decode cX0_keysBelow 54 = .ok (.iadd, 1) := by decide +kernel
theorem dX0_keysBelow_55 : decode cX0_keysBelow 55 = .ok (.istore 4, 2) := by decide +kernel
theorem dX0_keysBelow_57 : decode cX0_keysBelow 57 = .ok (.iinc 5 1, 3) := by decide +kernel
theorem dX0_keysBelow_60 : decode cX0_keysBelow 60 = .ok (.goto (-48), 3) := by decide +kernel
theorem dX0_keysBelow_63 : decode cX0_keysBelow 63 = .ok (.iload 4, 2) := by decide +kernel
theorem dX0_keysBelow_65 : decode cX0_keysBelow 65 = .ok (.ireturn, 1) := by decide +kernel
theorem dX0_take_0 : decode cX0_take 0 = .ok (.aload_n 0, 1) := by decide +kernel
theorem dX0_take_1 : decode cX0_take 1 = .ok (.invokevirtual 65, 3) := by decide +kernel
theorem dX0_take_4 : decode cX0_take 4 = .ok (.istore_n 2, 1) := by decide +kernel
theorem dX0_take_5 : decode cX0_take 5 = .ok (.iload_n 2, 1) := by decide +kernel
theorem dX0_take_6 : decode cX0_take 6 = .ok (.sipush 800, 3) := by decide +kernel
theorem dX0_take_9 : decode cX0_take 9 = .ok (.if_icmp .ge 32, 3) := by decide +kernel
theorem dX0_take_12 : decode cX0_take 12 = .ok (.aload_n 0, 1) := by decide +kernel
theorem dX0_take_13 : decode cX0_take 13 = .ok (.getfield 28, 3) := by decide +kernel
theorem dX0_take_16 : decode cX0_take 16 = .ok (.iload_n 2, 1) := by decide +kernel
theorem dX0_take_17 : decode cX0_take 17 = .ok (.iconst 1, 1) := by decide +kernel
theorem dX0_take_18 : decode cX0_take 18 = .ok (.bastore, 1) := by decide +kernel
theorem dX0_take_19 : decode cX0_take 19 = .ok (.aload_n 0, 1) := by decide +kernel
theorem dX0_take_20 : decode cX0_take 20 = .ok (.getfield 15, 3) := by decide +kernel
theorem dX0_take_23 : decode cX0_take 23 = .ok (.iload_n 2, 1) := by decide +kernel
theorem dX0_take_24 : decode cX0_take 24 = .ok (.iload_n 1, 1) := by decide +kernel
theorem dX0_take_25 : decode cX0_take 25 = .ok (.ifCond .ne 7, 3) := by decide +kernel
theorem dX0_take_28 : decode cX0_take 28 = .ok (.iconst 1, 1) := by decide +kernel
theorem dX0_take_29 : decode cX0_take 29 = .ok (.goto 4, 3) := by decide +kernel
theorem dX0_take_32 : decode cX0_take 32 = .ok (.iconst 0, 1) := by decide +kernel
theorem dX0_take_33 : decode cX0_take 33 = .ok (.bastore, 1) := by decide +kernel
theorem dX0_take_34 : decode cX0_take 34 = .ok (.aload_n 0, 1) := by decide +kernel
theorem dX0_take_35 : decode cX0_take 35 = .ok (.getfield 9, 3) := by decide +kernel
theorem dX0_take_38 : decode cX0_take 38 = .ok (.iload_n 2, 1) := by decide +kernel
theorem dX0_take_39 : decode cX0_take 39 = .ok (.iconst 0, 1) := by decide +kernel
theorem dX0_take_40 : decode cX0_take 40 = .ok (.iastore, 1) := by decide +kernel
theorem dX0_take_41 : decode cX0_take 41 = .ok (.iload_n 2, 1) := by decide +kernel
theorem dX0_take_42 : decode cX0_take 42 = .ok (.ireturn, 1) := by decide +kernel
theorem dX0_leave_0 : decode cX0_leave 0 = .ok (.iload_n 1, 1) := by decide +kernel
theorem dX0_leave_1 : decode cX0_leave 1 = .ok (.ifCond .lt 17, 3) := by decide +kernel
theorem dX0_leave_4 : decode cX0_leave 4 = .ok (.iload_n 1, 1) := by decide +kernel
theorem dX0_leave_5 : decode cX0_leave 5 = .ok (.sipush 800, 3) := by decide +kernel
theorem dX0_leave_8 : decode cX0_leave 8 = .ok (.if_icmp .ge 10, 3) := by decide +kernel
theorem dX0_leave_11 : decode cX0_leave 11 = .ok (.aload_n 0, 1) := by decide +kernel
theorem dX0_leave_12 : decode cX0_leave 12 = .ok (.getfield 28, 3) := by decide +kernel
theorem dX0_leave_15 : decode cX0_leave 15 = .ok (.iload_n 1, 1) := by decide +kernel
theorem dX0_leave_16 : decode cX0_leave 16 = .ok (.iconst 0, 1) := by decide +kernel
theorem dX0_leave_17 : decode cX0_leave 17 = .ok (.bastore, 1) := by decide +kernel
theorem dX0_leave_18 : decode cX0_leave 18 = .ok (.return_, 1) := by decide +kernel
theorem dX0_writeAnew_0 : decode cX0_writeAnew 0 = .ok (.iload_n 1, 1) := by decide +kernel
theorem dX0_writeAnew_1 : decode cX0_writeAnew 1 = .ok (.ifCond .lt 19, 3) := by decide +kernel
theorem dX0_writeAnew_4 : decode cX0_writeAnew 4 = .ok (.iload_n 1, 1) := by decide +kernel
theorem dX0_writeAnew_5 : decode cX0_writeAnew 5 = .ok (.sipush 800, 3) := by decide +kernel
theorem dX0_writeAnew_8 : decode cX0_writeAnew 8 = .ok (.if_icmp .ge 12, 3) := by decide +kernel
theorem dX0_writeAnew_11 : decode cX0_writeAnew 11 = .ok (.aload_n 0, 1) := by decide +kernel
theorem dX0_writeAnew_12 : decode cX0_writeAnew 12 = .ok (.getfield 28, 3) := by decide +kernel
theorem dX0_writeAnew_15 : decode cX0_writeAnew 15 = .ok (.iload_n 1, 1) := by decide +kernel
theorem dX0_writeAnew_16 : decode cX0_writeAnew 16 = .ok (.baload, 1) := by decide +kernel
theorem dX0_writeAnew_17 : decode cX0_writeAnew 17 = .ok (.ifCond .eq 5, 3) := by decide +kernel
theorem dX0_writeAnew_20 : decode cX0_writeAnew 20 = .ok (.iload_n 1, 1) := by decide +kernel
theorem dX0_writeAnew_21 : decode cX0_writeAnew 21 = .ok (.ireturn, 1) := by decide +kernel
theorem dX0_writeAnew_22 : decode cX0_writeAnew 22 = .ok (.aload_n 0, 1) := by decide +kernel
theorem dX0_writeAnew_23 : decode cX0_writeAnew 23 = .ok (.aload_n 0, 1) := by decide +kernel
theorem dX0_writeAnew_24 : decode cX0_writeAnew 24 = .ok (.iload_n 1, 1) := by decide +kernel
theorem dX0_writeAnew_25 : decode cX0_writeAnew 25 = .ok (.invokevirtual 41, 3) := by decide +kernel
theorem dX0_writeAnew_28 : decode cX0_writeAnew 28 = .ok (.invokevirtual 69, 3) := by decide +kernel
theorem dX0_writeAnew_31 : decode cX0_writeAnew 31 = .ok (.istore_n 2, 1) := by decide +kernel
theorem dX0_writeAnew_32 : decode cX0_writeAnew 32 = .ok (.aload_n 0, 1) := by decide +kernel
theorem dX0_writeAnew_33 : decode cX0_writeAnew 33 = .ok (.iload_n 1, 1) := by decide +kernel
theorem dX0_writeAnew_34 : decode cX0_writeAnew 34 = .ok (.iload_n 2, 1) := by decide +kernel
theorem dX0_writeAnew_35 : decode cX0_writeAnew 35 = .ok (.invokevirtual 73, 3) := by decide +kernel
theorem dX0_writeAnew_38 : decode cX0_writeAnew 38 = .ok (.iload_n 2, 1) := by decide +kernel
theorem dX0_writeAnew_39 : decode cX0_writeAnew 39 = .ok (.ireturn, 1) := by decide +kernel
theorem dX0_insert_0 : decode cX0_insert 0 = .ok (.aload_n 0, 1) := by decide +kernel
theorem dX0_insert_1 : decode cX0_insert 1 = .ok (.iload_n 1, 1) := by decide +kernel
theorem dX0_insert_2 : decode cX0_insert 2 = .ok (.invokevirtual 49, 3) := by decide +kernel
theorem dX0_insert_5 : decode cX0_insert 5 = .ok (.istore 5, 2) := by decide +kernel
theorem dX0_insert_7 : decode cX0_insert 7 = .ok (.iload_n 1, 1) := by decide +kernel
theorem dX0_insert_8 : decode cX0_insert 8 = .ok (.iload_n 2, 1) := by decide +kernel
theorem dX0_insert_9 : decode cX0_insert 9 = .ok (.invokestatic 37, 3) := by decide +kernel
theorem dX0_insert_12 : decode cX0_insert 12 = .ok (.ifCond .eq 15, 3) := by decide +kernel
theorem dX0_insert_15 : decode cX0_insert 15 = .ok (.iload_n 2, 1) := by decide +kernel
theorem dX0_insert_16 : decode cX0_insert 16 = .ok (.iload 5, 2) := by decide +kernel
theorem dX0_insert_18 : decode cX0_insert 18 = .ok (.if_icmp .gt 9, 3) := by decide +kernel
theorem dX0_insert_21 : decode cX0_insert 21 = .ok (.iload 5, 2) := by decide +kernel
theorem dX0_insert_23 : decode cX0_insert 23 = .ok (.iconst 5, 1) := by decide +kernel
theorem dX0_insert_24 : decode cX0_insert 24 = .ok (.if_icmp .lt 4, 3) := by decide +kernel
theorem dX0_insert_27 : decode cX0_insert 27 = .ok (.return_, 1) := by decide +kernel
theorem dX0_insert_28 : decode cX0_insert 28 = .ok (.iload_n 1, 1) := by decide +kernel
theorem dX0_insert_29 : decode cX0_insert 29 = .ok (.iconst 5, 1) := by decide +kernel
theorem dX0_insert_30 : decode cX0_insert 30 = .ok (.imul, 1) := by decide +kernel
theorem dX0_insert_31 : decode cX0_insert 31 = .ok (.istore 6, 2) := by decide +kernel
theorem dX0_insert_33 : decode cX0_insert 33 = .ok (.iload 5, 2) := by decide +kernel
theorem dX0_insert_35 : decode cX0_insert 35 = .ok (.istore 7, 2) := by decide +kernel
theorem dX0_insert_37 : decode cX0_insert 37 = .ok (.iload 7, 2) := by decide +kernel
theorem dX0_insert_39 : decode cX0_insert 39 = .ok (.iload_n 2, 1) := by decide +kernel
theorem dX0_insert_40 : decode cX0_insert 40 = .ok (.if_icmp .le 53, 3) := by decide +kernel
theorem dX0_insert_43 : decode cX0_insert 43 = .ok (.aload_n 0, 1) := by decide +kernel
theorem dX0_insert_44 : decode cX0_insert 44 = .ok (.getfield 19, 3) := by decide +kernel
theorem dX0_insert_47 : decode cX0_insert 47 = .ok (.iload 6, 2) := by decide +kernel
theorem dX0_insert_49 : decode cX0_insert 49 = .ok (.iload 7, 2) := by decide +kernel
theorem dX0_insert_51 : decode cX0_insert 51 = .ok (.iadd, 1) := by decide +kernel
theorem dX0_insert_52 : decode cX0_insert 52 = .ok (.aload_n 0, 1) := by decide +kernel
theorem dX0_insert_53 : decode cX0_insert 53 = .ok (.getfield 19, 3) := by decide +kernel
theorem dX0_insert_56 : decode cX0_insert 56 = .ok (.iload 6, 2) := by decide +kernel
theorem dX0_insert_58 : decode cX0_insert 58 = .ok (.iload 7, 2) := by decide +kernel
theorem dX0_insert_60 : decode cX0_insert 60 = .ok (.iadd, 1) := by decide +kernel
theorem dX0_insert_61 : decode cX0_insert 61 = .ok (.iconst 1, 1) := by decide +kernel
theorem dX0_insert_62 : decode cX0_insert 62 = .ok (.isub, 1) := by decide +kernel
theorem dX0_insert_63 : decode cX0_insert 63 = .ok (.iaload, 1) := by decide +kernel
theorem dX0_insert_64 : decode cX0_insert 64 = .ok (.iastore, 1) := by decide +kernel
theorem dX0_insert_65 : decode cX0_insert 65 = .ok (.aload_n 0, 1) := by decide +kernel
theorem dX0_insert_66 : decode cX0_insert 66 = .ok (.getfield 22, 3) := by decide +kernel
theorem dX0_insert_69 : decode cX0_insert 69 = .ok (.iload 6, 2) := by decide +kernel
theorem dX0_insert_71 : decode cX0_insert 71 = .ok (.iload 7, 2) := by decide +kernel
theorem dX0_insert_73 : decode cX0_insert 73 = .ok (.iadd, 1) := by decide +kernel
theorem dX0_insert_74 : decode cX0_insert 74 = .ok (.aload_n 0, 1) := by decide +kernel
theorem dX0_insert_75 : decode cX0_insert 75 = .ok (.getfield 22, 3) := by decide +kernel
theorem dX0_insert_78 : decode cX0_insert 78 = .ok (.iload 6, 2) := by decide +kernel
theorem dX0_insert_80 : decode cX0_insert 80 = .ok (.iload 7, 2) := by decide +kernel
theorem dX0_insert_82 : decode cX0_insert 82 = .ok (.iadd, 1) := by decide +kernel
theorem dX0_insert_83 : decode cX0_insert 83 = .ok (.iconst 1, 1) := by decide +kernel
theorem dX0_insert_84 : decode cX0_insert 84 = .ok (.isub, 1) := by decide +kernel
theorem dX0_insert_85 : decode cX0_insert 85 = .ok (.iaload, 1) := by decide +kernel
theorem dX0_insert_86 : decode cX0_insert 86 = .ok (.iastore, 1) := by decide +kernel
theorem dX0_insert_87 : decode cX0_insert 87 = .ok (.iinc 7 (-1), 3) := by decide +kernel
theorem dX0_insert_90 : decode cX0_insert 90 = .ok (.goto (-53), 3) := by decide +kernel
theorem dX0_insert_93 : decode cX0_insert 93 = .ok (.aload_n 0, 1) := by decide +kernel
theorem dX0_insert_94 : decode cX0_insert 94 = .ok (.getfield 19, 3) := by decide +kernel
theorem dX0_insert_97 : decode cX0_insert 97 = .ok (.iload 6, 2) := by decide +kernel
theorem dX0_insert_99 : decode cX0_insert 99 = .ok (.iload_n 2, 1) := by decide +kernel
theorem dX0_insert_100 : decode cX0_insert 100 = .ok (.iadd, 1) := by decide +kernel
theorem dX0_insert_101 : decode cX0_insert 101 = .ok (.iload_n 3, 1) := by decide +kernel
theorem dX0_insert_102 : decode cX0_insert 102 = .ok (.iastore, 1) := by decide +kernel
theorem dX0_insert_103 : decode cX0_insert 103 = .ok (.aload_n 0, 1) := by decide +kernel
theorem dX0_insert_104 : decode cX0_insert 104 = .ok (.getfield 22, 3) := by decide +kernel
theorem dX0_insert_107 : decode cX0_insert 107 = .ok (.iload 6, 2) := by decide +kernel
theorem dX0_insert_109 : decode cX0_insert 109 = .ok (.iload_n 2, 1) := by decide +kernel
theorem dX0_insert_110 : decode cX0_insert 110 = .ok (.iadd, 1) := by decide +kernel
theorem dX0_insert_111 : decode cX0_insert 111 = .ok (.iload 4, 2) := by decide +kernel
theorem dX0_insert_113 : decode cX0_insert 113 = .ok (.iastore, 1) := by decide +kernel
theorem dX0_insert_114 : decode cX0_insert 114 = .ok (.aload_n 0, 1) := by decide +kernel
theorem dX0_insert_115 : decode cX0_insert 115 = .ok (.getfield 9, 3) := by decide +kernel
theorem dX0_insert_118 : decode cX0_insert 118 = .ok (.iload_n 1, 1) := by decide +kernel
theorem dX0_insert_119 : decode cX0_insert 119 = .ok (.iload 5, 2) := by decide +kernel
theorem dX0_insert_121 : decode cX0_insert 121 = .ok (.iconst 1, 1) := by decide +kernel
theorem dX0_insert_122 : decode cX0_insert 122 = .ok (.iadd, 1) := by decide +kernel
theorem dX0_insert_123 : decode cX0_insert 123 = .ok (.iastore, 1) := by decide +kernel
theorem dX0_insert_124 : decode cX0_insert 124 = .ok (.return_, 1) := by decide +kernel
theorem dX0_remove_0 : decode cX0_remove 0 = .ok (.aload_n 0, 1) := by decide +kernel
theorem dX0_remove_1 : decode cX0_remove 1 = .ok (.iload_n 1, 1) := by decide +kernel
theorem dX0_remove_2 : decode cX0_remove 2 = .ok (.invokevirtual 49, 3) := by decide +kernel
theorem dX0_remove_5 : decode cX0_remove 5 = .ok (.istore_n 3, 1) := by decide +kernel
theorem dX0_remove_6 : decode cX0_remove 6 = .ok (.iload_n 1, 1) := by decide +kernel
theorem dX0_remove_7 : decode cX0_remove 7 = .ok (.iload_n 2, 1) := by decide +kernel
theorem dX0_remove_8 : decode cX0_remove 8 = .ok (.invokestatic 37, 3) := by decide +kernel
theorem dX0_remove_11 : decode cX0_remove 11 = .ok (.ifCond .eq 13, 3) := by decide +kernel
theorem dX0_remove_14 : decode cX0_remove 14 = .ok (.iload_n 2, 1) := by decide +kernel
theorem dX0_remove_15 : decode cX0_remove 15 = .ok (.iload_n 3, 1) := by decide +kernel
theorem dX0_remove_16 : decode cX0_remove 16 = .ok (.if_icmp .ge 8, 3) := by decide +kernel
theorem dX0_remove_19 : decode cX0_remove 19 = .ok (.iload_n 3, 1) := by decide +kernel
theorem dX0_remove_20 : decode cX0_remove 20 = .ok (.iconst 5, 1) := by decide +kernel
theorem dX0_remove_21 : decode cX0_remove 21 = .ok (.if_icmp .le 4, 3) := by decide +kernel
theorem dX0_remove_24 : decode cX0_remove 24 = .ok (.return_, 1) := by decide +kernel
theorem dX0_remove_25 : decode cX0_remove 25 = .ok (.iload_n 1, 1) := by decide +kernel
theorem dX0_remove_26 : decode cX0_remove 26 = .ok (.iconst 5, 1) := by decide +kernel
theorem dX0_remove_27 : decode cX0_remove 27 = .ok (.imul, 1) := by decide +kernel
theorem dX0_remove_28 : decode cX0_remove 28 = .ok (.istore 4, 2) := by decide +kernel
theorem dX0_remove_30 : decode cX0_remove 30 = .ok (.iload_n 2, 1) := by decide +kernel
theorem dX0_remove_31 : decode cX0_remove 31 = .ok (.istore 5, 2) := by decide +kernel
theorem dX0_remove_33 : decode cX0_remove 33 = .ok (.iload 5, 2) := by decide +kernel
theorem dX0_remove_35 : decode cX0_remove 35 = .ok (.iconst 1, 1) := by decide +kernel
theorem dX0_remove_36 : decode cX0_remove 36 = .ok (.iadd, 1) := by decide +kernel
theorem dX0_remove_37 : decode cX0_remove 37 = .ok (.iload_n 3, 1) := by decide +kernel
theorem dX0_remove_38 : decode cX0_remove 38 = .ok (.if_icmp .ge 53, 3) := by decide +kernel
theorem dX0_remove_41 : decode cX0_remove 41 = .ok (.aload_n 0, 1) := by decide +kernel
theorem dX0_remove_42 : decode cX0_remove 42 = .ok (.getfield 19, 3) := by decide +kernel
theorem dX0_remove_45 : decode cX0_remove 45 = .ok (.iload 4, 2) := by decide +kernel
theorem dX0_remove_47 : decode cX0_remove 47 = .ok (.iload 5, 2) := by decide +kernel
theorem dX0_remove_49 : decode cX0_remove 49 = .ok (.iadd, 1) := by decide +kernel
theorem dX0_remove_50 : decode cX0_remove 50 = .ok (.aload_n 0, 1) := by decide +kernel
theorem dX0_remove_51 : decode cX0_remove 51 = .ok (.getfield 19, 3) := by decide +kernel
theorem dX0_remove_54 : decode cX0_remove 54 = .ok (.iload 4, 2) := by decide +kernel
theorem dX0_remove_56 : decode cX0_remove 56 = .ok (.iload 5, 2) := by decide +kernel
theorem dX0_remove_58 : decode cX0_remove 58 = .ok (.iadd, 1) := by decide +kernel
theorem dX0_remove_59 : decode cX0_remove 59 = .ok (.iconst 1, 1) := by decide +kernel
theorem dX0_remove_60 : decode cX0_remove 60 = .ok (.iadd, 1) := by decide +kernel
theorem dX0_remove_61 : decode cX0_remove 61 = .ok (.iaload, 1) := by decide +kernel
theorem dX0_remove_62 : decode cX0_remove 62 = .ok (.iastore, 1) := by decide +kernel
theorem dX0_remove_63 : decode cX0_remove 63 = .ok (.aload_n 0, 1) := by decide +kernel
theorem dX0_remove_64 : decode cX0_remove 64 = .ok (.getfield 22, 3) := by decide +kernel
theorem dX0_remove_67 : decode cX0_remove 67 = .ok (.iload 4, 2) := by decide +kernel
theorem dX0_remove_69 : decode cX0_remove 69 = .ok (.iload 5, 2) := by decide +kernel
theorem dX0_remove_71 : decode cX0_remove 71 = .ok (.iadd, 1) := by decide +kernel
theorem dX0_remove_72 : decode cX0_remove 72 = .ok (.aload_n 0, 1) := by decide +kernel
theorem dX0_remove_73 : decode cX0_remove 73 = .ok (.getfield 22, 3) := by decide +kernel
theorem dX0_remove_76 : decode cX0_remove 76 = .ok (.iload 4, 2) := by decide +kernel
theorem dX0_remove_78 : decode cX0_remove 78 = .ok (.iload 5, 2) := by decide +kernel
theorem dX0_remove_80 : decode cX0_remove 80 = .ok (.iadd, 1) := by decide +kernel
theorem dX0_remove_81 : decode cX0_remove 81 = .ok (.iconst 1, 1) := by decide +kernel
theorem dX0_remove_82 : decode cX0_remove 82 = .ok (.iadd, 1) := by decide +kernel
theorem dX0_remove_83 : decode cX0_remove 83 = .ok (.iaload, 1) := by decide +kernel
theorem dX0_remove_84 : decode cX0_remove 84 = .ok (.iastore, 1) := by decide +kernel
theorem dX0_remove_85 : decode cX0_remove 85 = .ok (.iinc 5 1, 3) := by decide +kernel
theorem dX0_remove_88 : decode cX0_remove 88 = .ok (.goto (-55), 3) := by decide +kernel
theorem dX0_remove_91 : decode cX0_remove 91 = .ok (.aload_n 0, 1) := by decide +kernel
theorem dX0_remove_92 : decode cX0_remove 92 = .ok (.getfield 9, 3) := by decide +kernel
theorem dX0_remove_95 : decode cX0_remove 95 = .ok (.iload_n 1, 1) := by decide +kernel
theorem dX0_remove_96 : decode cX0_remove 96 = .ok (.iload_n 3, 1) := by decide +kernel
theorem dX0_remove_97 : decode cX0_remove 97 = .ok (.iconst 1, 1) := by decide +kernel
theorem dX0_remove_98 : decode cX0_remove 98 = .ok (.isub, 1) := by decide +kernel
theorem dX0_remove_99 : decode cX0_remove 99 = .ok (.iastore, 1) := by decide +kernel
theorem dX0_remove_100 : decode cX0_remove 100 = .ok (.return_, 1) := by decide +kernel
theorem dX0_append_0 : decode cX0_append 0 = .ok (.aload_n 0, 1) := by decide +kernel
theorem dX0_append_1 : decode cX0_append 1 = .ok (.iload_n 2, 1) := by decide +kernel
theorem dX0_append_2 : decode cX0_append 2 = .ok (.invokevirtual 49, 3) := by decide +kernel
theorem dX0_append_5 : decode cX0_append 5 = .ok (.istore_n 3, 1) := by decide +kernel
theorem dX0_append_6 : decode cX0_append 6 = .ok (.aload_n 0, 1) := by decide +kernel
theorem dX0_append_7 : decode cX0_append 7 = .ok (.iload_n 1, 1) := by decide +kernel
theorem dX0_append_8 : decode cX0_append 8 = .ok (.invokevirtual 49, 3) := by decide +kernel
theorem dX0_append_11 : decode cX0_append 11 = .ok (.istore 4, 2) := by decide +kernel
theorem dX0_append_13 : decode cX0_append 13 = .ok (.iload_n 1, 1) := by decide +kernel
theorem dX0_append_14 : decode cX0_append 14 = .ok (.iload 4, 2) := by decide +kernel
theorem dX0_append_16 : decode cX0_append 16 = .ok (.iconst 1, 1) := by decide +kernel
theorem dX0_append_17 : decode cX0_append 17 = .ok (.isub, 1) := by decide +kernel
theorem dX0_append_18 : decode cX0_append 18 = .ok (.invokestatic 37, 3) := by decide +kernel
theorem dX0_append_21 : decode cX0_append 21 = .ok (.ifCond .eq 16, 3) := by decide +kernel
theorem dX0_append_24 : decode cX0_append 24 = .ok (.iload_n 2, 1) := by decide +kernel
theorem dX0_append_25 : decode cX0_append 25 = .ok (.iload_n 3, 1) := by decide +kernel
theorem dX0_append_26 : decode cX0_append 26 = .ok (.iload 4, 2) := by decide +kernel
theorem dX0_append_28 : decode cX0_append 28 = .ok (.iadd, 1) := by decide +kernel
theorem dX0_append_29 : decode cX0_append 29 = .ok (.iconst 1, 1) := by decide +kernel
theorem dX0_append_30 : decode cX0_append 30 = .ok (.isub, 1) := by decide +kernel
theorem dX0_append_31 : decode cX0_append 31 = .ok (.invokestatic 37, 3) := by decide +kernel
theorem dX0_append_34 : decode cX0_append 34 = .ok (.ifCond .ne 4, 3) := by decide +kernel
theorem dX0_append_37 : decode cX0_append 37 = .ok (.return_, 1) := by decide +kernel
theorem dX0_append_38 : decode cX0_append 38 = .ok (.iconst 0, 1) := by decide +kernel
theorem dX0_append_39 : decode cX0_append 39 = .ok (.istore 5, 2) := by decide +kernel
theorem dX0_append_41 : decode cX0_append 41 = .ok (.iload 5, 2) := by decide +kernel
theorem dX0_append_43 : decode cX0_append 43 = .ok (.iload 4, 2) := by decide +kernel
theorem dX0_append_45 : decode cX0_append 45 = .ok (.if_icmp .ge 57, 3) := by decide +kernel
theorem dX0_append_48 : decode cX0_append 48 = .ok (.aload_n 0, 1) := by decide +kernel
theorem dX0_append_49 : decode cX0_append 49 = .ok (.getfield 19, 3) := by decide +kernel
theorem dX0_append_52 : decode cX0_append 52 = .ok (.iload_n 2, 1) := by decide +kernel
theorem dX0_append_53 : decode cX0_append 53 = .ok (.iconst 5, 1) := by decide +kernel
theorem dX0_append_54 : decode cX0_append 54 = .ok (.imul, 1) := by decide +kernel
theorem dX0_append_55 : decode cX0_append 55 = .ok (.iload_n 3, 1) := by decide +kernel
theorem dX0_append_56 : decode cX0_append 56 = .ok (.iadd, 1) := by decide +kernel
theorem dX0_append_57 : decode cX0_append 57 = .ok (.iload 5, 2) := by decide +kernel
theorem dX0_append_59 : decode cX0_append 59 = .ok (.iadd, 1) := by decide +kernel
theorem dX0_append_60 : decode cX0_append 60 = .ok (.aload_n 0, 1) := by decide +kernel
theorem dX0_append_61 : decode cX0_append 61 = .ok (.getfield 19, 3) := by decide +kernel
theorem dX0_append_64 : decode cX0_append 64 = .ok (.iload_n 1, 1) := by decide +kernel
theorem dX0_append_65 : decode cX0_append 65 = .ok (.iconst 5, 1) := by decide +kernel
theorem dX0_append_66 : decode cX0_append 66 = .ok (.imul, 1) := by decide +kernel
theorem dX0_append_67 : decode cX0_append 67 = .ok (.iload 5, 2) := by decide +kernel
theorem dX0_append_69 : decode cX0_append 69 = .ok (.iadd, 1) := by decide +kernel
theorem dX0_append_70 : decode cX0_append 70 = .ok (.iaload, 1) := by decide +kernel
theorem dX0_append_71 : decode cX0_append 71 = .ok (.iastore, 1) := by decide +kernel
theorem dX0_append_72 : decode cX0_append 72 = .ok (.aload_n 0, 1) := by decide +kernel
theorem dX0_append_73 : decode cX0_append 73 = .ok (.getfield 22, 3) := by decide +kernel
theorem dX0_append_76 : decode cX0_append 76 = .ok (.iload_n 2, 1) := by decide +kernel
theorem dX0_append_77 : decode cX0_append 77 = .ok (.iconst 5, 1) := by decide +kernel
theorem dX0_append_78 : decode cX0_append 78 = .ok (.imul, 1) := by decide +kernel
theorem dX0_append_79 : decode cX0_append 79 = .ok (.iload_n 3, 1) := by decide +kernel
theorem dX0_append_80 : decode cX0_append 80 = .ok (.iadd, 1) := by decide +kernel
theorem dX0_append_81 : decode cX0_append 81 = .ok (.iload 5, 2) := by decide +kernel
theorem dX0_append_83 : decode cX0_append 83 = .ok (.iadd, 1) := by decide +kernel
theorem dX0_append_84 : decode cX0_append 84 = .ok (.aload_n 0, 1) := by decide +kernel
theorem dX0_append_85 : decode cX0_append 85 = .ok (.getfield 22, 3) := by decide +kernel
theorem dX0_append_88 : decode cX0_append 88 = .ok (.iload_n 1, 1) := by decide +kernel
theorem dX0_append_89 : decode cX0_append 89 = .ok (.iconst 5, 1) := by decide +kernel
theorem dX0_append_90 : decode cX0_append 90 = .ok (.imul, 1) := by decide +kernel
theorem dX0_append_91 : decode cX0_append 91 = .ok (.iload 5, 2) := by decide +kernel
theorem dX0_append_93 : decode cX0_append 93 = .ok (.iadd, 1) := by decide +kernel
theorem dX0_append_94 : decode cX0_append 94 = .ok (.iaload, 1) := by decide +kernel
theorem dX0_append_95 : decode cX0_append 95 = .ok (.iastore, 1) := by decide +kernel
theorem dX0_append_96 : decode cX0_append 96 = .ok (.iinc 5 1, 3) := by decide +kernel
theorem dX0_append_99 : decode cX0_append 99 = .ok (.goto (-58), 3) := by decide +kernel
theorem dX0_append_102 : decode cX0_append 102 = .ok (.aload_n 0, 1) := by decide +kernel
theorem dX0_append_103 : decode cX0_append 103 = .ok (.getfield 9, 3) := by decide +kernel
theorem dX0_append_106 : decode cX0_append 106 = .ok (.iload_n 2, 1) := by decide +kernel
theorem dX0_append_107 : decode cX0_append 107 = .ok (.iload_n 3, 1) := by decide +kernel
theorem dX0_append_108 : decode cX0_append 108 = .ok (.iload 4, 2) := by decide +kernel
theorem dX0_append_110 : decode cX0_append 110 = .ok (.iadd, 1) := by decide +kernel
theorem dX0_append_111 : decode cX0_append 111 = .ok (.iastore, 1) := by decide +kernel
theorem dX0_append_112 : decode cX0_append 112 = .ok (.return_, 1) := by decide +kernel
theorem dX0_move_0 : decode cX0_move 0 = .ok (.aload_n 0, 1) := by decide +kernel
theorem dX0_move_1 : decode cX0_move 1 = .ok (.iload_n 3, 1) := by decide +kernel
theorem dX0_move_2 : decode cX0_move 2 = .ok (.iload 4, 2) := by decide +kernel
theorem dX0_move_4 : decode cX0_move 4 = .ok (.aload_n 0, 1) := by decide +kernel
theorem dX0_move_5 : decode cX0_move 5 = .ok (.iload_n 1, 1) := by decide +kernel
theorem dX0_move_6 : decode cX0_move 6 = .ok (.iload_n 2, 1) := by decide +kernel
theorem dX0_move_7 : decode cX0_move 7 = .ok (.invokevirtual 53, 3) := by decide +kernel
theorem dX0_move_10 : decode cX0_move 10 = .ok (.aload_n 0, 1) := by decide +kernel
theorem dX0_move_11 : decode cX0_move 11 = .ok (.iload_n 1, 1) := by decide +kernel
theorem dX0_move_12 : decode cX0_move 12 = .ok (.iload_n 2, 1) := by decide +kernel
theorem dX0_move_13 : decode cX0_move 13 = .ok (.invokevirtual 45, 3) := by decide +kernel
theorem dX0_move_16 : decode cX0_move 16 = .ok (.invokevirtual 77, 3) := by decide +kernel
theorem dX0_move_19 : decode cX0_move 19 = .ok (.aload_n 0, 1) := by decide +kernel
theorem dX0_move_20 : decode cX0_move 20 = .ok (.iload_n 1, 1) := by decide +kernel
theorem dX0_move_21 : decode cX0_move 21 = .ok (.iload_n 2, 1) := by decide +kernel
theorem dX0_move_22 : decode cX0_move 22 = .ok (.invokevirtual 81, 3) := by decide +kernel
theorem dX0_move_25 : decode cX0_move 25 = .ok (.return_, 1) := by decide +kernel
theorem dX1_init_0 : decode cX1_init 0 = .ok (.aload_n 0, 1) := by decide +kernel
theorem dX1_init_1 : decode cX1_init 1 = .ok (.invokespecial 1, 3) := by decide +kernel
theorem dX1_init_4 : decode cX1_init 4 = .ok (.return_, 1) := by decide +kernel
theorem dX1_become_0 : decode cX1_become 0 = .ok (.aload_n 0, 1) := by decide +kernel
theorem dX1_become_1 : decode cX1_become 1 = .ok (.aload_n 1, 1) := by decide +kernel
theorem dX1_become_2 : decode cX1_become 2 = .ok (.getfield 7, 3) := by decide +kernel
theorem dX1_become_5 : decode cX1_become 5 = .ok (.putfield 7, 3) := by decide +kernel
theorem dX1_become_8 : decode cX1_become 8 = .ok (.aload_n 0, 1) := by decide +kernel
theorem dX1_become_9 : decode cX1_become 9 = .ok (.aload_n 1, 1) := by decide +kernel
theorem dX1_become_10 : decode cX1_become 10 = .ok (.getfield 13, 3) := by decide +kernel
theorem dX1_become_13 : decode cX1_become 13 = .ok (.putfield 13, 3) := by decide +kernel
theorem dX1_become_16 : decode cX1_become 16 = .ok (.aload_n 0, 1) := by decide +kernel
theorem dX1_become_17 : decode cX1_become 17 = .ok (.aload_n 1, 1) := by decide +kernel
theorem dX1_become_18 : decode cX1_become 18 = .ok (.getfield 16, 3) := by decide +kernel
theorem dX1_become_21 : decode cX1_become 21 = .ok (.putfield 16, 3) := by decide +kernel
theorem dX1_become_24 : decode cX1_become 24 = .ok (.aload_n 0, 1) := by decide +kernel
theorem dX1_become_25 : decode cX1_become 25 = .ok (.iconst 1, 1) := by decide +kernel
theorem dX1_become_26 : decode cX1_become 26 = .ok (.putfield 19, 3) := by decide +kernel
theorem dX1_become_29 : decode cX1_become 29 = .ok (.return_, 1) := by decide +kernel
theorem dX2_init_0 : decode cX2_init 0 = .ok (.aload_n 0, 1) := by decide +kernel
theorem dX2_init_1 : decode cX2_init 1 = .ok (.invokespecial 3, 3) := by decide +kernel
theorem dX2_init_4 : decode cX2_init 4 = .ok (.aload_n 0, 1) := by decide +kernel
theorem dX2_init_5 : decode cX2_init 5 = .ok (.bipush 8, 2) := by decide +kernel
theorem dX2_init_7 : decode cX2_init 7 = .ok (.newarray .int, 2) := by decide +kernel
theorem dX2_init_9 : decode cX2_init 9 = .ok (.putfield 9, 3) := by decide +kernel
theorem dX2_init_12 : decode cX2_init 12 = .ok (.aload_n 0, 1) := by decide +kernel
theorem dX2_init_13 : decode cX2_init 13 = .ok (.bipush 8, 2) := by decide +kernel
theorem dX2_init_15 : decode cX2_init 15 = .ok (.newarray .int, 2) := by decide +kernel
theorem dX2_init_17 : decode cX2_init 17 = .ok (.putfield 15, 3) := by decide +kernel
theorem dX2_init_20 : decode cX2_init 20 = .ok (.aload_n 0, 1) := by decide +kernel
theorem dX2_init_21 : decode cX2_init 21 = .ok (.aload_n 1, 1) := by decide +kernel
theorem dX2_init_22 : decode cX2_init 22 = .ok (.putfield 18, 3) := by decide +kernel
theorem dX2_init_25 : decode cX2_init 25 = .ok (.aload_n 0, 1) := by decide +kernel
theorem dX2_init_26 : decode cX2_init 26 = .ok (.aload_n 2, 1) := by decide +kernel
theorem dX2_init_27 : decode cX2_init 27 = .ok (.putfield 22, 3) := by decide +kernel
theorem dX2_init_30 : decode cX2_init 30 = .ok (.return_, 1) := by decide +kernel
theorem dX2_store_0 : decode cX2_store 0 = .ok (.aload_n 0, 1) := by decide +kernel
theorem dX2_store_1 : decode cX2_store 1 = .ok (.iload_n 1, 1) := by decide +kernel
theorem dX2_store_2 : decode cX2_store 2 = .ok (.invokevirtual 26, 3) := by decide +kernel
theorem dX2_store_5 : decode cX2_store 5 = .ok (.istore_n 3, 1) := by decide +kernel
theorem dX2_store_6 : decode cX2_store 6 = .ok (.aload_n 0, 1) := by decide +kernel
theorem dX2_store_7 : decode cX2_store 7 = .ok (.getfield 18, 3) := by decide +kernel
theorem dX2_store_10 : decode cX2_store 10 = .ok (.iload_n 3, 1) := by decide +kernel
theorem dX2_store_11 : decode cX2_store 11 = .ok (.iload_n 1, 1) := by decide +kernel
theorem dX2_store_12 : decode cX2_store 12 = .ok (.invokevirtual 30, 3) := by decide +kernel
theorem dX2_store_15 : decode cX2_store 15 = .ok (.istore 4, 2) := by decide +kernel
theorem dX2_store_17 : decode cX2_store 17 = .ok (.aload_n 0, 1) := by decide +kernel
theorem dX2_store_18 : decode cX2_store 18 = .ok (.getfield 18, 3) := by decide +kernel
theorem dX2_store_21 : decode cX2_store 21 = .ok (.iload_n 3, 1) := by decide +kernel
theorem dX2_store_22 : decode cX2_store 22 = .ok (.iload 4, 2) := by decide +kernel
theorem dX2_store_24 : decode cX2_store 24 = .ok (.iload_n 1, 1) := by decide +kernel
theorem dX2_store_25 : decode cX2_store 25 = .ok (.invokevirtual 36, 3) := by decide +kernel
theorem dX2_store_28 : decode cX2_store 28 = .ok (.ifCond .eq 16, 3) := by decide +kernel
theorem dX2_store_31 : decode cX2_store 31 = .ok (.aload_n 0, 1) := by decide +kernel
theorem dX2_store_32 : decode cX2_store 32 = .ok (.getfield 18, 3) := by decide +kernel
theorem dX2_store_35 : decode cX2_store 35 = .ok (.iload_n 3, 1) := by decide +kernel
theorem dX2_store_36 : decode cX2_store 36 = .ok (.iload 4, 2) := by decide +kernel
theorem dX2_store_38 : decode cX2_store 38 = .ok (.iload_n 2, 1) := by decide +kernel
theorem dX2_store_39 : decode cX2_store 39 = .ok (.invokevirtual 40, 3) := by decide +kernel
theorem dX2_store_42 : decode cX2_store 42 = .ok (.iconst 0, 1) := by decide +kernel
theorem dX2_store_43 : decode cX2_store 43 = .ok (.ireturn, 1) := by decide +kernel
theorem dX2_store_44 : decode cX2_store 44 = .ok (.aload_n 0, 1) := by decide +kernel
theorem dX2_store_45 : decode cX2_store 45 = .ok (.getfield 18, 3) := by decide +kernel
theorem dX2_store_48 : decode cX2_store 48 = .ok (.iload_n 3, 1) := by decide +kernel
theorem dX2_store_49 : decode cX2_store 49 = .ok (.iload 4, 2) := by decide +kernel
theorem dX2_store_51 : decode cX2_store 51 = .ok (.iload_n 1, 1) := by decide +kernel
theorem dX2_store_52 : decode cX2_store 52 = .ok (.iload_n 2, 1) := by decide +kernel
theorem dX2_store_53 : decode cX2_store 53 = .ok (.invokevirtual 44, 3) := by decide +kernel
theorem dX2_store_56 : decode cX2_store 56 = .ok (.aload_n 0, 1) := by decide +kernel
theorem dX2_store_57 : decode cX2_store 57 = .ok (.getfield 22, 3) := by decide +kernel
theorem dX2_store_60 : decode cX2_store 60 = .ok (.dup, 1) := by decide +kernel
theorem dX2_store_61 : decode cX2_store 61 = .ok (.getfield 48, 3) := by decide +kernel
theorem dX2_store_64 : decode cX2_store 64 = .ok (.iconst 1, 1) := by decide +kernel
theorem dX2_store_65 : decode cX2_store 65 = .ok (.iadd, 1) := by decide +kernel
theorem dX2_store_66 : decode cX2_store 66 = .ok (.putfield 48, 3) := by decide +kernel
theorem dX2_store_69 : decode cX2_store 69 = .ok (.aload_n 0, 1) := by decide +kernel
theorem dX2_store_70 : decode cX2_store 70 = .ok (.invokevirtual 54, 3) := by decide +kernel
theorem dX2_store_73 : decode cX2_store 73 = .ok (.iconst 1, 1) := by decide +kernel
theorem dX2_store_74 : decode cX2_store 74 = .ok (.ireturn, 1) := by decide +kernel
theorem dX2_drop_0 : decode cX2_drop 0 = .ok (.aload_n 0, 1) := by decide +kernel
theorem dX2_drop_1 : decode cX2_drop 1 = .ok (.iload_n 1, 1) := by decide +kernel
theorem dX2_drop_2 : decode cX2_drop 2 = .ok (.invokevirtual 26, 3) := by decide +kernel
theorem dX2_drop_5 : decode cX2_drop 5 = .ok (.istore_n 2, 1) := by decide +kernel
theorem dX2_drop_6 : decode cX2_drop 6 = .ok (.aload_n 0, 1) := by decide +kernel
theorem dX2_drop_7 : decode cX2_drop 7 = .ok (.getfield 18, 3) := by decide +kernel
theorem dX2_drop_10 : decode cX2_drop 10 = .ok (.iload_n 2, 1) := by decide +kernel
theorem dX2_drop_11 : decode cX2_drop 11 = .ok (.aload_n 0, 1) := by decide +kernel
theorem dX2_drop_12 : decode cX2_drop 12 = .ok (.getfield 18, 3) := by decide +kernel
theorem dX2_drop_15 : decode cX2_drop 15 = .ok (.iload_n 2, 1) := by decide +kernel
theorem dX2_drop_16 : decode cX2_drop 16 = .ok (.iload_n 1, 1) := by decide +kernel
theorem dX2_drop_17 : decode cX2_drop 17 = .ok (.invokevirtual 30, 3) := by decide +kernel
theorem dX2_drop_20 : decode cX2_drop 20 = .ok (.invokevirtual 57, 3) := by decide +kernel
theorem dX2_drop_23 : decode cX2_drop 23 = .ok (.aload_n 0, 1) := by decide +kernel
theorem dX2_drop_24 : decode cX2_drop 24 = .ok (.getfield 22, 3) := by decide +kernel
theorem dX2_drop_27 : decode cX2_drop 27 = .ok (.dup, 1) := by decide +kernel
theorem dX2_drop_28 : decode cX2_drop 28 = .ok (.getfield 48, 3) := by decide +kernel
theorem dX2_drop_31 : decode cX2_drop 31 = .ok (.iconst 1, 1) := by decide +kernel
theorem dX2_drop_32 : decode cX2_drop 32 = .ok (.isub, 1) := by decide +kernel
theorem dX2_drop_33 : decode cX2_drop 33 = .ok (.putfield 48, 3) := by decide +kernel
theorem dX2_drop_36 : decode cX2_drop 36 = .ok (.aload_n 0, 1) := by decide +kernel
theorem dX2_drop_37 : decode cX2_drop 37 = .ok (.getfield 61, 3) := by decide +kernel
theorem dX2_drop_40 : decode cX2_drop 40 = .ok (.istore_n 3, 1) := by decide +kernel
theorem dX2_drop_41 : decode cX2_drop 41 = .ok (.iload_n 3, 1) := by decide +kernel
theorem dX2_drop_42 : decode cX2_drop 42 = .ok (.ifCond .le 52, 3) := by decide +kernel
theorem dX2_drop_45 : decode cX2_drop 45 = .ok (.iload_n 3, 1) := by decide +kernel
theorem dX2_drop_46 : decode cX2_drop 46 = .ok (.bipush 8, 2) := by decide +kernel
theorem dX2_drop_48 : decode cX2_drop 48 = .ok (.if_icmp .ge 46, 3) := by decide +kernel
theorem dX2_drop_51 : decode cX2_drop 51 = .ok (.aload_n 0, 1) := by decide +kernel
theorem dX2_drop_52 : decode cX2_drop 52 = .ok (.getfield 18, 3) := by decide +kernel
theorem dX2_drop_55 : decode cX2_drop 55 = .ok (.aload_n 0, 1) := by decide +kernel
theorem dX2_drop_56 : decode cX2_drop 56 = .ok (.getfield 9, 3) := by decide +kernel
theorem dX2_drop_59 : decode cX2_drop 59 = .ok (.iload_n 3, 1) := by decide +kernel
theorem dX2_drop_60 : decode cX2_drop 60 = .ok (.iaload, 1) := by decide +kernel
theorem dX2_drop_61 : decode cX2_drop 61 = .ok (.invokevirtual 64, 3) := by decide +kernel
theorem dX2_drop_64 : decode cX2_drop 64 = .ok (.iconst 2, 1) := by decide +kernel
theorem dX2_drop_65 : decode cX2_drop 65 = .ok (.if_icmp .ge 23, 3) := by decide +kernel
theorem dX2_drop_68 : decode cX2_drop 68 = .ok (.aload_n 0, 1) := by decide +kernel
theorem dX2_drop_69 : decode cX2_drop 69 = .ok (.aload_n 0, 1) := by decide +kernel
theorem dX2_drop_70 : decode cX2_drop 70 = .ok (.getfield 9, 3) := by decide +kernel
theorem dX2_drop_73 : decode cX2_drop 73 = .ok (.iload_n 3, 1) := by decide +kernel
theorem dX2_drop_74 : decode cX2_drop 74 = .ok (.iconst 1, 1) := by decide +kernel
theorem dX2_drop_75 : decode cX2_drop 75 = .ok (.isub, 1) := by decide +kernel
theorem dX2_drop_76 : decode cX2_drop 76 = .ok (.iaload, 1) := by decide +kernel
theorem dX2_drop_77 : decode cX2_drop 77 = .ok (.aload_n 0, 1) := by decide +kernel
theorem dX2_drop_78 : decode cX2_drop 78 = .ok (.getfield 15, 3) := by decide +kernel
theorem dX2_drop_81 : decode cX2_drop 81 = .ok (.iload_n 3, 1) := by decide +kernel
theorem dX2_drop_82 : decode cX2_drop 82 = .ok (.iconst 1, 1) := by decide +kernel
theorem dX2_drop_83 : decode cX2_drop 83 = .ok (.isub, 1) := by decide +kernel
theorem dX2_drop_84 : decode cX2_drop 84 = .ok (.iaload, 1) := by decide +kernel
theorem dX2_drop_85 : decode cX2_drop 85 = .ok (.invokevirtual 67, 3) := by decide +kernel
theorem dX2_drop_88 : decode cX2_drop 88 = .ok (.iinc 3 (-1), 3) := by decide +kernel
theorem dX2_drop_91 : decode cX2_drop 91 = .ok (.goto (-50), 3) := by decide +kernel
theorem dX2_drop_94 : decode cX2_drop 94 = .ok (.aload_n 0, 1) := by decide +kernel
theorem dX2_drop_95 : decode cX2_drop 95 = .ok (.invokevirtual 70, 3) := by decide +kernel
theorem dX2_drop_98 : decode cX2_drop 98 = .ok (.return_, 1) := by decide +kernel
theorem dX2_writePath_0 : decode cX2_writePath 0 = .ok (.aload_n 0, 1) := by decide +kernel
theorem dX2_writePath_1 : decode cX2_writePath 1 = .ok (.getfield 22, 3) := by decide +kernel
theorem dX2_writePath_4 : decode cX2_writePath 4 = .ok (.aload_n 0, 1) := by decide +kernel
theorem dX2_writePath_5 : decode cX2_writePath 5 = .ok (.getfield 18, 3) := by decide +kernel
theorem dX2_writePath_8 : decode cX2_writePath 8 = .ok (.aload_n 0, 1) := by decide +kernel
theorem dX2_writePath_9 : decode cX2_writePath 9 = .ok (.getfield 22, 3) := by decide +kernel
theorem dX2_writePath_12 : decode cX2_writePath 12 = .ok (.getfield 73, 3) := by decide +kernel
theorem dX2_writePath_15 : decode cX2_writePath 15 = .ok (.invokevirtual 76, 3) := by decide +kernel
theorem dX2_writePath_18 : decode cX2_writePath 18 = .ok (.putfield 73, 3) := by decide +kernel
theorem dX2_writePath_21 : decode cX2_writePath 21 = .ok (.aload_n 0, 1) := by decide +kernel
theorem dX2_writePath_22 : decode cX2_writePath 22 = .ok (.getfield 22, 3) := by decide +kernel
theorem dX2_writePath_25 : decode cX2_writePath 25 = .ok (.getfield 73, 3) := by decide +kernel
theorem dX2_writePath_28 : decode cX2_writePath 28 = .ok (.istore_n 2, 1) := by decide +kernel
theorem dX2_writePath_29 : decode cX2_writePath 29 = .ok (.iconst 0, 1) := by decide +kernel
theorem dX2_writePath_30 : decode cX2_writePath 30 = .ok (.istore_n 3, 1) := by decide +kernel
theorem dX2_writePath_31 : decode cX2_writePath 31 = .ok (.aload_n 0, 1) := by decide +kernel
theorem dX2_writePath_32 : decode cX2_writePath 32 = .ok (.getfield 9, 3) := by decide +kernel
theorem dX2_writePath_35 : decode cX2_writePath 35 = .ok (.iconst 0, 1) := by decide +kernel
theorem dX2_writePath_36 : decode cX2_writePath 36 = .ok (.iload_n 2, 1) := by decide +kernel
theorem dX2_writePath_37 : decode cX2_writePath 37 = .ok (.iastore, 1) := by decide +kernel
theorem dX2_writePath_38 : decode cX2_writePath 38 = .ok (.iload_n 3, 1) := by decide +kernel
theorem dX2_writePath_39 : decode cX2_writePath 39 = .ok (.iconst 1, 1) := by decide +kernel
theorem dX2_writePath_40 : decode cX2_writePath 40 = .ok (.iadd, 1) := by decide +kernel
theorem dX2_writePath_41 : decode cX2_writePath 41 = .ok (.bipush 8, 2) := by decide +kernel
theorem dX2_writePath_43 : decode cX2_writePath 43 = .ok (.if_icmp .ge 64, 3) := by decide +kernel
theorem dX2_writePath_46 : decode cX2_writePath 46 = .ok (.aload_n 0, 1) := by decide +kernel
theorem dX2_writePath_47 : decode cX2_writePath 47 = .ok (.getfield 18, 3) := by decide +kernel
theorem dX2_writePath_50 : decode cX2_writePath 50 = .ok (.iload_n 2, 1) := by decide +kernel
theorem dX2_writePath_51 : decode cX2_writePath 51 = .ok (.invokevirtual 79, 3) := by decide +kernel
theorem dX2_writePath_54 : decode cX2_writePath 54 = .ok (.ifCond .ne 53, 3) := by decide +kernel
theorem dX2_writePath_57 : decode cX2_writePath 57 = .ok (.aload_n 0, 1) := by decide +kernel
theorem dX2_writePath_58 : decode cX2_writePath 58 = .ok (.getfield 18, 3) := by decide +kernel
theorem dX2_writePath_61 : decode cX2_writePath 61 = .ok (.iload_n 2, 1) := by decide +kernel
theorem dX2_writePath_62 : decode cX2_writePath 62 = .ok (.iload_n 1, 1) := by decide +kernel
theorem dX2_writePath_63 : decode cX2_writePath 63 = .ok (.invokevirtual 83, 3) := by decide +kernel
theorem dX2_writePath_66 : decode cX2_writePath 66 = .ok (.istore 4, 2) := by decide +kernel
theorem dX2_writePath_68 : decode cX2_writePath 68 = .ok (.aload_n 0, 1) := by decide +kernel
theorem dX2_writePath_69 : decode cX2_writePath 69 = .ok (.iload_n 2, 1) := by decide +kernel
theorem dX2_writePath_70 : decode cX2_writePath 70 = .ok (.iload 4, 2) := by decide +kernel
theorem dX2_writePath_72 : decode cX2_writePath 72 = .ok (.invokevirtual 86, 3) := by decide +kernel
theorem dX2_writePath_75 : decode cX2_writePath 75 = .ok (.aload_n 0, 1) := by decide +kernel
theorem dX2_writePath_76 : decode cX2_writePath 76 = .ok (.getfield 18, 3) := by decide +kernel
theorem dX2_writePath_79 : decode cX2_writePath 79 = .ok (.iload_n 2, 1) := by decide +kernel
theorem dX2_writePath_80 : decode cX2_writePath 80 = .ok (.iload 4, 2) := by decide +kernel
theorem dX2_writePath_82 : decode cX2_writePath 82 = .ok (.invokevirtual 89, 3) := by decide +kernel
theorem dX2_writePath_85 : decode cX2_writePath 85 = .ok (.istore_n 2, 1) := by decide +kernel
theorem dX2_writePath_86 : decode cX2_writePath 86 = .ok (.aload_n 0, 1) := by decide +kernel
theorem dX2_writePath_87 : decode cX2_writePath 87 = .ok (.getfield 15, 3) := by decide +kernel
theorem dX2_writePath_90 : decode cX2_writePath 90 = .ok (.iload_n 3, 1) := by decide +kernel
theorem dX2_writePath_91 : decode cX2_writePath 91 = .ok (.iload 4, 2) := by decide +kernel
theorem dX2_writePath_93 : decode cX2_writePath 93 = .ok (.iastore, 1) := by decide +kernel
theorem dX2_writePath_94 : decode cX2_writePath 94 = .ok (.iinc 3 1, 3) := by decide +kernel
theorem dX2_writePath_97 : decode cX2_writePath 97 = .ok (.aload_n 0, 1) := by decide +kernel
theorem dX2_writePath_98 : decode cX2_writePath 98 = .ok (.getfield 9, 3) := by decide +kernel
theorem dX2_writePath_101 : decode cX2_writePath 101 = .ok (.iload_n 3, 1) := by decide +kernel
theorem dX2_writePath_102 : decode cX2_writePath 102 = .ok (.iload_n 2, 1) := by decide +kernel
theorem dX2_writePath_103 : decode cX2_writePath 103 = .ok (.iastore, 1) := by decide +kernel
theorem dX2_writePath_104 : decode cX2_writePath 104 = .ok (.goto (-66), 3) := by decide +kernel
theorem dX2_writePath_107 : decode cX2_writePath 107 = .ok (.aload_n 0, 1) := by decide +kernel
theorem dX2_writePath_108 : decode cX2_writePath 108 = .ok (.iload_n 3, 1) := by decide +kernel
theorem dX2_writePath_109 : decode cX2_writePath 109 = .ok (.putfield 61, 3) := by decide +kernel
theorem dX2_writePath_112 : decode cX2_writePath 112 = .ok (.iload_n 2, 1) := by decide +kernel
theorem dX2_writePath_113 : decode cX2_writePath 113 = .ok (.ireturn, 1) := by decide +kernel
theorem dX2_splitUpwards_0 : decode cX2_splitUpwards 0 = .ok (.aload_n 0, 1) := by decide +kernel
theorem dX2_splitUpwards_1 : decode cX2_splitUpwards 1 = .ok (.getfield 61, 3) := by decide +kernel
theorem dX2_splitUpwards_4 : decode cX2_splitUpwards 4 = .ok (.istore_n 1, 1) := by decide +kernel
theorem dX2_splitUpwards_5 : decode cX2_splitUpwards 5 = .ok (.iload_n 1, 1) := by decide +kernel
theorem dX2_splitUpwards_6 : decode cX2_splitUpwards 6 = .ok (.ifCond .lt 81, 3) := by decide +kernel
theorem dX2_splitUpwards_9 : decode cX2_splitUpwards 9 = .ok (.iload_n 1, 1) := by decide +kernel
theorem dX2_splitUpwards_10 : decode cX2_splitUpwards 10 = .ok (.bipush 8, 2) := by decide +kernel
theorem dX2_splitUpwards_12 : decode cX2_splitUpwards 12 = .ok (.if_icmp .ge 75, 3) := by decide +kernel
theorem dX2_splitUpwards_15 : decode cX2_splitUpwards 15 = .ok (.aload_n 0, 1) := by decide +kernel
theorem dX2_splitUpwards_16 : decode cX2_splitUpwards 16 = .ok (.getfield 9, 3) := by decide +kernel
theorem dX2_splitUpwards_19 : decode cX2_splitUpwards 19 = .ok (.iload_n 1, 1) := by decide +kernel
theorem dX2_splitUpwards_20 : decode cX2_splitUpwards 20 = .ok (.iaload, 1) := by decide +kernel
theorem dX2_splitUpwards_21 : decode cX2_splitUpwards 21 = .ok (.istore_n 2, 1) := by decide +kernel
theorem dX2_splitUpwards_22 : decode cX2_splitUpwards 22 = .ok (.aload_n 0, 1) := by decide +kernel
theorem dX2_splitUpwards_23 : decode cX2_splitUpwards 23 = .ok (.getfield 18, 3) := by decide +kernel
theorem dX2_splitUpwards_26 : decode cX2_splitUpwards 26 = .ok (.iload_n 2, 1) := by decide +kernel
theorem dX2_splitUpwards_27 : decode cX2_splitUpwards 27 = .ok (.invokevirtual 64, 3) := by decide +kernel
theorem dX2_splitUpwards_30 : decode cX2_splitUpwards 30 = .ok (.iconst 4, 1) := by decide +kernel
theorem dX2_splitUpwards_31 : decode cX2_splitUpwards 31 = .ok (.if_icmp .gt 4, 3) := by decide +kernel
theorem dX2_splitUpwards_34 : decode cX2_splitUpwards 34 = .ok (.return_, 1) := by decide +kernel
theorem dX2_splitUpwards_35 : decode cX2_splitUpwards 35 = .ok (.aload_n 0, 1) := by decide +kernel
theorem dX2_splitUpwards_36 : decode cX2_splitUpwards 36 = .ok (.iload_n 2, 1) := by decide +kernel
theorem dX2_splitUpwards_37 : decode cX2_splitUpwards 37 = .ok (.invokevirtual 92, 3) := by decide +kernel
theorem dX2_splitUpwards_40 : decode cX2_splitUpwards 40 = .ok (.istore_n 3, 1) := by decide +kernel
theorem dX2_splitUpwards_41 : decode cX2_splitUpwards 41 = .ok (.iload_n 1, 1) := by decide +kernel
theorem dX2_splitUpwards_42 : decode cX2_splitUpwards 42 = .ok (.ifCond .le 33, 3) := by decide +kernel
theorem dX2_splitUpwards_45 : decode cX2_splitUpwards 45 = .ok (.aload_n 0, 1) := by decide +kernel
theorem dX2_splitUpwards_46 : decode cX2_splitUpwards 46 = .ok (.getfield 18, 3) := by decide +kernel
theorem dX2_splitUpwards_49 : decode cX2_splitUpwards 49 = .ok (.aload_n 0, 1) := by decide +kernel
theorem dX2_splitUpwards_50 : decode cX2_splitUpwards 50 = .ok (.getfield 9, 3) := by decide +kernel
theorem dX2_splitUpwards_53 : decode cX2_splitUpwards 53 = .ok (.iload_n 1, 1) := by decide +kernel
theorem dX2_splitUpwards_54 : decode cX2_splitUpwards 54 = .ok (.iconst 1, 1) := by decide +kernel
theorem dX2_splitUpwards_55 : decode cX2_splitUpwards 55 = .ok (.isub, 1) := by decide +kernel
theorem dX2_splitUpwards_56 : decode cX2_splitUpwards 56 = .ok (.iaload, 1) := by decide +kernel
theorem dX2_splitUpwards_57 : decode cX2_splitUpwards 57 = .ok (.aload_n 0, 1) := by decide +kernel
theorem dX2_splitUpwards_58 : decode cX2_splitUpwards 58 = .ok (.getfield 15, 3) := by decide +kernel
theorem dX2_splitUpwards_61 : decode cX2_splitUpwards 61 = .ok (.iload_n 1, 1) := by decide +kernel
theorem dX2_splitUpwards_62 : decode cX2_splitUpwards 62 = .ok (.iconst 1, 1) := by decide +kernel
theorem dX2_splitUpwards_63 : decode cX2_splitUpwards 63 = .ok (.isub, 1) := by decide +kernel
theorem dX2_splitUpwards_64 : decode cX2_splitUpwards 64 = .ok (.iaload, 1) := by decide +kernel
theorem dX2_splitUpwards_65 : decode cX2_splitUpwards 65 = .ok (.iconst 1, 1) := by decide +kernel
theorem dX2_splitUpwards_66 : decode cX2_splitUpwards 66 = .ok (.iadd, 1) := by decide +kernel
theorem dX2_splitUpwards_67 : decode cX2_splitUpwards 67 = .ok (.iconst (-1), 1) := by decide +kernel
theorem dX2_splitUpwards_68 : decode cX2_splitUpwards 68 = .ok (.iload_n 3, 1) := by decide +kernel
theorem dX2_splitUpwards_69 : decode cX2_splitUpwards 69 = .ok (.invokevirtual 44, 3) := by decide +kernel
theorem dX2_splitUpwards_72 : decode cX2_splitUpwards 72 = .ok (.goto 9, 3) := by decide +kernel
theorem dX2_splitUpwards_75 : decode cX2_splitUpwards 75 = .ok (.aload_n 0, 1) := by decide +kernel
theorem dX2_splitUpwards_76 : decode cX2_splitUpwards 76 = .ok (.iload_n 2, 1) := by decide +kernel
theorem dX2_splitUpwards_77 : decode cX2_splitUpwards 77 = .ok (.iload_n 3, 1) := by decide +kernel
theorem dX2_splitUpwards_78 : decode cX2_splitUpwards 78 = .ok (.invokevirtual 95, 3) := by decide +kernel
theorem dX2_splitUpwards_81 : decode cX2_splitUpwards 81 = .ok (.iinc 1 (-1), 3) := by decide +kernel
theorem dX2_splitUpwards_84 : decode cX2_splitUpwards 84 = .ok (.goto (-79), 3) := by decide +kernel
theorem dX2_splitUpwards_87 : decode cX2_splitUpwards 87 = .ok (.return_, 1) := by decide +kernel
theorem dX2_splitOff_0 : decode cX2_splitOff 0 = .ok (.aload_n 0, 1) := by decide +kernel
theorem dX2_splitOff_1 : decode cX2_splitOff 1 = .ok (.getfield 18, 3) := by decide +kernel
theorem dX2_splitOff_4 : decode cX2_splitOff 4 = .ok (.aload_n 0, 1) := by decide +kernel
theorem dX2_splitOff_5 : decode cX2_splitOff 5 = .ok (.getfield 18, 3) := by decide +kernel
theorem dX2_splitOff_8 : decode cX2_splitOff 8 = .ok (.iload_n 1, 1) := by decide +kernel
theorem dX2_splitOff_9 : decode cX2_splitOff 9 = .ok (.invokevirtual 79, 3) := by decide +kernel
theorem dX2_splitOff_12 : decode cX2_splitOff 12 = .ok (.invokevirtual 98, 3) := by decide +kernel
theorem dX2_splitOff_15 : decode cX2_splitOff 15 = .ok (.istore_n 2, 1) := by decide +kernel
theorem dX2_splitOff_16 : decode cX2_splitOff 16 = .ok (.iconst 0, 1) := by decide +kernel
theorem dX2_splitOff_17 : decode cX2_splitOff 17 = .ok (.istore_n 3, 1) := by decide +kernel
theorem dX2_splitOff_18 : decode cX2_splitOff 18 = .ok (.iload_n 3, 1) := by decide +kernel
theorem dX2_splitOff_19 : decode cX2_splitOff 19 = .ok (.iconst 2, 1) := by decide +kernel
theorem dX2_splitOff_20 : decode cX2_splitOff 20 = .ok (.if_icmp .ge 20, 3) := by decide +kernel
theorem dX2_splitOff_23 : decode cX2_splitOff 23 = .ok (.aload_n 0, 1) := by decide +kernel
theorem dX2_splitOff_24 : decode cX2_splitOff 24 = .ok (.getfield 18, 3) := by decide +kernel
theorem dX2_splitOff_27 : decode cX2_splitOff 27 = .ok (.iload_n 1, 1) := by decide +kernel
theorem dX2_splitOff_28 : decode cX2_splitOff 28 = .ok (.iconst 3, 1) := by decide +kernel
theorem dX2_splitOff_29 : decode cX2_splitOff 29 = .ok (.iload_n 2, 1) := by decide +kernel
theorem dX2_splitOff_30 : decode cX2_splitOff 30 = .ok (.iload_n 3, 1) := by decide +kernel
theorem dX2_splitOff_31 : decode cX2_splitOff 31 = .ok (.invokevirtual 102, 3) := by decide +kernel
theorem dX2_splitOff_34 : decode cX2_splitOff 34 = .ok (.iinc 3 1, 3) := by decide +kernel
theorem dX2_splitOff_37 : decode cX2_splitOff 37 = .ok (.goto (-19), 3) := by decide +kernel
theorem dX2_splitOff_40 : decode cX2_splitOff 40 = .ok (.iload_n 2, 1) := by decide +kernel
theorem dX2_splitOff_41 : decode cX2_splitOff 41 = .ok (.ireturn, 1) := by decide +kernel
theorem dX2_growRoot_0 : decode cX2_growRoot 0 = .ok (.aload_n 0, 1) := by decide +kernel
theorem dX2_growRoot_1 : decode cX2_growRoot 1 = .ok (.getfield 18, 3) := by decide +kernel
theorem dX2_growRoot_4 : decode cX2_growRoot 4 = .ok (.iconst 0, 1) := by decide +kernel
theorem dX2_growRoot_5 : decode cX2_growRoot 5 = .ok (.invokevirtual 98, 3) := by decide +kernel
theorem dX2_growRoot_8 : decode cX2_growRoot 8 = .ok (.istore_n 3, 1) := by decide +kernel
theorem dX2_growRoot_9 : decode cX2_growRoot 9 = .ok (.aload_n 0, 1) := by decide +kernel
theorem dX2_growRoot_10 : decode cX2_growRoot 10 = .ok (.getfield 18, 3) := by decide +kernel
theorem dX2_growRoot_13 : decode cX2_growRoot 13 = .ok (.iload_n 3, 1) := by decide +kernel
theorem dX2_growRoot_14 : decode cX2_growRoot 14 = .ok (.iconst 0, 1) := by decide +kernel
theorem dX2_growRoot_15 : decode cX2_growRoot 15 = .ok (.iconst (-1), 1) := by decide +kernel
theorem dX2_growRoot_16 : decode cX2_growRoot 16 = .ok (.iload_n 1, 1) := by decide +kernel
theorem dX2_growRoot_17 : decode cX2_growRoot 17 = .ok (.invokevirtual 44, 3) := by decide +kernel
theorem dX2_growRoot_20 : decode cX2_growRoot 20 = .ok (.aload_n 0, 1) := by decide +kernel
theorem dX2_growRoot_21 : decode cX2_growRoot 21 = .ok (.getfield 18, 3) := by decide +kernel
theorem dX2_growRoot_24 : decode cX2_growRoot 24 = .ok (.iload_n 3, 1) := by decide +kernel
theorem dX2_growRoot_25 : decode cX2_growRoot 25 = .ok (.iconst 1, 1) := by decide +kernel
theorem dX2_growRoot_26 : decode cX2_growRoot 26 = .ok (.iconst (-1), 1) := by decide +kernel
theorem dX2_growRoot_27 : decode cX2_growRoot 27 = .ok (.iload_n 2, 1) := by decide +kernel
theorem dX2_growRoot_28 : decode cX2_growRoot 28 = .ok (.invokevirtual 44, 3) := by decide +kernel
theorem dX2_growRoot_31 : decode cX2_growRoot 31 = .ok (.aload_n 0, 1) := by decide +kernel
theorem dX2_growRoot_32 : decode cX2_growRoot 32 = .ok (.getfield 22, 3) := by decide +kernel
theorem dX2_growRoot_35 : decode cX2_growRoot 35 = .ok (.iload_n 3, 1) := by decide +kernel
theorem dX2_growRoot_36 : decode cX2_growRoot 36 = .ok (.putfield 73, 3) := by decide +kernel
theorem dX2_growRoot_39 : decode cX2_growRoot 39 = .ok (.return_, 1) := by decide +kernel
theorem dX2_mend_0 : decode cX2_mend 0 = .ok (.iload_n 2, 1) := by decide +kernel
theorem dX2_mend_1 : decode cX2_mend 1 = .ok (.ifCond .le 9, 3) := by decide +kernel
theorem dX2_mend_4 : decode cX2_mend 4 = .ok (.iload_n 2, 1) := by decide +kernel
theorem dX2_mend_5 : decode cX2_mend 5 = .ok (.iconst 1, 1) := by decide +kernel
theorem dX2_mend_6 : decode cX2_mend 6 = .ok (.isub, 1) := by decide +kernel
theorem dX2_mend_7 : decode cX2_mend 7 = .ok (.goto 6, 3) := by decide +kernel
theorem dX2_mend_10 : decode cX2_mend 10 = .ok (.iload_n 2, 1) := by decide +kernel
theorem dX2_mend_11 : decode cX2_mend 11 = .ok (.iconst 1, 1) := by decide +kernel
theorem dX2_mend_12 : decode cX2_mend 12 = .ok (.iadd, 1) := by decide +kernel
theorem dX2_mend_13 : decode cX2_mend 13 = .ok (.istore_n 3, 1) := by decide +kernel
theorem dX2_mend_14 : decode cX2_mend 14 = .ok (.iload_n 2, 1) := by decide +kernel
theorem dX2_mend_15 : decode cX2_mend 15 = .ok (.ifCond .le 7, 3) := by decide +kernel
theorem dX2_mend_18 : decode cX2_mend 18 = .ok (.iload_n 3, 1) := by decide +kernel
theorem dX2_mend_19 : decode cX2_mend 19 = .ok (.goto 4, 3) := by decide +kernel
theorem dX2_mend_22 : decode cX2_mend 22 = .ok (.iload_n 2, 1) := by decide +kernel
theorem dX2_mend_23 : decode cX2_mend 23 = .ok (.istore 4, 2) := by decide +kernel
theorem dX2_mend_25 : decode cX2_mend 25 = .ok (.aload_n 0, 1) := by decide +kernel
theorem dX2_mend_26 : decode cX2_mend 26 = .ok (.getfield 18, 3) := by decide +kernel
theorem dX2_mend_29 : decode cX2_mend 29 = .ok (.aload_n 0, 1) := by decide +kernel
theorem dX2_mend_30 : decode cX2_mend 30 = .ok (.getfield 18, 3) := by decide +kernel
theorem dX2_mend_33 : decode cX2_mend 33 = .ok (.iload_n 1, 1) := by decide +kernel
theorem dX2_mend_34 : decode cX2_mend 34 = .ok (.iload_n 3, 1) := by decide +kernel
theorem dX2_mend_35 : decode cX2_mend 35 = .ok (.invokevirtual 89, 3) := by decide +kernel
theorem dX2_mend_38 : decode cX2_mend 38 = .ok (.invokevirtual 64, 3) := by decide +kernel
theorem dX2_mend_41 : decode cX2_mend 41 = .ok (.iconst 2, 1) := by decide +kernel
theorem dX2_mend_42 : decode cX2_mend 42 = .ok (.if_icmp .le 19, 3) := by decide +kernel
theorem dX2_mend_45 : decode cX2_mend 45 = .ok (.aload_n 0, 1) := by decide +kernel
theorem dX2_mend_46 : decode cX2_mend 46 = .ok (.iload_n 1, 1) := by decide +kernel
theorem dX2_mend_47 : decode cX2_mend 47 = .ok (.iload_n 3, 1) := by decide +kernel
theorem dX2_mend_48 : decode cX2_mend 48 = .ok (.invokevirtual 86, 3) := by decide +kernel
theorem dX2_mend_51 : decode cX2_mend 51 = .ok (.aload_n 0, 1) := by decide +kernel
theorem dX2_mend_52 : decode cX2_mend 52 = .ok (.iload_n 1, 1) := by decide +kernel
theorem dX2_mend_53 : decode cX2_mend 53 = .ok (.iload_n 3, 1) := by decide +kernel
theorem dX2_mend_54 : decode cX2_mend 54 = .ok (.iload_n 2, 1) := by decide +kernel
theorem dX2_mend_55 : decode cX2_mend 55 = .ok (.invokevirtual 105, 3) := by decide +kernel
theorem dX2_mend_58 : decode cX2_mend 58 = .ok (.goto 17, 3) := by decide +kernel
theorem dX2_mend_61 : decode cX2_mend 61 = .ok (.aload_n 0, 1) := by decide +kernel
theorem dX2_mend_62 : decode cX2_mend 62 = .ok (.iload_n 1, 1) := by decide +kernel
theorem dX2_mend_63 : decode cX2_mend 63 = .ok (.iload 4, 2) := by decide +kernel
theorem dX2_mend_65 : decode cX2_mend 65 = .ok (.invokevirtual 86, 3) := by decide +kernel
theorem dX2_mend_68 : decode cX2_mend 68 = .ok (.aload_n 0, 1) := by decide +kernel
theorem dX2_mend_69 : decode cX2_mend 69 = .ok (.iload_n 1, 1) := by decide +kernel
theorem dX2_mend_70 : decode cX2_mend 70 = .ok (.iload 4, 2) := by decide +kernel
theorem dX2_mend_72 : decode cX2_mend 72 = .ok (.invokevirtual 108, 3) := by decide +kernel
theorem dX2_mend_75 : decode cX2_mend 75 = .ok (.return_, 1) := by decide +kernel
theorem dX2_writeBelow_0 : decode cX2_writeBelow 0 = .ok (.aload_n 0, 1) := by decide +kernel
theorem dX2_writeBelow_1 : decode cX2_writeBelow 1 = .ok (.getfield 18, 3) := by decide +kernel
theorem dX2_writeBelow_4 : decode cX2_writeBelow 4 = .ok (.iload_n 1, 1) := by decide +kernel
theorem dX2_writeBelow_5 : decode cX2_writeBelow 5 = .ok (.iload_n 2, 1) := by decide +kernel
theorem dX2_writeBelow_6 : decode cX2_writeBelow 6 = .ok (.aload_n 0, 1) := by decide +kernel
theorem dX2_writeBelow_7 : decode cX2_writeBelow 7 = .ok (.getfield 18, 3) := by decide +kernel
theorem dX2_writeBelow_10 : decode cX2_writeBelow 10 = .ok (.aload_n 0, 1) := by decide +kernel
theorem dX2_writeBelow_11 : decode cX2_writeBelow 11 = .ok (.getfield 18, 3) := by decide +kernel
theorem dX2_writeBelow_14 : decode cX2_writeBelow 14 = .ok (.iload_n 1, 1) := by decide +kernel
theorem dX2_writeBelow_15 : decode cX2_writeBelow 15 = .ok (.iload_n 2, 1) := by decide +kernel
theorem dX2_writeBelow_16 : decode cX2_writeBelow 16 = .ok (.invokevirtual 89, 3) := by decide +kernel
theorem dX2_writeBelow_19 : decode cX2_writeBelow 19 = .ok (.invokevirtual 76, 3) := by decide +kernel
theorem dX2_writeBelow_22 : decode cX2_writeBelow 22 = .ok (.invokevirtual 40, 3) := by decide +kernel
theorem dX2_writeBelow_25 : decode cX2_writeBelow 25 = .ok (.return_, 1) := by decide +kernel
theorem dX2_lend_0 : decode cX2_lend 0 = .ok (.aload_n 0, 1) := by decide +kernel
theorem dX2_lend_1 : decode cX2_lend 1 = .ok (.getfield 18, 3) := by decide +kernel
theorem dX2_lend_4 : decode cX2_lend 4 = .ok (.iload_n 1, 1) := by decide +kernel
theorem dX2_lend_5 : decode cX2_lend 5 = .ok (.iload_n 2, 1) := by decide +kernel
theorem dX2_lend_6 : decode cX2_lend 6 = .ok (.invokevirtual 89, 3) := by decide +kernel
theorem dX2_lend_9 : decode cX2_lend 9 = .ok (.istore 4, 2) := by decide +kernel
theorem dX2_lend_11 : decode cX2_lend 11 = .ok (.aload_n 0, 1) := by decide +kernel
theorem dX2_lend_12 : decode cX2_lend 12 = .ok (.getfield 18, 3) := by decide +kernel
theorem dX2_lend_15 : decode cX2_lend 15 = .ok (.iload_n 1, 1) := by decide +kernel
theorem dX2_lend_16 : decode cX2_lend 16 = .ok (.iload_n 3, 1) := by decide +kernel
theorem dX2_lend_17 : decode cX2_lend 17 = .ok (.invokevirtual 89, 3) := by decide +kernel
theorem dX2_lend_20 : decode cX2_lend 20 = .ok (.istore 5, 2) := by decide +kernel
theorem dX2_lend_22 : decode cX2_lend 22 = .ok (.iload_n 2, 1) := by decide +kernel
theorem dX2_lend_23 : decode cX2_lend 23 = .ok (.iload_n 3, 1) := by decide +kernel
theorem dX2_lend_24 : decode cX2_lend 24 = .ok (.if_icmp .ge 29, 3) := by decide +kernel
theorem dX2_lend_27 : decode cX2_lend 27 = .ok (.aload_n 0, 1) := by decide +kernel
theorem dX2_lend_28 : decode cX2_lend 28 = .ok (.getfield 18, 3) := by decide +kernel
theorem dX2_lend_31 : decode cX2_lend 31 = .ok (.iload 4, 2) := by decide +kernel
theorem dX2_lend_33 : decode cX2_lend 33 = .ok (.aload_n 0, 1) := by decide +kernel
theorem dX2_lend_34 : decode cX2_lend 34 = .ok (.getfield 18, 3) := by decide +kernel
theorem dX2_lend_37 : decode cX2_lend 37 = .ok (.iload 4, 2) := by decide +kernel
theorem dX2_lend_39 : decode cX2_lend 39 = .ok (.invokevirtual 64, 3) := by decide +kernel
theorem dX2_lend_42 : decode cX2_lend 42 = .ok (.iconst 1, 1) := by decide +kernel
theorem dX2_lend_43 : decode cX2_lend 43 = .ok (.isub, 1) := by decide +kernel
theorem dX2_lend_44 : decode cX2_lend 44 = .ok (.iload 5, 2) := by decide +kernel
theorem dX2_lend_46 : decode cX2_lend 46 = .ok (.iconst 0, 1) := by decide +kernel
theorem dX2_lend_47 : decode cX2_lend 47 = .ok (.invokevirtual 102, 3) := by decide +kernel
theorem dX2_lend_50 : decode cX2_lend 50 = .ok (.goto 24, 3) := by decide +kernel
theorem dX2_lend_53 : decode cX2_lend 53 = .ok (.aload_n 0, 1) := by decide +kernel
theorem dX2_lend_54 : decode cX2_lend 54 = .ok (.getfield 18, 3) := by decide +kernel
theorem dX2_lend_57 : decode cX2_lend 57 = .ok (.iload 4, 2) := by decide +kernel
theorem dX2_lend_59 : decode cX2_lend 59 = .ok (.iconst 0, 1) := by decide +kernel
theorem dX2_lend_60 : decode cX2_lend 60 = .ok (.iload 5, 2) := by decide +kernel
theorem dX2_lend_62 : decode cX2_lend 62 = .ok (.aload_n 0, 1) := by decide +kernel
theorem dX2_lend_63 : decode cX2_lend 63 = .ok (.getfield 18, 3) := by decide +kernel
theorem dX2_lend_66 : decode cX2_lend 66 = .ok (.iload 5, 2) := by decide +kernel
theorem dX2_lend_68 : decode cX2_lend 68 = .ok (.invokevirtual 64, 3) := by decide +kernel
theorem dX2_lend_71 : decode cX2_lend 71 = .ok (.invokevirtual 102, 3) := by decide +kernel
theorem dX2_lend_74 : decode cX2_lend 74 = .ok (.return_, 1) := by decide +kernel
theorem dX2_join_0 : decode cX2_join 0 = .ok (.aload_n 0, 1) := by decide +kernel
theorem dX2_join_1 : decode cX2_join 1 = .ok (.getfield 18, 3) := by decide +kernel
theorem dX2_join_4 : decode cX2_join 4 = .ok (.iload_n 1, 1) := by decide +kernel
theorem dX2_join_5 : decode cX2_join 5 = .ok (.iload_n 2, 1) := by decide +kernel
theorem dX2_join_6 : decode cX2_join 6 = .ok (.iconst 1, 1) := by decide +kernel
theorem dX2_join_7 : decode cX2_join 7 = .ok (.iadd, 1) := by decide +kernel
theorem dX2_join_8 : decode cX2_join 8 = .ok (.invokevirtual 89, 3) := by decide +kernel
theorem dX2_join_11 : decode cX2_join 11 = .ok (.istore_n 3, 1) := by decide +kernel
theorem dX2_join_12 : decode cX2_join 12 = .ok (.aload_n 0, 1) := by decide +kernel
theorem dX2_join_13 : decode cX2_join 13 = .ok (.getfield 18, 3) := by decide +kernel
theorem dX2_join_16 : decode cX2_join 16 = .ok (.iload_n 3, 1) := by decide +kernel
theorem dX2_join_17 : decode cX2_join 17 = .ok (.aload_n 0, 1) := by decide +kernel
theorem dX2_join_18 : decode cX2_join 18 = .ok (.getfield 18, 3) := by decide +kernel
theorem dX2_join_21 : decode cX2_join 21 = .ok (.iload_n 1, 1) := by decide +kernel
theorem dX2_join_22 : decode cX2_join 22 = .ok (.iload_n 2, 1) := by decide +kernel
theorem dX2_join_23 : decode cX2_join 23 = .ok (.invokevirtual 89, 3) := by decide +kernel
theorem dX2_join_26 : decode cX2_join 26 = .ok (.invokevirtual 111, 3) := by decide +kernel
theorem dX2_join_29 : decode cX2_join 29 = .ok (.aload_n 0, 1) := by decide +kernel
theorem dX2_join_30 : decode cX2_join 30 = .ok (.getfield 18, 3) := by decide +kernel
theorem dX2_join_33 : decode cX2_join 33 = .ok (.iload_n 1, 1) := by decide +kernel
theorem dX2_join_34 : decode cX2_join 34 = .ok (.iload_n 2, 1) := by decide +kernel
theorem dX2_join_35 : decode cX2_join 35 = .ok (.iconst 1, 1) := by decide +kernel
theorem dX2_join_36 : decode cX2_join 36 = .ok (.iadd, 1) := by decide +kernel
theorem dX2_join_37 : decode cX2_join 37 = .ok (.invokevirtual 57, 3) := by decide +kernel
theorem dX2_join_40 : decode cX2_join 40 = .ok (.aload_n 0, 1) := by decide +kernel
theorem dX2_join_41 : decode cX2_join 41 = .ok (.getfield 18, 3) := by decide +kernel
theorem dX2_join_44 : decode cX2_join 44 = .ok (.iload_n 3, 1) := by decide +kernel
theorem dX2_join_45 : decode cX2_join 45 = .ok (.invokevirtual 114, 3) := by decide +kernel
theorem dX2_join_48 : decode cX2_join 48 = .ok (.return_, 1) := by decide +kernel
theorem dX2_shrinkRoot_0 : decode cX2_shrinkRoot 0 = .ok (.aload_n 0, 1) := by decide +kernel
theorem dX2_shrinkRoot_1 : decode cX2_shrinkRoot 1 = .ok (.getfield 22, 3) := by decide +kernel
theorem dX2_shrinkRoot_4 : decode cX2_shrinkRoot 4 = .ok (.getfield 73, 3) := by decide +kernel
theorem dX2_shrinkRoot_7 : decode cX2_shrinkRoot 7 = .ok (.istore_n 1, 1) := by decide +kernel
theorem dX2_shrinkRoot_8 : decode cX2_shrinkRoot 8 = .ok (.aload_n 0, 1) := by decide +kernel
theorem dX2_shrinkRoot_9 : decode cX2_shrinkRoot 9 = .ok (.getfield 18, 3) := by decide +kernel
theorem dX2_shrinkRoot_12 : decode cX2_shrinkRoot 12 = .ok (.iload_n 1, 1) := by decide +kernel
theorem dX2_shrinkRoot_13 : decode cX2_shrinkRoot 13 = .ok (.invokevirtual 79, 3) := by decide +kernel
theorem dX2_shrinkRoot_16 : decode cX2_shrinkRoot 16 = .ok (.ifCond .ne 39, 3) := by decide +kernel
theorem dX2_shrinkRoot_19 : decode cX2_shrinkRoot 19 = .ok (.aload_n 0, 1) := by decide +kernel
theorem dX2_shrinkRoot_20 : decode cX2_shrinkRoot 20 = .ok (.getfield 18, 3) := by decide +kernel
theorem dX2_shrinkRoot_23 : decode cX2_shrinkRoot 23 = .ok (.iload_n 1, 1) := by decide +kernel
theorem dX2_shrinkRoot_24 : decode cX2_shrinkRoot 24 = .ok (.invokevirtual 64, 3) := by decide +kernel
theorem dX2_shrinkRoot_27 : decode cX2_shrinkRoot 27 = .ok (.iconst 1, 1) := by decide +kernel
theorem dX2_shrinkRoot_28 : decode cX2_shrinkRoot 28 = .ok (.if_icmp .ne 27, 3) := by decide +kernel
theorem dX2_shrinkRoot_31 : decode cX2_shrinkRoot 31 = .ok (.aload_n 0, 1) := by decide +kernel
theorem dX2_shrinkRoot_32 : decode cX2_shrinkRoot 32 = .ok (.getfield 22, 3) := by decide +kernel
theorem dX2_shrinkRoot_35 : decode cX2_shrinkRoot 35 = .ok (.aload_n 0, 1) := by decide +kernel
theorem dX2_shrinkRoot_36 : decode cX2_shrinkRoot 36 = .ok (.getfield 18, 3) := by decide +kernel
theorem dX2_shrinkRoot_39 : decode cX2_shrinkRoot 39 = .ok (.iload_n 1, 1) := by decide +kernel
theorem dX2_shrinkRoot_40 : decode cX2_shrinkRoot 40 = .ok (.iconst 0, 1) := by decide +kernel
theorem dX2_shrinkRoot_41 : decode cX2_shrinkRoot 41 = .ok (.invokevirtual 89, 3) := by decide +kernel
theorem dX2_shrinkRoot_44 : decode cX2_shrinkRoot 44 = .ok (.putfield 73, 3) := by decide +kernel
theorem dX2_shrinkRoot_47 : decode cX2_shrinkRoot 47 = .ok (.aload_n 0, 1) := by decide +kernel
theorem dX2_shrinkRoot_48 : decode cX2_shrinkRoot 48 = .ok (.getfield 18, 3) := by decide +kernel
theorem dX2_shrinkRoot_51 : decode cX2_shrinkRoot 51 = .ok (.iload_n 1, 1) := by decide +kernel
theorem dX2_shrinkRoot_52 : decode cX2_shrinkRoot 52 = .ok (.invokevirtual 114, 3) := by decide +kernel
theorem dX2_shrinkRoot_55 : decode cX2_shrinkRoot 55 = .ok (.return_, 1) := by decide +kernel
end
section
/-! decode rows, out of claim/NAMES.whole.lean.txt -/
theorem dX3_init_0 : decode cX3_init 0 = .ok (.aload_n 0, 1) := by decide +kernel
theorem dX3_init_1 : decode cX3_init 1 = .ok (.invokespecial 3, 3) := by decide +kernel
theorem dX3_init_4 : decode cX3_init 4 = .ok (.aload_n 0, 1) := by decide +kernel
theorem dX3_init_5 : decode cX3_init 5 = .ok (.new 9, 3) := by decide +kernel
theorem dX3_init_8 : decode cX3_init 8 = .ok (.dup, 1) := by decide +kernel
theorem dX3_init_9 : decode cX3_init 9 = .ok (.invokespecial 11, 3) := by decide +kernel
theorem dX3_init_12 : decode cX3_init 12 = .ok (.putfield 12, 3) := by decide +kernel
theorem dX3_init_15 : decode cX3_init 15 = .ok (.aload_n 0, 1) := by decide +kernel
theorem dX3_init_16 : decode cX3_init 16 = .ok (.new 16, 3) := by decide +kernel
theorem dX3_init_19 : decode cX3_init 19 = .ok (.dup, 1) := by decide +kernel
theorem dX3_init_20 : decode cX3_init 20 = .ok (.invokespecial 18, 3) := by decide +kernel
theorem dX3_init_23 : decode cX3_init 23 = .ok (.putfield 19, 3) := by decide +kernel
theorem dX3_init_26 : decode cX3_init 26 = .ok (.aload_n 0, 1) := by decide +kernel
theorem dX3_init_27 : decode cX3_init 27 = .ok (.new 16, 3) := by decide +kernel
theorem dX3_init_30 : decode cX3_init 30 = .ok (.dup, 1) := by decide +kernel
theorem dX3_init_31 : decode cX3_init 31 = .ok (.invokespecial 18, 3) := by decide +kernel
theorem dX3_init_34 : decode cX3_init 34 = .ok (.putfield 23, 3) := by decide +kernel
theorem dX3_init_37 : decode cX3_init 37 = .ok (.aload_n 0, 1) := by decide +kernel
theorem dX3_init_38 : decode cX3_init 38 = .ok (.new 26, 3) := by decide +kernel
theorem dX3_init_41 : decode cX3_init 41 = .ok (.dup, 1) := by decide +kernel
theorem dX3_init_42 : decode cX3_init 42 = .ok (.aload_n 0, 1) := by decide +kernel
theorem dX3_init_43 : decode cX3_init 43 = .ok (.getfield 12, 3) := by decide +kernel
theorem dX3_init_46 : decode cX3_init 46 = .ok (.aload_n 0, 1) := by decide +kernel
theorem dX3_init_47 : decode cX3_init 47 = .ok (.getfield 23, 3) := by decide +kernel
theorem dX3_init_50 : decode cX3_init 50 = .ok (.invokespecial 28, 3) := by decide +kernel
theorem dX3_init_53 : decode cX3_init 53 = .ok (.putfield 31, 3) := by decide +kernel
theorem dX3_init_56 : decode cX3_init 56 = .ok (.aload_n 0, 1) := by decide +kernel
theorem dX3_init_57 : decode cX3_init 57 = .ok (.iconst 4, 1) := by decide +kernel
theorem dX3_init_58 : decode cX3_init 58 = .ok (.anewarray 16, 3) := by decide +kernel
theorem dX3_init_61 : decode cX3_init 61 = .ok (.putfield 35, 3) := by decide +kernel
theorem dX3_init_64 : decode cX3_init 64 = .ok (.iconst 0, 1) := by decide +kernel
theorem dX3_init_65 : decode cX3_init 65 = .ok (.istore_n 1, 1) := by decide +kernel
theorem dX3_init_66 : decode cX3_init 66 = .ok (.iload_n 1, 1) := by decide +kernel
theorem dX3_init_67 : decode cX3_init 67 = .ok (.iconst 4, 1) := by decide +kernel
theorem dX3_init_68 : decode cX3_init 68 = .ok (.if_icmp .ge 22, 3) := by decide +kernel
theorem dX3_init_71 : decode cX3_init 71 = .ok (.aload_n 0, 1) := by decide +kernel
theorem dX3_init_72 : decode cX3_init 72 = .ok (.getfield 35, 3) := by decide +kernel
theorem dX3_init_75 : decode cX3_init 75 = .ok (.iload_n 1, 1) := by decide +kernel
theorem dX3_init_76 : decode cX3_init 76 = .ok (.new 16, 3) := by decide +kernel
theorem dX3_init_79 : decode cX3_init 79 = .ok (.dup, 1) := by decide +kernel
theorem dX3_init_80 : decode cX3_init 80 = .ok (.invokespecial 18, 3) := by decide +kernel
theorem dX3_init_83 : decode cX3_init 83 = .ok (.aastore, 1) := by decide +kernel
theorem dX3_init_84 : decode cX3_init 84 = .ok (.iinc 1 1, 3) := by decide +kernel
theorem dX3_init_87 : decode cX3_init 87 = .ok (.goto (-21), 3) := by decide +kernel
theorem dX3_init_90 : decode cX3_init 90 = .ok (.aload_n 0, 1) := by decide +kernel
theorem dX3_init_91 : decode cX3_init 91 = .ok (.bipush 8, 2) := by decide +kernel
theorem dX3_init_93 : decode cX3_init 93 = .ok (.newarray .long, 2) := by decide +kernel
theorem dX3_init_95 : decode cX3_init 95 = .ok (.putfield 39, 3) := by decide +kernel
theorem dX3_init_98 : decode cX3_init 98 = .ok (.aload_n 0, 1) := by decide +kernel
theorem dX3_init_99 : decode cX3_init 99 = .ok (.iconst 0, 1) := by decide +kernel
theorem dX3_init_100 : decode cX3_init 100 = .ok (.putfield 43, 3) := by decide +kernel
theorem dX3_init_103 : decode cX3_init 103 = .ok (.aload_n 0, 1) := by decide +kernel
theorem dX3_init_104 : decode cX3_init 104 = .ok (.getfield 12, 3) := by decide +kernel
theorem dX3_init_107 : decode cX3_init 107 = .ok (.aload_n 0, 1) := by decide +kernel
theorem dX3_init_108 : decode cX3_init 108 = .ok (.getfield 12, 3) := by decide +kernel
theorem dX3_init_111 : decode cX3_init 111 = .ok (.getfield 47, 3) := by decide +kernel
theorem dX3_init_114 : decode cX3_init 114 = .ok (.aload_n 0, 1) := by decide +kernel
theorem dX3_init_115 : decode cX3_init 115 = .ok (.getfield 19, 3) := by decide +kernel
theorem dX3_init_118 : decode cX3_init 118 = .ok (.getfield 51, 3) := by decide +kernel
theorem dX3_init_121 : decode cX3_init 121 = .ok (.invokevirtual 54, 3) := by decide +kernel
theorem dX3_init_124 : decode cX3_init 124 = .ok (.return_, 1) := by decide +kernel
theorem dX3_beginBatch_0 : decode cX3_beginBatch 0 = .ok (.aload_n 0, 1) := by decide +kernel
theorem dX3_beginBatch_1 : decode cX3_beginBatch 1 = .ok (.getfield 23, 3) := by decide +kernel
theorem dX3_beginBatch_4 : decode cX3_beginBatch 4 = .ok (.getfield 58, 3) := by decide +kernel
theorem dX3_beginBatch_7 : decode cX3_beginBatch 7 = .ok (.ifCond .eq 13, 3) := by decide +kernel
theorem dX3_beginBatch_10 : decode cX3_beginBatch 10 = .ok (.new 62, 3) := by decide +kernel
theorem dX3_beginBatch_13 : decode cX3_beginBatch 13 = .ok (.dup, 1) := by decide +kernel
theorem dX3_beginBatch_14 : decode cX3_beginBatch 14 = .ok (.ldc 64, 2) := by decide +kernel
theorem dX3_beginBatch_16 : decode cX3_beginBatch 16 = .ok (.invokespecial 66, 3) := by decide +kernel
theorem dX3_beginBatch_19 : decode cX3_beginBatch 19 = .ok (.athrow, 1) := by decide +kernel
theorem dX3_beginBatch_20 : decode cX3_beginBatch 20 = .ok (.aload_n 0, 1) := by decide +kernel
theorem dX3_beginBatch_21 : decode cX3_beginBatch 21 = .ok (.getfield 23, 3) := by decide +kernel
theorem dX3_beginBatch_24 : decode cX3_beginBatch 24 = .ok (.aload_n 0, 1) := by decide +kernel
theorem dX3_beginBatch_25 : decode cX3_beginBatch 25 = .ok (.getfield 19, 3) := by decide +kernel
theorem dX3_beginBatch_28 : decode cX3_beginBatch 28 = .ok (.invokevirtual 69, 3) := by decide +kernel
theorem dX3_beginBatch_31 : decode cX3_beginBatch 31 = .ok (.aload_n 0, 1) := by decide +kernel
theorem dX3_beginBatch_32 : decode cX3_beginBatch 32 = .ok (.getfield 23, 3) := by decide +kernel
theorem dX3_beginBatch_35 : decode cX3_beginBatch 35 = .ok (.aload_n 0, 1) := by decide +kernel
theorem dX3_beginBatch_36 : decode cX3_beginBatch 36 = .ok (.getfield 19, 3) := by decide +kernel
theorem dX3_beginBatch_39 : decode cX3_beginBatch 39 = .ok (.getfield 73, 3) := by decide +kernel
theorem dX3_beginBatch_42 : decode cX3_beginBatch 42 = .ok (.iconst 1, 1) := by decide +kernel
theorem dX3_beginBatch_43 : decode cX3_beginBatch 43 = .ok (.iadd, 1) := by decide +kernel
theorem dX3_beginBatch_44 : decode cX3_beginBatch 44 = .ok (.putfield 73, 3) := by decide +kernel
theorem dX3_beginBatch_47 : decode cX3_beginBatch 47 = .ok (.aload_n 0, 1) := by decide +kernel
theorem dX3_beginBatch_48 : decode cX3_beginBatch 48 = .ok (.getfield 23, 3) := by decide +kernel
theorem dX3_beginBatch_51 : decode cX3_beginBatch 51 = .ok (.getfield 73, 3) := by decide +kernel
theorem dX3_beginBatch_54 : decode cX3_beginBatch 54 = .ok (.ireturn, 1) := by decide +kernel
theorem dX3_hasBatch_0 : decode cX3_hasBatch 0 = .ok (.aload_n 0, 1) := by decide +kernel
theorem dX3_hasBatch_1 : decode cX3_hasBatch 1 = .ok (.getfield 23, 3) := by decide +kernel
theorem dX3_hasBatch_4 : decode cX3_hasBatch 4 = .ok (.getfield 58, 3) := by decide +kernel
theorem dX3_hasBatch_7 : decode cX3_hasBatch 7 = .ok (.ireturn, 1) := by decide +kernel
theorem dX3_put_0 : decode cX3_put 0 = .ok (.iload_n 1, 1) := by decide +kernel
theorem dX3_put_1 : decode cX3_put 1 = .ok (.invokestatic 76, 3) := by decide +kernel
theorem dX3_put_4 : decode cX3_put 4 = .ok (.aload_n 0, 1) := by decide +kernel
theorem dX3_put_5 : decode cX3_put 5 = .ok (.invokevirtual 80, 3) := by decide +kernel
theorem dX3_put_8 : decode cX3_put 8 = .ok (.aload_n 0, 1) := by decide +kernel
theorem dX3_put_9 : decode cX3_put 9 = .ok (.getfield 31, 3) := by decide +kernel
theorem dX3_put_12 : decode cX3_put 12 = .ok (.iload_n 1, 1) := by decide +kernel
theorem dX3_put_13 : decode cX3_put 13 = .ok (.iload_n 2, 1) := by decide +kernel
theorem dX3_put_14 : decode cX3_put 14 = .ok (.invokevirtual 83, 3) := by decide +kernel
theorem dX3_put_17 : decode cX3_put 17 = .ok (.ireturn, 1) := by decide +kernel
theorem dX3_delete_0 : decode cX3_delete 0 = .ok (.iload_n 1, 1) := by decide +kernel
theorem dX3_delete_1 : decode cX3_delete 1 = .ok (.invokestatic 76, 3) := by decide +kernel
theorem dX3_delete_4 : decode cX3_delete 4 = .ok (.aload_n 0, 1) := by decide +kernel
theorem dX3_delete_5 : decode cX3_delete 5 = .ok (.invokevirtual 80, 3) := by decide +kernel
theorem dX3_delete_8 : decode cX3_delete 8 = .ok (.aload_n 0, 1) := by decide +kernel
theorem dX3_delete_9 : decode cX3_delete 9 = .ok (.aload_n 0, 1) := by decide +kernel
theorem dX3_delete_10 : decode cX3_delete 10 = .ok (.getfield 23, 3) := by decide +kernel
theorem dX3_delete_13 : decode cX3_delete 13 = .ok (.iload_n 1, 1) := by decide +kernel
theorem dX3_delete_14 : decode cX3_delete 14 = .ok (.invokevirtual 87, 3) := by decide +kernel
theorem dX3_delete_17 : decode cX3_delete 17 = .ok (.istore_n 2, 1) := by decide +kernel
theorem dX3_delete_18 : decode cX3_delete 18 = .ok (.aload_n 0, 1) := by decide +kernel
theorem dX3_delete_19 : decode cX3_delete 19 = .ok (.getfield 31, 3) := by decide +kernel
theorem dX3_delete_22 : decode cX3_delete 22 = .ok (.iload_n 1, 1) := by decide +kernel
theorem dX3_delete_23 : decode cX3_delete 23 = .ok (.invokevirtual 91, 3) := by decide +kernel
theorem dX3_delete_26 : decode cX3_delete 26 = .ok (.iload_n 2, 1) := by decide +kernel
theorem dX3_delete_27 : decode cX3_delete 27 = .ok (.ireturn, 1) := by decide +kernel
theorem dX3_commit_0 : decode cX3_commit 0 = .ok (.aload_n 0, 1) := by decide +kernel
theorem dX3_commit_1 : decode cX3_commit 1 = .ok (.invokevirtual 80, 3) := by decide +kernel
theorem dX3_commit_4 : decode cX3_commit 4 = .ok (.aload_n 0, 1) := by decide +kernel
theorem dX3_commit_5 : decode cX3_commit 5 = .ok (.getfield 43, 3) := by decide +kernel
theorem dX3_commit_8 : decode cX3_commit 8 = .ok (.invokestatic 94, 3) := by decide +kernel
theorem dX3_commit_11 : decode cX3_commit 11 = .ok (.istore_n 1, 1) := by decide +kernel
theorem dX3_commit_12 : decode cX3_commit 12 = .ok (.aload_n 0, 1) := by decide +kernel
theorem dX3_commit_13 : decode cX3_commit 13 = .ok (.iload_n 1, 1) := by decide +kernel
theorem dX3_commit_14 : decode cX3_commit 14 = .ok (.iconst 4, 1) := by decide +kernel
theorem dX3_commit_15 : decode cX3_commit 15 = .ok (.invokevirtual 98, 3) := by decide +kernel
theorem dX3_commit_18 : decode cX3_commit 18 = .ok (.aload_n 0, 1) := by decide +kernel
theorem dX3_commit_19 : decode cX3_commit 19 = .ok (.iload_n 1, 1) := by decide +kernel
theorem dX3_commit_20 : decode cX3_commit 20 = .ok (.putfield 43, 3) := by decide +kernel
theorem dX3_commit_23 : decode cX3_commit 23 = .ok (.aload_n 0, 1) := by decide +kernel
theorem dX3_commit_24 : decode cX3_commit 24 = .ok (.getfield 19, 3) := by decide +kernel
theorem dX3_commit_27 : decode cX3_commit 27 = .ok (.aload_n 0, 1) := by decide +kernel
theorem dX3_commit_28 : decode cX3_commit 28 = .ok (.getfield 23, 3) := by decide +kernel
theorem dX3_commit_31 : decode cX3_commit 31 = .ok (.invokevirtual 69, 3) := by decide +kernel
theorem dX3_commit_34 : decode cX3_commit 34 = .ok (.aload_n 0, 1) := by decide +kernel
theorem dX3_commit_35 : decode cX3_commit 35 = .ok (.invokevirtual 102, 3) := by decide +kernel
theorem dX3_commit_38 : decode cX3_commit 38 = .ok (.aload_n 0, 1) := by decide +kernel
theorem dX3_commit_39 : decode cX3_commit 39 = .ok (.getfield 19, 3) := by decide +kernel
theorem dX3_commit_42 : decode cX3_commit 42 = .ok (.getfield 73, 3) := by decide +kernel
theorem dX3_commit_45 : decode cX3_commit 45 = .ok (.ireturn, 1) := by decide +kernel
theorem dX3_abandon_0 : decode cX3_abandon 0 = .ok (.aload_n 0, 1) := by decide +kernel
theorem dX3_abandon_1 : decode cX3_abandon 1 = .ok (.invokevirtual 80, 3) := by decide +kernel
theorem dX3_abandon_4 : decode cX3_abandon 4 = .ok (.aload_n 0, 1) := by decide +kernel
theorem dX3_abandon_5 : decode cX3_abandon 5 = .ok (.invokevirtual 105, 3) := by decide +kernel
theorem dX3_abandon_8 : decode cX3_abandon 8 = .ok (.istore_n 1, 1) := by decide +kernel
theorem dX3_abandon_9 : decode cX3_abandon 9 = .ok (.aload_n 0, 1) := by decide +kernel
theorem dX3_abandon_10 : decode cX3_abandon 10 = .ok (.invokevirtual 102, 3) := by decide +kernel
theorem dX3_abandon_13 : decode cX3_abandon 13 = .ok (.iload_n 1, 1) := by decide +kernel
theorem dX3_abandon_14 : decode cX3_abandon 14 = .ok (.aload_n 0, 1) := by decide +kernel
theorem dX3_abandon_15 : decode cX3_abandon 15 = .ok (.invokevirtual 105, 3) := by decide +kernel
theorem dX3_abandon_18 : decode cX3_abandon 18 = .ok (.isub, 1) := by decide +kernel
theorem dX3_abandon_19 : decode cX3_abandon 19 = .ok (.ireturn, 1) := by decide +kernel
theorem dX3_openReader_0 : decode cX3_openReader 0 = .ok (.iconst 0, 1) := by decide +kernel
theorem dX3_openReader_1 : decode cX3_openReader 1 = .ok (.istore_n 1, 1) := by decide +kernel
theorem dX3_openReader_2 : decode cX3_openReader 2 = .ok (.iload_n 1, 1) := by decide +kernel
theorem dX3_openReader_3 : decode cX3_openReader 3 = .ok (.iconst 4, 1) := by decide +kernel
theorem dX3_openReader_4 : decode cX3_openReader 4 = .ok (.if_icmp .ge 32, 3) := by decide +kernel
theorem dX3_openReader_7 : decode cX3_openReader 7 = .ok (.aload_n 0, 1) := by decide +kernel
theorem dX3_openReader_8 : decode cX3_openReader 8 = .ok (.iload_n 1, 1) := by decide +kernel
theorem dX3_openReader_9 : decode cX3_openReader 9 = .ok (.invokevirtual 109, 3) := by decide +kernel
theorem dX3_openReader_12 : decode cX3_openReader 12 = .ok (.ifCond .ne 18, 3) := by decide +kernel
theorem dX3_openReader_15 : decode cX3_openReader 15 = .ok (.aload_n 0, 1) := by decide +kernel
theorem dX3_openReader_16 : decode cX3_openReader 16 = .ok (.getfield 35, 3) := by decide +kernel
theorem dX3_openReader_19 : decode cX3_openReader 19 = .ok (.iload_n 1, 1) := by decide +kernel
theorem dX3_openReader_20 : decode cX3_openReader 20 = .ok (.aaload, 1) := by decide +kernel
theorem dX3_openReader_21 : decode cX3_openReader 21 = .ok (.aload_n 0, 1) := by decide +kernel
theorem dX3_openReader_22 : decode cX3_openReader 22 = .ok (.getfield 19, 3) := by decide +kernel
theorem dX3_openReader_25 : decode cX3_openReader 25 = .ok (.invokevirtual 69, 3) := by decide +kernel
theorem dX3_openReader_28 : decode cX3_openReader 28 = .ok (.iload_n 1, 1) := by decide +kernel
theorem dX3_openReader_29 : decode cX3_openReader 29 = .ok (.ireturn, 1) := by decide +kernel
theorem dX3_openReader_30 : decode cX3_openReader 30 = .ok (.iinc 1 1, 3) := by decide +kernel
theorem dX3_openReader_33 : decode cX3_openReader 33 = .ok (.goto (-31), 3) := by decide +kernel
theorem dX3_openReader_36 : decode cX3_openReader 36 = .ok (.new 62, 3) := by decide +kernel
theorem dX3_openReader_39 : decode cX3_openReader 39 = .ok (.dup, 1) := by decide +kernel
theorem dX3_openReader_40 : decode cX3_openReader 40 = .ok (.ldc 113, 2) := by decide +kernel
theorem dX3_openReader_42 : decode cX3_openReader 42 = .ok (.invokespecial 66, 3) := by decide +kernel
theorem dX3_openReader_45 : decode cX3_openReader 45 = .ok (.athrow, 1) := by decide +kernel
theorem dX3_closeReader_0 : decode cX3_closeReader 0 = .ok (.aload_n 0, 1) := by decide +kernel
theorem dX3_closeReader_1 : decode cX3_closeReader 1 = .ok (.iload_n 1, 1) := by decide +kernel
theorem dX3_closeReader_2 : decode cX3_closeReader 2 = .ok (.invokevirtual 115, 3) := by decide +kernel
theorem dX3_closeReader_5 : decode cX3_closeReader 5 = .ok (.aload_n 0, 1) := by decide +kernel
theorem dX3_closeReader_6 : decode cX3_closeReader 6 = .ok (.invokevirtual 105, 3) := by decide +kernel
theorem dX3_closeReader_9 : decode cX3_closeReader 9 = .ok (.istore_n 2, 1) := by decide +kernel
theorem dX3_closeReader_10 : decode cX3_closeReader 10 = .ok (.aload_n 0, 1) := by decide +kernel
theorem dX3_closeReader_11 : decode cX3_closeReader 11 = .ok (.getfield 35, 3) := by decide +kernel
theorem dX3_closeReader_14 : decode cX3_closeReader 14 = .ok (.iload_n 1, 1) := by decide +kernel
theorem dX3_closeReader_15 : decode cX3_closeReader 15 = .ok (.aaload, 1) := by decide +kernel
theorem dX3_closeReader_16 : decode cX3_closeReader 16 = .ok (.iconst 0, 1) := by decide +kernel
theorem dX3_closeReader_17 : decode cX3_closeReader 17 = .ok (.putfield 58, 3) := by decide +kernel
theorem dX3_closeReader_20 : decode cX3_closeReader 20 = .ok (.aload_n 0, 1) := by decide +kernel
theorem dX3_closeReader_21 : decode cX3_closeReader 21 = .ok (.aload_n 0, 1) := by decide +kernel
theorem dX3_closeReader_22 : decode cX3_closeReader 22 = .ok (.getfield 12, 3) := by decide +kernel
theorem dX3_closeReader_25 : decode cX3_closeReader 25 = .ok (.getfield 47, 3) := by decide +kernel
theorem dX3_closeReader_28 : decode cX3_closeReader 28 = .ok (.iconst (-1), 1) := by decide +kernel
theorem dX3_closeReader_29 : decode cX3_closeReader 29 = .ok (.invokevirtual 118, 3) := by decide +kernel
theorem dX3_closeReader_32 : decode cX3_closeReader 32 = .ok (.iload_n 2, 1) := by decide +kernel
theorem dX3_closeReader_33 : decode cX3_closeReader 33 = .ok (.aload_n 0, 1) := by decide +kernel
theorem dX3_closeReader_34 : decode cX3_closeReader 34 = .ok (.invokevirtual 105, 3) := by decide +kernel
theorem dX3_closeReader_37 : decode cX3_closeReader 37 = .ok (.isub, 1) := by decide +kernel
theorem dX3_closeReader_38 : decode cX3_closeReader 38 = .ok (.ireturn, 1) := by decide +kernel
theorem dX3_readers_0 : decode cX3_readers 0 = .ok (.iconst 0, 1) := by decide +kernel
theorem dX3_readers_1 : decode cX3_readers 1 = .ok (.istore_n 1, 1) := by decide +kernel
theorem dX3_readers_2 : decode cX3_readers 2 = .ok (.iconst 0, 1) := by decide +kernel
theorem dX3_readers_3 : decode cX3_readers 3 = .ok (.istore_n 2, 1) := by decide +kernel
theorem dX3_readers_4 : decode cX3_readers 4 = .ok (.iload_n 2, 1) := by decide +kernel
theorem dX3_readers_5 : decode cX3_readers 5 = .ok (.iconst 4, 1) := by decide +kernel
theorem dX3_readers_6 : decode cX3_readers 6 = .ok (.if_icmp .ge 20, 3) := by decide +kernel
theorem dX3_readers_9 : decode cX3_readers 9 = .ok (.aload_n 0, 1) := by decide +kernel
theorem dX3_readers_10 : decode cX3_readers 10 = .ok (.iload_n 2, 1) := by decide +kernel
theorem dX3_readers_11 : decode cX3_readers 11 = .ok (.invokevirtual 109, 3) := by decide +kernel
theorem dX3_readers_14 : decode cX3_readers 14 = .ok (.ifCond .eq 6, 3) := by decide +kernel
theorem dX3_readers_17 : decode cX3_readers 17 = .ok (.iinc 1 1, 3) := by decide +kernel
theorem dX3_readers_20 : decode cX3_readers 20 = .ok (.iinc 2 1, 3) := by decide +kernel
theorem dX3_readers_23 : decode cX3_readers 23 = .ok (.goto (-19), 3) := by decide +kernel
theorem dX3_readers_26 : decode cX3_readers 26 = .ok (.iload_n 1, 1) := by decide +kernel
theorem dX3_readers_27 : decode cX3_readers 27 = .ok (.ireturn, 1) := by decide +kernel
theorem dX3_heldBy_0 : decode cX3_heldBy 0 = .ok (.aload_n 0, 1) := by decide +kernel
theorem dX3_heldBy_1 : decode cX3_heldBy 1 = .ok (.iload_n 1, 1) := by decide +kernel
theorem dX3_heldBy_2 : decode cX3_heldBy 2 = .ok (.invokevirtual 115, 3) := by decide +kernel
theorem dX3_heldBy_5 : decode cX3_heldBy 5 = .ok (.aload_n 0, 1) := by decide +kernel
theorem dX3_heldBy_6 : decode cX3_heldBy 6 = .ok (.aload_n 0, 1) := by decide +kernel
theorem dX3_heldBy_7 : decode cX3_heldBy 7 = .ok (.getfield 12, 3) := by decide +kernel
theorem dX3_heldBy_10 : decode cX3_heldBy 10 = .ok (.getfield 121, 3) := by decide +kernel
theorem dX3_heldBy_13 : decode cX3_heldBy 13 = .ok (.iload_n 1, 1) := by decide +kernel
theorem dX3_heldBy_14 : decode cX3_heldBy 14 = .ok (.invokevirtual 118, 3) := by decide +kernel
theorem dX3_heldBy_17 : decode cX3_heldBy 17 = .ok (.iconst 0, 1) := by decide +kernel
theorem dX3_heldBy_18 : decode cX3_heldBy 18 = .ok (.istore_n 2, 1) := by decide +kernel
theorem dX3_heldBy_19 : decode cX3_heldBy 19 = .ok (.iconst 0, 1) := by decide +kernel
theorem dX3_heldBy_20 : decode cX3_heldBy 20 = .ok (.istore_n 3, 1) := by decide +kernel
theorem dX3_heldBy_21 : decode cX3_heldBy 21 = .ok (.iload_n 3, 1) := by decide +kernel
theorem dX3_heldBy_22 : decode cX3_heldBy 22 = .ok (.sipush 800, 3) := by decide +kernel
theorem dX3_heldBy_25 : decode cX3_heldBy 25 = .ok (.if_icmp .ge 36, 3) := by decide +kernel
theorem dX3_heldBy_28 : decode cX3_heldBy 28 = .ok (.aload_n 0, 1) := by decide +kernel
theorem dX3_heldBy_29 : decode cX3_heldBy 29 = .ok (.getfield 12, 3) := by decide +kernel
theorem dX3_heldBy_32 : decode cX3_heldBy 32 = .ok (.getfield 47, 3) := by decide +kernel
theorem dX3_heldBy_35 : decode cX3_heldBy 35 = .ok (.iload_n 3, 1) := by decide +kernel
theorem dX3_heldBy_36 : decode cX3_heldBy 36 = .ok (.baload, 1) := by decide +kernel
theorem dX3_heldBy_37 : decode cX3_heldBy 37 = .ok (.ifCond .eq 18, 3) := by decide +kernel
theorem dX3_heldBy_40 : decode cX3_heldBy 40 = .ok (.aload_n 0, 1) := by decide +kernel
theorem dX3_heldBy_41 : decode cX3_heldBy 41 = .ok (.getfield 12, 3) := by decide +kernel
theorem dX3_heldBy_44 : decode cX3_heldBy 44 = .ok (.getfield 121, 3) := by decide +kernel
theorem dX3_heldBy_47 : decode cX3_heldBy 47 = .ok (.iload_n 3, 1) := by decide +kernel
theorem dX3_heldBy_48 : decode cX3_heldBy 48 = .ok (.baload, 1) := by decide +kernel
theorem dX3_heldBy_49 : decode cX3_heldBy 49 = .ok (.ifCond .ne 6, 3) := by decide +kernel
theorem dX3_heldBy_52 : decode cX3_heldBy 52 = .ok (.iinc 2 1, 3) := by decide +kernel
theorem dX3_heldBy_55 : decode cX3_heldBy 55 = .ok (.iinc 3 1, 3) := by decide +kernel
theorem dX3_heldBy_58 : decode cX3_heldBy 58 = .ok (.goto (-37), 3) := by decide +kernel
theorem dX3_heldBy_61 : decode cX3_heldBy 61 = .ok (.iload_n 2, 1) := by decide +kernel
theorem dX3_heldBy_62 : decode cX3_heldBy 62 = .ok (.ireturn, 1) := by decide +kernel
theorem dX3_epochOf_0 : decode cX3_epochOf 0 = .ok (.aload_n 0, 1) := by decide +kernel
theorem dX3_epochOf_1 : decode cX3_epochOf 1 = .ok (.iload_n 1, 1) := by decide +kernel
theorem dX3_epochOf_2 : decode cX3_epochOf 2 = .ok (.invokevirtual 124, 3) := by decide +kernel
theorem dX3_epochOf_5 : decode cX3_epochOf 5 = .ok (.getfield 73, 3) := by decide +kernel
theorem dX3_epochOf_8 : decode cX3_epochOf 8 = .ok (.ireturn, 1) := by decide +kernel
theorem dX3_get_0 : decode cX3_get 0 = .ok (.aload_n 0, 1) := by decide +kernel
theorem dX3_get_1 : decode cX3_get 1 = .ok (.iload_n 1, 1) := by decide +kernel
theorem dX3_get_2 : decode cX3_get 2 = .ok (.invokevirtual 124, 3) := by decide +kernel
theorem dX3_get_5 : decode cX3_get 5 = .ok (.astore_n 3, 1) := by decide +kernel
theorem dX3_get_6 : decode cX3_get 6 = .ok (.iload_n 2, 1) := by decide +kernel
theorem dX3_get_7 : decode cX3_get 7 = .ok (.invokestatic 76, 3) := by decide +kernel
theorem dX3_get_10 : decode cX3_get 10 = .ok (.aload_n 0, 1) := by decide +kernel
theorem dX3_get_11 : decode cX3_get 11 = .ok (.aload_n 3, 1) := by decide +kernel
theorem dX3_get_12 : decode cX3_get 12 = .ok (.iload_n 2, 1) := by decide +kernel
theorem dX3_get_13 : decode cX3_get 13 = .ok (.invokevirtual 87, 3) := by decide +kernel
theorem dX3_get_16 : decode cX3_get 16 = .ok (.ireturn, 1) := by decide +kernel
theorem dX3_next_0 : decode cX3_next 0 = .ok (.aload_n 0, 1) := by decide +kernel
theorem dX3_next_1 : decode cX3_next 1 = .ok (.getfield 12, 3) := by decide +kernel
theorem dX3_next_4 : decode cX3_next 4 = .ok (.aload_n 0, 1) := by decide +kernel
theorem dX3_next_5 : decode cX3_next 5 = .ok (.iload_n 1, 1) := by decide +kernel
theorem dX3_next_6 : decode cX3_next 6 = .ok (.invokevirtual 124, 3) := by decide +kernel
theorem dX3_next_9 : decode cX3_next 9 = .ok (.getfield 51, 3) := by decide +kernel
theorem dX3_next_12 : decode cX3_next 12 = .ok (.iload_n 2, 1) := by decide +kernel
theorem dX3_next_13 : decode cX3_next 13 = .ok (.invokevirtual 128, 3) := by decide +kernel
theorem dX3_next_16 : decode cX3_next 16 = .ok (.ireturn, 1) := by decide +kernel
theorem dX3_rank_0 : decode cX3_rank 0 = .ok (.aload_n 0, 1) := by decide +kernel
theorem dX3_rank_1 : decode cX3_rank 1 = .ok (.getfield 12, 3) := by decide +kernel
theorem dX3_rank_4 : decode cX3_rank 4 = .ok (.aload_n 0, 1) := by decide +kernel
theorem dX3_rank_5 : decode cX3_rank 5 = .ok (.iload_n 1, 1) := by decide +kernel
theorem dX3_rank_6 : decode cX3_rank 6 = .ok (.invokevirtual 124, 3) := by decide +kernel
theorem dX3_rank_9 : decode cX3_rank 9 = .ok (.getfield 51, 3) := by decide +kernel
theorem dX3_rank_12 : decode cX3_rank 12 = .ok (.iload_n 2, 1) := by decide +kernel
theorem dX3_rank_13 : decode cX3_rank 13 = .ok (.invokevirtual 132, 3) := by decide +kernel
theorem dX3_rank_16 : decode cX3_rank 16 = .ok (.ireturn, 1) := by decide +kernel
theorem dX3_size_0 : decode cX3_size 0 = .ok (.aload_n 0, 1) := by decide +kernel
theorem dX3_size_1 : decode cX3_size 1 = .ok (.iload_n 1, 1) := by decide +kernel
theorem dX3_size_2 : decode cX3_size 2 = .ok (.invokevirtual 124, 3) := by decide +kernel
theorem dX3_size_5 : decode cX3_size 5 = .ok (.getfield 135, 3) := by decide +kernel
theorem dX3_size_8 : decode cX3_size 8 = .ok (.ireturn, 1) := by decide +kernel
theorem dX3_depth_0 : decode cX3_depth 0 = .ok (.aload_n 0, 1) := by decide +kernel
theorem dX3_depth_1 : decode cX3_depth 1 = .ok (.getfield 12, 3) := by decide +kernel
theorem dX3_depth_4 : decode cX3_depth 4 = .ok (.aload_n 0, 1) := by decide +kernel
theorem dX3_depth_5 : decode cX3_depth 5 = .ok (.iload_n 1, 1) := by decide +kernel
theorem dX3_depth_6 : decode cX3_depth 6 = .ok (.invokevirtual 124, 3) := by decide +kernel
theorem dX3_depth_9 : decode cX3_depth 9 = .ok (.getfield 51, 3) := by decide +kernel
theorem dX3_depth_12 : decode cX3_depth 12 = .ok (.invokevirtual 138, 3) := by decide +kernel
theorem dX3_depth_15 : decode cX3_depth 15 = .ok (.ireturn, 1) := by decide +kernel
theorem dX3_rootOf_0 : decode cX3_rootOf 0 = .ok (.aload_n 0, 1) := by decide +kernel
theorem dX3_rootOf_1 : decode cX3_rootOf 1 = .ok (.iload_n 1, 1) := by decide +kernel
theorem dX3_rootOf_2 : decode cX3_rootOf 2 = .ok (.invokevirtual 124, 3) := by decide +kernel
theorem dX3_rootOf_5 : decode cX3_rootOf 5 = .ok (.getfield 51, 3) := by decide +kernel
theorem dX3_rootOf_8 : decode cX3_rootOf 8 = .ok (.ireturn, 1) := by decide +kernel
theorem dX3_sharedPages_0 : decode cX3_sharedPages 0 = .ok (.aload_n 0, 1) := by decide +kernel
theorem dX3_sharedPages_1 : decode cX3_sharedPages 1 = .ok (.iload_n 1, 1) := by decide +kernel
theorem dX3_sharedPages_2 : decode cX3_sharedPages 2 = .ok (.invokevirtual 124, 3) := by decide +kernel
theorem dX3_sharedPages_5 : decode cX3_sharedPages 5 = .ok (.getfield 51, 3) := by decide +kernel
theorem dX3_sharedPages_8 : decode cX3_sharedPages 8 = .ok (.istore_n 3, 1) := by decide +kernel
theorem dX3_sharedPages_9 : decode cX3_sharedPages 9 = .ok (.aload_n 0, 1) := by decide +kernel
theorem dX3_sharedPages_10 : decode cX3_sharedPages 10 = .ok (.iload_n 2, 1) := by decide +kernel
theorem dX3_sharedPages_11 : decode cX3_sharedPages 11 = .ok (.invokevirtual 124, 3) := by decide +kernel
theorem dX3_sharedPages_14 : decode cX3_sharedPages 14 = .ok (.getfield 51, 3) := by decide +kernel
theorem dX3_sharedPages_17 : decode cX3_sharedPages 17 = .ok (.istore 4, 2) := by decide +kernel
theorem dX3_sharedPages_19 : decode cX3_sharedPages 19 = .ok (.aload_n 0, 1) := by decide +kernel
theorem dX3_sharedPages_20 : decode cX3_sharedPages 20 = .ok (.getfield 12, 3) := by decide +kernel
theorem dX3_sharedPages_23 : decode cX3_sharedPages 23 = .ok (.getfield 121, 3) := by decide +kernel
theorem dX3_sharedPages_26 : decode cX3_sharedPages 26 = .ok (.invokestatic 141, 3) := by decide +kernel
theorem dX3_sharedPages_29 : decode cX3_sharedPages 29 = .ok (.aload_n 0, 1) := by decide +kernel
theorem dX3_sharedPages_30 : decode cX3_sharedPages 30 = .ok (.getfield 12, 3) := by decide +kernel
theorem dX3_sharedPages_33 : decode cX3_sharedPages 33 = .ok (.aload_n 0, 1) := by decide +kernel
theorem dX3_sharedPages_34 : decode cX3_sharedPages 34 = .ok (.getfield 12, 3) := by decide +kernel
theorem dX3_sharedPages_37 : decode cX3_sharedPages 37 = .ok (.getfield 121, 3) := by decide +kernel
theorem dX3_sharedPages_40 : decode cX3_sharedPages 40 = .ok (.iload_n 3, 1) := by decide +kernel
theorem dX3_sharedPages_41 : decode cX3_sharedPages 41 = .ok (.invokevirtual 54, 3) := by decide +kernel
theorem dX3_sharedPages_44 : decode cX3_sharedPages 44 = .ok (.aload_n 0, 1) := by decide +kernel
theorem dX3_sharedPages_45 : decode cX3_sharedPages 45 = .ok (.getfield 12, 3) := by decide +kernel
theorem dX3_sharedPages_48 : decode cX3_sharedPages 48 = .ok (.iload 4, 2) := by decide +kernel
theorem dX3_sharedPages_50 : decode cX3_sharedPages 50 = .ok (.invokevirtual 145, 3) := by decide +kernel
theorem dX3_sharedPages_53 : decode cX3_sharedPages 53 = .ok (.ireturn, 1) := by decide +kernel
theorem dX3_isFree_0 : decode cX3_isFree 0 = .ok (.iload_n 1, 1) := by decide +kernel
theorem dX3_isFree_1 : decode cX3_isFree 1 = .ok (.ifCond .ge 13, 3) := by decide +kernel
theorem dX3_isFree_4 : decode cX3_isFree 4 = .ok (.new 148, 3) := by decide +kernel
theorem dX3_isFree_7 : decode cX3_isFree 7 = .ok (.dup, 1) := by decide +kernel
theorem dX3_isFree_8 : decode cX3_isFree 8 = .ok (.ldc 150, 2) := by decide +kernel
theorem dX3_isFree_10 : decode cX3_isFree 10 = .ok (.invokespecial 152, 3) := by decide +kernel
theorem dX3_isFree_13 : decode cX3_isFree 13 = .ok (.athrow, 1) := by decide +kernel
theorem dX3_isFree_14 : decode cX3_isFree 14 = .ok (.aload_n 0, 1) := by decide +kernel
theorem dX3_isFree_15 : decode cX3_isFree 15 = .ok (.getfield 12, 3) := by decide +kernel
theorem dX3_isFree_18 : decode cX3_isFree 18 = .ok (.iload_n 1, 1) := by decide +kernel
theorem dX3_isFree_19 : decode cX3_isFree 19 = .ok (.invokevirtual 153, 3) := by decide +kernel
theorem dX3_isFree_22 : decode cX3_isFree 22 = .ok (.ireturn, 1) := by decide +kernel
theorem dX3_pagesInUse_0 : decode cX3_pagesInUse 0 = .ok (.iconst 0, 1) := by decide +kernel
theorem dX3_pagesInUse_1 : decode cX3_pagesInUse 1 = .ok (.istore_n 1, 1) := by decide +kernel
theorem dX3_pagesInUse_2 : decode cX3_pagesInUse 2 = .ok (.iconst 0, 1) := by decide +kernel
theorem dX3_pagesInUse_3 : decode cX3_pagesInUse 3 = .ok (.istore_n 2, 1) := by decide +kernel
theorem dX3_pagesInUse_4 : decode cX3_pagesInUse 4 = .ok (.iload_n 2, 1) := by decide +kernel
theorem dX3_pagesInUse_5 : decode cX3_pagesInUse 5 = .ok (.sipush 800, 3) := by decide +kernel
theorem dX3_pagesInUse_8 : decode cX3_pagesInUse 8 = .ok (.if_icmp .ge 23, 3) := by decide +kernel
theorem dX3_pagesInUse_11 : decode cX3_pagesInUse 11 = .ok (.aload_n 0, 1) := by decide +kernel
theorem dX3_pagesInUse_12 : decode cX3_pagesInUse 12 = .ok (.getfield 12, 3) := by decide +kernel
theorem dX3_pagesInUse_15 : decode cX3_pagesInUse 15 = .ok (.iload_n 2, 1) := by decide +kernel
theorem dX3_pagesInUse_16 : decode cX3_pagesInUse 16 = .ok (.invokevirtual 153, 3) := by decide +kernel
theorem dX3_pagesInUse_19 : decode cX3_pagesInUse 19 = .ok (.ifCond .ne 6, 3) := by decide +kernel
theorem dX3_pagesInUse_22 : decode cX3_pagesInUse 22 = .ok (.iinc 1 1, 3) := by decide +kernel
theorem dX3_pagesInUse_25 : decode cX3_pagesInUse 25 = .ok (.iinc 2 1, 3) := by decide +kernel
theorem dX3_pagesInUse_28 : decode cX3_pagesInUse 28 = .ok (.goto (-24), 3) := by decide +kernel
theorem dX3_pagesInUse_31 : decode cX3_pagesInUse 31 = .ok (.iload_n 1, 1) := by decide +kernel
theorem dX3_pagesInUse_32 : decode cX3_pagesInUse 32 = .ok (.ireturn, 1) := by decide +kernel
theorem dX3_leastFree_0 : decode cX3_leastFree 0 = .ok (.aload_n 0, 1) := by decide +kernel
theorem dX3_leastFree_1 : decode cX3_leastFree 1 = .ok (.getfield 12, 3) := by decide +kernel
theorem dX3_leastFree_4 : decode cX3_leastFree 4 = .ok (.invokevirtual 156, 3) := by decide +kernel
theorem dX3_leastFree_7 : decode cX3_leastFree 7 = .ok (.ireturn, 1) := by decide +kernel
theorem dX3_entries_0 : decode cX3_entries 0 = .ok (.aload_n 0, 1) := by decide +kernel
theorem dX3_entries_1 : decode cX3_entries 1 = .ok (.iload_n 1, 1) := by decide +kernel
theorem dX3_entries_2 : decode cX3_entries 2 = .ok (.invokevirtual 159, 3) := by decide +kernel
theorem dX3_entries_5 : decode cX3_entries 5 = .ok (.aload_n 0, 1) := by decide +kernel
theorem dX3_entries_6 : decode cX3_entries 6 = .ok (.getfield 12, 3) := by decide +kernel
theorem dX3_entries_9 : decode cX3_entries 9 = .ok (.iload_n 1, 1) := by decide +kernel
theorem dX3_entries_10 : decode cX3_entries 10 = .ok (.invokevirtual 162, 3) := by decide +kernel
theorem dX3_entries_13 : decode cX3_entries 13 = .ok (.ireturn, 1) := by decide +kernel
theorem dX3_keyAt_0 : decode cX3_keyAt 0 = .ok (.aload_n 0, 1) := by decide +kernel
theorem dX3_keyAt_1 : decode cX3_keyAt 1 = .ok (.iload_n 1, 1) := by decide +kernel
theorem dX3_keyAt_2 : decode cX3_keyAt 2 = .ok (.iload_n 2, 1) := by decide +kernel
theorem dX3_keyAt_3 : decode cX3_keyAt 3 = .ok (.invokevirtual 165, 3) := by decide +kernel
theorem dX3_keyAt_6 : decode cX3_keyAt 6 = .ok (.aload_n 0, 1) := by decide +kernel
theorem dX3_keyAt_7 : decode cX3_keyAt 7 = .ok (.getfield 12, 3) := by decide +kernel
theorem dX3_keyAt_10 : decode cX3_keyAt 10 = .ok (.iload_n 1, 1) := by decide +kernel
theorem dX3_keyAt_11 : decode cX3_keyAt 11 = .ok (.iload_n 2, 1) := by decide +kernel
theorem dX3_keyAt_12 : decode cX3_keyAt 12 = .ok (.invokevirtual 168, 3) := by decide +kernel
theorem dX3_keyAt_15 : decode cX3_keyAt 15 = .ok (.ireturn, 1) := by decide +kernel
theorem dX3_pageAt_0 : decode cX3_pageAt 0 = .ok (.aload_n 0, 1) := by decide +kernel
theorem dX3_pageAt_1 : decode cX3_pageAt 1 = .ok (.iload_n 1, 1) := by decide +kernel
theorem dX3_pageAt_2 : decode cX3_pageAt 2 = .ok (.iload_n 2, 1) := by decide +kernel
theorem dX3_pageAt_3 : decode cX3_pageAt 3 = .ok (.invokevirtual 165, 3) := by decide +kernel
theorem dX3_pageAt_6 : decode cX3_pageAt 6 = .ok (.aload_n 0, 1) := by decide +kernel
theorem dX3_pageAt_7 : decode cX3_pageAt 7 = .ok (.getfield 12, 3) := by decide +kernel
theorem dX3_pageAt_10 : decode cX3_pageAt 10 = .ok (.iload_n 1, 1) := by decide +kernel
theorem dX3_pageAt_11 : decode cX3_pageAt 11 = .ok (.invokevirtual 171, 3) := by decide +kernel
theorem dX3_pageAt_14 : decode cX3_pageAt 14 = .ok (.ifCond .eq 7, 3) := by decide +kernel
theorem dX3_pageAt_17 : decode cX3_pageAt 17 = .ok (.iconst (-1), 1) := by decide +kernel
theorem dX3_pageAt_18 : decode cX3_pageAt 18 = .ok (.goto 12, 3) := by decide +kernel
theorem dX3_pageAt_21 : decode cX3_pageAt 21 = .ok (.aload_n 0, 1) := by decide +kernel
theorem dX3_pageAt_22 : decode cX3_pageAt 22 = .ok (.getfield 12, 3) := by decide +kernel
theorem dX3_pageAt_25 : decode cX3_pageAt 25 = .ok (.iload_n 1, 1) := by decide +kernel
theorem dX3_pageAt_26 : decode cX3_pageAt 26 = .ok (.iload_n 2, 1) := by decide +kernel
theorem dX3_pageAt_27 : decode cX3_pageAt 27 = .ok (.invokevirtual 174, 3) := by decide +kernel
theorem dX3_pageAt_30 : decode cX3_pageAt 30 = .ok (.ireturn, 1) := by decide +kernel
theorem dX3_currentSlot_0 : decode cX3_currentSlot 0 = .ok (.aload_n 0, 1) := by decide +kernel
theorem dX3_currentSlot_1 : decode cX3_currentSlot 1 = .ok (.getfield 43, 3) := by decide +kernel
theorem dX3_currentSlot_4 : decode cX3_currentSlot 4 = .ok (.ireturn, 1) := by decide +kernel
theorem dX3_slotWord_0 : decode cX3_slotWord 0 = .ok (.iload_n 1, 1) := by decide +kernel
theorem dX3_slotWord_1 : decode cX3_slotWord 1 = .ok (.invokestatic 177, 3) := by decide +kernel
theorem dX3_slotWord_4 : decode cX3_slotWord 4 = .ok (.iload_n 2, 1) := by decide +kernel
theorem dX3_slotWord_5 : decode cX3_slotWord 5 = .ok (.ifCond .lt 8, 3) := by decide +kernel
theorem dX3_slotWord_8 : decode cX3_slotWord 8 = .ok (.iload_n 2, 1) := by decide +kernel
theorem dX3_slotWord_9 : decode cX3_slotWord 9 = .ok (.iconst 4, 1) := by decide +kernel
theorem dX3_slotWord_10 : decode cX3_slotWord 10 = .ok (.if_icmp .lt 13, 3) := by decide +kernel
theorem dX3_slotWord_13 : decode cX3_slotWord 13 = .ok (.new 148, 3) := by decide +kernel
theorem dX3_slotWord_16 : decode cX3_slotWord 16 = .ok (.dup, 1) := by decide +kernel
theorem dX3_slotWord_17 : decode cX3_slotWord 17 = .ok (.ldc 180, 2) := by decide +kernel
theorem dX3_slotWord_19 : decode cX3_slotWord 19 = .ok (.invokespecial 152, 3) := by decide +kernel
theorem dX3_slotWord_22 : decode cX3_slotWord 22 = .ok (.athrow, 1) := by decide +kernel
theorem dX3_slotWord_23 : decode cX3_slotWord 23 = .ok (.aload_n 0, 1) := by decide +kernel
theorem dX3_slotWord_24 : decode cX3_slotWord 24 = .ok (.iload_n 1, 1) := by decide +kernel
theorem dX3_slotWord_25 : decode cX3_slotWord 25 = .ok (.iload_n 2, 1) := by decide +kernel
theorem dX3_slotWord_26 : decode cX3_slotWord 26 = .ok (.invokevirtual 182, 3) := by decide +kernel
theorem dX3_slotWord_29 : decode cX3_slotWord 29 = .ok (.lreturn, 1) := by decide +kernel
theorem dX3_isWhole_0 : decode cX3_isWhole 0 = .ok (.iload_n 1, 1) := by decide +kernel
theorem dX3_isWhole_1 : decode cX3_isWhole 1 = .ok (.invokestatic 177, 3) := by decide +kernel
theorem dX3_isWhole_4 : decode cX3_isWhole 4 = .ok (.aload_n 0, 1) := by decide +kernel
theorem dX3_isWhole_5 : decode cX3_isWhole 5 = .ok (.iload_n 1, 1) := by decide +kernel
theorem dX3_isWhole_6 : decode cX3_isWhole 6 = .ok (.invokevirtual 186, 3) := by decide +kernel
theorem dX3_isWhole_9 : decode cX3_isWhole 9 = .ok (.ireturn, 1) := by decide +kernel
theorem dX3_tear_0 : decode cX3_tear 0 = .ok (.iload_n 1, 1) := by decide +kernel
theorem dX3_tear_1 : decode cX3_tear 1 = .ok (.invokestatic 177, 3) := by decide +kernel
theorem dX3_tear_4 : decode cX3_tear 4 = .ok (.aload_n 0, 1) := by decide +kernel
theorem dX3_tear_5 : decode cX3_tear 5 = .ok (.iload_n 1, 1) := by decide +kernel
theorem dX3_tear_6 : decode cX3_tear 6 = .ok (.invokestatic 94, 3) := by decide +kernel
theorem dX3_tear_9 : decode cX3_tear 9 = .ok (.invokevirtual 186, 3) := by decide +kernel
theorem dX3_tear_12 : decode cX3_tear 12 = .ok (.ifCond .ne 13, 3) := by decide +kernel
theorem dX3_tear_15 : decode cX3_tear 15 = .ok (.new 62, 3) := by decide +kernel
theorem dX3_tear_18 : decode cX3_tear 18 = .ok (.dup, 1) := by decide +kernel
theorem dX3_tear_19 : decode cX3_tear 19 = .ok (.ldc 189, 2) := by decide +kernel
theorem dX3_tear_21 : decode cX3_tear 21 = .ok (.invokespecial 66, 3) := by decide +kernel
theorem dX3_tear_24 : decode cX3_tear 24 = .ok (.athrow, 1) := by decide +kernel
theorem dX3_tear_25 : decode cX3_tear 25 = .ok (.aload_n 0, 1) := by decide +kernel
theorem dX3_tear_26 : decode cX3_tear 26 = .ok (.invokevirtual 105, 3) := by decide +kernel
theorem dX3_tear_29 : decode cX3_tear 29 = .ok (.istore_n 2, 1) := by decide +kernel
theorem dX3_tear_30 : decode cX3_tear 30 = .ok (.aload_n 0, 1) := by decide +kernel
theorem dX3_tear_31 : decode cX3_tear 31 = .ok (.getfield 39, 3) := by decide +kernel
theorem dX3_tear_34 : decode cX3_tear 34 = .ok (.iload_n 1, 1) := by decide +kernel
theorem dX3_tear_35 : decode cX3_tear 35 = .ok (.iconst 4, 1) := by decide +kernel
theorem dX3_tear_36 : decode cX3_tear 36 = .ok (.imul, 1) := by decide +kernel
theorem dX3_tear_37 : decode cX3_tear 37 = .ok (.iconst 3, 1) := by decide +kernel
theorem dX3_tear_38 : decode cX3_tear 38 = .ok (.iadd, 1) := by decide +kernel
theorem dX3_tear_39 : decode cX3_tear 39 = .ok (.ldc2_w 191, 3) := by decide +kernel
theorem dX3_tear_42 : decode cX3_tear 42 = .ok (.lastore, 1) := by decide +kernel
theorem dX3_tear_43 : decode cX3_tear 43 = .ok (.aload_n 0, 1) := by decide +kernel
theorem dX3_tear_44 : decode cX3_tear 44 = .ok (.aload_n 0, 1) := by decide +kernel
theorem dX3_tear_45 : decode cX3_tear 45 = .ok (.getfield 12, 3) := by decide +kernel
theorem dX3_tear_48 : decode cX3_tear 48 = .ok (.getfield 47, 3) := by decide +kernel
theorem dX3_tear_51 : decode cX3_tear 51 = .ok (.iconst (-1), 1) := by decide +kernel
theorem dX3_tear_52 : decode cX3_tear 52 = .ok (.invokevirtual 118, 3) := by decide +kernel
theorem dX3_tear_55 : decode cX3_tear 55 = .ok (.iload_n 2, 1) := by decide +kernel
theorem dX3_tear_56 : decode cX3_tear 56 = .ok (.aload_n 0, 1) := by decide +kernel
theorem dX3_tear_57 : decode cX3_tear 57 = .ok (.invokevirtual 105, 3) := by decide +kernel
theorem dX3_tear_60 : decode cX3_tear 60 = .ok (.isub, 1) := by decide +kernel
theorem dX3_tear_61 : decode cX3_tear 61 = .ok (.ireturn, 1) := by decide +kernel
theorem dX3_crash_0 : decode cX3_crash 0 = .ok (.iconst 0, 1) := by decide +kernel
theorem dX3_crash_1 : decode cX3_crash 1 = .ok (.istore_n 1, 1) := by decide +kernel
theorem dX3_crash_2 : decode cX3_crash 2 = .ok (.iload_n 1, 1) := by decide +kernel
theorem dX3_crash_3 : decode cX3_crash 3 = .ok (.iconst 4, 1) := by decide +kernel
theorem dX3_crash_4 : decode cX3_crash 4 = .ok (.if_icmp .ge 19, 3) := by decide +kernel
theorem dX3_crash_7 : decode cX3_crash 7 = .ok (.aload_n 0, 1) := by decide +kernel
theorem dX3_crash_8 : decode cX3_crash 8 = .ok (.getfield 35, 3) := by decide +kernel
theorem dX3_crash_11 : decode cX3_crash 11 = .ok (.iload_n 1, 1) := by decide +kernel
theorem dX3_crash_12 : decode cX3_crash 12 = .ok (.aaload, 1) := by decide +kernel
theorem dX3_crash_13 : decode cX3_crash 13 = .ok (.iconst 0, 1) := by decide +kernel
theorem dX3_crash_14 : decode cX3_crash 14 = .ok (.putfield 58, 3) := by decide +kernel
theorem dX3_crash_17 : decode cX3_crash 17 = .ok (.iinc 1 1, 3) := by decide +kernel
theorem dX3_crash_20 : decode cX3_crash 20 = .ok (.goto (-18), 3) := by decide +kernel
theorem dX3_crash_23 : decode cX3_crash 23 = .ok (.aload_n 0, 1) := by decide +kernel
theorem dX3_crash_24 : decode cX3_crash 24 = .ok (.aload_n 0, 1) := by decide +kernel
theorem dX3_crash_25 : decode cX3_crash 25 = .ok (.invokevirtual 193, 3) := by decide +kernel
theorem dX3_crash_28 : decode cX3_crash 28 = .ok (.putfield 43, 3) := by decide +kernel
theorem dX3_crash_31 : decode cX3_crash 31 = .ok (.aload_n 0, 1) := by decide +kernel
theorem dX3_crash_32 : decode cX3_crash 32 = .ok (.getfield 19, 3) := by decide +kernel
theorem dX3_crash_35 : decode cX3_crash 35 = .ok (.aload_n 0, 1) := by decide +kernel
theorem dX3_crash_36 : decode cX3_crash 36 = .ok (.aload_n 0, 1) := by decide +kernel
theorem dX3_crash_37 : decode cX3_crash 37 = .ok (.getfield 43, 3) := by decide +kernel
theorem dX3_crash_40 : decode cX3_crash 40 = .ok (.iconst 0, 1) := by decide +kernel
theorem dX3_crash_41 : decode cX3_crash 41 = .ok (.invokevirtual 182, 3) := by decide +kernel
theorem dX3_crash_44 : decode cX3_crash 44 = .ok (.l2i, 1) := by decide +kernel
theorem dX3_crash_45 : decode cX3_crash 45 = .ok (.putfield 73, 3) := by decide +kernel
theorem dX3_crash_48 : decode cX3_crash 48 = .ok (.aload_n 0, 1) := by decide +kernel
theorem dX3_crash_49 : decode cX3_crash 49 = .ok (.getfield 19, 3) := by decide +kernel
theorem dX3_crash_52 : decode cX3_crash 52 = .ok (.aload_n 0, 1) := by decide +kernel
theorem dX3_crash_53 : decode cX3_crash 53 = .ok (.aload_n 0, 1) := by decide +kernel
theorem dX3_crash_54 : decode cX3_crash 54 = .ok (.getfield 43, 3) := by decide +kernel
theorem dX3_crash_57 : decode cX3_crash 57 = .ok (.iconst 1, 1) := by decide +kernel
theorem dX3_crash_58 : decode cX3_crash 58 = .ok (.invokevirtual 182, 3) := by decide +kernel
theorem dX3_crash_61 : decode cX3_crash 61 = .ok (.l2i, 1) := by decide +kernel
theorem dX3_crash_62 : decode cX3_crash 62 = .ok (.putfield 51, 3) := by decide +kernel
theorem dX3_crash_65 : decode cX3_crash 65 = .ok (.aload_n 0, 1) := by decide +kernel
theorem dX3_crash_66 : decode cX3_crash 66 = .ok (.getfield 19, 3) := by decide +kernel
theorem dX3_crash_69 : decode cX3_crash 69 = .ok (.aload_n 0, 1) := by decide +kernel
theorem dX3_crash_70 : decode cX3_crash 70 = .ok (.aload_n 0, 1) := by decide +kernel
theorem dX3_crash_71 : decode cX3_crash 71 = .ok (.getfield 43, 3) := by decide +kernel
theorem dX3_crash_74 : decode cX3_crash 74 = .ok (.iconst 2, 1) := by decide +kernel
theorem dX3_crash_75 : decode cX3_crash 75 = .ok (.invokevirtual 182, 3) := by decide +kernel
theorem dX3_crash_78 : decode cX3_crash 78 = .ok (.l2i, 1) := by decide +kernel
theorem dX3_crash_79 : decode cX3_crash 79 = .ok (.putfield 135, 3) := by decide +kernel
theorem dX3_crash_82 : decode cX3_crash 82 = .ok (.aload_n 0, 1) := by decide +kernel
theorem dX3_crash_83 : decode cX3_crash 83 = .ok (.invokevirtual 102, 3) := by decide +kernel
theorem dX3_crash_86 : decode cX3_crash 86 = .ok (.aload_n 0, 1) := by decide +kernel
theorem dX3_crash_87 : decode cX3_crash 87 = .ok (.getfield 19, 3) := by decide +kernel
theorem dX3_crash_90 : decode cX3_crash 90 = .ok (.getfield 73, 3) := by decide +kernel
theorem dX3_crash_93 : decode cX3_crash 93 = .ok (.ireturn, 1) := by decide +kernel
theorem dX3_crashInCommit_0 : decode cX3_crashInCommit 0 = .ok (.iload_n 1, 1) := by decide +kernel
theorem dX3_crashInCommit_1 : decode cX3_crashInCommit 1 = .ok (.ifCond .lt 8, 3) := by decide +kernel
theorem dX3_crashInCommit_4 : decode cX3_crashInCommit 4 = .ok (.iload_n 1, 1) := by decide +kernel
theorem dX3_crashInCommit_5 : decode cX3_crashInCommit 5 = .ok (.iconst 4, 1) := by decide +kernel
theorem dX3_crashInCommit_6 : decode cX3_crashInCommit 6 = .ok (.if_icmp .le 13, 3) := by decide +kernel
theorem dX3_crashInCommit_9 : decode cX3_crashInCommit 9 = .ok (.new 196, 3) := by decide +kernel
theorem dX3_crashInCommit_12 : decode cX3_crashInCommit 12 = .ok (.dup, 1) := by decide +kernel
theorem dX3_crashInCommit_13 : decode cX3_crashInCommit 13 = .ok (.ldc 198, 2) := by decide +kernel
theorem dX3_crashInCommit_15 : decode cX3_crashInCommit 15 = .ok (.invokespecial 200, 3) := by decide +kernel
theorem dX3_crashInCommit_18 : decode cX3_crashInCommit 18 = .ok (.athrow, 1) := by decide +kernel
theorem dX3_crashInCommit_19 : decode cX3_crashInCommit 19 = .ok (.aload_n 0, 1) := by decide +kernel
theorem dX3_crashInCommit_20 : decode cX3_crashInCommit 20 = .ok (.invokevirtual 80, 3) := by decide +kernel
theorem dX3_crashInCommit_23 : decode cX3_crashInCommit 23 = .ok (.iload_n 1, 1) := by decide +kernel
theorem dX3_crashInCommit_24 : decode cX3_crashInCommit 24 = .ok (.ifCond .le 29, 3) := by decide +kernel
theorem dX3_crashInCommit_27 : decode cX3_crashInCommit 27 = .ok (.iload_n 1, 1) := by decide +kernel
theorem dX3_crashInCommit_28 : decode cX3_crashInCommit 28 = .ok (.iconst 4, 1) := by decide +kernel
theorem dX3_crashInCommit_29 : decode cX3_crashInCommit 29 = .ok (.if_icmp .ge 24, 3) := by decide +kernel
theorem dX3_crashInCommit_32 : decode cX3_crashInCommit 32 = .ok (.aload_n 0, 1) := by decide +kernel
theorem dX3_crashInCommit_33 : decode cX3_crashInCommit 33 = .ok (.aload_n 0, 1) := by decide +kernel
theorem dX3_crashInCommit_34 : decode cX3_crashInCommit 34 = .ok (.getfield 43, 3) := by decide +kernel
theorem dX3_crashInCommit_37 : decode cX3_crashInCommit 37 = .ok (.invokevirtual 186, 3) := by decide +kernel
theorem dX3_crashInCommit_40 : decode cX3_crashInCommit 40 = .ok (.ifCond .ne 13, 3) := by decide +kernel
theorem dX3_crashInCommit_43 : decode cX3_crashInCommit 43 = .ok (.new 62, 3) := by decide +kernel
theorem dX3_crashInCommit_46 : decode cX3_crashInCommit 46 = .ok (.dup, 1) := by decide +kernel
theorem dX3_crashInCommit_47 : decode cX3_crashInCommit 47 = .ok (.ldc 201, 2) := by decide +kernel
theorem dX3_crashInCommit_49 : decode cX3_crashInCommit 49 = .ok (.invokespecial 66, 3) := by decide +kernel
theorem dX3_crashInCommit_52 : decode cX3_crashInCommit 52 = .ok (.athrow, 1) := by decide +kernel
theorem dX3_crashInCommit_53 : decode cX3_crashInCommit 53 = .ok (.aload_n 0, 1) := by decide +kernel
theorem dX3_crashInCommit_54 : decode cX3_crashInCommit 54 = .ok (.aload_n 0, 1) := by decide +kernel
theorem dX3_crashInCommit_55 : decode cX3_crashInCommit 55 = .ok (.getfield 43, 3) := by decide +kernel
theorem dX3_crashInCommit_58 : decode cX3_crashInCommit 58 = .ok (.invokestatic 94, 3) := by decide +kernel
theorem dX3_crashInCommit_61 : decode cX3_crashInCommit 61 = .ok (.iload_n 1, 1) := by decide +kernel
theorem dX3_crashInCommit_62 : decode cX3_crashInCommit 62 = .ok (.invokevirtual 98, 3) := by decide +kernel
theorem dX3_crashInCommit_65 : decode cX3_crashInCommit 65 = .ok (.aload_n 0, 1) := by decide +kernel
theorem dX3_crashInCommit_66 : decode cX3_crashInCommit 66 = .ok (.invokevirtual 203, 3) := by decide +kernel
theorem dX3_crashInCommit_69 : decode cX3_crashInCommit 69 = .ok (.ireturn, 1) := by decide +kernel
theorem dX3_requireKey_0 : decode cX3_requireKey 0 = .ok (.iload_n 0, 1) := by decide +kernel
theorem dX3_requireKey_1 : decode cX3_requireKey 1 = .ok (.ifCond .lt 9, 3) := by decide +kernel
theorem dX3_requireKey_4 : decode cX3_requireKey 4 = .ok (.iload_n 0, 1) := by decide +kernel
theorem dX3_requireKey_5 : decode cX3_requireKey 5 = .ok (.bipush 100, 2) := by decide +kernel
theorem dX3_requireKey_7 : decode cX3_requireKey 7 = .ok (.if_icmp .lt 13, 3) := by decide +kernel
theorem dX3_requireKey_10 : decode cX3_requireKey 10 = .ok (.new 196, 3) := by decide +kernel
theorem dX3_requireKey_13 : decode cX3_requireKey 13 = .ok (.dup, 1) := by decide +kernel
theorem dX3_requireKey_14 : decode cX3_requireKey 14 = .ok (.ldc 206, 2) := by decide +kernel
theorem dX3_requireKey_16 : decode cX3_requireKey 16 = .ok (.invokespecial 200, 3) := by decide +kernel
theorem dX3_requireKey_19 : decode cX3_requireKey 19 = .ok (.athrow, 1) := by decide +kernel
theorem dX3_requireKey_20 : decode cX3_requireKey 20 = .ok (.return_, 1) := by decide +kernel
theorem dX3_requireBatch_0 : decode cX3_requireBatch 0 = .ok (.aload_n 0, 1) := by decide +kernel
theorem dX3_requireBatch_1 : decode cX3_requireBatch 1 = .ok (.getfield 23, 3) := by decide +kernel
theorem dX3_requireBatch_4 : decode cX3_requireBatch 4 = .ok (.getfield 58, 3) := by decide +kernel
theorem dX3_requireBatch_7 : decode cX3_requireBatch 7 = .ok (.ifCond .ne 13, 3) := by decide +kernel
theorem dX3_requireBatch_10 : decode cX3_requireBatch 10 = .ok (.new 62, 3) := by decide +kernel
theorem dX3_requireBatch_13 : decode cX3_requireBatch 13 = .ok (.dup, 1) := by decide +kernel
theorem dX3_requireBatch_14 : decode cX3_requireBatch 14 = .ok (.ldc 208, 2) := by decide +kernel
theorem dX3_requireBatch_16 : decode cX3_requireBatch 16 = .ok (.invokespecial 66, 3) := by decide +kernel
theorem dX3_requireBatch_19 : decode cX3_requireBatch 19 = .ok (.athrow, 1) := by decide +kernel
theorem dX3_requireBatch_20 : decode cX3_requireBatch 20 = .ok (.return_, 1) := by decide +kernel
theorem dX3_requireReader_0 : decode cX3_requireReader 0 = .ok (.aload_n 0, 1) := by decide +kernel
theorem dX3_requireReader_1 : decode cX3_requireReader 1 = .ok (.iload_n 1, 1) := by decide +kernel
theorem dX3_requireReader_2 : decode cX3_requireReader 2 = .ok (.invokevirtual 109, 3) := by decide +kernel
theorem dX3_requireReader_5 : decode cX3_requireReader 5 = .ok (.ifCond .ne 13, 3) := by decide +kernel
theorem dX3_requireReader_8 : decode cX3_requireReader 8 = .ok (.new 148, 3) := by decide +kernel
theorem dX3_requireReader_11 : decode cX3_requireReader 11 = .ok (.dup, 1) := by decide +kernel
theorem dX3_requireReader_12 : decode cX3_requireReader 12 = .ok (.ldc 210, 2) := by decide +kernel
theorem dX3_requireReader_14 : decode cX3_requireReader 14 = .ok (.invokespecial 152, 3) := by decide +kernel
theorem dX3_requireReader_17 : decode cX3_requireReader 17 = .ok (.athrow, 1) := by decide +kernel
theorem dX3_requireReader_18 : decode cX3_requireReader 18 = .ok (.return_, 1) := by decide +kernel
theorem dX3_requirePage_0 : decode cX3_requirePage 0 = .ok (.iload_n 1, 1) := by decide +kernel
theorem dX3_requirePage_1 : decode cX3_requirePage 1 = .ok (.ifCond .lt 14, 3) := by decide +kernel
theorem dX3_requirePage_4 : decode cX3_requirePage 4 = .ok (.aload_n 0, 1) := by decide +kernel
theorem dX3_requirePage_5 : decode cX3_requirePage 5 = .ok (.getfield 12, 3) := by decide +kernel
theorem dX3_requirePage_8 : decode cX3_requirePage 8 = .ok (.iload_n 1, 1) := by decide +kernel
theorem dX3_requirePage_9 : decode cX3_requirePage 9 = .ok (.invokevirtual 153, 3) := by decide +kernel
theorem dX3_requirePage_12 : decode cX3_requirePage 12 = .ok (.ifCond .eq 13, 3) := by decide +kernel
theorem dX3_requirePage_15 : decode cX3_requirePage 15 = .ok (.new 148, 3) := by decide +kernel
theorem dX3_requirePage_18 : decode cX3_requirePage 18 = .ok (.dup, 1) := by decide +kernel
theorem dX3_requirePage_19 : decode cX3_requirePage 19 = .ok (.ldc 212, 2) := by decide +kernel
theorem dX3_requirePage_21 : decode cX3_requirePage 21 = .ok (.invokespecial 152, 3) := by decide +kernel
theorem dX3_requirePage_24 : decode cX3_requirePage 24 = .ok (.athrow, 1) := by decide +kernel
theorem dX3_requirePage_25 : decode cX3_requirePage 25 = .ok (.return_, 1) := by decide +kernel
theorem dX3_requireEntry_0 : decode cX3_requireEntry 0 = .ok (.aload_n 0, 1) := by decide +kernel
theorem dX3_requireEntry_1 : decode cX3_requireEntry 1 = .ok (.iload_n 1, 1) := by decide +kernel
theorem dX3_requireEntry_2 : decode cX3_requireEntry 2 = .ok (.invokevirtual 159, 3) := by decide +kernel
theorem dX3_requireEntry_5 : decode cX3_requireEntry 5 = .ok (.iload_n 2, 1) := by decide +kernel
theorem dX3_requireEntry_6 : decode cX3_requireEntry 6 = .ok (.ifCond .lt 15, 3) := by decide +kernel
theorem dX3_requireEntry_9 : decode cX3_requireEntry 9 = .ok (.iload_n 2, 1) := by decide +kernel
theorem dX3_requireEntry_10 : decode cX3_requireEntry 10 = .ok (.aload_n 0, 1) := by decide +kernel
theorem dX3_requireEntry_11 : decode cX3_requireEntry 11 = .ok (.getfield 12, 3) := by decide +kernel
theorem dX3_requireEntry_14 : decode cX3_requireEntry 14 = .ok (.iload_n 1, 1) := by decide +kernel
theorem dX3_requireEntry_15 : decode cX3_requireEntry 15 = .ok (.invokevirtual 162, 3) := by decide +kernel
theorem dX3_requireEntry_18 : decode cX3_requireEntry 18 = .ok (.if_icmp .lt 13, 3) := by decide +kernel
theorem dX3_requireEntry_21 : decode cX3_requireEntry 21 = .ok (.new 148, 3) := by decide +kernel
theorem dX3_requireEntry_24 : decode cX3_requireEntry 24 = .ok (.dup, 1) := by decide +kernel
theorem dX3_requireEntry_25 : decode cX3_requireEntry 25 = .ok (.ldc 214, 2) := by decide +kernel
theorem dX3_requireEntry_27 : decode cX3_requireEntry 27 = .ok (.invokespecial 152, 3) := by decide +kernel
theorem dX3_requireEntry_30 : decode cX3_requireEntry 30 = .ok (.athrow, 1) := by decide +kernel
theorem dX3_requireEntry_31 : decode cX3_requireEntry 31 = .ok (.return_, 1) := by decide +kernel
theorem dX3_requireSlot_0 : decode cX3_requireSlot 0 = .ok (.iload_n 0, 1) := by decide +kernel
theorem dX3_requireSlot_1 : decode cX3_requireSlot 1 = .ok (.ifCond .lt 8, 3) := by decide +kernel
theorem dX3_requireSlot_4 : decode cX3_requireSlot 4 = .ok (.iload_n 0, 1) := by decide +kernel
theorem dX3_requireSlot_5 : decode cX3_requireSlot 5 = .ok (.iconst 2, 1) := by decide +kernel
theorem dX3_requireSlot_6 : decode cX3_requireSlot 6 = .ok (.if_icmp .lt 13, 3) := by decide +kernel
theorem dX3_requireSlot_9 : decode cX3_requireSlot 9 = .ok (.new 148, 3) := by decide +kernel
theorem dX3_requireSlot_12 : decode cX3_requireSlot 12 = .ok (.dup, 1) := by decide +kernel
theorem dX3_requireSlot_13 : decode cX3_requireSlot 13 = .ok (.ldc 216, 2) := by decide +kernel
theorem dX3_requireSlot_15 : decode cX3_requireSlot 15 = .ok (.invokespecial 152, 3) := by decide +kernel
theorem dX3_requireSlot_18 : decode cX3_requireSlot 18 = .ok (.athrow, 1) := by decide +kernel
theorem dX3_requireSlot_19 : decode cX3_requireSlot 19 = .ok (.return_, 1) := by decide +kernel
theorem dX3_viewed_0 : decode cX3_viewed 0 = .ok (.iload_n 1, 1) := by decide +kernel
theorem dX3_viewed_1 : decode cX3_viewed 1 = .ok (.iconst (-1), 1) := by decide +kernel
theorem dX3_viewed_2 : decode cX3_viewed 2 = .ok (.if_icmp .ne 25, 3) := by decide +kernel
theorem dX3_viewed_5 : decode cX3_viewed 5 = .ok (.aload_n 0, 1) := by decide +kernel
theorem dX3_viewed_6 : decode cX3_viewed 6 = .ok (.getfield 23, 3) := by decide +kernel
theorem dX3_viewed_9 : decode cX3_viewed 9 = .ok (.getfield 58, 3) := by decide +kernel
theorem dX3_viewed_12 : decode cX3_viewed 12 = .ok (.ifCond .eq 10, 3) := by decide +kernel
theorem dX3_viewed_15 : decode cX3_viewed 15 = .ok (.aload_n 0, 1) := by decide +kernel
theorem dX3_viewed_16 : decode cX3_viewed 16 = .ok (.getfield 23, 3) := by decide +kernel
theorem dX3_viewed_19 : decode cX3_viewed 19 = .ok (.goto 7, 3) := by decide +kernel
theorem dX3_viewed_22 : decode cX3_viewed 22 = .ok (.aload_n 0, 1) := by decide +kernel
theorem dX3_viewed_23 : decode cX3_viewed 23 = .ok (.getfield 19, 3) := by decide +kernel
theorem dX3_viewed_26 : decode cX3_viewed 26 = .ok (.areturn, 1) := by decide +kernel
theorem dX3_viewed_27 : decode cX3_viewed 27 = .ok (.aload_n 0, 1) := by decide +kernel
theorem dX3_viewed_28 : decode cX3_viewed 28 = .ok (.iload_n 1, 1) := by decide +kernel
theorem dX3_viewed_29 : decode cX3_viewed 29 = .ok (.invokevirtual 115, 3) := by decide +kernel
theorem dX3_viewed_32 : decode cX3_viewed 32 = .ok (.aload_n 0, 1) := by decide +kernel
theorem dX3_viewed_33 : decode cX3_viewed 33 = .ok (.getfield 35, 3) := by decide +kernel
theorem dX3_viewed_36 : decode cX3_viewed 36 = .ok (.iload_n 1, 1) := by decide +kernel
theorem dX3_viewed_37 : decode cX3_viewed 37 = .ok (.aaload, 1) := by decide +kernel
theorem dX3_viewed_38 : decode cX3_viewed 38 = .ok (.areturn, 1) := by decide +kernel
theorem dX3_valueIn_0 : decode cX3_valueIn 0 = .ok (.aload_n 0, 1) := by decide +kernel
theorem dX3_valueIn_1 : decode cX3_valueIn 1 = .ok (.getfield 12, 3) := by decide +kernel
theorem dX3_valueIn_4 : decode cX3_valueIn 4 = .ok (.aload_n 1, 1) := by decide +kernel
theorem dX3_valueIn_5 : decode cX3_valueIn 5 = .ok (.getfield 51, 3) := by decide +kernel
theorem dX3_valueIn_8 : decode cX3_valueIn 8 = .ok (.iload_n 2, 1) := by decide +kernel
theorem dX3_valueIn_9 : decode cX3_valueIn 9 = .ok (.invokevirtual 218, 3) := by decide +kernel
theorem dX3_valueIn_12 : decode cX3_valueIn 12 = .ok (.istore_n 3, 1) := by decide +kernel
theorem dX3_valueIn_13 : decode cX3_valueIn 13 = .ok (.aload_n 0, 1) := by decide +kernel
theorem dX3_valueIn_14 : decode cX3_valueIn 14 = .ok (.getfield 12, 3) := by decide +kernel
theorem dX3_valueIn_17 : decode cX3_valueIn 17 = .ok (.iload_n 3, 1) := by decide +kernel
theorem dX3_valueIn_18 : decode cX3_valueIn 18 = .ok (.iload_n 2, 1) := by decide +kernel
theorem dX3_valueIn_19 : decode cX3_valueIn 19 = .ok (.invokevirtual 221, 3) := by decide +kernel
theorem dX3_valueIn_22 : decode cX3_valueIn 22 = .ok (.istore 4, 2) := by decide +kernel
theorem dX3_valueIn_24 : decode cX3_valueIn 24 = .ok (.aload_n 0, 1) := by decide +kernel
theorem dX3_valueIn_25 : decode cX3_valueIn 25 = .ok (.getfield 12, 3) := by decide +kernel
theorem dX3_valueIn_28 : decode cX3_valueIn 28 = .ok (.iload_n 3, 1) := by decide +kernel
theorem dX3_valueIn_29 : decode cX3_valueIn 29 = .ok (.iload 4, 2) := by decide +kernel
theorem dX3_valueIn_31 : decode cX3_valueIn 31 = .ok (.iload_n 2, 1) := by decide +kernel
theorem dX3_valueIn_32 : decode cX3_valueIn 32 = .ok (.invokevirtual 224, 3) := by decide +kernel
theorem dX3_valueIn_35 : decode cX3_valueIn 35 = .ok (.ifCond .ne 13, 3) := by decide +kernel
theorem dX3_valueIn_38 : decode cX3_valueIn 38 = .ok (.new 228, 3) := by decide +kernel
theorem dX3_valueIn_41 : decode cX3_valueIn 41 = .ok (.dup, 1) := by decide +kernel
theorem dX3_valueIn_42 : decode cX3_valueIn 42 = .ok (.ldc 230, 2) := by decide +kernel
theorem dX3_valueIn_44 : decode cX3_valueIn 44 = .ok (.invokespecial 232, 3) := by decide +kernel
theorem dX3_valueIn_47 : decode cX3_valueIn 47 = .ok (.athrow, 1) := by decide +kernel
theorem dX3_valueIn_48 : decode cX3_valueIn 48 = .ok (.aload_n 0, 1) := by decide +kernel
theorem dX3_valueIn_49 : decode cX3_valueIn 49 = .ok (.getfield 12, 3) := by decide +kernel
theorem dX3_valueIn_52 : decode cX3_valueIn 52 = .ok (.iload_n 3, 1) := by decide +kernel
theorem dX3_valueIn_53 : decode cX3_valueIn 53 = .ok (.iload 4, 2) := by decide +kernel
theorem dX3_valueIn_55 : decode cX3_valueIn 55 = .ok (.invokevirtual 174, 3) := by decide +kernel
theorem dX3_valueIn_58 : decode cX3_valueIn 58 = .ok (.ireturn, 1) := by decide +kernel
theorem dX3_isOpen_0 : decode cX3_isOpen 0 = .ok (.iload_n 1, 1) := by decide +kernel
theorem dX3_isOpen_1 : decode cX3_isOpen 1 = .ok (.ifCond .lt 24, 3) := by decide +kernel
theorem dX3_isOpen_4 : decode cX3_isOpen 4 = .ok (.iload_n 1, 1) := by decide +kernel
theorem dX3_isOpen_5 : decode cX3_isOpen 5 = .ok (.iconst 4, 1) := by decide +kernel
theorem dX3_isOpen_6 : decode cX3_isOpen 6 = .ok (.if_icmp .ge 19, 3) := by decide +kernel
theorem dX3_isOpen_9 : decode cX3_isOpen 9 = .ok (.aload_n 0, 1) := by decide +kernel
theorem dX3_isOpen_10 : decode cX3_isOpen 10 = .ok (.getfield 35, 3) := by decide +kernel
theorem dX3_isOpen_13 : decode cX3_isOpen 13 = .ok (.iload_n 1, 1) := by decide +kernel
theorem dX3_isOpen_14 : decode cX3_isOpen 14 = .ok (.aaload, 1) := by decide +kernel
theorem dX3_isOpen_15 : decode cX3_isOpen 15 = .ok (.getfield 58, 3) := by decide +kernel
theorem dX3_isOpen_18 : decode cX3_isOpen 18 = .ok (.ifCond .eq 7, 3) := by decide +kernel
theorem dX3_isOpen_21 : decode cX3_isOpen 21 = .ok (.iconst 1, 1) := by decide +kernel
theorem dX3_isOpen_22 : decode cX3_isOpen 22 = .ok (.goto 4, 3) := by decide +kernel
theorem dX3_isOpen_25 : decode cX3_isOpen 25 = .ok (.iconst 0, 1) := by decide +kernel
theorem dX3_isOpen_26 : decode cX3_isOpen 26 = .ok (.ireturn, 1) := by decide +kernel
theorem dX3_endBatch_0 : decode cX3_endBatch 0 = .ok (.aload_n 0, 1) := by decide +kernel
theorem dX3_endBatch_1 : decode cX3_endBatch 1 = .ok (.getfield 23, 3) := by decide +kernel
theorem dX3_endBatch_4 : decode cX3_endBatch 4 = .ok (.iconst 0, 1) := by decide +kernel
theorem dX3_endBatch_5 : decode cX3_endBatch 5 = .ok (.putfield 58, 3) := by decide +kernel
theorem dX3_endBatch_8 : decode cX3_endBatch 8 = .ok (.aload_n 0, 1) := by decide +kernel
theorem dX3_endBatch_9 : decode cX3_endBatch 9 = .ok (.getfield 12, 3) := by decide +kernel
theorem dX3_endBatch_12 : decode cX3_endBatch 12 = .ok (.getfield 233, 3) := by decide +kernel
theorem dX3_endBatch_15 : decode cX3_endBatch 15 = .ok (.invokestatic 141, 3) := by decide +kernel
theorem dX3_endBatch_18 : decode cX3_endBatch 18 = .ok (.aload_n 0, 1) := by decide +kernel
theorem dX3_endBatch_19 : decode cX3_endBatch 19 = .ok (.aload_n 0, 1) := by decide +kernel
theorem dX3_endBatch_20 : decode cX3_endBatch 20 = .ok (.getfield 12, 3) := by decide +kernel
theorem dX3_endBatch_23 : decode cX3_endBatch 23 = .ok (.getfield 47, 3) := by decide +kernel
theorem dX3_endBatch_26 : decode cX3_endBatch 26 = .ok (.iconst (-1), 1) := by decide +kernel
theorem dX3_endBatch_27 : decode cX3_endBatch 27 = .ok (.invokevirtual 118, 3) := by decide +kernel
theorem dX3_endBatch_30 : decode cX3_endBatch 30 = .ok (.return_, 1) := by decide +kernel
theorem dX3_keepStates_0 : decode cX3_keepStates 0 = .ok (.aload_n 1, 1) := by decide +kernel
theorem dX3_keepStates_1 : decode cX3_keepStates 1 = .ok (.invokestatic 141, 3) := by decide +kernel
theorem dX3_keepStates_4 : decode cX3_keepStates 4 = .ok (.aload_n 0, 1) := by decide +kernel
theorem dX3_keepStates_5 : decode cX3_keepStates 5 = .ok (.getfield 12, 3) := by decide +kernel
theorem dX3_keepStates_8 : decode cX3_keepStates 8 = .ok (.aload_n 1, 1) := by decide +kernel
theorem dX3_keepStates_9 : decode cX3_keepStates 9 = .ok (.aload_n 0, 1) := by decide +kernel
theorem dX3_keepStates_10 : decode cX3_keepStates 10 = .ok (.getfield 19, 3) := by decide +kernel
theorem dX3_keepStates_13 : decode cX3_keepStates 13 = .ok (.getfield 51, 3) := by decide +kernel
theorem dX3_keepStates_16 : decode cX3_keepStates 16 = .ok (.invokevirtual 54, 3) := by decide +kernel
theorem dX3_keepStates_19 : decode cX3_keepStates 19 = .ok (.iconst 0, 1) := by decide +kernel
theorem dX3_keepStates_20 : decode cX3_keepStates 20 = .ok (.istore_n 3, 1) := by decide +kernel
theorem dX3_keepStates_21 : decode cX3_keepStates 21 = .ok (.iload_n 3, 1) := by decide +kernel
theorem dX3_keepStates_22 : decode cX3_keepStates 22 = .ok (.iconst 2, 1) := by decide +kernel
theorem dX3_keepStates_23 : decode cX3_keepStates 23 = .ok (.if_icmp .ge 32, 3) := by decide +kernel
theorem dX3_keepStates_26 : decode cX3_keepStates 26 = .ok (.aload_n 0, 1) := by decide +kernel
theorem dX3_keepStates_27 : decode cX3_keepStates 27 = .ok (.iload_n 3, 1) := by decide +kernel
theorem dX3_keepStates_28 : decode cX3_keepStates 28 = .ok (.invokevirtual 186, 3) := by decide +kernel
theorem dX3_keepStates_31 : decode cX3_keepStates 31 = .ok (.ifCond .eq 18, 3) := by decide +kernel
theorem dX3_keepStates_34 : decode cX3_keepStates 34 = .ok (.aload_n 0, 1) := by decide +kernel
theorem dX3_keepStates_35 : decode cX3_keepStates 35 = .ok (.getfield 12, 3) := by decide +kernel
theorem dX3_keepStates_38 : decode cX3_keepStates 38 = .ok (.aload_n 1, 1) := by decide +kernel
theorem dX3_keepStates_39 : decode cX3_keepStates 39 = .ok (.aload_n 0, 1) := by decide +kernel
theorem dX3_keepStates_40 : decode cX3_keepStates 40 = .ok (.iload_n 3, 1) := by decide +kernel
theorem dX3_keepStates_41 : decode cX3_keepStates 41 = .ok (.iconst 1, 1) := by decide +kernel
theorem dX3_keepStates_42 : decode cX3_keepStates 42 = .ok (.invokevirtual 182, 3) := by decide +kernel
theorem dX3_keepStates_45 : decode cX3_keepStates 45 = .ok (.l2i, 1) := by decide +kernel
theorem dX3_keepStates_46 : decode cX3_keepStates 46 = .ok (.invokevirtual 54, 3) := by decide +kernel
theorem dX3_keepStates_49 : decode cX3_keepStates 49 = .ok (.iinc 3 1, 3) := by decide +kernel
theorem dX3_keepStates_52 : decode cX3_keepStates 52 = .ok (.goto (-31), 3) := by decide +kernel
theorem dX3_keepStates_55 : decode cX3_keepStates 55 = .ok (.iconst 0, 1) := by decide +kernel
theorem dX3_keepStates_56 : decode cX3_keepStates 56 = .ok (.istore_n 3, 1) := by decide +kernel
theorem dX3_keepStates_57 : decode cX3_keepStates 57 = .ok (.iload_n 3, 1) := by decide +kernel
theorem dX3_keepStates_58 : decode cX3_keepStates 58 = .ok (.iconst 4, 1) := by decide +kernel
theorem dX3_keepStates_59 : decode cX3_keepStates 59 = .ok (.if_icmp .ge 39, 3) := by decide +kernel
theorem dX3_keepStates_62 : decode cX3_keepStates 62 = .ok (.aload_n 0, 1) := by decide +kernel
theorem dX3_keepStates_63 : decode cX3_keepStates 63 = .ok (.iload_n 3, 1) := by decide +kernel
theorem dX3_keepStates_64 : decode cX3_keepStates 64 = .ok (.invokevirtual 109, 3) := by decide +kernel
theorem dX3_keepStates_67 : decode cX3_keepStates 67 = .ok (.ifCond .eq 25, 3) := by decide +kernel
theorem dX3_keepStates_70 : decode cX3_keepStates 70 = .ok (.iload_n 3, 1) := by decide +kernel
theorem dX3_keepStates_71 : decode cX3_keepStates 71 = .ok (.iload_n 2, 1) := by decide +kernel
theorem dX3_keepStates_72 : decode cX3_keepStates 72 = .ok (.if_icmp .eq 20, 3) := by decide +kernel
theorem dX3_keepStates_75 : decode cX3_keepStates 75 = .ok (.aload_n 0, 1) := by decide +kernel
theorem dX3_keepStates_76 : decode cX3_keepStates 76 = .ok (.getfield 12, 3) := by decide +kernel
theorem dX3_keepStates_79 : decode cX3_keepStates 79 = .ok (.aload_n 1, 1) := by decide +kernel
theorem dX3_keepStates_80 : decode cX3_keepStates 80 = .ok (.aload_n 0, 1) := by decide +kernel
theorem dX3_keepStates_81 : decode cX3_keepStates 81 = .ok (.getfield 35, 3) := by decide +kernel
theorem dX3_keepStates_84 : decode cX3_keepStates 84 = .ok (.iload_n 3, 1) := by decide +kernel
theorem dX3_keepStates_85 : decode cX3_keepStates 85 = .ok (.aaload, 1) := by decide +kernel
theorem dX3_keepStates_86 : decode cX3_keepStates 86 = .ok (.getfield 51, 3) := by decide +kernel
theorem dX3_keepStates_89 : decode cX3_keepStates 89 = .ok (.invokevirtual 54, 3) := by decide +kernel
theorem dX3_keepStates_92 : decode cX3_keepStates 92 = .ok (.iinc 3 1, 3) := by decide +kernel
theorem dX3_keepStates_95 : decode cX3_keepStates 95 = .ok (.goto (-38), 3) := by decide +kernel
theorem dX3_keepStates_98 : decode cX3_keepStates 98 = .ok (.return_, 1) := by decide +kernel
theorem dX3_otherSlot_0 : decode cX3_otherSlot 0 = .ok (.iload_n 0, 1) := by decide +kernel
theorem dX3_otherSlot_1 : decode cX3_otherSlot 1 = .ok (.ifCond .ne 7, 3) := by decide +kernel
theorem dX3_otherSlot_4 : decode cX3_otherSlot 4 = .ok (.iconst 1, 1) := by decide +kernel
theorem dX3_otherSlot_5 : decode cX3_otherSlot 5 = .ok (.goto 4, 3) := by decide +kernel
theorem dX3_otherSlot_8 : decode cX3_otherSlot 8 = .ok (.iconst 0, 1) := by decide +kernel
theorem dX3_otherSlot_9 : decode cX3_otherSlot 9 = .ok (.ireturn, 1) := by decide +kernel
theorem dX3_wordIn_0 : decode cX3_wordIn 0 = .ok (.iload_n 1, 1) := by decide +kernel
theorem dX3_wordIn_1 : decode cX3_wordIn 1 = .ok (.iconst 4, 1) := by decide +kernel
theorem dX3_wordIn_2 : decode cX3_wordIn 2 = .ok (.imul, 1) := by decide +kernel
theorem dX3_wordIn_3 : decode cX3_wordIn 3 = .ok (.iload_n 2, 1) := by decide +kernel
theorem dX3_wordIn_4 : decode cX3_wordIn 4 = .ok (.iadd, 1) := by decide +kernel
theorem dX3_wordIn_5 : decode cX3_wordIn 5 = .ok (.istore_n 3, 1) := by decide +kernel
theorem dX3_wordIn_6 : decode cX3_wordIn 6 = .ok (.iload_n 3, 1) := by decide +kernel
theorem dX3_wordIn_7 : decode cX3_wordIn 7 = .ok (.ifCond .lt 18, 3) := by decide +kernel
theorem dX3_wordIn_10 : decode cX3_wordIn 10 = .ok (.iload_n 3, 1) := by decide +kernel
theorem dX3_wordIn_11 : decode cX3_wordIn 11 = .ok (.bipush 8, 2) := by decide +kernel
theorem dX3_wordIn_13 : decode cX3_wordIn 13 = .ok (.if_icmp .ge 12, 3) := by decide +kernel
theorem dX3_wordIn_16 : decode cX3_wordIn 16 = .ok (.aload_n 0, 1) := by decide +kernel
theorem dX3_wordIn_17 : decode cX3_wordIn 17 = .ok (.getfield 39, 3) := by decide +kernel
theorem dX3_wordIn_20 : decode cX3_wordIn 20 = .ok (.iload_n 3, 1) := by decide +kernel
theorem dX3_wordIn_21 : decode cX3_wordIn 21 = .ok (.laload, 1) := by decide +kernel
theorem dX3_wordIn_22 : decode cX3_wordIn 22 = .ok (.goto 4, 3) := by decide +kernel
theorem dX3_wordIn_25 : decode cX3_wordIn 25 = .ok (.lconst 0, 1) := by decide +kernel
theorem dX3_wordIn_26 : decode cX3_wordIn 26 = .ok (.lreturn, 1) := by decide +kernel
theorem dX3_sumsUp_0 : decode cX3_sumsUp 0 = .ok (.aload_n 0, 1) := by decide +kernel
theorem dX3_sumsUp_1 : decode cX3_sumsUp 1 = .ok (.iload_n 1, 1) := by decide +kernel
theorem dX3_sumsUp_2 : decode cX3_sumsUp 2 = .ok (.iconst 0, 1) := by decide +kernel
theorem dX3_sumsUp_3 : decode cX3_sumsUp 3 = .ok (.invokevirtual 182, 3) := by decide +kernel
theorem dX3_sumsUp_6 : decode cX3_sumsUp 6 = .ok (.aload_n 0, 1) := by decide +kernel
theorem dX3_sumsUp_7 : decode cX3_sumsUp 7 = .ok (.iload_n 1, 1) := by decide +kernel
theorem dX3_sumsUp_8 : decode cX3_sumsUp 8 = .ok (.iconst 1, 1) := by decide +kernel
theorem dX3_sumsUp_9 : decode cX3_sumsUp 9 = .ok (.invokevirtual 182, 3) := by decide +kernel
theorem dX3_sumsUp_12 : decode cX3_sumsUp 12 = .ok (.aload_n 0, 1) := by decide +kernel
theorem dX3_sumsUp_13 : decode cX3_sumsUp 13 = .ok (.iload_n 1, 1) := by decide +kernel
theorem dX3_sumsUp_14 : decode cX3_sumsUp 14 = .ok (.iconst 2, 1) := by decide +kernel
theorem dX3_sumsUp_15 : decode cX3_sumsUp 15 = .ok (.invokevirtual 182, 3) := by decide +kernel
theorem dX3_sumsUp_18 : decode cX3_sumsUp 18 = .ok (.invokestatic 236, 3) := by decide +kernel
theorem dX3_sumsUp_21 : decode cX3_sumsUp 21 = .ok (.lstore_n 2, 1) := by decide +kernel
theorem dX3_sumsUp_22 : decode cX3_sumsUp 22 = .ok (.aload_n 0, 1) := by decide +kernel
theorem dX3_sumsUp_23 : decode cX3_sumsUp 23 = .ok (.iload_n 1, 1) := by decide +kernel
theorem dX3_sumsUp_24 : decode cX3_sumsUp 24 = .ok (.iconst 3, 1) := by decide +kernel
theorem dX3_sumsUp_25 : decode cX3_sumsUp 25 = .ok (.invokevirtual 182, 3) := by decide +kernel
theorem dX3_sumsUp_28 : decode cX3_sumsUp 28 = .ok (.lload_n 2, 1) := by decide +kernel
theorem dX3_sumsUp_29 : decode cX3_sumsUp 29 = .ok (.lcmp, 1) := by decide +kernel
theorem dX3_sumsUp_30 : decode cX3_sumsUp 30 = .ok (.ifCond .ne 7, 3) := by decide +kernel
theorem dX3_sumsUp_33 : decode cX3_sumsUp 33 = .ok (.iconst 1, 1) := by decide +kernel
theorem dX3_sumsUp_34 : decode cX3_sumsUp 34 = .ok (.goto 4, 3) := by decide +kernel
theorem dX3_sumsUp_37 : decode cX3_sumsUp 37 = .ok (.iconst 0, 1) := by decide +kernel
theorem dX3_sumsUp_38 : decode cX3_sumsUp 38 = .ok (.ireturn, 1) := by decide +kernel
theorem dX3_sumOf_0 : decode cX3_sumOf 0 = .ok (.ldc2_w 240, 3) := by decide +kernel
theorem dX3_sumOf_3 : decode cX3_sumOf 3 = .ok (.lload_n 0, 1) := by decide +kernel
theorem dX3_sumOf_4 : decode cX3_sumOf 4 = .ok (.lmul, 1) := by decide +kernel
theorem dX3_sumOf_5 : decode cX3_sumOf 5 = .ok (.ldc2_w 242, 3) := by decide +kernel
theorem dX3_sumOf_8 : decode cX3_sumOf 8 = .ok (.lload_n 2, 1) := by decide +kernel
theorem dX3_sumOf_9 : decode cX3_sumOf 9 = .ok (.lmul, 1) := by decide +kernel
theorem dX3_sumOf_10 : decode cX3_sumOf 10 = .ok (.ladd, 1) := by decide +kernel
theorem dX3_sumOf_11 : decode cX3_sumOf 11 = .ok (.lload 4, 2) := by decide +kernel
theorem dX3_sumOf_13 : decode cX3_sumOf 13 = .ok (.ladd, 1) := by decide +kernel
theorem dX3_sumOf_14 : decode cX3_sumOf 14 = .ok (.lreturn, 1) := by decide +kernel
theorem dX3_writeSlot_0 : decode cX3_writeSlot 0 = .ok (.iconst 0, 1) := by decide +kernel
theorem dX3_writeSlot_1 : decode cX3_writeSlot 1 = .ok (.istore_n 3, 1) := by decide +kernel
theorem dX3_writeSlot_2 : decode cX3_writeSlot 2 = .ok (.iload_n 3, 1) := by decide +kernel
theorem dX3_writeSlot_3 : decode cX3_writeSlot 3 = .ok (.iconst 4, 1) := by decide +kernel
theorem dX3_writeSlot_4 : decode cX3_writeSlot 4 = .ok (.if_icmp .ge 45, 3) := by decide +kernel
theorem dX3_writeSlot_7 : decode cX3_writeSlot 7 = .ok (.iload_n 3, 1) := by decide +kernel
theorem dX3_writeSlot_8 : decode cX3_writeSlot 8 = .ok (.iload_n 2, 1) := by decide +kernel
theorem dX3_writeSlot_9 : decode cX3_writeSlot 9 = .ok (.if_icmp .ge 40, 3) := by decide +kernel
theorem dX3_writeSlot_12 : decode cX3_writeSlot 12 = .ok (.iload_n 1, 1) := by decide +kernel
theorem dX3_writeSlot_13 : decode cX3_writeSlot 13 = .ok (.iconst 4, 1) := by decide +kernel
theorem dX3_writeSlot_14 : decode cX3_writeSlot 14 = .ok (.imul, 1) := by decide +kernel
theorem dX3_writeSlot_15 : decode cX3_writeSlot 15 = .ok (.iload_n 3, 1) := by decide +kernel
theorem dX3_writeSlot_16 : decode cX3_writeSlot 16 = .ok (.iadd, 1) := by decide +kernel
theorem dX3_writeSlot_17 : decode cX3_writeSlot 17 = .ok (.istore 4, 2) := by decide +kernel
theorem dX3_writeSlot_19 : decode cX3_writeSlot 19 = .ok (.iload 4, 2) := by decide +kernel
theorem dX3_writeSlot_21 : decode cX3_writeSlot 21 = .ok (.ifCond .lt 22, 3) := by decide +kernel
theorem dX3_writeSlot_24 : decode cX3_writeSlot 24 = .ok (.iload 4, 2) := by decide +kernel
theorem dX3_writeSlot_26 : decode cX3_writeSlot 26 = .ok (.bipush 8, 2) := by decide +kernel
theorem dX3_writeSlot_28 : decode cX3_writeSlot 28 = .ok (.if_icmp .ge 15, 3) := by decide +kernel
theorem dX3_writeSlot_31 : decode cX3_writeSlot 31 = .ok (.aload_n 0, 1) := by decide +kernel
theorem dX3_writeSlot_32 : decode cX3_writeSlot 32 = .ok (.getfield 39, 3) := by decide +kernel
theorem dX3_writeSlot_35 : decode cX3_writeSlot 35 = .ok (.iload 4, 2) := by decide +kernel
theorem dX3_writeSlot_37 : decode cX3_writeSlot 37 = .ok (.aload_n 0, 1) := by decide +kernel
theorem dX3_writeSlot_38 : decode cX3_writeSlot 38 = .ok (.iload_n 3, 1) := by decide +kernel
theorem dX3_writeSlot_39 : decode cX3_writeSlot 39 = .ok (.invokevirtual 244, 3) := by decide +kernel
theorem dX3_writeSlot_42 : decode cX3_writeSlot 42 = .ok (.lastore, 1) := by decide +kernel
theorem dX3_writeSlot_43 : decode cX3_writeSlot 43 = .ok (.iinc 3 1, 3) := by decide +kernel
theorem dX3_writeSlot_46 : decode cX3_writeSlot 46 = .ok (.goto (-44), 3) := by decide +kernel
theorem dX3_writeSlot_49 : decode cX3_writeSlot 49 = .ok (.return_, 1) := by decide +kernel
theorem dX3_wordOfBatch_0 : decode cX3_wordOfBatch 0 = .ok (.iload_n 1, 1) := by decide +kernel
theorem dX3_wordOfBatch_1 : decode cX3_wordOfBatch 1 = .ok (.tableswitch 54 0 2 #[27, 36, 45], 27) := by decide +kernel
theorem dX3_wordOfBatch_28 : decode cX3_wordOfBatch 28 = .ok (.aload_n 0, 1) := by decide +kernel
theorem dX3_wordOfBatch_29 : decode cX3_wordOfBatch 29 = .ok (.getfield 23, 3) := by decide +kernel
theorem dX3_wordOfBatch_32 : decode cX3_wordOfBatch 32 = .ok (.getfield 73, 3) := by decide +kernel
theorem dX3_wordOfBatch_35 : decode cX3_wordOfBatch 35 = .ok (.i2l, 1) := by decide +kernel
theorem dX3_wordOfBatch_36 : decode cX3_wordOfBatch 36 = .ok (.lreturn, 1) := by decide +kernel
theorem dX3_wordOfBatch_37 : decode cX3_wordOfBatch 37 = .ok (.aload_n 0, 1) := by decide +kernel
theorem dX3_wordOfBatch_38 : decode cX3_wordOfBatch 38 = .ok (.getfield 23, 3) := by decide +kernel
theorem dX3_wordOfBatch_41 : decode cX3_wordOfBatch 41 = .ok (.getfield 51, 3) := by decide +kernel
theorem dX3_wordOfBatch_44 : decode cX3_wordOfBatch 44 = .ok (.i2l, 1) := by decide +kernel
theorem dX3_wordOfBatch_45 : decode cX3_wordOfBatch 45 = .ok (.lreturn, 1) := by decide +kernel
theorem dX3_wordOfBatch_46 : decode cX3_wordOfBatch 46 = .ok (.aload_n 0, 1) := by decide +kernel
theorem dX3_wordOfBatch_47 : decode cX3_wordOfBatch 47 = .ok (.getfield 23, 3) := by decide +kernel
theorem dX3_wordOfBatch_50 : decode cX3_wordOfBatch 50 = .ok (.getfield 135, 3) := by decide +kernel
theorem dX3_wordOfBatch_53 : decode cX3_wordOfBatch 53 = .ok (.i2l, 1) := by decide +kernel
theorem dX3_wordOfBatch_54 : decode cX3_wordOfBatch 54 = .ok (.lreturn, 1) := by decide +kernel
theorem dX3_wordOfBatch_55 : decode cX3_wordOfBatch 55 = .ok (.aload_n 0, 1) := by decide +kernel
theorem dX3_wordOfBatch_56 : decode cX3_wordOfBatch 56 = .ok (.getfield 23, 3) := by decide +kernel
theorem dX3_wordOfBatch_59 : decode cX3_wordOfBatch 59 = .ok (.getfield 73, 3) := by decide +kernel
theorem dX3_wordOfBatch_62 : decode cX3_wordOfBatch 62 = .ok (.i2l, 1) := by decide +kernel
theorem dX3_wordOfBatch_63 : decode cX3_wordOfBatch 63 = .ok (.aload_n 0, 1) := by decide +kernel
theorem dX3_wordOfBatch_64 : decode cX3_wordOfBatch 64 = .ok (.getfield 23, 3) := by decide +kernel
theorem dX3_wordOfBatch_67 : decode cX3_wordOfBatch 67 = .ok (.getfield 51, 3) := by decide +kernel
theorem dX3_wordOfBatch_70 : decode cX3_wordOfBatch 70 = .ok (.i2l, 1) := by decide +kernel
theorem dX3_wordOfBatch_71 : decode cX3_wordOfBatch 71 = .ok (.aload_n 0, 1) := by decide +kernel
theorem dX3_wordOfBatch_72 : decode cX3_wordOfBatch 72 = .ok (.getfield 23, 3) := by decide +kernel
theorem dX3_wordOfBatch_75 : decode cX3_wordOfBatch 75 = .ok (.getfield 135, 3) := by decide +kernel
theorem dX3_wordOfBatch_78 : decode cX3_wordOfBatch 78 = .ok (.i2l, 1) := by decide +kernel
theorem dX3_wordOfBatch_79 : decode cX3_wordOfBatch 79 = .ok (.invokestatic 236, 3) := by decide +kernel
theorem dX3_wordOfBatch_82 : decode cX3_wordOfBatch 82 = .ok (.lreturn, 1) := by decide +kernel
theorem dX3_latestWholeSlot_0 : decode cX3_latestWholeSlot 0 = .ok (.aload_n 0, 1) := by decide +kernel
theorem dX3_latestWholeSlot_1 : decode cX3_latestWholeSlot 1 = .ok (.iconst 0, 1) := by decide +kernel
theorem dX3_latestWholeSlot_2 : decode cX3_latestWholeSlot 2 = .ok (.invokevirtual 186, 3) := by decide +kernel
theorem dX3_latestWholeSlot_5 : decode cX3_latestWholeSlot 5 = .ok (.ifCond .ne 5, 3) := by decide +kernel
theorem dX3_latestWholeSlot_8 : decode cX3_latestWholeSlot 8 = .ok (.iconst 1, 1) := by decide +kernel
theorem dX3_latestWholeSlot_9 : decode cX3_latestWholeSlot 9 = .ok (.ireturn, 1) := by decide +kernel
theorem dX3_latestWholeSlot_10 : decode cX3_latestWholeSlot 10 = .ok (.aload_n 0, 1) := by decide +kernel
theorem dX3_latestWholeSlot_11 : decode cX3_latestWholeSlot 11 = .ok (.iconst 1, 1) := by decide +kernel
theorem dX3_latestWholeSlot_12 : decode cX3_latestWholeSlot 12 = .ok (.invokevirtual 186, 3) := by decide +kernel
theorem dX3_latestWholeSlot_15 : decode cX3_latestWholeSlot 15 = .ok (.ifCond .eq 23, 3) := by decide +kernel
theorem dX3_latestWholeSlot_18 : decode cX3_latestWholeSlot 18 = .ok (.aload_n 0, 1) := by decide +kernel
theorem dX3_latestWholeSlot_19 : decode cX3_latestWholeSlot 19 = .ok (.iconst 1, 1) := by decide +kernel
theorem dX3_latestWholeSlot_20 : decode cX3_latestWholeSlot 20 = .ok (.iconst 0, 1) := by decide +kernel
theorem dX3_latestWholeSlot_21 : decode cX3_latestWholeSlot 21 = .ok (.invokevirtual 182, 3) := by decide +kernel
theorem dX3_latestWholeSlot_24 : decode cX3_latestWholeSlot 24 = .ok (.aload_n 0, 1) := by decide +kernel
theorem dX3_latestWholeSlot_25 : decode cX3_latestWholeSlot 25 = .ok (.iconst 0, 1) := by decide +kernel
theorem dX3_latestWholeSlot_26 : decode cX3_latestWholeSlot 26 = .ok (.iconst 0, 1) := by decide +kernel
theorem dX3_latestWholeSlot_27 : decode cX3_latestWholeSlot 27 = .ok (.invokevirtual 182, 3) := by decide +kernel
theorem dX3_latestWholeSlot_30 : decode cX3_latestWholeSlot 30 = .ok (.lcmp, 1) := by decide +kernel
theorem dX3_latestWholeSlot_31 : decode cX3_latestWholeSlot 31 = .ok (.ifCond .le 7, 3) := by decide +kernel
theorem dX3_latestWholeSlot_34 : decode cX3_latestWholeSlot 34 = .ok (.iconst 1, 1) := by decide +kernel
theorem dX3_latestWholeSlot_35 : decode cX3_latestWholeSlot 35 = .ok (.goto 4, 3) := by decide +kernel
theorem dX3_latestWholeSlot_38 : decode cX3_latestWholeSlot 38 = .ok (.iconst 0, 1) := by decide +kernel
theorem dX3_latestWholeSlot_39 : decode cX3_latestWholeSlot 39 = .ok (.ireturn, 1) := by decide +kernel
end
section
/-! decode rows, out of claim/NAMES.whole.lean.txt -/
theorem dX4_init_0 : decode cX4_init 0 = .ok (.aload_n 0, 1) := by decide +kernel
theorem dX4_init_1 : decode cX4_init 1 = .ok (.invokespecial 1, 3) := by decide +kernel
theorem dX4_init_4 : decode cX4_init 4 = .ok (.aload_n 0, 1) := by decide +kernel
theorem dX4_init_5 : decode cX4_init 5 = .ok (.sipush 720, 3) := by decide +kernel
theorem dX4_init_8 : decode cX4_init 8 = .ok (.newarray .int, 2) := by decide +kernel
theorem dX4_init_10 : decode cX4_init 10 = .ok (.putfield 7, 3) := by decide +kernel
theorem dX4_init_13 : decode cX4_init 13 = .ok (.aload_n 0, 1) := by decide +kernel
theorem dX4_init_14 : decode cX4_init 14 = .ok (.sipush 720, 3) := by decide +kernel
theorem dX4_init_17 : decode cX4_init 17 = .ok (.newarray .boolean, 2) := by decide +kernel
theorem dX4_init_19 : decode cX4_init 19 = .ok (.putfield 13, 3) := by decide +kernel
theorem dX4_init_22 : decode cX4_init 22 = .ok (.aload_n 0, 1) := by decide +kernel
theorem dX4_init_23 : decode cX4_init 23 = .ok (.sipush 3600, 3) := by decide +kernel
theorem dX4_init_26 : decode cX4_init 26 = .ok (.newarray .int, 2) := by decide +kernel
theorem dX4_init_28 : decode cX4_init 28 = .ok (.putfield 17, 3) := by decide +kernel
theorem dX4_init_31 : decode cX4_init 31 = .ok (.aload_n 0, 1) := by decide +kernel
theorem dX4_init_32 : decode cX4_init 32 = .ok (.sipush 3600, 3) := by decide +kernel
theorem dX4_init_35 : decode cX4_init 35 = .ok (.newarray .int, 2) := by decide +kernel
theorem dX4_init_37 : decode cX4_init 37 = .ok (.putfield 20, 3) := by decide +kernel
theorem dX4_init_40 : decode cX4_init 40 = .ok (.aload_n 0, 1) := by decide +kernel
theorem dX4_init_41 : decode cX4_init 41 = .ok (.sipush 720, 3) := by decide +kernel
theorem dX4_init_44 : decode cX4_init 44 = .ok (.newarray .boolean, 2) := by decide +kernel
theorem dX4_init_46 : decode cX4_init 46 = .ok (.putfield 23, 3) := by decide +kernel
theorem dX4_init_49 : decode cX4_init 49 = .ok (.aload_n 0, 1) := by decide +kernel
theorem dX4_init_50 : decode cX4_init 50 = .ok (.sipush 720, 3) := by decide +kernel
theorem dX4_init_53 : decode cX4_init 53 = .ok (.newarray .boolean, 2) := by decide +kernel
theorem dX4_init_55 : decode cX4_init 55 = .ok (.putfield 26, 3) := by decide +kernel
theorem dX4_init_58 : decode cX4_init 58 = .ok (.aload_n 0, 1) := by decide +kernel
theorem dX4_init_59 : decode cX4_init 59 = .ok (.sipush 720, 3) := by decide +kernel
theorem dX4_init_62 : decode cX4_init 62 = .ok (.newarray .int, 2) := by decide +kernel
theorem dX4_init_64 : decode cX4_init 64 = .ok (.putfield 29, 3) := by decide +kernel
theorem dX4_init_67 : decode cX4_init 67 = .ok (.aload_n 0, 1) := by decide +kernel
theorem dX4_init_68 : decode cX4_init 68 = .ok (.iconst (-1), 1) := by decide +kernel
theorem dX4_init_69 : decode cX4_init 69 = .ok (.putfield 32, 3) := by decide +kernel
theorem dX4_init_72 : decode cX4_init 72 = .ok (.aload_n 0, 1) := by decide +kernel
theorem dX4_init_73 : decode cX4_init 73 = .ok (.bipush 8, 2) := by decide +kernel
theorem dX4_init_75 : decode cX4_init 75 = .ok (.newarray .long, 2) := by decide +kernel
theorem dX4_init_77 : decode cX4_init 77 = .ok (.putfield 36, 3) := by decide +kernel
theorem dX4_init_80 : decode cX4_init 80 = .ok (.aload_n 0, 1) := by decide +kernel
theorem dX4_init_81 : decode cX4_init 81 = .ok (.iconst 4, 1) := by decide +kernel
theorem dX4_init_82 : decode cX4_init 82 = .ok (.newarray .int, 2) := by decide +kernel
theorem dX4_init_84 : decode cX4_init 84 = .ok (.putfield 40, 3) := by decide +kernel
theorem dX4_init_87 : decode cX4_init 87 = .ok (.aload_n 0, 1) := by decide +kernel
theorem dX4_init_88 : decode cX4_init 88 = .ok (.iconst 4, 1) := by decide +kernel
theorem dX4_init_89 : decode cX4_init 89 = .ok (.newarray .int, 2) := by decide +kernel
theorem dX4_init_91 : decode cX4_init 91 = .ok (.putfield 43, 3) := by decide +kernel
theorem dX4_init_94 : decode cX4_init 94 = .ok (.aload_n 0, 1) := by decide +kernel
theorem dX4_init_95 : decode cX4_init 95 = .ok (.bipush 12, 2) := by decide +kernel
theorem dX4_init_97 : decode cX4_init 97 = .ok (.newarray .int, 2) := by decide +kernel
theorem dX4_init_99 : decode cX4_init 99 = .ok (.putfield 46, 3) := by decide +kernel
theorem dX4_init_102 : decode cX4_init 102 = .ok (.aload_n 0, 1) := by decide +kernel
theorem dX4_init_103 : decode cX4_init 103 = .ok (.bipush 12, 2) := by decide +kernel
theorem dX4_init_105 : decode cX4_init 105 = .ok (.newarray .int, 2) := by decide +kernel
theorem dX4_init_107 : decode cX4_init 107 = .ok (.putfield 49, 3) := by decide +kernel
theorem dX4_init_110 : decode cX4_init 110 = .ok (.aload_n 0, 1) := by decide +kernel
theorem dX4_init_111 : decode cX4_init 111 = .ok (.invokevirtual 52, 3) := by decide +kernel
theorem dX4_init_114 : decode cX4_init 114 = .ok (.return_, 1) := by decide +kernel
theorem dX4_thrown_0 : decode cX4_thrown 0 = .ok (.aload_n 0, 1) := by decide +kernel
theorem dX4_thrown_1 : decode cX4_thrown 1 = .ok (.getfield 55, 3) := by decide +kernel
theorem dX4_thrown_4 : decode cX4_thrown 4 = .ok (.ireturn, 1) := by decide +kernel
theorem dX4_in_0 : decode cX4_in 0 = .ok (.iload_n 0, 1) := by decide +kernel
theorem dX4_in_1 : decode cX4_in 1 = .ok (.iload_n 1, 1) := by decide +kernel
theorem dX4_in_2 : decode cX4_in 2 = .ok (.if_icmp .lt 12, 3) := by decide +kernel
theorem dX4_in_5 : decode cX4_in 5 = .ok (.iload_n 0, 1) := by decide +kernel
theorem dX4_in_6 : decode cX4_in 6 = .ok (.iload_n 2, 1) := by decide +kernel
theorem dX4_in_7 : decode cX4_in 7 = .ok (.if_icmp .gt 7, 3) := by decide +kernel
theorem dX4_in_10 : decode cX4_in 10 = .ok (.iconst 1, 1) := by decide +kernel
theorem dX4_in_11 : decode cX4_in 11 = .ok (.goto 4, 3) := by decide +kernel
theorem dX4_in_14 : decode cX4_in 14 = .ok (.iconst 0, 1) := by decide +kernel
theorem dX4_in_15 : decode cX4_in 15 = .ok (.ireturn, 1) := by decide +kernel
theorem dX4_goes_0 : decode cX4_goes 0 = .ok (.aload_n 0, 1) := by decide +kernel
theorem dX4_goes_1 : decode cX4_goes 1 = .ok (.iload_n 1, 1) := by decide +kernel
theorem dX4_goes_2 : decode cX4_goes 2 = .ok (.ifCond .ne 7, 3) := by decide +kernel
theorem dX4_goes_5 : decode cX4_goes 5 = .ok (.iconst 1, 1) := by decide +kernel
theorem dX4_goes_6 : decode cX4_goes 6 = .ok (.goto 20, 3) := by decide +kernel
theorem dX4_goes_9 : decode cX4_goes 9 = .ok (.iload_n 2, 1) := by decide +kernel
theorem dX4_goes_10 : decode cX4_goes 10 = .ok (.ifCond .ne 7, 3) := by decide +kernel
theorem dX4_goes_13 : decode cX4_goes 13 = .ok (.iconst 2, 1) := by decide +kernel
theorem dX4_goes_14 : decode cX4_goes 14 = .ok (.goto 12, 3) := by decide +kernel
theorem dX4_goes_17 : decode cX4_goes 17 = .ok (.iload_n 3, 1) := by decide +kernel
theorem dX4_goes_18 : decode cX4_goes 18 = .ok (.ifCond .ne 7, 3) := by decide +kernel
theorem dX4_goes_21 : decode cX4_goes 21 = .ok (.iconst 3, 1) := by decide +kernel
theorem dX4_goes_22 : decode cX4_goes 22 = .ok (.goto 4, 3) := by decide +kernel
theorem dX4_goes_25 : decode cX4_goes 25 = .ok (.iconst 0, 1) := by decide +kernel
theorem dX4_goes_26 : decode cX4_goes 26 = .ok (.putfield 55, 3) := by decide +kernel
theorem dX4_goes_29 : decode cX4_goes 29 = .ok (.aload_n 0, 1) := by decide +kernel
theorem dX4_goes_30 : decode cX4_goes 30 = .ok (.getfield 55, 3) := by decide +kernel
theorem dX4_goes_33 : decode cX4_goes 33 = .ok (.ifCond .ne 7, 3) := by decide +kernel
theorem dX4_goes_36 : decode cX4_goes 36 = .ok (.iconst 1, 1) := by decide +kernel
theorem dX4_goes_37 : decode cX4_goes 37 = .ok (.goto 4, 3) := by decide +kernel
theorem dX4_goes_40 : decode cX4_goes 40 = .ok (.iconst 0, 1) := by decide +kernel
theorem dX4_goes_41 : decode cX4_goes 41 = .ok (.ireturn, 1) := by decide +kernel
theorem dX4_closesAll_0 : decode cX4_closesAll 0 = .ok (.iconst 0, 1) := by decide +kernel
theorem dX4_closesAll_1 : decode cX4_closesAll 1 = .ok (.istore_n 1, 1) := by decide +kernel
theorem dX4_closesAll_2 : decode cX4_closesAll 2 = .ok (.iload_n 1, 1) := by decide +kernel
theorem dX4_closesAll_3 : decode cX4_closesAll 3 = .ok (.iconst 4, 1) := by decide +kernel
theorem dX4_closesAll_4 : decode cX4_closesAll 4 = .ok (.if_icmp .ge 16, 3) := by decide +kernel
theorem dX4_closesAll_7 : decode cX4_closesAll 7 = .ok (.aload_n 0, 1) := by decide +kernel
theorem dX4_closesAll_8 : decode cX4_closesAll 8 = .ok (.getfield 40, 3) := by decide +kernel
theorem dX4_closesAll_11 : decode cX4_closesAll 11 = .ok (.iload_n 1, 1) := by decide +kernel
theorem dX4_closesAll_12 : decode cX4_closesAll 12 = .ok (.iconst (-1), 1) := by decide +kernel
theorem dX4_closesAll_13 : decode cX4_closesAll 13 = .ok (.iastore, 1) := by decide +kernel
theorem dX4_closesAll_14 : decode cX4_closesAll 14 = .ok (.iinc 1 1, 3) := by decide +kernel
theorem dX4_closesAll_17 : decode cX4_closesAll 17 = .ok (.goto (-15), 3) := by decide +kernel
theorem dX4_closesAll_20 : decode cX4_closesAll 20 = .ok (.return_, 1) := by decide +kernel
theorem dX4_meets_0 : decode cX4_meets 0 = .ok (.aload_n 0, 1) := by decide +kernel
theorem dX4_meets_1 : decode cX4_meets 1 = .ok (.getfield 26, 3) := by decide +kernel
theorem dX4_meets_4 : decode cX4_meets 4 = .ok (.iload_n 1, 1) := by decide +kernel
theorem dX4_meets_5 : decode cX4_meets 5 = .ok (.baload, 1) := by decide +kernel
theorem dX4_meets_6 : decode cX4_meets 6 = .ok (.ifCond .eq 7, 3) := by decide +kernel
theorem dX4_meets_9 : decode cX4_meets 9 = .ok (.iconst 0, 1) := by decide +kernel
theorem dX4_meets_10 : decode cX4_meets 10 = .ok (.goto 4, 3) := by decide +kernel
theorem dX4_meets_13 : decode cX4_meets 13 = .ok (.iconst 1, 1) := by decide +kernel
theorem dX4_meets_14 : decode cX4_meets 14 = .ok (.istore_n 2, 1) := by decide +kernel
theorem dX4_meets_15 : decode cX4_meets 15 = .ok (.aload_n 0, 1) := by decide +kernel
theorem dX4_meets_16 : decode cX4_meets 16 = .ok (.getfield 29, 3) := by decide +kernel
theorem dX4_meets_19 : decode cX4_meets 19 = .ok (.iconst 0, 1) := by decide +kernel
theorem dX4_meets_20 : decode cX4_meets 20 = .ok (.iload_n 1, 1) := by decide +kernel
theorem dX4_meets_21 : decode cX4_meets 21 = .ok (.iastore, 1) := by decide +kernel
theorem dX4_meets_22 : decode cX4_meets 22 = .ok (.aload_n 0, 1) := by decide +kernel
theorem dX4_meets_23 : decode cX4_meets 23 = .ok (.getfield 26, 3) := by decide +kernel
theorem dX4_meets_26 : decode cX4_meets 26 = .ok (.iload_n 1, 1) := by decide +kernel
theorem dX4_meets_27 : decode cX4_meets 27 = .ok (.iconst 1, 1) := by decide +kernel
theorem dX4_meets_28 : decode cX4_meets 28 = .ok (.bastore, 1) := by decide +kernel
theorem dX4_meets_29 : decode cX4_meets 29 = .ok (.iload_n 2, 1) := by decide +kernel
theorem dX4_meets_30 : decode cX4_meets 30 = .ok (.ifCond .le 87, 3) := by decide +kernel
theorem dX4_meets_33 : decode cX4_meets 33 = .ok (.iinc 2 (-1), 3) := by decide +kernel
theorem dX4_meets_36 : decode cX4_meets 36 = .ok (.aload_n 0, 1) := by decide +kernel
theorem dX4_meets_37 : decode cX4_meets 37 = .ok (.getfield 29, 3) := by decide +kernel
theorem dX4_meets_40 : decode cX4_meets 40 = .ok (.iload_n 2, 1) := by decide +kernel
theorem dX4_meets_41 : decode cX4_meets 41 = .ok (.iaload, 1) := by decide +kernel
theorem dX4_meets_42 : decode cX4_meets 42 = .ok (.istore_n 3, 1) := by decide +kernel
theorem dX4_meets_43 : decode cX4_meets 43 = .ok (.iconst 0, 1) := by decide +kernel
theorem dX4_meets_44 : decode cX4_meets 44 = .ok (.istore 4, 2) := by decide +kernel
theorem dX4_meets_46 : decode cX4_meets 46 = .ok (.iload 4, 2) := by decide +kernel
theorem dX4_meets_48 : decode cX4_meets 48 = .ok (.aload_n 0, 1) := by decide +kernel
theorem dX4_meets_49 : decode cX4_meets 49 = .ok (.getfield 7, 3) := by decide +kernel
theorem dX4_meets_52 : decode cX4_meets 52 = .ok (.iload_n 3, 1) := by decide +kernel
theorem dX4_meets_53 : decode cX4_meets 53 = .ok (.iaload, 1) := by decide +kernel
theorem dX4_meets_54 : decode cX4_meets 54 = .ok (.if_icmp .ge 60, 3) := by decide +kernel
theorem dX4_meets_57 : decode cX4_meets 57 = .ok (.aload_n 0, 1) := by decide +kernel
theorem dX4_meets_58 : decode cX4_meets 58 = .ok (.getfield 13, 3) := by decide +kernel
theorem dX4_meets_61 : decode cX4_meets 61 = .ok (.iload_n 3, 1) := by decide +kernel
theorem dX4_meets_62 : decode cX4_meets 62 = .ok (.baload, 1) := by decide +kernel
theorem dX4_meets_63 : decode cX4_meets 63 = .ok (.ifCond .eq 51, 3) := by decide +kernel
theorem dX4_meets_66 : decode cX4_meets 66 = .ok (.aload_n 0, 1) := by decide +kernel
theorem dX4_meets_67 : decode cX4_meets 67 = .ok (.getfield 17, 3) := by decide +kernel
theorem dX4_meets_70 : decode cX4_meets 70 = .ok (.iconst 5, 1) := by decide +kernel
theorem dX4_meets_71 : decode cX4_meets 71 = .ok (.iload_n 3, 1) := by decide +kernel
theorem dX4_meets_72 : decode cX4_meets 72 = .ok (.imul, 1) := by decide +kernel
theorem dX4_meets_73 : decode cX4_meets 73 = .ok (.iload 4, 2) := by decide +kernel
theorem dX4_meets_75 : decode cX4_meets 75 = .ok (.iadd, 1) := by decide +kernel
theorem dX4_meets_76 : decode cX4_meets 76 = .ok (.iaload, 1) := by decide +kernel
theorem dX4_meets_77 : decode cX4_meets 77 = .ok (.istore 5, 2) := by decide +kernel
theorem dX4_meets_79 : decode cX4_meets 79 = .ok (.aload_n 0, 1) := by decide +kernel
theorem dX4_meets_80 : decode cX4_meets 80 = .ok (.getfield 26, 3) := by decide +kernel
theorem dX4_meets_83 : decode cX4_meets 83 = .ok (.iload 5, 2) := by decide +kernel
theorem dX4_meets_85 : decode cX4_meets 85 = .ok (.baload, 1) := by decide +kernel
theorem dX4_meets_86 : decode cX4_meets 86 = .ok (.ifCond .ne 22, 3) := by decide +kernel
theorem dX4_meets_89 : decode cX4_meets 89 = .ok (.aload_n 0, 1) := by decide +kernel
theorem dX4_meets_90 : decode cX4_meets 90 = .ok (.getfield 26, 3) := by decide +kernel
theorem dX4_meets_93 : decode cX4_meets 93 = .ok (.iload 5, 2) := by decide +kernel
theorem dX4_meets_95 : decode cX4_meets 95 = .ok (.iconst 1, 1) := by decide +kernel
theorem dX4_meets_96 : decode cX4_meets 96 = .ok (.bastore, 1) := by decide +kernel
theorem dX4_meets_97 : decode cX4_meets 97 = .ok (.aload_n 0, 1) := by decide +kernel
theorem dX4_meets_98 : decode cX4_meets 98 = .ok (.getfield 29, 3) := by decide +kernel
theorem dX4_meets_101 : decode cX4_meets 101 = .ok (.iload_n 2, 1) := by decide +kernel
theorem dX4_meets_102 : decode cX4_meets 102 = .ok (.iload 5, 2) := by decide +kernel
theorem dX4_meets_104 : decode cX4_meets 104 = .ok (.iastore, 1) := by decide +kernel
theorem dX4_meets_105 : decode cX4_meets 105 = .ok (.iinc 2 1, 3) := by decide +kernel
theorem dX4_meets_108 : decode cX4_meets 108 = .ok (.iinc 4 1, 3) := by decide +kernel
theorem dX4_meets_111 : decode cX4_meets 111 = .ok (.goto (-65), 3) := by decide +kernel
theorem dX4_meets_114 : decode cX4_meets 114 = .ok (.goto (-85), 3) := by decide +kernel
theorem dX4_meets_117 : decode cX4_meets 117 = .ok (.return_, 1) := by decide +kernel
theorem dX4_forgets_0 : decode cX4_forgets 0 = .ok (.iconst 0, 1) := by decide +kernel
theorem dX4_forgets_1 : decode cX4_forgets 1 = .ok (.istore_n 1, 1) := by decide +kernel
theorem dX4_forgets_2 : decode cX4_forgets 2 = .ok (.iload_n 1, 1) := by decide +kernel
theorem dX4_forgets_3 : decode cX4_forgets 3 = .ok (.sipush 720, 3) := by decide +kernel
theorem dX4_forgets_6 : decode cX4_forgets 6 = .ok (.if_icmp .ge 16, 3) := by decide +kernel
theorem dX4_forgets_9 : decode cX4_forgets 9 = .ok (.aload_n 0, 1) := by decide +kernel
theorem dX4_forgets_10 : decode cX4_forgets 10 = .ok (.getfield 26, 3) := by decide +kernel
theorem dX4_forgets_13 : decode cX4_forgets 13 = .ok (.iload_n 1, 1) := by decide +kernel
theorem dX4_forgets_14 : decode cX4_forgets 14 = .ok (.iconst 0, 1) := by decide +kernel
theorem dX4_forgets_15 : decode cX4_forgets 15 = .ok (.bastore, 1) := by decide +kernel
theorem dX4_forgets_16 : decode cX4_forgets 16 = .ok (.iinc 1 1, 3) := by decide +kernel
theorem dX4_forgets_19 : decode cX4_forgets 19 = .ok (.goto (-17), 3) := by decide +kernel
theorem dX4_forgets_22 : decode cX4_forgets 22 = .ok (.return_, 1) := by decide +kernel
theorem dX4_meetsAll_0 : decode cX4_meetsAll 0 = .ok (.aload_n 0, 1) := by decide +kernel
theorem dX4_meetsAll_1 : decode cX4_meetsAll 1 = .ok (.invokevirtual 58, 3) := by decide +kernel
theorem dX4_meetsAll_4 : decode cX4_meetsAll 4 = .ok (.aload_n 0, 1) := by decide +kernel
theorem dX4_meetsAll_5 : decode cX4_meetsAll 5 = .ok (.aload_n 0, 1) := by decide +kernel
theorem dX4_meetsAll_6 : decode cX4_meetsAll 6 = .ok (.getfield 61, 3) := by decide +kernel
theorem dX4_meetsAll_9 : decode cX4_meetsAll 9 = .ok (.invokevirtual 64, 3) := by decide +kernel
theorem dX4_meetsAll_12 : decode cX4_meetsAll 12 = .ok (.aload_n 0, 1) := by decide +kernel
theorem dX4_meetsAll_13 : decode cX4_meetsAll 13 = .ok (.getfield 32, 3) := by decide +kernel
theorem dX4_meetsAll_16 : decode cX4_meetsAll 16 = .ok (.iconst (-1), 1) := by decide +kernel
theorem dX4_meetsAll_17 : decode cX4_meetsAll 17 = .ok (.if_icmp .eq 11, 3) := by decide +kernel
theorem dX4_meetsAll_20 : decode cX4_meetsAll 20 = .ok (.aload_n 0, 1) := by decide +kernel
theorem dX4_meetsAll_21 : decode cX4_meetsAll 21 = .ok (.aload_n 0, 1) := by decide +kernel
theorem dX4_meetsAll_22 : decode cX4_meetsAll 22 = .ok (.getfield 32, 3) := by decide +kernel
theorem dX4_meetsAll_25 : decode cX4_meetsAll 25 = .ok (.invokevirtual 64, 3) := by decide +kernel
theorem dX4_meetsAll_28 : decode cX4_meetsAll 28 = .ok (.iconst 0, 1) := by decide +kernel
theorem dX4_meetsAll_29 : decode cX4_meetsAll 29 = .ok (.istore_n 2, 1) := by decide +kernel
theorem dX4_meetsAll_30 : decode cX4_meetsAll 30 = .ok (.iload_n 2, 1) := by decide +kernel
theorem dX4_meetsAll_31 : decode cX4_meetsAll 31 = .ok (.iconst 2, 1) := by decide +kernel
theorem dX4_meetsAll_32 : decode cX4_meetsAll 32 = .ok (.if_icmp .ge 32, 3) := by decide +kernel
theorem dX4_meetsAll_35 : decode cX4_meetsAll 35 = .ok (.aload_n 0, 1) := by decide +kernel
theorem dX4_meetsAll_36 : decode cX4_meetsAll 36 = .ok (.iload_n 2, 1) := by decide +kernel
theorem dX4_meetsAll_37 : decode cX4_meetsAll 37 = .ok (.invokevirtual 68, 3) := by decide +kernel
theorem dX4_meetsAll_40 : decode cX4_meetsAll 40 = .ok (.ifCond .eq 18, 3) := by decide +kernel
theorem dX4_meetsAll_43 : decode cX4_meetsAll 43 = .ok (.aload_n 0, 1) := by decide +kernel
theorem dX4_meetsAll_44 : decode cX4_meetsAll 44 = .ok (.aload_n 0, 1) := by decide +kernel
theorem dX4_meetsAll_45 : decode cX4_meetsAll 45 = .ok (.getfield 36, 3) := by decide +kernel
theorem dX4_meetsAll_48 : decode cX4_meetsAll 48 = .ok (.iconst 4, 1) := by decide +kernel
theorem dX4_meetsAll_49 : decode cX4_meetsAll 49 = .ok (.iload_n 2, 1) := by decide +kernel
theorem dX4_meetsAll_50 : decode cX4_meetsAll 50 = .ok (.imul, 1) := by decide +kernel
theorem dX4_meetsAll_51 : decode cX4_meetsAll 51 = .ok (.iconst 1, 1) := by decide +kernel
theorem dX4_meetsAll_52 : decode cX4_meetsAll 52 = .ok (.iadd, 1) := by decide +kernel
theorem dX4_meetsAll_53 : decode cX4_meetsAll 53 = .ok (.laload, 1) := by decide +kernel
theorem dX4_meetsAll_54 : decode cX4_meetsAll 54 = .ok (.l2i, 1) := by decide +kernel
theorem dX4_meetsAll_55 : decode cX4_meetsAll 55 = .ok (.invokevirtual 64, 3) := by decide +kernel
theorem dX4_meetsAll_58 : decode cX4_meetsAll 58 = .ok (.iinc 2 1, 3) := by decide +kernel
theorem dX4_meetsAll_61 : decode cX4_meetsAll 61 = .ok (.goto (-31), 3) := by decide +kernel
theorem dX4_meetsAll_64 : decode cX4_meetsAll 64 = .ok (.iconst 0, 1) := by decide +kernel
theorem dX4_meetsAll_65 : decode cX4_meetsAll 65 = .ok (.istore_n 2, 1) := by decide +kernel
theorem dX4_meetsAll_66 : decode cX4_meetsAll 66 = .ok (.iload_n 2, 1) := by decide +kernel
theorem dX4_meetsAll_67 : decode cX4_meetsAll 67 = .ok (.iconst 4, 1) := by decide +kernel
theorem dX4_meetsAll_68 : decode cX4_meetsAll 68 = .ok (.if_icmp .ge 34, 3) := by decide +kernel
theorem dX4_meetsAll_71 : decode cX4_meetsAll 71 = .ok (.iload_n 2, 1) := by decide +kernel
theorem dX4_meetsAll_72 : decode cX4_meetsAll 72 = .ok (.iload_n 1, 1) := by decide +kernel
theorem dX4_meetsAll_73 : decode cX4_meetsAll 73 = .ok (.if_icmp .eq 23, 3) := by decide +kernel
theorem dX4_meetsAll_76 : decode cX4_meetsAll 76 = .ok (.aload_n 0, 1) := by decide +kernel
theorem dX4_meetsAll_77 : decode cX4_meetsAll 77 = .ok (.getfield 40, 3) := by decide +kernel
theorem dX4_meetsAll_80 : decode cX4_meetsAll 80 = .ok (.iload_n 2, 1) := by decide +kernel
theorem dX4_meetsAll_81 : decode cX4_meetsAll 81 = .ok (.iaload, 1) := by decide +kernel
theorem dX4_meetsAll_82 : decode cX4_meetsAll 82 = .ok (.iconst (-1), 1) := by decide +kernel
theorem dX4_meetsAll_83 : decode cX4_meetsAll 83 = .ok (.if_icmp .eq 13, 3) := by decide +kernel
theorem dX4_meetsAll_86 : decode cX4_meetsAll 86 = .ok (.aload_n 0, 1) := by decide +kernel
theorem dX4_meetsAll_87 : decode cX4_meetsAll 87 = .ok (.aload_n 0, 1) := by decide +kernel
theorem dX4_meetsAll_88 : decode cX4_meetsAll 88 = .ok (.getfield 40, 3) := by decide +kernel
theorem dX4_meetsAll_91 : decode cX4_meetsAll 91 = .ok (.iload_n 2, 1) := by decide +kernel
theorem dX4_meetsAll_92 : decode cX4_meetsAll 92 = .ok (.iaload, 1) := by decide +kernel
theorem dX4_meetsAll_93 : decode cX4_meetsAll 93 = .ok (.invokevirtual 64, 3) := by decide +kernel
theorem dX4_meetsAll_96 : decode cX4_meetsAll 96 = .ok (.iinc 2 1, 3) := by decide +kernel
theorem dX4_meetsAll_99 : decode cX4_meetsAll 99 = .ok (.goto (-33), 3) := by decide +kernel
theorem dX4_meetsAll_102 : decode cX4_meetsAll 102 = .ok (.iconst 0, 1) := by decide +kernel
theorem dX4_meetsAll_103 : decode cX4_meetsAll 103 = .ok (.istore_n 2, 1) := by decide +kernel
theorem dX4_meetsAll_104 : decode cX4_meetsAll 104 = .ok (.iconst 0, 1) := by decide +kernel
theorem dX4_meetsAll_105 : decode cX4_meetsAll 105 = .ok (.istore_n 3, 1) := by decide +kernel
theorem dX4_meetsAll_106 : decode cX4_meetsAll 106 = .ok (.iload_n 3, 1) := by decide +kernel
theorem dX4_meetsAll_107 : decode cX4_meetsAll 107 = .ok (.sipush 720, 3) := by decide +kernel
theorem dX4_meetsAll_110 : decode cX4_meetsAll 110 = .ok (.if_icmp .ge 26, 3) := by decide +kernel
theorem dX4_meetsAll_113 : decode cX4_meetsAll 113 = .ok (.iload_n 2, 1) := by decide +kernel
theorem dX4_meetsAll_114 : decode cX4_meetsAll 114 = .ok (.aload_n 0, 1) := by decide +kernel
theorem dX4_meetsAll_115 : decode cX4_meetsAll 115 = .ok (.getfield 26, 3) := by decide +kernel
theorem dX4_meetsAll_118 : decode cX4_meetsAll 118 = .ok (.iload_n 3, 1) := by decide +kernel
theorem dX4_meetsAll_119 : decode cX4_meetsAll 119 = .ok (.baload, 1) := by decide +kernel
theorem dX4_meetsAll_120 : decode cX4_meetsAll 120 = .ok (.ifCond .eq 7, 3) := by decide +kernel
theorem dX4_meetsAll_123 : decode cX4_meetsAll 123 = .ok (.iconst 1, 1) := by decide +kernel
theorem dX4_meetsAll_124 : decode cX4_meetsAll 124 = .ok (.goto 4, 3) := by decide +kernel
theorem dX4_meetsAll_127 : decode cX4_meetsAll 127 = .ok (.iconst 0, 1) := by decide +kernel
theorem dX4_meetsAll_128 : decode cX4_meetsAll 128 = .ok (.iadd, 1) := by decide +kernel
theorem dX4_meetsAll_129 : decode cX4_meetsAll 129 = .ok (.istore_n 2, 1) := by decide +kernel
theorem dX4_meetsAll_130 : decode cX4_meetsAll 130 = .ok (.iinc 3 1, 3) := by decide +kernel
theorem dX4_meetsAll_133 : decode cX4_meetsAll 133 = .ok (.goto (-27), 3) := by decide +kernel
theorem dX4_meetsAll_136 : decode cX4_meetsAll 136 = .ok (.iload_n 2, 1) := by decide +kernel
theorem dX4_meetsAll_137 : decode cX4_meetsAll 137 = .ok (.ireturn, 1) := by decide +kernel
theorem dX4_leastNotMet_0 : decode cX4_leastNotMet 0 = .ok (.iconst 0, 1) := by decide +kernel
theorem dX4_leastNotMet_1 : decode cX4_leastNotMet 1 = .ok (.istore_n 1, 1) := by decide +kernel
theorem dX4_leastNotMet_2 : decode cX4_leastNotMet 2 = .ok (.aload_n 0, 1) := by decide +kernel
theorem dX4_leastNotMet_3 : decode cX4_leastNotMet 3 = .ok (.getfield 26, 3) := by decide +kernel
theorem dX4_leastNotMet_6 : decode cX4_leastNotMet 6 = .ok (.iload_n 1, 1) := by decide +kernel
theorem dX4_leastNotMet_7 : decode cX4_leastNotMet 7 = .ok (.baload, 1) := by decide +kernel
theorem dX4_leastNotMet_8 : decode cX4_leastNotMet 8 = .ok (.ifCond .eq 9, 3) := by decide +kernel
theorem dX4_leastNotMet_11 : decode cX4_leastNotMet 11 = .ok (.iinc 1 1, 3) := by decide +kernel
theorem dX4_leastNotMet_14 : decode cX4_leastNotMet 14 = .ok (.goto (-12), 3) := by decide +kernel
theorem dX4_leastNotMet_17 : decode cX4_leastNotMet 17 = .ok (.iload_n 1, 1) := by decide +kernel
theorem dX4_leastNotMet_18 : decode cX4_leastNotMet 18 = .ok (.ireturn, 1) := by decide +kernel
theorem dX4_inUse_0 : decode cX4_inUse 0 = .ok (.aload_n 0, 1) := by decide +kernel
theorem dX4_inUse_1 : decode cX4_inUse 1 = .ok (.iconst (-1), 1) := by decide +kernel
theorem dX4_inUse_2 : decode cX4_inUse 2 = .ok (.invokevirtual 72, 3) := by decide +kernel
theorem dX4_inUse_5 : decode cX4_inUse 5 = .ok (.pop, 1) := by decide +kernel
theorem dX4_inUse_6 : decode cX4_inUse 6 = .ok (.iload_n 1, 1) := by decide +kernel
theorem dX4_inUse_7 : decode cX4_inUse 7 = .ok (.iconst 0, 1) := by decide +kernel
theorem dX4_inUse_8 : decode cX4_inUse 8 = .ok (.sipush 719, 3) := by decide +kernel
theorem dX4_inUse_11 : decode cX4_inUse 11 = .ok (.invokestatic 76, 3) := by decide +kernel
theorem dX4_inUse_14 : decode cX4_inUse 14 = .ok (.ifCond .eq 16, 3) := by decide +kernel
theorem dX4_inUse_17 : decode cX4_inUse 17 = .ok (.aload_n 0, 1) := by decide +kernel
theorem dX4_inUse_18 : decode cX4_inUse 18 = .ok (.getfield 26, 3) := by decide +kernel
theorem dX4_inUse_21 : decode cX4_inUse 21 = .ok (.iload_n 1, 1) := by decide +kernel
theorem dX4_inUse_22 : decode cX4_inUse 22 = .ok (.baload, 1) := by decide +kernel
theorem dX4_inUse_23 : decode cX4_inUse 23 = .ok (.ifCond .eq 7, 3) := by decide +kernel
theorem dX4_inUse_26 : decode cX4_inUse 26 = .ok (.iconst 1, 1) := by decide +kernel
theorem dX4_inUse_27 : decode cX4_inUse 27 = .ok (.goto 4, 3) := by decide +kernel
theorem dX4_inUse_30 : decode cX4_inUse 30 = .ok (.iconst 0, 1) := by decide +kernel
theorem dX4_inUse_31 : decode cX4_inUse 31 = .ok (.ireturn, 1) := by decide +kernel
theorem dX4_takes_0 : decode cX4_takes 0 = .ok (.aload_n 0, 1) := by decide +kernel
theorem dX4_takes_1 : decode cX4_takes 1 = .ok (.iconst (-1), 1) := by decide +kernel
theorem dX4_takes_2 : decode cX4_takes 2 = .ok (.invokevirtual 72, 3) := by decide +kernel
theorem dX4_takes_5 : decode cX4_takes 5 = .ok (.pop, 1) := by decide +kernel
theorem dX4_takes_6 : decode cX4_takes 6 = .ok (.iload_n 1, 1) := by decide +kernel
theorem dX4_takes_7 : decode cX4_takes 7 = .ok (.iconst (-1), 1) := by decide +kernel
theorem dX4_takes_8 : decode cX4_takes 8 = .ok (.if_icmp .eq 8, 3) := by decide +kernel
theorem dX4_takes_11 : decode cX4_takes 11 = .ok (.aload_n 0, 1) := by decide +kernel
theorem dX4_takes_12 : decode cX4_takes 12 = .ok (.iload_n 1, 1) := by decide +kernel
theorem dX4_takes_13 : decode cX4_takes 13 = .ok (.invokevirtual 64, 3) := by decide +kernel
theorem dX4_takes_16 : decode cX4_takes 16 = .ok (.aload_n 0, 1) := by decide +kernel
theorem dX4_takes_17 : decode cX4_takes 17 = .ok (.invokevirtual 80, 3) := by decide +kernel
theorem dX4_takes_20 : decode cX4_takes 20 = .ok (.istore_n 2, 1) := by decide +kernel
theorem dX4_takes_21 : decode cX4_takes 21 = .ok (.aload_n 0, 1) := by decide +kernel
theorem dX4_takes_22 : decode cX4_takes 22 = .ok (.getfield 23, 3) := by decide +kernel
theorem dX4_takes_25 : decode cX4_takes 25 = .ok (.iload_n 2, 1) := by decide +kernel
theorem dX4_takes_26 : decode cX4_takes 26 = .ok (.iconst 1, 1) := by decide +kernel
theorem dX4_takes_27 : decode cX4_takes 27 = .ok (.bastore, 1) := by decide +kernel
theorem dX4_takes_28 : decode cX4_takes 28 = .ok (.aload_n 0, 1) := by decide +kernel
theorem dX4_takes_29 : decode cX4_takes 29 = .ok (.getfield 7, 3) := by decide +kernel
theorem dX4_takes_32 : decode cX4_takes 32 = .ok (.iload_n 2, 1) := by decide +kernel
theorem dX4_takes_33 : decode cX4_takes 33 = .ok (.iconst 0, 1) := by decide +kernel
theorem dX4_takes_34 : decode cX4_takes 34 = .ok (.iastore, 1) := by decide +kernel
theorem dX4_takes_35 : decode cX4_takes 35 = .ok (.iload_n 2, 1) := by decide +kernel
theorem dX4_takes_36 : decode cX4_takes 36 = .ok (.ireturn, 1) := by decide +kernel
theorem dX4_copies_0 : decode cX4_copies 0 = .ok (.aload_n 0, 1) := by decide +kernel
theorem dX4_copies_1 : decode cX4_copies 1 = .ok (.getfield 13, 3) := by decide +kernel
theorem dX4_copies_4 : decode cX4_copies 4 = .ok (.iload_n 2, 1) := by decide +kernel
theorem dX4_copies_5 : decode cX4_copies 5 = .ok (.aload_n 0, 1) := by decide +kernel
theorem dX4_copies_6 : decode cX4_copies 6 = .ok (.getfield 13, 3) := by decide +kernel
theorem dX4_copies_9 : decode cX4_copies 9 = .ok (.iload_n 1, 1) := by decide +kernel
theorem dX4_copies_10 : decode cX4_copies 10 = .ok (.baload, 1) := by decide +kernel
theorem dX4_copies_11 : decode cX4_copies 11 = .ok (.bastore, 1) := by decide +kernel
theorem dX4_copies_12 : decode cX4_copies 12 = .ok (.aload_n 0, 1) := by decide +kernel
theorem dX4_copies_13 : decode cX4_copies 13 = .ok (.getfield 7, 3) := by decide +kernel
theorem dX4_copies_16 : decode cX4_copies 16 = .ok (.iload_n 2, 1) := by decide +kernel
theorem dX4_copies_17 : decode cX4_copies 17 = .ok (.aload_n 0, 1) := by decide +kernel
theorem dX4_copies_18 : decode cX4_copies 18 = .ok (.getfield 7, 3) := by decide +kernel
theorem dX4_copies_21 : decode cX4_copies 21 = .ok (.iload_n 1, 1) := by decide +kernel
theorem dX4_copies_22 : decode cX4_copies 22 = .ok (.iaload, 1) := by decide +kernel
theorem dX4_copies_23 : decode cX4_copies 23 = .ok (.iastore, 1) := by decide +kernel
theorem dX4_copies_24 : decode cX4_copies 24 = .ok (.iconst 0, 1) := by decide +kernel
theorem dX4_copies_25 : decode cX4_copies 25 = .ok (.istore_n 3, 1) := by decide +kernel
theorem dX4_copies_26 : decode cX4_copies 26 = .ok (.iload_n 3, 1) := by decide +kernel
theorem dX4_copies_27 : decode cX4_copies 27 = .ok (.iconst 5, 1) := by decide +kernel
theorem dX4_copies_28 : decode cX4_copies 28 = .ok (.if_icmp .ge 49, 3) := by decide +kernel
theorem dX4_copies_31 : decode cX4_copies 31 = .ok (.aload_n 0, 1) := by decide +kernel
theorem dX4_copies_32 : decode cX4_copies 32 = .ok (.getfield 17, 3) := by decide +kernel
theorem dX4_copies_35 : decode cX4_copies 35 = .ok (.iconst 5, 1) := by decide +kernel
theorem dX4_copies_36 : decode cX4_copies 36 = .ok (.iload_n 2, 1) := by decide +kernel
theorem dX4_copies_37 : decode cX4_copies 37 = .ok (.imul, 1) := by decide +kernel
theorem dX4_copies_38 : decode cX4_copies 38 = .ok (.iload_n 3, 1) := by decide +kernel
theorem dX4_copies_39 : decode cX4_copies 39 = .ok (.iadd, 1) := by decide +kernel
theorem dX4_copies_40 : decode cX4_copies 40 = .ok (.aload_n 0, 1) := by decide +kernel
theorem dX4_copies_41 : decode cX4_copies 41 = .ok (.getfield 17, 3) := by decide +kernel
theorem dX4_copies_44 : decode cX4_copies 44 = .ok (.iconst 5, 1) := by decide +kernel
theorem dX4_copies_45 : decode cX4_copies 45 = .ok (.iload_n 1, 1) := by decide +kernel
theorem dX4_copies_46 : decode cX4_copies 46 = .ok (.imul, 1) := by decide +kernel
theorem dX4_copies_47 : decode cX4_copies 47 = .ok (.iload_n 3, 1) := by decide +kernel
theorem dX4_copies_48 : decode cX4_copies 48 = .ok (.iadd, 1) := by decide +kernel
theorem dX4_copies_49 : decode cX4_copies 49 = .ok (.iaload, 1) := by decide +kernel
theorem dX4_copies_50 : decode cX4_copies 50 = .ok (.iastore, 1) := by decide +kernel
theorem dX4_copies_51 : decode cX4_copies 51 = .ok (.aload_n 0, 1) := by decide +kernel
theorem dX4_copies_52 : decode cX4_copies 52 = .ok (.getfield 20, 3) := by decide +kernel
theorem dX4_copies_55 : decode cX4_copies 55 = .ok (.iconst 5, 1) := by decide +kernel
theorem dX4_copies_56 : decode cX4_copies 56 = .ok (.iload_n 2, 1) := by decide +kernel
theorem dX4_copies_57 : decode cX4_copies 57 = .ok (.imul, 1) := by decide +kernel
theorem dX4_copies_58 : decode cX4_copies 58 = .ok (.iload_n 3, 1) := by decide +kernel
theorem dX4_copies_59 : decode cX4_copies 59 = .ok (.iadd, 1) := by decide +kernel
theorem dX4_copies_60 : decode cX4_copies 60 = .ok (.aload_n 0, 1) := by decide +kernel
theorem dX4_copies_61 : decode cX4_copies 61 = .ok (.getfield 20, 3) := by decide +kernel
theorem dX4_copies_64 : decode cX4_copies 64 = .ok (.iconst 5, 1) := by decide +kernel
theorem dX4_copies_65 : decode cX4_copies 65 = .ok (.iload_n 1, 1) := by decide +kernel
theorem dX4_copies_66 : decode cX4_copies 66 = .ok (.imul, 1) := by decide +kernel
theorem dX4_copies_67 : decode cX4_copies 67 = .ok (.iload_n 3, 1) := by decide +kernel
theorem dX4_copies_68 : decode cX4_copies 68 = .ok (.iadd, 1) := by decide +kernel
theorem dX4_copies_69 : decode cX4_copies 69 = .ok (.iaload, 1) := by decide +kernel
theorem dX4_copies_70 : decode cX4_copies 70 = .ok (.iastore, 1) := by decide +kernel
theorem dX4_copies_71 : decode cX4_copies 71 = .ok (.iinc 3 1, 3) := by decide +kernel
theorem dX4_copies_74 : decode cX4_copies 74 = .ok (.goto (-48), 3) := by decide +kernel
theorem dX4_copies_77 : decode cX4_copies 77 = .ok (.return_, 1) := by decide +kernel
theorem dX4_lays_0 : decode cX4_lays 0 = .ok (.aload_n 0, 1) := by decide +kernel
theorem dX4_lays_1 : decode cX4_lays 1 = .ok (.getfield 7, 3) := by decide +kernel
theorem dX4_lays_4 : decode cX4_lays 4 = .ok (.iload_n 1, 1) := by decide +kernel
theorem dX4_lays_5 : decode cX4_lays 5 = .ok (.iaload, 1) := by decide +kernel
theorem dX4_lays_6 : decode cX4_lays 6 = .ok (.istore 5, 2) := by decide +kernel
theorem dX4_lays_8 : decode cX4_lays 8 = .ok (.iload 5, 2) := by decide +kernel
theorem dX4_lays_10 : decode cX4_lays 10 = .ok (.iload_n 2, 1) := by decide +kernel
theorem dX4_lays_11 : decode cX4_lays 11 = .ok (.if_icmp .le 57, 3) := by decide +kernel
theorem dX4_lays_14 : decode cX4_lays 14 = .ok (.aload_n 0, 1) := by decide +kernel
theorem dX4_lays_15 : decode cX4_lays 15 = .ok (.getfield 17, 3) := by decide +kernel
theorem dX4_lays_18 : decode cX4_lays 18 = .ok (.iconst 5, 1) := by decide +kernel
theorem dX4_lays_19 : decode cX4_lays 19 = .ok (.iload_n 1, 1) := by decide +kernel
theorem dX4_lays_20 : decode cX4_lays 20 = .ok (.imul, 1) := by decide +kernel
theorem dX4_lays_21 : decode cX4_lays 21 = .ok (.iload 5, 2) := by decide +kernel
theorem dX4_lays_23 : decode cX4_lays 23 = .ok (.iadd, 1) := by decide +kernel
theorem dX4_lays_24 : decode cX4_lays 24 = .ok (.aload_n 0, 1) := by decide +kernel
theorem dX4_lays_25 : decode cX4_lays 25 = .ok (.getfield 17, 3) := by decide +kernel
theorem dX4_lays_28 : decode cX4_lays 28 = .ok (.iconst 5, 1) := by decide +kernel
theorem dX4_lays_29 : decode cX4_lays 29 = .ok (.iload_n 1, 1) := by decide +kernel
theorem dX4_lays_30 : decode cX4_lays 30 = .ok (.imul, 1) := by decide +kernel
theorem dX4_lays_31 : decode cX4_lays 31 = .ok (.iload 5, 2) := by decide +kernel
theorem dX4_lays_33 : decode cX4_lays 33 = .ok (.iadd, 1) := by decide +kernel
theorem dX4_lays_34 : decode cX4_lays 34 = .ok (.iconst 1, 1) := by decide +kernel
theorem dX4_lays_35 : decode cX4_lays 35 = .ok (.isub, 1) := by decide +kernel
theorem dX4_lays_36 : decode cX4_lays 36 = .ok (.iaload, 1) := by decide +kernel
theorem dX4_lays_37 : decode cX4_lays 37 = .ok (.iastore, 1) := by decide +kernel
theorem dX4_lays_38 : decode cX4_lays 38 = .ok (.aload_n 0, 1) := by decide +kernel
theorem dX4_lays_39 : decode cX4_lays 39 = .ok (.getfield 20, 3) := by decide +kernel
theorem dX4_lays_42 : decode cX4_lays 42 = .ok (.iconst 5, 1) := by decide +kernel
theorem dX4_lays_43 : decode cX4_lays 43 = .ok (.iload_n 1, 1) := by decide +kernel
theorem dX4_lays_44 : decode cX4_lays 44 = .ok (.imul, 1) := by decide +kernel
theorem dX4_lays_45 : decode cX4_lays 45 = .ok (.iload 5, 2) := by decide +kernel
theorem dX4_lays_47 : decode cX4_lays 47 = .ok (.iadd, 1) := by decide +kernel
theorem dX4_lays_48 : decode cX4_lays 48 = .ok (.aload_n 0, 1) := by decide +kernel
theorem dX4_lays_49 : decode cX4_lays 49 = .ok (.getfield 20, 3) := by decide +kernel
theorem dX4_lays_52 : decode cX4_lays 52 = .ok (.iconst 5, 1) := by decide +kernel
theorem dX4_lays_53 : decode cX4_lays 53 = .ok (.iload_n 1, 1) := by decide +kernel
theorem dX4_lays_54 : decode cX4_lays 54 = .ok (.imul, 1) := by decide +kernel
theorem dX4_lays_55 : decode cX4_lays 55 = .ok (.iload 5, 2) := by decide +kernel
theorem dX4_lays_57 : decode cX4_lays 57 = .ok (.iadd, 1) := by decide +kernel
theorem dX4_lays_58 : decode cX4_lays 58 = .ok (.iconst 1, 1) := by decide +kernel
theorem dX4_lays_59 : decode cX4_lays 59 = .ok (.isub, 1) := by decide +kernel
theorem dX4_lays_60 : decode cX4_lays 60 = .ok (.iaload, 1) := by decide +kernel
theorem dX4_lays_61 : decode cX4_lays 61 = .ok (.iastore, 1) := by decide +kernel
theorem dX4_lays_62 : decode cX4_lays 62 = .ok (.iinc 5 (-1), 3) := by decide +kernel
theorem dX4_lays_65 : decode cX4_lays 65 = .ok (.goto (-57), 3) := by decide +kernel
theorem dX4_lays_68 : decode cX4_lays 68 = .ok (.aload_n 0, 1) := by decide +kernel
theorem dX4_lays_69 : decode cX4_lays 69 = .ok (.getfield 17, 3) := by decide +kernel
theorem dX4_lays_72 : decode cX4_lays 72 = .ok (.iconst 5, 1) := by decide +kernel
theorem dX4_lays_73 : decode cX4_lays 73 = .ok (.iload_n 1, 1) := by decide +kernel
theorem dX4_lays_74 : decode cX4_lays 74 = .ok (.imul, 1) := by decide +kernel
theorem dX4_lays_75 : decode cX4_lays 75 = .ok (.iload_n 2, 1) := by decide +kernel
theorem dX4_lays_76 : decode cX4_lays 76 = .ok (.iadd, 1) := by decide +kernel
theorem dX4_lays_77 : decode cX4_lays 77 = .ok (.iload_n 3, 1) := by decide +kernel
theorem dX4_lays_78 : decode cX4_lays 78 = .ok (.iastore, 1) := by decide +kernel
theorem dX4_lays_79 : decode cX4_lays 79 = .ok (.aload_n 0, 1) := by decide +kernel
theorem dX4_lays_80 : decode cX4_lays 80 = .ok (.getfield 20, 3) := by decide +kernel
theorem dX4_lays_83 : decode cX4_lays 83 = .ok (.iconst 5, 1) := by decide +kernel
theorem dX4_lays_84 : decode cX4_lays 84 = .ok (.iload_n 1, 1) := by decide +kernel
theorem dX4_lays_85 : decode cX4_lays 85 = .ok (.imul, 1) := by decide +kernel
theorem dX4_lays_86 : decode cX4_lays 86 = .ok (.iload_n 2, 1) := by decide +kernel
theorem dX4_lays_87 : decode cX4_lays 87 = .ok (.iadd, 1) := by decide +kernel
theorem dX4_lays_88 : decode cX4_lays 88 = .ok (.iload 4, 2) := by decide +kernel
theorem dX4_lays_90 : decode cX4_lays 90 = .ok (.iastore, 1) := by decide +kernel
theorem dX4_lays_91 : decode cX4_lays 91 = .ok (.aload_n 0, 1) := by decide +kernel
theorem dX4_lays_92 : decode cX4_lays 92 = .ok (.getfield 7, 3) := by decide +kernel
theorem dX4_lays_95 : decode cX4_lays 95 = .ok (.iload_n 1, 1) := by decide +kernel
theorem dX4_lays_96 : decode cX4_lays 96 = .ok (.dup2, 1) := by decide +kernel
theorem dX4_lays_97 : decode cX4_lays 97 = .ok (.iaload, 1) := by decide +kernel
theorem dX4_lays_98 : decode cX4_lays 98 = .ok (.iconst 1, 1) := by decide +kernel
theorem dX4_lays_99 : decode cX4_lays 99 = .ok (.iadd, 1) := by decide +kernel
theorem dX4_lays_100 : decode cX4_lays 100 = .ok (.iastore, 1) := by decide +kernel
theorem dX4_lays_101 : decode cX4_lays 101 = .ok (.return_, 1) := by decide +kernel
theorem dX4_drops_0 : decode cX4_drops 0 = .ok (.aload_n 0, 1) := by decide +kernel
theorem dX4_drops_1 : decode cX4_drops 1 = .ok (.getfield 7, 3) := by decide +kernel
theorem dX4_drops_4 : decode cX4_drops 4 = .ok (.iload_n 1, 1) := by decide +kernel
theorem dX4_drops_5 : decode cX4_drops 5 = .ok (.dup2, 1) := by decide +kernel
theorem dX4_drops_6 : decode cX4_drops 6 = .ok (.iaload, 1) := by decide +kernel
theorem dX4_drops_7 : decode cX4_drops 7 = .ok (.iconst 1, 1) := by decide +kernel
theorem dX4_drops_8 : decode cX4_drops 8 = .ok (.isub, 1) := by decide +kernel
theorem dX4_drops_9 : decode cX4_drops 9 = .ok (.iastore, 1) := by decide +kernel
theorem dX4_drops_10 : decode cX4_drops 10 = .ok (.iload_n 2, 1) := by decide +kernel
theorem dX4_drops_11 : decode cX4_drops 11 = .ok (.istore_n 3, 1) := by decide +kernel
theorem dX4_drops_12 : decode cX4_drops 12 = .ok (.iload_n 3, 1) := by decide +kernel
theorem dX4_drops_13 : decode cX4_drops 13 = .ok (.aload_n 0, 1) := by decide +kernel
theorem dX4_drops_14 : decode cX4_drops 14 = .ok (.getfield 7, 3) := by decide +kernel
theorem dX4_drops_17 : decode cX4_drops 17 = .ok (.iload_n 1, 1) := by decide +kernel
theorem dX4_drops_18 : decode cX4_drops 18 = .ok (.iaload, 1) := by decide +kernel
theorem dX4_drops_19 : decode cX4_drops 19 = .ok (.if_icmp .ge 53, 3) := by decide +kernel
theorem dX4_drops_22 : decode cX4_drops 22 = .ok (.aload_n 0, 1) := by decide +kernel
theorem dX4_drops_23 : decode cX4_drops 23 = .ok (.getfield 17, 3) := by decide +kernel
theorem dX4_drops_26 : decode cX4_drops 26 = .ok (.iconst 5, 1) := by decide +kernel
theorem dX4_drops_27 : decode cX4_drops 27 = .ok (.iload_n 1, 1) := by decide +kernel
theorem dX4_drops_28 : decode cX4_drops 28 = .ok (.imul, 1) := by decide +kernel
theorem dX4_drops_29 : decode cX4_drops 29 = .ok (.iload_n 3, 1) := by decide +kernel
theorem dX4_drops_30 : decode cX4_drops 30 = .ok (.iadd, 1) := by decide +kernel
theorem dX4_drops_31 : decode cX4_drops 31 = .ok (.aload_n 0, 1) := by decide +kernel
theorem dX4_drops_32 : decode cX4_drops 32 = .ok (.getfield 17, 3) := by decide +kernel
theorem dX4_drops_35 : decode cX4_drops 35 = .ok (.iconst 5, 1) := by decide +kernel
theorem dX4_drops_36 : decode cX4_drops 36 = .ok (.iload_n 1, 1) := by decide +kernel
theorem dX4_drops_37 : decode cX4_drops 37 = .ok (.imul, 1) := by decide +kernel
theorem dX4_drops_38 : decode cX4_drops 38 = .ok (.iload_n 3, 1) := by decide +kernel
theorem dX4_drops_39 : decode cX4_drops 39 = .ok (.iadd, 1) := by decide +kernel
theorem dX4_drops_40 : decode cX4_drops 40 = .ok (.iconst 1, 1) := by decide +kernel
theorem dX4_drops_41 : decode cX4_drops 41 = .ok (.iadd, 1) := by decide +kernel
theorem dX4_drops_42 : decode cX4_drops 42 = .ok (.iaload, 1) := by decide +kernel
theorem dX4_drops_43 : decode cX4_drops 43 = .ok (.iastore, 1) := by decide +kernel
theorem dX4_drops_44 : decode cX4_drops 44 = .ok (.aload_n 0, 1) := by decide +kernel
theorem dX4_drops_45 : decode cX4_drops 45 = .ok (.getfield 20, 3) := by decide +kernel
theorem dX4_drops_48 : decode cX4_drops 48 = .ok (.iconst 5, 1) := by decide +kernel
theorem dX4_drops_49 : decode cX4_drops 49 = .ok (.iload_n 1, 1) := by decide +kernel
theorem dX4_drops_50 : decode cX4_drops 50 = .ok (.imul, 1) := by decide +kernel
theorem dX4_drops_51 : decode cX4_drops 51 = .ok (.iload_n 3, 1) := by decide +kernel
theorem dX4_drops_52 : decode cX4_drops 52 = .ok (.iadd, 1) := by decide +kernel
theorem dX4_drops_53 : decode cX4_drops 53 = .ok (.aload_n 0, 1) := by decide +kernel
theorem dX4_drops_54 : decode cX4_drops 54 = .ok (.getfield 20, 3) := by decide +kernel
theorem dX4_drops_57 : decode cX4_drops 57 = .ok (.iconst 5, 1) := by decide +kernel
theorem dX4_drops_58 : decode cX4_drops 58 = .ok (.iload_n 1, 1) := by decide +kernel
theorem dX4_drops_59 : decode cX4_drops 59 = .ok (.imul, 1) := by decide +kernel
theorem dX4_drops_60 : decode cX4_drops 60 = .ok (.iload_n 3, 1) := by decide +kernel
theorem dX4_drops_61 : decode cX4_drops 61 = .ok (.iadd, 1) := by decide +kernel
theorem dX4_drops_62 : decode cX4_drops 62 = .ok (.iconst 1, 1) := by decide +kernel
theorem dX4_drops_63 : decode cX4_drops 63 = .ok (.iadd, 1) := by decide +kernel
theorem dX4_drops_64 : decode cX4_drops 64 = .ok (.iaload, 1) := by decide +kernel
theorem dX4_drops_65 : decode cX4_drops 65 = .ok (.iastore, 1) := by decide +kernel
theorem dX4_drops_66 : decode cX4_drops 66 = .ok (.iinc 3 1, 3) := by decide +kernel
theorem dX4_drops_69 : decode cX4_drops 69 = .ok (.goto (-57), 3) := by decide +kernel
theorem dX4_drops_72 : decode cX4_drops 72 = .ok (.return_, 1) := by decide +kernel
theorem dX4_moves_0 : decode cX4_moves 0 = .ok (.iload_n 2, 1) := by decide +kernel
theorem dX4_moves_1 : decode cX4_moves 1 = .ok (.istore 4, 2) := by decide +kernel
theorem dX4_moves_3 : decode cX4_moves 3 = .ok (.iload 4, 2) := by decide +kernel
theorem dX4_moves_5 : decode cX4_moves 5 = .ok (.aload_n 0, 1) := by decide +kernel
theorem dX4_moves_6 : decode cX4_moves 6 = .ok (.getfield 7, 3) := by decide +kernel
theorem dX4_moves_9 : decode cX4_moves 9 = .ok (.iload_n 1, 1) := by decide +kernel
theorem dX4_moves_10 : decode cX4_moves 10 = .ok (.iaload, 1) := by decide +kernel
theorem dX4_moves_11 : decode cX4_moves 11 = .ok (.if_icmp .ge 42, 3) := by decide +kernel
theorem dX4_moves_14 : decode cX4_moves 14 = .ok (.aload_n 0, 1) := by decide +kernel
theorem dX4_moves_15 : decode cX4_moves 15 = .ok (.iload_n 3, 1) := by decide +kernel
theorem dX4_moves_16 : decode cX4_moves 16 = .ok (.aload_n 0, 1) := by decide +kernel
theorem dX4_moves_17 : decode cX4_moves 17 = .ok (.getfield 7, 3) := by decide +kernel
theorem dX4_moves_20 : decode cX4_moves 20 = .ok (.iload_n 3, 1) := by decide +kernel
theorem dX4_moves_21 : decode cX4_moves 21 = .ok (.iaload, 1) := by decide +kernel
theorem dX4_moves_22 : decode cX4_moves 22 = .ok (.aload_n 0, 1) := by decide +kernel
theorem dX4_moves_23 : decode cX4_moves 23 = .ok (.getfield 17, 3) := by decide +kernel
theorem dX4_moves_26 : decode cX4_moves 26 = .ok (.iconst 5, 1) := by decide +kernel
theorem dX4_moves_27 : decode cX4_moves 27 = .ok (.iload_n 1, 1) := by decide +kernel
theorem dX4_moves_28 : decode cX4_moves 28 = .ok (.imul, 1) := by decide +kernel
theorem dX4_moves_29 : decode cX4_moves 29 = .ok (.iload 4, 2) := by decide +kernel
theorem dX4_moves_31 : decode cX4_moves 31 = .ok (.iadd, 1) := by decide +kernel
theorem dX4_moves_32 : decode cX4_moves 32 = .ok (.iaload, 1) := by decide +kernel
theorem dX4_moves_33 : decode cX4_moves 33 = .ok (.aload_n 0, 1) := by decide +kernel
theorem dX4_moves_34 : decode cX4_moves 34 = .ok (.getfield 20, 3) := by decide +kernel
theorem dX4_moves_37 : decode cX4_moves 37 = .ok (.iconst 5, 1) := by decide +kernel
theorem dX4_moves_38 : decode cX4_moves 38 = .ok (.iload_n 1, 1) := by decide +kernel
theorem dX4_moves_39 : decode cX4_moves 39 = .ok (.imul, 1) := by decide +kernel
theorem dX4_moves_40 : decode cX4_moves 40 = .ok (.iload 4, 2) := by decide +kernel
theorem dX4_moves_42 : decode cX4_moves 42 = .ok (.iadd, 1) := by decide +kernel
theorem dX4_moves_43 : decode cX4_moves 43 = .ok (.iaload, 1) := by decide +kernel
theorem dX4_moves_44 : decode cX4_moves 44 = .ok (.invokevirtual 84, 3) := by decide +kernel
theorem dX4_moves_47 : decode cX4_moves 47 = .ok (.iinc 4 1, 3) := by decide +kernel
theorem dX4_moves_50 : decode cX4_moves 50 = .ok (.goto (-47), 3) := by decide +kernel
theorem dX4_moves_53 : decode cX4_moves 53 = .ok (.aload_n 0, 1) := by decide +kernel
theorem dX4_moves_54 : decode cX4_moves 54 = .ok (.getfield 7, 3) := by decide +kernel
theorem dX4_moves_57 : decode cX4_moves 57 = .ok (.iload_n 1, 1) := by decide +kernel
theorem dX4_moves_58 : decode cX4_moves 58 = .ok (.iload_n 2, 1) := by decide +kernel
theorem dX4_moves_59 : decode cX4_moves 59 = .ok (.iastore, 1) := by decide +kernel
theorem dX4_moves_60 : decode cX4_moves 60 = .ok (.return_, 1) := by decide +kernel
theorem dX4_leastKey_0 : decode cX4_leastKey 0 = .ok (.iload_n 1, 1) := by decide +kernel
theorem dX4_leastKey_1 : decode cX4_leastKey 1 = .ok (.istore_n 2, 1) := by decide +kernel
theorem dX4_leastKey_2 : decode cX4_leastKey 2 = .ok (.aload_n 0, 1) := by decide +kernel
theorem dX4_leastKey_3 : decode cX4_leastKey 3 = .ok (.getfield 13, 3) := by decide +kernel
theorem dX4_leastKey_6 : decode cX4_leastKey 6 = .ok (.iload_n 2, 1) := by decide +kernel
theorem dX4_leastKey_7 : decode cX4_leastKey 7 = .ok (.baload, 1) := by decide +kernel
theorem dX4_leastKey_8 : decode cX4_leastKey 8 = .ok (.ifCond .eq 15, 3) := by decide +kernel
theorem dX4_leastKey_11 : decode cX4_leastKey 11 = .ok (.aload_n 0, 1) := by decide +kernel
theorem dX4_leastKey_12 : decode cX4_leastKey 12 = .ok (.getfield 17, 3) := by decide +kernel
theorem dX4_leastKey_15 : decode cX4_leastKey 15 = .ok (.iconst 5, 1) := by decide +kernel
theorem dX4_leastKey_16 : decode cX4_leastKey 16 = .ok (.iload_n 2, 1) := by decide +kernel
theorem dX4_leastKey_17 : decode cX4_leastKey 17 = .ok (.imul, 1) := by decide +kernel
theorem dX4_leastKey_18 : decode cX4_leastKey 18 = .ok (.iaload, 1) := by decide +kernel
theorem dX4_leastKey_19 : decode cX4_leastKey 19 = .ok (.istore_n 2, 1) := by decide +kernel
theorem dX4_leastKey_20 : decode cX4_leastKey 20 = .ok (.goto (-18), 3) := by decide +kernel
theorem dX4_leastKey_23 : decode cX4_leastKey 23 = .ok (.aload_n 0, 1) := by decide +kernel
theorem dX4_leastKey_24 : decode cX4_leastKey 24 = .ok (.getfield 17, 3) := by decide +kernel
theorem dX4_leastKey_27 : decode cX4_leastKey 27 = .ok (.iconst 5, 1) := by decide +kernel
theorem dX4_leastKey_28 : decode cX4_leastKey 28 = .ok (.iload_n 2, 1) := by decide +kernel
theorem dX4_leastKey_29 : decode cX4_leastKey 29 = .ok (.imul, 1) := by decide +kernel
theorem dX4_leastKey_30 : decode cX4_leastKey 30 = .ok (.iaload, 1) := by decide +kernel
theorem dX4_leastKey_31 : decode cX4_leastKey 31 = .ok (.ireturn, 1) := by decide +kernel
theorem dX4_keyOf_0 : decode cX4_keyOf 0 = .ok (.aload_n 0, 1) := by decide +kernel
theorem dX4_keyOf_1 : decode cX4_keyOf 1 = .ok (.getfield 13, 3) := by decide +kernel
theorem dX4_keyOf_4 : decode cX4_keyOf 4 = .ok (.iload_n 1, 1) := by decide +kernel
theorem dX4_keyOf_5 : decode cX4_keyOf 5 = .ok (.baload, 1) := by decide +kernel
theorem dX4_keyOf_6 : decode cX4_keyOf 6 = .ok (.ifCond .eq 20, 3) := by decide +kernel
theorem dX4_keyOf_9 : decode cX4_keyOf 9 = .ok (.aload_n 0, 1) := by decide +kernel
theorem dX4_keyOf_10 : decode cX4_keyOf 10 = .ok (.aload_n 0, 1) := by decide +kernel
theorem dX4_keyOf_11 : decode cX4_keyOf 11 = .ok (.getfield 17, 3) := by decide +kernel
theorem dX4_keyOf_14 : decode cX4_keyOf 14 = .ok (.iconst 5, 1) := by decide +kernel
theorem dX4_keyOf_15 : decode cX4_keyOf 15 = .ok (.iload_n 1, 1) := by decide +kernel
theorem dX4_keyOf_16 : decode cX4_keyOf 16 = .ok (.imul, 1) := by decide +kernel
theorem dX4_keyOf_17 : decode cX4_keyOf 17 = .ok (.iload_n 2, 1) := by decide +kernel
theorem dX4_keyOf_18 : decode cX4_keyOf 18 = .ok (.iadd, 1) := by decide +kernel
theorem dX4_keyOf_19 : decode cX4_keyOf 19 = .ok (.iaload, 1) := by decide +kernel
theorem dX4_keyOf_20 : decode cX4_keyOf 20 = .ok (.invokevirtual 88, 3) := by decide +kernel
theorem dX4_keyOf_23 : decode cX4_keyOf 23 = .ok (.goto 13, 3) := by decide +kernel
theorem dX4_keyOf_26 : decode cX4_keyOf 26 = .ok (.aload_n 0, 1) := by decide +kernel
theorem dX4_keyOf_27 : decode cX4_keyOf 27 = .ok (.getfield 17, 3) := by decide +kernel
theorem dX4_keyOf_30 : decode cX4_keyOf 30 = .ok (.iconst 5, 1) := by decide +kernel
theorem dX4_keyOf_31 : decode cX4_keyOf 31 = .ok (.iload_n 1, 1) := by decide +kernel
theorem dX4_keyOf_32 : decode cX4_keyOf 32 = .ok (.imul, 1) := by decide +kernel
theorem dX4_keyOf_33 : decode cX4_keyOf 33 = .ok (.iload_n 2, 1) := by decide +kernel
theorem dX4_keyOf_34 : decode cX4_keyOf 34 = .ok (.iadd, 1) := by decide +kernel
theorem dX4_keyOf_35 : decode cX4_keyOf 35 = .ok (.iaload, 1) := by decide +kernel
theorem dX4_keyOf_36 : decode cX4_keyOf 36 = .ok (.ireturn, 1) := by decide +kernel
theorem dX4_finds_0 : decode cX4_finds 0 = .ok (.aload_n 0, 1) := by decide +kernel
theorem dX4_finds_1 : decode cX4_finds 1 = .ok (.iconst 0, 1) := by decide +kernel
theorem dX4_finds_2 : decode cX4_finds 2 = .ok (.putfield 91, 3) := by decide +kernel
theorem dX4_finds_5 : decode cX4_finds 5 = .ok (.aload_n 0, 1) := by decide +kernel
theorem dX4_finds_6 : decode cX4_finds 6 = .ok (.getfield 46, 3) := by decide +kernel
theorem dX4_finds_9 : decode cX4_finds 9 = .ok (.iconst 0, 1) := by decide +kernel
theorem dX4_finds_10 : decode cX4_finds 10 = .ok (.iload_n 1, 1) := by decide +kernel
theorem dX4_finds_11 : decode cX4_finds 11 = .ok (.iastore, 1) := by decide +kernel
theorem dX4_finds_12 : decode cX4_finds 12 = .ok (.aload_n 0, 1) := by decide +kernel
theorem dX4_finds_13 : decode cX4_finds 13 = .ok (.getfield 13, 3) := by decide +kernel
theorem dX4_finds_16 : decode cX4_finds 16 = .ok (.aload_n 0, 1) := by decide +kernel
theorem dX4_finds_17 : decode cX4_finds 17 = .ok (.getfield 46, 3) := by decide +kernel
theorem dX4_finds_20 : decode cX4_finds 20 = .ok (.aload_n 0, 1) := by decide +kernel
theorem dX4_finds_21 : decode cX4_finds 21 = .ok (.getfield 91, 3) := by decide +kernel
theorem dX4_finds_24 : decode cX4_finds 24 = .ok (.iaload, 1) := by decide +kernel
theorem dX4_finds_25 : decode cX4_finds 25 = .ok (.baload, 1) := by decide +kernel
theorem dX4_finds_26 : decode cX4_finds 26 = .ok (.ifCond .eq 89, 3) := by decide +kernel
theorem dX4_finds_29 : decode cX4_finds 29 = .ok (.aload_n 0, 1) := by decide +kernel
theorem dX4_finds_30 : decode cX4_finds 30 = .ok (.getfield 46, 3) := by decide +kernel
theorem dX4_finds_33 : decode cX4_finds 33 = .ok (.aload_n 0, 1) := by decide +kernel
theorem dX4_finds_34 : decode cX4_finds 34 = .ok (.getfield 91, 3) := by decide +kernel
theorem dX4_finds_37 : decode cX4_finds 37 = .ok (.iaload, 1) := by decide +kernel
theorem dX4_finds_38 : decode cX4_finds 38 = .ok (.istore_n 3, 1) := by decide +kernel
theorem dX4_finds_39 : decode cX4_finds 39 = .ok (.aload_n 0, 1) := by decide +kernel
theorem dX4_finds_40 : decode cX4_finds 40 = .ok (.getfield 7, 3) := by decide +kernel
theorem dX4_finds_43 : decode cX4_finds 43 = .ok (.iload_n 3, 1) := by decide +kernel
theorem dX4_finds_44 : decode cX4_finds 44 = .ok (.iaload, 1) := by decide +kernel
theorem dX4_finds_45 : decode cX4_finds 45 = .ok (.iconst 1, 1) := by decide +kernel
theorem dX4_finds_46 : decode cX4_finds 46 = .ok (.isub, 1) := by decide +kernel
theorem dX4_finds_47 : decode cX4_finds 47 = .ok (.istore 4, 2) := by decide +kernel
theorem dX4_finds_49 : decode cX4_finds 49 = .ok (.iload 4, 2) := by decide +kernel
theorem dX4_finds_51 : decode cX4_finds 51 = .ok (.ifCond .le 20, 3) := by decide +kernel
theorem dX4_finds_54 : decode cX4_finds 54 = .ok (.aload_n 0, 1) := by decide +kernel
theorem dX4_finds_55 : decode cX4_finds 55 = .ok (.iload_n 3, 1) := by decide +kernel
theorem dX4_finds_56 : decode cX4_finds 56 = .ok (.iload 4, 2) := by decide +kernel
theorem dX4_finds_58 : decode cX4_finds 58 = .ok (.invokevirtual 94, 3) := by decide +kernel
theorem dX4_finds_61 : decode cX4_finds 61 = .ok (.iload_n 2, 1) := by decide +kernel
theorem dX4_finds_62 : decode cX4_finds 62 = .ok (.if_icmp .le 9, 3) := by decide +kernel
theorem dX4_finds_65 : decode cX4_finds 65 = .ok (.iinc 4 (-1), 3) := by decide +kernel
theorem dX4_finds_68 : decode cX4_finds 68 = .ok (.goto (-19), 3) := by decide +kernel
theorem dX4_finds_71 : decode cX4_finds 71 = .ok (.aload_n 0, 1) := by decide +kernel
theorem dX4_finds_72 : decode cX4_finds 72 = .ok (.getfield 49, 3) := by decide +kernel
theorem dX4_finds_75 : decode cX4_finds 75 = .ok (.aload_n 0, 1) := by decide +kernel
theorem dX4_finds_76 : decode cX4_finds 76 = .ok (.getfield 91, 3) := by decide +kernel
theorem dX4_finds_79 : decode cX4_finds 79 = .ok (.iload 4, 2) := by decide +kernel
theorem dX4_finds_81 : decode cX4_finds 81 = .ok (.iastore, 1) := by decide +kernel
theorem dX4_finds_82 : decode cX4_finds 82 = .ok (.aload_n 0, 1) := by decide +kernel
theorem dX4_finds_83 : decode cX4_finds 83 = .ok (.dup, 1) := by decide +kernel
theorem dX4_finds_84 : decode cX4_finds 84 = .ok (.getfield 91, 3) := by decide +kernel
theorem dX4_finds_87 : decode cX4_finds 87 = .ok (.iconst 1, 1) := by decide +kernel
theorem dX4_finds_88 : decode cX4_finds 88 = .ok (.iadd, 1) := by decide +kernel
theorem dX4_finds_89 : decode cX4_finds 89 = .ok (.putfield 91, 3) := by decide +kernel
theorem dX4_finds_92 : decode cX4_finds 92 = .ok (.aload_n 0, 1) := by decide +kernel
theorem dX4_finds_93 : decode cX4_finds 93 = .ok (.getfield 46, 3) := by decide +kernel
theorem dX4_finds_96 : decode cX4_finds 96 = .ok (.aload_n 0, 1) := by decide +kernel
theorem dX4_finds_97 : decode cX4_finds 97 = .ok (.getfield 91, 3) := by decide +kernel
theorem dX4_finds_100 : decode cX4_finds 100 = .ok (.aload_n 0, 1) := by decide +kernel
theorem dX4_finds_101 : decode cX4_finds 101 = .ok (.getfield 17, 3) := by decide +kernel
theorem dX4_finds_104 : decode cX4_finds 104 = .ok (.iconst 5, 1) := by decide +kernel
theorem dX4_finds_105 : decode cX4_finds 105 = .ok (.iload_n 3, 1) := by decide +kernel
theorem dX4_finds_106 : decode cX4_finds 106 = .ok (.imul, 1) := by decide +kernel
theorem dX4_finds_107 : decode cX4_finds 107 = .ok (.iload 4, 2) := by decide +kernel
theorem dX4_finds_109 : decode cX4_finds 109 = .ok (.iadd, 1) := by decide +kernel
theorem dX4_finds_110 : decode cX4_finds 110 = .ok (.iaload, 1) := by decide +kernel
theorem dX4_finds_111 : decode cX4_finds 111 = .ok (.iastore, 1) := by decide +kernel
theorem dX4_finds_112 : decode cX4_finds 112 = .ok (.goto (-100), 3) := by decide +kernel
theorem dX4_finds_115 : decode cX4_finds 115 = .ok (.return_, 1) := by decide +kernel
theorem dX4_place_0 : decode cX4_place 0 = .ok (.iconst 0, 1) := by decide +kernel
theorem dX4_place_1 : decode cX4_place 1 = .ok (.istore_n 3, 1) := by decide +kernel
theorem dX4_place_2 : decode cX4_place 2 = .ok (.iload_n 3, 1) := by decide +kernel
theorem dX4_place_3 : decode cX4_place 3 = .ok (.aload_n 0, 1) := by decide +kernel
theorem dX4_place_4 : decode cX4_place 4 = .ok (.getfield 7, 3) := by decide +kernel
theorem dX4_place_7 : decode cX4_place 7 = .ok (.iload_n 1, 1) := by decide +kernel
theorem dX4_place_8 : decode cX4_place 8 = .ok (.iaload, 1) := by decide +kernel
theorem dX4_place_9 : decode cX4_place 9 = .ok (.if_icmp .ge 23, 3) := by decide +kernel
theorem dX4_place_12 : decode cX4_place 12 = .ok (.aload_n 0, 1) := by decide +kernel
theorem dX4_place_13 : decode cX4_place 13 = .ok (.getfield 17, 3) := by decide +kernel
theorem dX4_place_16 : decode cX4_place 16 = .ok (.iconst 5, 1) := by decide +kernel
theorem dX4_place_17 : decode cX4_place 17 = .ok (.iload_n 1, 1) := by decide +kernel
theorem dX4_place_18 : decode cX4_place 18 = .ok (.imul, 1) := by decide +kernel
theorem dX4_place_19 : decode cX4_place 19 = .ok (.iload_n 3, 1) := by decide +kernel
theorem dX4_place_20 : decode cX4_place 20 = .ok (.iadd, 1) := by decide +kernel
theorem dX4_place_21 : decode cX4_place 21 = .ok (.iaload, 1) := by decide +kernel
theorem dX4_place_22 : decode cX4_place 22 = .ok (.iload_n 2, 1) := by decide +kernel
theorem dX4_place_23 : decode cX4_place 23 = .ok (.if_icmp .ge 9, 3) := by decide +kernel
theorem dX4_place_26 : decode cX4_place 26 = .ok (.iinc 3 1, 3) := by decide +kernel
theorem dX4_place_29 : decode cX4_place 29 = .ok (.goto (-27), 3) := by decide +kernel
theorem dX4_place_32 : decode cX4_place 32 = .ok (.iload_n 3, 1) := by decide +kernel
theorem dX4_place_33 : decode cX4_place 33 = .ok (.ireturn, 1) := by decide +kernel
theorem dX4_has_0 : decode cX4_has 0 = .ok (.iload_n 2, 1) := by decide +kernel
theorem dX4_has_1 : decode cX4_has 1 = .ok (.aload_n 0, 1) := by decide +kernel
theorem dX4_has_2 : decode cX4_has 2 = .ok (.getfield 7, 3) := by decide +kernel
theorem dX4_has_5 : decode cX4_has 5 = .ok (.iload_n 1, 1) := by decide +kernel
theorem dX4_has_6 : decode cX4_has 6 = .ok (.iaload, 1) := by decide +kernel
theorem dX4_has_7 : decode cX4_has 7 = .ok (.if_icmp .ge 21, 3) := by decide +kernel
theorem dX4_has_10 : decode cX4_has 10 = .ok (.aload_n 0, 1) := by decide +kernel
theorem dX4_has_11 : decode cX4_has 11 = .ok (.getfield 17, 3) := by decide +kernel
theorem dX4_has_14 : decode cX4_has 14 = .ok (.iconst 5, 1) := by decide +kernel
theorem dX4_has_15 : decode cX4_has 15 = .ok (.iload_n 1, 1) := by decide +kernel
theorem dX4_has_16 : decode cX4_has 16 = .ok (.imul, 1) := by decide +kernel
theorem dX4_has_17 : decode cX4_has 17 = .ok (.iload_n 2, 1) := by decide +kernel
theorem dX4_has_18 : decode cX4_has 18 = .ok (.iadd, 1) := by decide +kernel
theorem dX4_has_19 : decode cX4_has 19 = .ok (.iaload, 1) := by decide +kernel
theorem dX4_has_20 : decode cX4_has 20 = .ok (.iload_n 3, 1) := by decide +kernel
theorem dX4_has_21 : decode cX4_has 21 = .ok (.if_icmp .ne 7, 3) := by decide +kernel
theorem dX4_has_24 : decode cX4_has 24 = .ok (.iconst 1, 1) := by decide +kernel
theorem dX4_has_25 : decode cX4_has 25 = .ok (.goto 4, 3) := by decide +kernel
theorem dX4_has_28 : decode cX4_has 28 = .ok (.iconst 0, 1) := by decide +kernel
theorem dX4_has_29 : decode cX4_has 29 = .ok (.ireturn, 1) := by decide +kernel
theorem dX4_own_0 : decode cX4_own 0 = .ok (.aload_n 0, 1) := by decide +kernel
theorem dX4_own_1 : decode cX4_own 1 = .ok (.getfield 17, 3) := by decide +kernel
theorem dX4_own_4 : decode cX4_own 4 = .ok (.iconst 5, 1) := by decide +kernel
theorem dX4_own_5 : decode cX4_own 5 = .ok (.iload_n 1, 1) := by decide +kernel
theorem dX4_own_6 : decode cX4_own 6 = .ok (.imul, 1) := by decide +kernel
theorem dX4_own_7 : decode cX4_own 7 = .ok (.iload_n 2, 1) := by decide +kernel
theorem dX4_own_8 : decode cX4_own 8 = .ok (.iadd, 1) := by decide +kernel
theorem dX4_own_9 : decode cX4_own 9 = .ok (.iaload, 1) := by decide +kernel
theorem dX4_own_10 : decode cX4_own 10 = .ok (.istore_n 3, 1) := by decide +kernel
theorem dX4_own_11 : decode cX4_own 11 = .ok (.aload_n 0, 1) := by decide +kernel
theorem dX4_own_12 : decode cX4_own 12 = .ok (.getfield 23, 3) := by decide +kernel
theorem dX4_own_15 : decode cX4_own 15 = .ok (.iload_n 3, 1) := by decide +kernel
theorem dX4_own_16 : decode cX4_own 16 = .ok (.baload, 1) := by decide +kernel
theorem dX4_own_17 : decode cX4_own 17 = .ok (.ifCond .eq 5, 3) := by decide +kernel
theorem dX4_own_20 : decode cX4_own 20 = .ok (.iload_n 3, 1) := by decide +kernel
theorem dX4_own_21 : decode cX4_own 21 = .ok (.ireturn, 1) := by decide +kernel
theorem dX4_own_22 : decode cX4_own 22 = .ok (.aload_n 0, 1) := by decide +kernel
theorem dX4_own_23 : decode cX4_own 23 = .ok (.iconst (-1), 1) := by decide +kernel
theorem dX4_own_24 : decode cX4_own 24 = .ok (.invokevirtual 98, 3) := by decide +kernel
theorem dX4_own_27 : decode cX4_own 27 = .ok (.istore 4, 2) := by decide +kernel
theorem dX4_own_29 : decode cX4_own 29 = .ok (.aload_n 0, 1) := by decide +kernel
theorem dX4_own_30 : decode cX4_own 30 = .ok (.iload_n 3, 1) := by decide +kernel
theorem dX4_own_31 : decode cX4_own 31 = .ok (.iload 4, 2) := by decide +kernel
theorem dX4_own_33 : decode cX4_own 33 = .ok (.invokevirtual 101, 3) := by decide +kernel
theorem dX4_own_36 : decode cX4_own 36 = .ok (.aload_n 0, 1) := by decide +kernel
theorem dX4_own_37 : decode cX4_own 37 = .ok (.getfield 17, 3) := by decide +kernel
theorem dX4_own_40 : decode cX4_own 40 = .ok (.iconst 5, 1) := by decide +kernel
theorem dX4_own_41 : decode cX4_own 41 = .ok (.iload_n 1, 1) := by decide +kernel
theorem dX4_own_42 : decode cX4_own 42 = .ok (.imul, 1) := by decide +kernel
theorem dX4_own_43 : decode cX4_own 43 = .ok (.iload_n 2, 1) := by decide +kernel
theorem dX4_own_44 : decode cX4_own 44 = .ok (.iadd, 1) := by decide +kernel
theorem dX4_own_45 : decode cX4_own 45 = .ok (.iload 4, 2) := by decide +kernel
theorem dX4_own_47 : decode cX4_own 47 = .ok (.iastore, 1) := by decide +kernel
theorem dX4_own_48 : decode cX4_own 48 = .ok (.iload 4, 2) := by decide +kernel
theorem dX4_own_50 : decode cX4_own 50 = .ok (.ireturn, 1) := by decide +kernel
theorem dX4_writesWay_0 : decode cX4_writesWay 0 = .ok (.aload_n 0, 1) := by decide +kernel
theorem dX4_writesWay_1 : decode cX4_writesWay 1 = .ok (.getfield 23, 3) := by decide +kernel
theorem dX4_writesWay_4 : decode cX4_writesWay 4 = .ok (.aload_n 0, 1) := by decide +kernel
theorem dX4_writesWay_5 : decode cX4_writesWay 5 = .ok (.getfield 32, 3) := by decide +kernel
theorem dX4_writesWay_8 : decode cX4_writesWay 8 = .ok (.baload, 1) := by decide +kernel
theorem dX4_writesWay_9 : decode cX4_writesWay 9 = .ok (.ifCond .ne 23, 3) := by decide +kernel
theorem dX4_writesWay_12 : decode cX4_writesWay 12 = .ok (.aload_n 0, 1) := by decide +kernel
theorem dX4_writesWay_13 : decode cX4_writesWay 13 = .ok (.iconst (-1), 1) := by decide +kernel
theorem dX4_writesWay_14 : decode cX4_writesWay 14 = .ok (.invokevirtual 98, 3) := by decide +kernel
theorem dX4_writesWay_17 : decode cX4_writesWay 17 = .ok (.istore_n 1, 1) := by decide +kernel
theorem dX4_writesWay_18 : decode cX4_writesWay 18 = .ok (.aload_n 0, 1) := by decide +kernel
theorem dX4_writesWay_19 : decode cX4_writesWay 19 = .ok (.aload_n 0, 1) := by decide +kernel
theorem dX4_writesWay_20 : decode cX4_writesWay 20 = .ok (.getfield 32, 3) := by decide +kernel
theorem dX4_writesWay_23 : decode cX4_writesWay 23 = .ok (.iload_n 1, 1) := by decide +kernel
theorem dX4_writesWay_24 : decode cX4_writesWay 24 = .ok (.invokevirtual 101, 3) := by decide +kernel
theorem dX4_writesWay_27 : decode cX4_writesWay 27 = .ok (.aload_n 0, 1) := by decide +kernel
theorem dX4_writesWay_28 : decode cX4_writesWay 28 = .ok (.iload_n 1, 1) := by decide +kernel
theorem dX4_writesWay_29 : decode cX4_writesWay 29 = .ok (.putfield 32, 3) := by decide +kernel
theorem dX4_writesWay_32 : decode cX4_writesWay 32 = .ok (.aload_n 0, 1) := by decide +kernel
theorem dX4_writesWay_33 : decode cX4_writesWay 33 = .ok (.getfield 46, 3) := by decide +kernel
theorem dX4_writesWay_36 : decode cX4_writesWay 36 = .ok (.iconst 0, 1) := by decide +kernel
theorem dX4_writesWay_37 : decode cX4_writesWay 37 = .ok (.aload_n 0, 1) := by decide +kernel
theorem dX4_writesWay_38 : decode cX4_writesWay 38 = .ok (.getfield 32, 3) := by decide +kernel
theorem dX4_writesWay_41 : decode cX4_writesWay 41 = .ok (.iastore, 1) := by decide +kernel
theorem dX4_writesWay_42 : decode cX4_writesWay 42 = .ok (.iconst 0, 1) := by decide +kernel
theorem dX4_writesWay_43 : decode cX4_writesWay 43 = .ok (.istore_n 1, 1) := by decide +kernel
theorem dX4_writesWay_44 : decode cX4_writesWay 44 = .ok (.iload_n 1, 1) := by decide +kernel
theorem dX4_writesWay_45 : decode cX4_writesWay 45 = .ok (.aload_n 0, 1) := by decide +kernel
theorem dX4_writesWay_46 : decode cX4_writesWay 46 = .ok (.getfield 91, 3) := by decide +kernel
theorem dX4_writesWay_49 : decode cX4_writesWay 49 = .ok (.if_icmp .ge 33, 3) := by decide +kernel
theorem dX4_writesWay_52 : decode cX4_writesWay 52 = .ok (.aload_n 0, 1) := by decide +kernel
theorem dX4_writesWay_53 : decode cX4_writesWay 53 = .ok (.getfield 46, 3) := by decide +kernel
theorem dX4_writesWay_56 : decode cX4_writesWay 56 = .ok (.iload_n 1, 1) := by decide +kernel
theorem dX4_writesWay_57 : decode cX4_writesWay 57 = .ok (.iconst 1, 1) := by decide +kernel
theorem dX4_writesWay_58 : decode cX4_writesWay 58 = .ok (.iadd, 1) := by decide +kernel
theorem dX4_writesWay_59 : decode cX4_writesWay 59 = .ok (.aload_n 0, 1) := by decide +kernel
theorem dX4_writesWay_60 : decode cX4_writesWay 60 = .ok (.aload_n 0, 1) := by decide +kernel
theorem dX4_writesWay_61 : decode cX4_writesWay 61 = .ok (.getfield 46, 3) := by decide +kernel
theorem dX4_writesWay_64 : decode cX4_writesWay 64 = .ok (.iload_n 1, 1) := by decide +kernel
theorem dX4_writesWay_65 : decode cX4_writesWay 65 = .ok (.iaload, 1) := by decide +kernel
theorem dX4_writesWay_66 : decode cX4_writesWay 66 = .ok (.aload_n 0, 1) := by decide +kernel
theorem dX4_writesWay_67 : decode cX4_writesWay 67 = .ok (.getfield 49, 3) := by decide +kernel
theorem dX4_writesWay_70 : decode cX4_writesWay 70 = .ok (.iload_n 1, 1) := by decide +kernel
theorem dX4_writesWay_71 : decode cX4_writesWay 71 = .ok (.iaload, 1) := by decide +kernel
theorem dX4_writesWay_72 : decode cX4_writesWay 72 = .ok (.invokevirtual 105, 3) := by decide +kernel
theorem dX4_writesWay_75 : decode cX4_writesWay 75 = .ok (.iastore, 1) := by decide +kernel
theorem dX4_writesWay_76 : decode cX4_writesWay 76 = .ok (.iinc 1 1, 3) := by decide +kernel
theorem dX4_writesWay_79 : decode cX4_writesWay 79 = .ok (.goto (-35), 3) := by decide +kernel
theorem dX4_writesWay_82 : decode cX4_writesWay 82 = .ok (.return_, 1) := by decide +kernel
theorem dX4_splits_0 : decode cX4_splits 0 = .ok (.aload_n 0, 1) := by decide +kernel
theorem dX4_splits_1 : decode cX4_splits 1 = .ok (.getfield 91, 3) := by decide +kernel
theorem dX4_splits_4 : decode cX4_splits 4 = .ok (.istore_n 1, 1) := by decide +kernel
theorem dX4_splits_5 : decode cX4_splits 5 = .ok (.iload_n 1, 1) := by decide +kernel
theorem dX4_splits_6 : decode cX4_splits 6 = .ok (.ifCond .lt 126, 3) := by decide +kernel
theorem dX4_splits_9 : decode cX4_splits 9 = .ok (.aload_n 0, 1) := by decide +kernel
theorem dX4_splits_10 : decode cX4_splits 10 = .ok (.getfield 7, 3) := by decide +kernel
theorem dX4_splits_13 : decode cX4_splits 13 = .ok (.aload_n 0, 1) := by decide +kernel
theorem dX4_splits_14 : decode cX4_splits 14 = .ok (.getfield 46, 3) := by decide +kernel
theorem dX4_splits_17 : decode cX4_splits 17 = .ok (.iload_n 1, 1) := by decide +kernel
theorem dX4_splits_18 : decode cX4_splits 18 = .ok (.iaload, 1) := by decide +kernel
theorem dX4_splits_19 : decode cX4_splits 19 = .ok (.iaload, 1) := by decide +kernel
theorem dX4_splits_20 : decode cX4_splits 20 = .ok (.iconst 5, 1) := by decide +kernel
theorem dX4_splits_21 : decode cX4_splits 21 = .ok (.if_icmp .ne 111, 3) := by decide +kernel
theorem dX4_splits_24 : decode cX4_splits 24 = .ok (.aload_n 0, 1) := by decide +kernel
theorem dX4_splits_25 : decode cX4_splits 25 = .ok (.getfield 46, 3) := by decide +kernel
theorem dX4_splits_28 : decode cX4_splits 28 = .ok (.iload_n 1, 1) := by decide +kernel
theorem dX4_splits_29 : decode cX4_splits 29 = .ok (.iaload, 1) := by decide +kernel
theorem dX4_splits_30 : decode cX4_splits 30 = .ok (.istore_n 2, 1) := by decide +kernel
theorem dX4_splits_31 : decode cX4_splits 31 = .ok (.aload_n 0, 1) := by decide +kernel
theorem dX4_splits_32 : decode cX4_splits 32 = .ok (.iconst (-1), 1) := by decide +kernel
theorem dX4_splits_33 : decode cX4_splits 33 = .ok (.invokevirtual 98, 3) := by decide +kernel
theorem dX4_splits_36 : decode cX4_splits 36 = .ok (.istore_n 3, 1) := by decide +kernel
theorem dX4_splits_37 : decode cX4_splits 37 = .ok (.aload_n 0, 1) := by decide +kernel
theorem dX4_splits_38 : decode cX4_splits 38 = .ok (.getfield 13, 3) := by decide +kernel
theorem dX4_splits_41 : decode cX4_splits 41 = .ok (.iload_n 3, 1) := by decide +kernel
theorem dX4_splits_42 : decode cX4_splits 42 = .ok (.aload_n 0, 1) := by decide +kernel
theorem dX4_splits_43 : decode cX4_splits 43 = .ok (.getfield 13, 3) := by decide +kernel
theorem dX4_splits_46 : decode cX4_splits 46 = .ok (.iload_n 2, 1) := by decide +kernel
theorem dX4_splits_47 : decode cX4_splits 47 = .ok (.baload, 1) := by decide +kernel
theorem dX4_splits_48 : decode cX4_splits 48 = .ok (.bastore, 1) := by decide +kernel
theorem dX4_splits_49 : decode cX4_splits 49 = .ok (.aload_n 0, 1) := by decide +kernel
theorem dX4_splits_50 : decode cX4_splits 50 = .ok (.iload_n 2, 1) := by decide +kernel
theorem dX4_splits_51 : decode cX4_splits 51 = .ok (.iconst 3, 1) := by decide +kernel
theorem dX4_splits_52 : decode cX4_splits 52 = .ok (.iload_n 3, 1) := by decide +kernel
theorem dX4_splits_53 : decode cX4_splits 53 = .ok (.invokevirtual 108, 3) := by decide +kernel
theorem dX4_splits_56 : decode cX4_splits 56 = .ok (.iload_n 1, 1) := by decide +kernel
theorem dX4_splits_57 : decode cX4_splits 57 = .ok (.ifCond .le 30, 3) := by decide +kernel
theorem dX4_splits_60 : decode cX4_splits 60 = .ok (.aload_n 0, 1) := by decide +kernel
theorem dX4_splits_61 : decode cX4_splits 61 = .ok (.aload_n 0, 1) := by decide +kernel
theorem dX4_splits_62 : decode cX4_splits 62 = .ok (.getfield 46, 3) := by decide +kernel
theorem dX4_splits_65 : decode cX4_splits 65 = .ok (.iload_n 1, 1) := by decide +kernel
theorem dX4_splits_66 : decode cX4_splits 66 = .ok (.iconst 1, 1) := by decide +kernel
theorem dX4_splits_67 : decode cX4_splits 67 = .ok (.isub, 1) := by decide +kernel
theorem dX4_splits_68 : decode cX4_splits 68 = .ok (.iaload, 1) := by decide +kernel
theorem dX4_splits_69 : decode cX4_splits 69 = .ok (.aload_n 0, 1) := by decide +kernel
theorem dX4_splits_70 : decode cX4_splits 70 = .ok (.getfield 49, 3) := by decide +kernel
theorem dX4_splits_73 : decode cX4_splits 73 = .ok (.iload_n 1, 1) := by decide +kernel
theorem dX4_splits_74 : decode cX4_splits 74 = .ok (.iconst 1, 1) := by decide +kernel
theorem dX4_splits_75 : decode cX4_splits 75 = .ok (.isub, 1) := by decide +kernel
theorem dX4_splits_76 : decode cX4_splits 76 = .ok (.iaload, 1) := by decide +kernel
theorem dX4_splits_77 : decode cX4_splits 77 = .ok (.iconst 1, 1) := by decide +kernel
theorem dX4_splits_78 : decode cX4_splits 78 = .ok (.iadd, 1) := by decide +kernel
theorem dX4_splits_79 : decode cX4_splits 79 = .ok (.iload_n 3, 1) := by decide +kernel
theorem dX4_splits_80 : decode cX4_splits 80 = .ok (.iconst 0, 1) := by decide +kernel
theorem dX4_splits_81 : decode cX4_splits 81 = .ok (.invokevirtual 84, 3) := by decide +kernel
theorem dX4_splits_84 : decode cX4_splits 84 = .ok (.goto 42, 3) := by decide +kernel
theorem dX4_splits_87 : decode cX4_splits 87 = .ok (.aload_n 0, 1) := by decide +kernel
theorem dX4_splits_88 : decode cX4_splits 88 = .ok (.iload_n 3, 1) := by decide +kernel
theorem dX4_splits_89 : decode cX4_splits 89 = .ok (.invokevirtual 98, 3) := by decide +kernel
theorem dX4_splits_92 : decode cX4_splits 92 = .ok (.istore 4, 2) := by decide +kernel
theorem dX4_splits_94 : decode cX4_splits 94 = .ok (.aload_n 0, 1) := by decide +kernel
theorem dX4_splits_95 : decode cX4_splits 95 = .ok (.getfield 13, 3) := by decide +kernel
theorem dX4_splits_98 : decode cX4_splits 98 = .ok (.iload 4, 2) := by decide +kernel
theorem dX4_splits_100 : decode cX4_splits 100 = .ok (.iconst 1, 1) := by decide +kernel
theorem dX4_splits_101 : decode cX4_splits 101 = .ok (.bastore, 1) := by decide +kernel
theorem dX4_splits_102 : decode cX4_splits 102 = .ok (.aload_n 0, 1) := by decide +kernel
theorem dX4_splits_103 : decode cX4_splits 103 = .ok (.iload 4, 2) := by decide +kernel
theorem dX4_splits_105 : decode cX4_splits 105 = .ok (.iconst 0, 1) := by decide +kernel
theorem dX4_splits_106 : decode cX4_splits 106 = .ok (.iload_n 2, 1) := by decide +kernel
theorem dX4_splits_107 : decode cX4_splits 107 = .ok (.iconst 0, 1) := by decide +kernel
theorem dX4_splits_108 : decode cX4_splits 108 = .ok (.invokevirtual 84, 3) := by decide +kernel
theorem dX4_splits_111 : decode cX4_splits 111 = .ok (.aload_n 0, 1) := by decide +kernel
theorem dX4_splits_112 : decode cX4_splits 112 = .ok (.iload 4, 2) := by decide +kernel
theorem dX4_splits_114 : decode cX4_splits 114 = .ok (.iconst 1, 1) := by decide +kernel
theorem dX4_splits_115 : decode cX4_splits 115 = .ok (.iload_n 3, 1) := by decide +kernel
theorem dX4_splits_116 : decode cX4_splits 116 = .ok (.iconst 0, 1) := by decide +kernel
theorem dX4_splits_117 : decode cX4_splits 117 = .ok (.invokevirtual 84, 3) := by decide +kernel
theorem dX4_splits_120 : decode cX4_splits 120 = .ok (.aload_n 0, 1) := by decide +kernel
theorem dX4_splits_121 : decode cX4_splits 121 = .ok (.iload 4, 2) := by decide +kernel
theorem dX4_splits_123 : decode cX4_splits 123 = .ok (.putfield 32, 3) := by decide +kernel
theorem dX4_splits_126 : decode cX4_splits 126 = .ok (.iinc 1 (-1), 3) := by decide +kernel
theorem dX4_splits_129 : decode cX4_splits 129 = .ok (.goto (-124), 3) := by decide +kernel
theorem dX4_splits_132 : decode cX4_splits 132 = .ok (.return_, 1) := by decide +kernel
theorem dX4_mends_0 : decode cX4_mends 0 = .ok (.aload_n 0, 1) := by decide +kernel
theorem dX4_mends_1 : decode cX4_mends 1 = .ok (.getfield 46, 3) := by decide +kernel
theorem dX4_mends_4 : decode cX4_mends 4 = .ok (.iload_n 1, 1) := by decide +kernel
theorem dX4_mends_5 : decode cX4_mends 5 = .ok (.iaload, 1) := by decide +kernel
theorem dX4_mends_6 : decode cX4_mends 6 = .ok (.istore_n 2, 1) := by decide +kernel
theorem dX4_mends_7 : decode cX4_mends 7 = .ok (.aload_n 0, 1) := by decide +kernel
theorem dX4_mends_8 : decode cX4_mends 8 = .ok (.getfield 46, 3) := by decide +kernel
theorem dX4_mends_11 : decode cX4_mends 11 = .ok (.iload_n 1, 1) := by decide +kernel
theorem dX4_mends_12 : decode cX4_mends 12 = .ok (.iconst 1, 1) := by decide +kernel
theorem dX4_mends_13 : decode cX4_mends 13 = .ok (.isub, 1) := by decide +kernel
theorem dX4_mends_14 : decode cX4_mends 14 = .ok (.iaload, 1) := by decide +kernel
theorem dX4_mends_15 : decode cX4_mends 15 = .ok (.istore_n 3, 1) := by decide +kernel
theorem dX4_mends_16 : decode cX4_mends 16 = .ok (.aload_n 0, 1) := by decide +kernel
theorem dX4_mends_17 : decode cX4_mends 17 = .ok (.getfield 49, 3) := by decide +kernel
theorem dX4_mends_20 : decode cX4_mends 20 = .ok (.iload_n 1, 1) := by decide +kernel
theorem dX4_mends_21 : decode cX4_mends 21 = .ok (.iconst 1, 1) := by decide +kernel
theorem dX4_mends_22 : decode cX4_mends 22 = .ok (.isub, 1) := by decide +kernel
theorem dX4_mends_23 : decode cX4_mends 23 = .ok (.iaload, 1) := by decide +kernel
theorem dX4_mends_24 : decode cX4_mends 24 = .ok (.istore 4, 2) := by decide +kernel
theorem dX4_mends_26 : decode cX4_mends 26 = .ok (.iload 4, 2) := by decide +kernel
theorem dX4_mends_28 : decode cX4_mends 28 = .ok (.ifCond .le 10, 3) := by decide +kernel
theorem dX4_mends_31 : decode cX4_mends 31 = .ok (.iload 4, 2) := by decide +kernel
theorem dX4_mends_33 : decode cX4_mends 33 = .ok (.iconst 1, 1) := by decide +kernel
theorem dX4_mends_34 : decode cX4_mends 34 = .ok (.isub, 1) := by decide +kernel
theorem dX4_mends_35 : decode cX4_mends 35 = .ok (.goto 4, 3) := by decide +kernel
theorem dX4_mends_38 : decode cX4_mends 38 = .ok (.iconst 1, 1) := by decide +kernel
theorem dX4_mends_39 : decode cX4_mends 39 = .ok (.istore 5, 2) := by decide +kernel
theorem dX4_mends_41 : decode cX4_mends 41 = .ok (.aload_n 0, 1) := by decide +kernel
theorem dX4_mends_42 : decode cX4_mends 42 = .ok (.getfield 7, 3) := by decide +kernel
theorem dX4_mends_45 : decode cX4_mends 45 = .ok (.aload_n 0, 1) := by decide +kernel
theorem dX4_mends_46 : decode cX4_mends 46 = .ok (.getfield 17, 3) := by decide +kernel
theorem dX4_mends_49 : decode cX4_mends 49 = .ok (.iconst 5, 1) := by decide +kernel
theorem dX4_mends_50 : decode cX4_mends 50 = .ok (.iload_n 3, 1) := by decide +kernel
theorem dX4_mends_51 : decode cX4_mends 51 = .ok (.imul, 1) := by decide +kernel
theorem dX4_mends_52 : decode cX4_mends 52 = .ok (.iload 5, 2) := by decide +kernel
theorem dX4_mends_54 : decode cX4_mends 54 = .ok (.iadd, 1) := by decide +kernel
theorem dX4_mends_55 : decode cX4_mends 55 = .ok (.iaload, 1) := by decide +kernel
theorem dX4_mends_56 : decode cX4_mends 56 = .ok (.iaload, 1) := by decide +kernel
theorem dX4_mends_57 : decode cX4_mends 57 = .ok (.iconst 2, 1) := by decide +kernel
theorem dX4_mends_58 : decode cX4_mends 58 = .ok (.if_icmp .le 82, 3) := by decide +kernel
theorem dX4_mends_61 : decode cX4_mends 61 = .ok (.aload_n 0, 1) := by decide +kernel
theorem dX4_mends_62 : decode cX4_mends 62 = .ok (.iload_n 3, 1) := by decide +kernel
theorem dX4_mends_63 : decode cX4_mends 63 = .ok (.iload 5, 2) := by decide +kernel
theorem dX4_mends_65 : decode cX4_mends 65 = .ok (.invokevirtual 105, 3) := by decide +kernel
theorem dX4_mends_68 : decode cX4_mends 68 = .ok (.istore 6, 2) := by decide +kernel
theorem dX4_mends_70 : decode cX4_mends 70 = .ok (.iload 4, 2) := by decide +kernel
theorem dX4_mends_72 : decode cX4_mends 72 = .ok (.ifCond .le 15, 3) := by decide +kernel
theorem dX4_mends_75 : decode cX4_mends 75 = .ok (.aload_n 0, 1) := by decide +kernel
theorem dX4_mends_76 : decode cX4_mends 76 = .ok (.getfield 7, 3) := by decide +kernel
theorem dX4_mends_79 : decode cX4_mends 79 = .ok (.iload 6, 2) := by decide +kernel
theorem dX4_mends_81 : decode cX4_mends 81 = .ok (.iaload, 1) := by decide +kernel
theorem dX4_mends_82 : decode cX4_mends 82 = .ok (.iconst 1, 1) := by decide +kernel
theorem dX4_mends_83 : decode cX4_mends 83 = .ok (.isub, 1) := by decide +kernel
theorem dX4_mends_84 : decode cX4_mends 84 = .ok (.goto 4, 3) := by decide +kernel
theorem dX4_mends_87 : decode cX4_mends 87 = .ok (.iconst 0, 1) := by decide +kernel
theorem dX4_mends_88 : decode cX4_mends 88 = .ok (.istore 7, 2) := by decide +kernel
theorem dX4_mends_90 : decode cX4_mends 90 = .ok (.aload_n 0, 1) := by decide +kernel
theorem dX4_mends_91 : decode cX4_mends 91 = .ok (.iload_n 2, 1) := by decide +kernel
theorem dX4_mends_92 : decode cX4_mends 92 = .ok (.iload 4, 2) := by decide +kernel
theorem dX4_mends_94 : decode cX4_mends 94 = .ok (.ifCond .le 7, 3) := by decide +kernel
theorem dX4_mends_97 : decode cX4_mends 97 = .ok (.iconst 0, 1) := by decide +kernel
theorem dX4_mends_98 : decode cX4_mends 98 = .ok (.goto 4, 3) := by decide +kernel
theorem dX4_mends_101 : decode cX4_mends 101 = .ok (.iconst 1, 1) := by decide +kernel
theorem dX4_mends_102 : decode cX4_mends 102 = .ok (.aload_n 0, 1) := by decide +kernel
theorem dX4_mends_103 : decode cX4_mends 103 = .ok (.getfield 17, 3) := by decide +kernel
theorem dX4_mends_106 : decode cX4_mends 106 = .ok (.iconst 5, 1) := by decide +kernel
theorem dX4_mends_107 : decode cX4_mends 107 = .ok (.iload 6, 2) := by decide +kernel
theorem dX4_mends_109 : decode cX4_mends 109 = .ok (.imul, 1) := by decide +kernel
theorem dX4_mends_110 : decode cX4_mends 110 = .ok (.iload 7, 2) := by decide +kernel
theorem dX4_mends_112 : decode cX4_mends 112 = .ok (.iadd, 1) := by decide +kernel
theorem dX4_mends_113 : decode cX4_mends 113 = .ok (.iaload, 1) := by decide +kernel
theorem dX4_mends_114 : decode cX4_mends 114 = .ok (.aload_n 0, 1) := by decide +kernel
theorem dX4_mends_115 : decode cX4_mends 115 = .ok (.getfield 20, 3) := by decide +kernel
theorem dX4_mends_118 : decode cX4_mends 118 = .ok (.iconst 5, 1) := by decide +kernel
theorem dX4_mends_119 : decode cX4_mends 119 = .ok (.iload 6, 2) := by decide +kernel
theorem dX4_mends_121 : decode cX4_mends 121 = .ok (.imul, 1) := by decide +kernel
theorem dX4_mends_122 : decode cX4_mends 122 = .ok (.iload 7, 2) := by decide +kernel
theorem dX4_mends_124 : decode cX4_mends 124 = .ok (.iadd, 1) := by decide +kernel
theorem dX4_mends_125 : decode cX4_mends 125 = .ok (.iaload, 1) := by decide +kernel
theorem dX4_mends_126 : decode cX4_mends 126 = .ok (.invokevirtual 84, 3) := by decide +kernel
theorem dX4_mends_129 : decode cX4_mends 129 = .ok (.aload_n 0, 1) := by decide +kernel
theorem dX4_mends_130 : decode cX4_mends 130 = .ok (.iload 6, 2) := by decide +kernel
theorem dX4_mends_132 : decode cX4_mends 132 = .ok (.iload 7, 2) := by decide +kernel
theorem dX4_mends_134 : decode cX4_mends 134 = .ok (.invokevirtual 112, 3) := by decide +kernel
theorem dX4_mends_137 : decode cX4_mends 137 = .ok (.goto 109, 3) := by decide +kernel
theorem dX4_mends_140 : decode cX4_mends 140 = .ok (.iload 4, 2) := by decide +kernel
theorem dX4_mends_142 : decode cX4_mends 142 = .ok (.ifCond .le 30, 3) := by decide +kernel
theorem dX4_mends_145 : decode cX4_mends 145 = .ok (.aload_n 0, 1) := by decide +kernel
theorem dX4_mends_146 : decode cX4_mends 146 = .ok (.iload_n 3, 1) := by decide +kernel
theorem dX4_mends_147 : decode cX4_mends 147 = .ok (.iload 5, 2) := by decide +kernel
theorem dX4_mends_149 : decode cX4_mends 149 = .ok (.invokevirtual 105, 3) := by decide +kernel
theorem dX4_mends_152 : decode cX4_mends 152 = .ok (.istore 6, 2) := by decide +kernel
theorem dX4_mends_154 : decode cX4_mends 154 = .ok (.aload_n 0, 1) := by decide +kernel
theorem dX4_mends_155 : decode cX4_mends 155 = .ok (.iload_n 2, 1) := by decide +kernel
theorem dX4_mends_156 : decode cX4_mends 156 = .ok (.iconst 0, 1) := by decide +kernel
theorem dX4_mends_157 : decode cX4_mends 157 = .ok (.iload 6, 2) := by decide +kernel
theorem dX4_mends_159 : decode cX4_mends 159 = .ok (.invokevirtual 108, 3) := by decide +kernel
theorem dX4_mends_162 : decode cX4_mends 162 = .ok (.aload_n 0, 1) := by decide +kernel
theorem dX4_mends_163 : decode cX4_mends 163 = .ok (.iload_n 3, 1) := by decide +kernel
theorem dX4_mends_164 : decode cX4_mends 164 = .ok (.iload 4, 2) := by decide +kernel
theorem dX4_mends_166 : decode cX4_mends 166 = .ok (.invokevirtual 112, 3) := by decide +kernel
theorem dX4_mends_169 : decode cX4_mends 169 = .ok (.goto 77, 3) := by decide +kernel
theorem dX4_mends_172 : decode cX4_mends 172 = .ok (.aload_n 0, 1) := by decide +kernel
theorem dX4_mends_173 : decode cX4_mends 173 = .ok (.getfield 17, 3) := by decide +kernel
theorem dX4_mends_176 : decode cX4_mends 176 = .ok (.iconst 5, 1) := by decide +kernel
theorem dX4_mends_177 : decode cX4_mends 177 = .ok (.iload_n 3, 1) := by decide +kernel
theorem dX4_mends_178 : decode cX4_mends 178 = .ok (.imul, 1) := by decide +kernel
theorem dX4_mends_179 : decode cX4_mends 179 = .ok (.iconst 1, 1) := by decide +kernel
theorem dX4_mends_180 : decode cX4_mends 180 = .ok (.iadd, 1) := by decide +kernel
theorem dX4_mends_181 : decode cX4_mends 181 = .ok (.iaload, 1) := by decide +kernel
theorem dX4_mends_182 : decode cX4_mends 182 = .ok (.istore 6, 2) := by decide +kernel
theorem dX4_mends_184 : decode cX4_mends 184 = .ok (.iconst 0, 1) := by decide +kernel
theorem dX4_mends_185 : decode cX4_mends 185 = .ok (.istore 7, 2) := by decide +kernel
theorem dX4_mends_187 : decode cX4_mends 187 = .ok (.iload 7, 2) := by decide +kernel
theorem dX4_mends_189 : decode cX4_mends 189 = .ok (.aload_n 0, 1) := by decide +kernel
theorem dX4_mends_190 : decode cX4_mends 190 = .ok (.getfield 7, 3) := by decide +kernel
theorem dX4_mends_193 : decode cX4_mends 193 = .ok (.iload 6, 2) := by decide +kernel
theorem dX4_mends_195 : decode cX4_mends 195 = .ok (.iaload, 1) := by decide +kernel
theorem dX4_mends_196 : decode cX4_mends 196 = .ok (.if_icmp .ge 44, 3) := by decide +kernel
theorem dX4_mends_199 : decode cX4_mends 199 = .ok (.aload_n 0, 1) := by decide +kernel
theorem dX4_mends_200 : decode cX4_mends 200 = .ok (.iload_n 2, 1) := by decide +kernel
theorem dX4_mends_201 : decode cX4_mends 201 = .ok (.aload_n 0, 1) := by decide +kernel
theorem dX4_mends_202 : decode cX4_mends 202 = .ok (.getfield 7, 3) := by decide +kernel
theorem dX4_mends_205 : decode cX4_mends 205 = .ok (.iload_n 2, 1) := by decide +kernel
theorem dX4_mends_206 : decode cX4_mends 206 = .ok (.iaload, 1) := by decide +kernel
theorem dX4_mends_207 : decode cX4_mends 207 = .ok (.aload_n 0, 1) := by decide +kernel
theorem dX4_mends_208 : decode cX4_mends 208 = .ok (.getfield 17, 3) := by decide +kernel
theorem dX4_mends_211 : decode cX4_mends 211 = .ok (.iconst 5, 1) := by decide +kernel
theorem dX4_mends_212 : decode cX4_mends 212 = .ok (.iload 6, 2) := by decide +kernel
theorem dX4_mends_214 : decode cX4_mends 214 = .ok (.imul, 1) := by decide +kernel
theorem dX4_mends_215 : decode cX4_mends 215 = .ok (.iload 7, 2) := by decide +kernel
theorem dX4_mends_217 : decode cX4_mends 217 = .ok (.iadd, 1) := by decide +kernel
theorem dX4_mends_218 : decode cX4_mends 218 = .ok (.iaload, 1) := by decide +kernel
theorem dX4_mends_219 : decode cX4_mends 219 = .ok (.aload_n 0, 1) := by decide +kernel
theorem dX4_mends_220 : decode cX4_mends 220 = .ok (.getfield 20, 3) := by decide +kernel
theorem dX4_mends_223 : decode cX4_mends 223 = .ok (.iconst 5, 1) := by decide +kernel
theorem dX4_mends_224 : decode cX4_mends 224 = .ok (.iload 6, 2) := by decide +kernel
theorem dX4_mends_226 : decode cX4_mends 226 = .ok (.imul, 1) := by decide +kernel
theorem dX4_mends_227 : decode cX4_mends 227 = .ok (.iload 7, 2) := by decide +kernel
theorem dX4_mends_229 : decode cX4_mends 229 = .ok (.iadd, 1) := by decide +kernel
theorem dX4_mends_230 : decode cX4_mends 230 = .ok (.iaload, 1) := by decide +kernel
theorem dX4_mends_231 : decode cX4_mends 231 = .ok (.invokevirtual 84, 3) := by decide +kernel
theorem dX4_mends_234 : decode cX4_mends 234 = .ok (.iinc 7 1, 3) := by decide +kernel
theorem dX4_mends_237 : decode cX4_mends 237 = .ok (.goto (-50), 3) := by decide +kernel
theorem dX4_mends_240 : decode cX4_mends 240 = .ok (.aload_n 0, 1) := by decide +kernel
theorem dX4_mends_241 : decode cX4_mends 241 = .ok (.iload_n 3, 1) := by decide +kernel
theorem dX4_mends_242 : decode cX4_mends 242 = .ok (.iconst 1, 1) := by decide +kernel
theorem dX4_mends_243 : decode cX4_mends 243 = .ok (.invokevirtual 112, 3) := by decide +kernel
theorem dX4_mends_246 : decode cX4_mends 246 = .ok (.return_, 1) := by decide +kernel
theorem dX4_joins_0 : decode cX4_joins 0 = .ok (.aload_n 0, 1) := by decide +kernel
theorem dX4_joins_1 : decode cX4_joins 1 = .ok (.getfield 91, 3) := by decide +kernel
theorem dX4_joins_4 : decode cX4_joins 4 = .ok (.istore_n 1, 1) := by decide +kernel
theorem dX4_joins_5 : decode cX4_joins 5 = .ok (.iload_n 1, 1) := by decide +kernel
theorem dX4_joins_6 : decode cX4_joins 6 = .ok (.ifCond .le 29, 3) := by decide +kernel
theorem dX4_joins_9 : decode cX4_joins 9 = .ok (.aload_n 0, 1) := by decide +kernel
theorem dX4_joins_10 : decode cX4_joins 10 = .ok (.getfield 7, 3) := by decide +kernel
theorem dX4_joins_13 : decode cX4_joins 13 = .ok (.aload_n 0, 1) := by decide +kernel
theorem dX4_joins_14 : decode cX4_joins 14 = .ok (.getfield 46, 3) := by decide +kernel
theorem dX4_joins_17 : decode cX4_joins 17 = .ok (.iload_n 1, 1) := by decide +kernel
theorem dX4_joins_18 : decode cX4_joins 18 = .ok (.iaload, 1) := by decide +kernel
theorem dX4_joins_19 : decode cX4_joins 19 = .ok (.iaload, 1) := by decide +kernel
theorem dX4_joins_20 : decode cX4_joins 20 = .ok (.iconst 2, 1) := by decide +kernel
theorem dX4_joins_21 : decode cX4_joins 21 = .ok (.if_icmp .ge 8, 3) := by decide +kernel
theorem dX4_joins_24 : decode cX4_joins 24 = .ok (.aload_n 0, 1) := by decide +kernel
theorem dX4_joins_25 : decode cX4_joins 25 = .ok (.iload_n 1, 1) := by decide +kernel
theorem dX4_joins_26 : decode cX4_joins 26 = .ok (.invokevirtual 115, 3) := by decide +kernel
theorem dX4_joins_29 : decode cX4_joins 29 = .ok (.iinc 1 (-1), 3) := by decide +kernel
theorem dX4_joins_32 : decode cX4_joins 32 = .ok (.goto (-27), 3) := by decide +kernel
theorem dX4_joins_35 : decode cX4_joins 35 = .ok (.aload_n 0, 1) := by decide +kernel
theorem dX4_joins_36 : decode cX4_joins 36 = .ok (.getfield 13, 3) := by decide +kernel
theorem dX4_joins_39 : decode cX4_joins 39 = .ok (.aload_n 0, 1) := by decide +kernel
theorem dX4_joins_40 : decode cX4_joins 40 = .ok (.getfield 32, 3) := by decide +kernel
theorem dX4_joins_43 : decode cX4_joins 43 = .ok (.baload, 1) := by decide +kernel
theorem dX4_joins_44 : decode cX4_joins 44 = .ok (.ifCond .eq 31, 3) := by decide +kernel
theorem dX4_joins_47 : decode cX4_joins 47 = .ok (.aload_n 0, 1) := by decide +kernel
theorem dX4_joins_48 : decode cX4_joins 48 = .ok (.getfield 7, 3) := by decide +kernel
theorem dX4_joins_51 : decode cX4_joins 51 = .ok (.aload_n 0, 1) := by decide +kernel
theorem dX4_joins_52 : decode cX4_joins 52 = .ok (.getfield 32, 3) := by decide +kernel
theorem dX4_joins_55 : decode cX4_joins 55 = .ok (.iaload, 1) := by decide +kernel
theorem dX4_joins_56 : decode cX4_joins 56 = .ok (.iconst 1, 1) := by decide +kernel
theorem dX4_joins_57 : decode cX4_joins 57 = .ok (.if_icmp .ne 18, 3) := by decide +kernel
theorem dX4_joins_60 : decode cX4_joins 60 = .ok (.aload_n 0, 1) := by decide +kernel
theorem dX4_joins_61 : decode cX4_joins 61 = .ok (.aload_n 0, 1) := by decide +kernel
theorem dX4_joins_62 : decode cX4_joins 62 = .ok (.getfield 17, 3) := by decide +kernel
theorem dX4_joins_65 : decode cX4_joins 65 = .ok (.iconst 5, 1) := by decide +kernel
theorem dX4_joins_66 : decode cX4_joins 66 = .ok (.aload_n 0, 1) := by decide +kernel
theorem dX4_joins_67 : decode cX4_joins 67 = .ok (.getfield 32, 3) := by decide +kernel
theorem dX4_joins_70 : decode cX4_joins 70 = .ok (.imul, 1) := by decide +kernel
theorem dX4_joins_71 : decode cX4_joins 71 = .ok (.iaload, 1) := by decide +kernel
theorem dX4_joins_72 : decode cX4_joins 72 = .ok (.putfield 32, 3) := by decide +kernel
theorem dX4_joins_75 : decode cX4_joins 75 = .ok (.return_, 1) := by decide +kernel
theorem dX4_beginBatch_0 : decode cX4_beginBatch 0 = .ok (.aload_n 0, 1) := by decide +kernel
theorem dX4_beginBatch_1 : decode cX4_beginBatch 1 = .ok (.aload_n 0, 1) := by decide +kernel
theorem dX4_beginBatch_2 : decode cX4_beginBatch 2 = .ok (.getfield 32, 3) := by decide +kernel
theorem dX4_beginBatch_5 : decode cX4_beginBatch 5 = .ok (.iconst (-1), 1) := by decide +kernel
theorem dX4_beginBatch_6 : decode cX4_beginBatch 6 = .ok (.if_icmp .ne 7, 3) := by decide +kernel
theorem dX4_beginBatch_9 : decode cX4_beginBatch 9 = .ok (.iconst 1, 1) := by decide +kernel
theorem dX4_beginBatch_10 : decode cX4_beginBatch 10 = .ok (.goto 4, 3) := by decide +kernel
theorem dX4_beginBatch_13 : decode cX4_beginBatch 13 = .ok (.iconst 0, 1) := by decide +kernel
theorem dX4_beginBatch_14 : decode cX4_beginBatch 14 = .ok (.iconst 1, 1) := by decide +kernel
theorem dX4_beginBatch_15 : decode cX4_beginBatch 15 = .ok (.iconst 1, 1) := by decide +kernel
theorem dX4_beginBatch_16 : decode cX4_beginBatch 16 = .ok (.invokevirtual 118, 3) := by decide +kernel
theorem dX4_beginBatch_19 : decode cX4_beginBatch 19 = .ok (.ifCond .ne 5, 3) := by decide +kernel
theorem dX4_beginBatch_22 : decode cX4_beginBatch 22 = .ok (.iconst 0, 1) := by decide +kernel
theorem dX4_beginBatch_23 : decode cX4_beginBatch 23 = .ok (.ireturn, 1) := by decide +kernel
theorem dX4_beginBatch_24 : decode cX4_beginBatch 24 = .ok (.iconst 0, 1) := by decide +kernel
theorem dX4_beginBatch_25 : decode cX4_beginBatch 25 = .ok (.istore_n 1, 1) := by decide +kernel
theorem dX4_beginBatch_26 : decode cX4_beginBatch 26 = .ok (.iload_n 1, 1) := by decide +kernel
theorem dX4_beginBatch_27 : decode cX4_beginBatch 27 = .ok (.sipush 720, 3) := by decide +kernel
theorem dX4_beginBatch_30 : decode cX4_beginBatch 30 = .ok (.if_icmp .ge 16, 3) := by decide +kernel
theorem dX4_beginBatch_33 : decode cX4_beginBatch 33 = .ok (.aload_n 0, 1) := by decide +kernel
theorem dX4_beginBatch_34 : decode cX4_beginBatch 34 = .ok (.getfield 23, 3) := by decide +kernel
theorem dX4_beginBatch_37 : decode cX4_beginBatch 37 = .ok (.iload_n 1, 1) := by decide +kernel
theorem dX4_beginBatch_38 : decode cX4_beginBatch 38 = .ok (.iconst 0, 1) := by decide +kernel
theorem dX4_beginBatch_39 : decode cX4_beginBatch 39 = .ok (.bastore, 1) := by decide +kernel
theorem dX4_beginBatch_40 : decode cX4_beginBatch 40 = .ok (.iinc 1 1, 3) := by decide +kernel
theorem dX4_beginBatch_43 : decode cX4_beginBatch 43 = .ok (.goto (-17), 3) := by decide +kernel
theorem dX4_beginBatch_46 : decode cX4_beginBatch 46 = .ok (.aload_n 0, 1) := by decide +kernel
theorem dX4_beginBatch_47 : decode cX4_beginBatch 47 = .ok (.aload_n 0, 1) := by decide +kernel
theorem dX4_beginBatch_48 : decode cX4_beginBatch 48 = .ok (.getfield 61, 3) := by decide +kernel
theorem dX4_beginBatch_51 : decode cX4_beginBatch 51 = .ok (.putfield 32, 3) := by decide +kernel
theorem dX4_beginBatch_54 : decode cX4_beginBatch 54 = .ok (.aload_n 0, 1) := by decide +kernel
theorem dX4_beginBatch_55 : decode cX4_beginBatch 55 = .ok (.getfield 122, 3) := by decide +kernel
theorem dX4_beginBatch_58 : decode cX4_beginBatch 58 = .ok (.iconst 1, 1) := by decide +kernel
theorem dX4_beginBatch_59 : decode cX4_beginBatch 59 = .ok (.iadd, 1) := by decide +kernel
theorem dX4_beginBatch_60 : decode cX4_beginBatch 60 = .ok (.ireturn, 1) := by decide +kernel
theorem dX4_hasBatch_0 : decode cX4_hasBatch 0 = .ok (.aload_n 0, 1) := by decide +kernel
theorem dX4_hasBatch_1 : decode cX4_hasBatch 1 = .ok (.iconst 0, 1) := by decide +kernel
theorem dX4_hasBatch_2 : decode cX4_hasBatch 2 = .ok (.putfield 55, 3) := by decide +kernel
theorem dX4_hasBatch_5 : decode cX4_hasBatch 5 = .ok (.aload_n 0, 1) := by decide +kernel
theorem dX4_hasBatch_6 : decode cX4_hasBatch 6 = .ok (.getfield 32, 3) := by decide +kernel
theorem dX4_hasBatch_9 : decode cX4_hasBatch 9 = .ok (.iconst (-1), 1) := by decide +kernel
theorem dX4_hasBatch_10 : decode cX4_hasBatch 10 = .ok (.if_icmp .eq 7, 3) := by decide +kernel
theorem dX4_hasBatch_13 : decode cX4_hasBatch 13 = .ok (.iconst 1, 1) := by decide +kernel
theorem dX4_hasBatch_14 : decode cX4_hasBatch 14 = .ok (.goto 4, 3) := by decide +kernel
theorem dX4_hasBatch_17 : decode cX4_hasBatch 17 = .ok (.iconst 0, 1) := by decide +kernel
theorem dX4_hasBatch_18 : decode cX4_hasBatch 18 = .ok (.ireturn, 1) := by decide +kernel
theorem dX4_put_0 : decode cX4_put 0 = .ok (.aload_n 0, 1) := by decide +kernel
theorem dX4_put_1 : decode cX4_put 1 = .ok (.iload_n 1, 1) := by decide +kernel
theorem dX4_put_2 : decode cX4_put 2 = .ok (.iconst 0, 1) := by decide +kernel
theorem dX4_put_3 : decode cX4_put 3 = .ok (.bipush 99, 2) := by decide +kernel
theorem dX4_put_5 : decode cX4_put 5 = .ok (.invokestatic 76, 3) := by decide +kernel
theorem dX4_put_8 : decode cX4_put 8 = .ok (.aload_n 0, 1) := by decide +kernel
theorem dX4_put_9 : decode cX4_put 9 = .ok (.getfield 32, 3) := by decide +kernel
theorem dX4_put_12 : decode cX4_put 12 = .ok (.iconst (-1), 1) := by decide +kernel
theorem dX4_put_13 : decode cX4_put 13 = .ok (.if_icmp .eq 7, 3) := by decide +kernel
theorem dX4_put_16 : decode cX4_put 16 = .ok (.iconst 1, 1) := by decide +kernel
theorem dX4_put_17 : decode cX4_put 17 = .ok (.goto 4, 3) := by decide +kernel
theorem dX4_put_20 : decode cX4_put 20 = .ok (.iconst 0, 1) := by decide +kernel
theorem dX4_put_21 : decode cX4_put 21 = .ok (.iconst 1, 1) := by decide +kernel
theorem dX4_put_22 : decode cX4_put 22 = .ok (.invokevirtual 118, 3) := by decide +kernel
theorem dX4_put_25 : decode cX4_put 25 = .ok (.ifCond .ne 5, 3) := by decide +kernel
theorem dX4_put_28 : decode cX4_put 28 = .ok (.iconst 0, 1) := by decide +kernel
theorem dX4_put_29 : decode cX4_put 29 = .ok (.ireturn, 1) := by decide +kernel
theorem dX4_put_30 : decode cX4_put 30 = .ok (.aload_n 0, 1) := by decide +kernel
theorem dX4_put_31 : decode cX4_put 31 = .ok (.aload_n 0, 1) := by decide +kernel
theorem dX4_put_32 : decode cX4_put 32 = .ok (.getfield 32, 3) := by decide +kernel
theorem dX4_put_35 : decode cX4_put 35 = .ok (.iload_n 1, 1) := by decide +kernel
theorem dX4_put_36 : decode cX4_put 36 = .ok (.invokevirtual 125, 3) := by decide +kernel
theorem dX4_put_39 : decode cX4_put 39 = .ok (.aload_n 0, 1) := by decide +kernel
theorem dX4_put_40 : decode cX4_put 40 = .ok (.invokevirtual 128, 3) := by decide +kernel
theorem dX4_put_43 : decode cX4_put 43 = .ok (.aload_n 0, 1) := by decide +kernel
theorem dX4_put_44 : decode cX4_put 44 = .ok (.getfield 46, 3) := by decide +kernel
theorem dX4_put_47 : decode cX4_put 47 = .ok (.aload_n 0, 1) := by decide +kernel
theorem dX4_put_48 : decode cX4_put 48 = .ok (.getfield 91, 3) := by decide +kernel
theorem dX4_put_51 : decode cX4_put 51 = .ok (.iaload, 1) := by decide +kernel
theorem dX4_put_52 : decode cX4_put 52 = .ok (.istore_n 3, 1) := by decide +kernel
theorem dX4_put_53 : decode cX4_put 53 = .ok (.aload_n 0, 1) := by decide +kernel
theorem dX4_put_54 : decode cX4_put 54 = .ok (.iload_n 3, 1) := by decide +kernel
theorem dX4_put_55 : decode cX4_put 55 = .ok (.iload_n 1, 1) := by decide +kernel
theorem dX4_put_56 : decode cX4_put 56 = .ok (.invokevirtual 131, 3) := by decide +kernel
theorem dX4_put_59 : decode cX4_put 59 = .ok (.istore 4, 2) := by decide +kernel
theorem dX4_put_61 : decode cX4_put 61 = .ok (.aload_n 0, 1) := by decide +kernel
theorem dX4_put_62 : decode cX4_put 62 = .ok (.iload_n 3, 1) := by decide +kernel
theorem dX4_put_63 : decode cX4_put 63 = .ok (.iload 4, 2) := by decide +kernel
theorem dX4_put_65 : decode cX4_put 65 = .ok (.iload_n 1, 1) := by decide +kernel
theorem dX4_put_66 : decode cX4_put 66 = .ok (.invokevirtual 134, 3) := by decide +kernel
theorem dX4_put_69 : decode cX4_put 69 = .ok (.ifCond .eq 17, 3) := by decide +kernel
theorem dX4_put_72 : decode cX4_put 72 = .ok (.aload_n 0, 1) := by decide +kernel
theorem dX4_put_73 : decode cX4_put 73 = .ok (.getfield 20, 3) := by decide +kernel
theorem dX4_put_76 : decode cX4_put 76 = .ok (.iconst 5, 1) := by decide +kernel
theorem dX4_put_77 : decode cX4_put 77 = .ok (.iload_n 3, 1) := by decide +kernel
theorem dX4_put_78 : decode cX4_put 78 = .ok (.imul, 1) := by decide +kernel
theorem dX4_put_79 : decode cX4_put 79 = .ok (.iload 4, 2) := by decide +kernel
theorem dX4_put_81 : decode cX4_put 81 = .ok (.iadd, 1) := by decide +kernel
theorem dX4_put_82 : decode cX4_put 82 = .ok (.iload_n 2, 1) := by decide +kernel
theorem dX4_put_83 : decode cX4_put 83 = .ok (.iastore, 1) := by decide +kernel
theorem dX4_put_84 : decode cX4_put 84 = .ok (.iconst 0, 1) := by decide +kernel
theorem dX4_put_85 : decode cX4_put 85 = .ok (.ireturn, 1) := by decide +kernel
theorem dX4_put_86 : decode cX4_put 86 = .ok (.aload_n 0, 1) := by decide +kernel
theorem dX4_put_87 : decode cX4_put 87 = .ok (.iload_n 3, 1) := by decide +kernel
theorem dX4_put_88 : decode cX4_put 88 = .ok (.iload 4, 2) := by decide +kernel
theorem dX4_put_90 : decode cX4_put 90 = .ok (.iload_n 1, 1) := by decide +kernel
theorem dX4_put_91 : decode cX4_put 91 = .ok (.iload_n 2, 1) := by decide +kernel
theorem dX4_put_92 : decode cX4_put 92 = .ok (.invokevirtual 84, 3) := by decide +kernel
theorem dX4_put_95 : decode cX4_put 95 = .ok (.aload_n 0, 1) := by decide +kernel
theorem dX4_put_96 : decode cX4_put 96 = .ok (.invokevirtual 137, 3) := by decide +kernel
theorem dX4_put_99 : decode cX4_put 99 = .ok (.iconst 1, 1) := by decide +kernel
theorem dX4_put_100 : decode cX4_put 100 = .ok (.ireturn, 1) := by decide +kernel
theorem dX4_delete_0 : decode cX4_delete 0 = .ok (.iload_n 1, 1) := by decide +kernel
theorem dX4_delete_1 : decode cX4_delete 1 = .ok (.iconst 0, 1) := by decide +kernel
theorem dX4_delete_2 : decode cX4_delete 2 = .ok (.bipush 99, 2) := by decide +kernel
theorem dX4_delete_4 : decode cX4_delete 4 = .ok (.invokestatic 76, 3) := by decide +kernel
theorem dX4_delete_7 : decode cX4_delete 7 = .ok (.ifCond .eq 15, 3) := by decide +kernel
theorem dX4_delete_10 : decode cX4_delete 10 = .ok (.aload_n 0, 1) := by decide +kernel
theorem dX4_delete_11 : decode cX4_delete 11 = .ok (.getfield 32, 3) := by decide +kernel
theorem dX4_delete_14 : decode cX4_delete 14 = .ok (.iconst (-1), 1) := by decide +kernel
theorem dX4_delete_15 : decode cX4_delete 15 = .ok (.if_icmp .eq 7, 3) := by decide +kernel
theorem dX4_delete_18 : decode cX4_delete 18 = .ok (.iconst 1, 1) := by decide +kernel
theorem dX4_delete_19 : decode cX4_delete 19 = .ok (.goto 4, 3) := by decide +kernel
theorem dX4_delete_22 : decode cX4_delete 22 = .ok (.iconst 0, 1) := by decide +kernel
theorem dX4_delete_23 : decode cX4_delete 23 = .ok (.istore_n 2, 1) := by decide +kernel
theorem dX4_delete_24 : decode cX4_delete 24 = .ok (.iconst 0, 1) := by decide +kernel
theorem dX4_delete_25 : decode cX4_delete 25 = .ok (.istore_n 3, 1) := by decide +kernel
theorem dX4_delete_26 : decode cX4_delete 26 = .ok (.iload_n 2, 1) := by decide +kernel
theorem dX4_delete_27 : decode cX4_delete 27 = .ok (.ifCond .eq 27, 3) := by decide +kernel
theorem dX4_delete_30 : decode cX4_delete 30 = .ok (.aload_n 0, 1) := by decide +kernel
theorem dX4_delete_31 : decode cX4_delete 31 = .ok (.aload_n 0, 1) := by decide +kernel
theorem dX4_delete_32 : decode cX4_delete 32 = .ok (.getfield 32, 3) := by decide +kernel
theorem dX4_delete_35 : decode cX4_delete 35 = .ok (.iload_n 1, 1) := by decide +kernel
theorem dX4_delete_36 : decode cX4_delete 36 = .ok (.invokevirtual 125, 3) := by decide +kernel
theorem dX4_delete_39 : decode cX4_delete 39 = .ok (.aload_n 0, 1) := by decide +kernel
theorem dX4_delete_40 : decode cX4_delete 40 = .ok (.aload_n 0, 1) := by decide +kernel
theorem dX4_delete_41 : decode cX4_delete 41 = .ok (.getfield 46, 3) := by decide +kernel
theorem dX4_delete_44 : decode cX4_delete 44 = .ok (.aload_n 0, 1) := by decide +kernel
theorem dX4_delete_45 : decode cX4_delete 45 = .ok (.getfield 91, 3) := by decide +kernel
theorem dX4_delete_48 : decode cX4_delete 48 = .ok (.iaload, 1) := by decide +kernel
theorem dX4_delete_49 : decode cX4_delete 49 = .ok (.iload_n 1, 1) := by decide +kernel
theorem dX4_delete_50 : decode cX4_delete 50 = .ok (.invokevirtual 131, 3) := by decide +kernel
theorem dX4_delete_53 : decode cX4_delete 53 = .ok (.istore_n 3, 1) := by decide +kernel
theorem dX4_delete_54 : decode cX4_delete 54 = .ok (.aload_n 0, 1) := by decide +kernel
theorem dX4_delete_55 : decode cX4_delete 55 = .ok (.iload_n 1, 1) := by decide +kernel
theorem dX4_delete_56 : decode cX4_delete 56 = .ok (.iconst 0, 1) := by decide +kernel
theorem dX4_delete_57 : decode cX4_delete 57 = .ok (.bipush 99, 2) := by decide +kernel
theorem dX4_delete_59 : decode cX4_delete 59 = .ok (.invokestatic 76, 3) := by decide +kernel
theorem dX4_delete_62 : decode cX4_delete 62 = .ok (.aload_n 0, 1) := by decide +kernel
theorem dX4_delete_63 : decode cX4_delete 63 = .ok (.getfield 32, 3) := by decide +kernel
theorem dX4_delete_66 : decode cX4_delete 66 = .ok (.iconst (-1), 1) := by decide +kernel
theorem dX4_delete_67 : decode cX4_delete 67 = .ok (.if_icmp .eq 7, 3) := by decide +kernel
theorem dX4_delete_70 : decode cX4_delete 70 = .ok (.iconst 1, 1) := by decide +kernel
theorem dX4_delete_71 : decode cX4_delete 71 = .ok (.goto 4, 3) := by decide +kernel
theorem dX4_delete_74 : decode cX4_delete 74 = .ok (.iconst 0, 1) := by decide +kernel
theorem dX4_delete_75 : decode cX4_delete 75 = .ok (.iload_n 2, 1) := by decide +kernel
theorem dX4_delete_76 : decode cX4_delete 76 = .ok (.ifCond .eq 25, 3) := by decide +kernel
theorem dX4_delete_79 : decode cX4_delete 79 = .ok (.aload_n 0, 1) := by decide +kernel
theorem dX4_delete_80 : decode cX4_delete 80 = .ok (.aload_n 0, 1) := by decide +kernel
theorem dX4_delete_81 : decode cX4_delete 81 = .ok (.getfield 46, 3) := by decide +kernel
theorem dX4_delete_84 : decode cX4_delete 84 = .ok (.aload_n 0, 1) := by decide +kernel
theorem dX4_delete_85 : decode cX4_delete 85 = .ok (.getfield 91, 3) := by decide +kernel
theorem dX4_delete_88 : decode cX4_delete 88 = .ok (.iaload, 1) := by decide +kernel
theorem dX4_delete_89 : decode cX4_delete 89 = .ok (.iload_n 3, 1) := by decide +kernel
theorem dX4_delete_90 : decode cX4_delete 90 = .ok (.iload_n 1, 1) := by decide +kernel
theorem dX4_delete_91 : decode cX4_delete 91 = .ok (.invokevirtual 134, 3) := by decide +kernel
theorem dX4_delete_94 : decode cX4_delete 94 = .ok (.ifCond .eq 7, 3) := by decide +kernel
theorem dX4_delete_97 : decode cX4_delete 97 = .ok (.iconst 1, 1) := by decide +kernel
theorem dX4_delete_98 : decode cX4_delete 98 = .ok (.goto 4, 3) := by decide +kernel
theorem dX4_delete_101 : decode cX4_delete 101 = .ok (.iconst 0, 1) := by decide +kernel
theorem dX4_delete_102 : decode cX4_delete 102 = .ok (.invokevirtual 118, 3) := by decide +kernel
theorem dX4_delete_105 : decode cX4_delete 105 = .ok (.ifCond .ne 5, 3) := by decide +kernel
theorem dX4_delete_108 : decode cX4_delete 108 = .ok (.iconst 0, 1) := by decide +kernel
theorem dX4_delete_109 : decode cX4_delete 109 = .ok (.ireturn, 1) := by decide +kernel
theorem dX4_delete_110 : decode cX4_delete 110 = .ok (.aload_n 0, 1) := by decide +kernel
theorem dX4_delete_111 : decode cX4_delete 111 = .ok (.invokevirtual 128, 3) := by decide +kernel
theorem dX4_delete_114 : decode cX4_delete 114 = .ok (.aload_n 0, 1) := by decide +kernel
theorem dX4_delete_115 : decode cX4_delete 115 = .ok (.getfield 20, 3) := by decide +kernel
theorem dX4_delete_118 : decode cX4_delete 118 = .ok (.iconst 5, 1) := by decide +kernel
theorem dX4_delete_119 : decode cX4_delete 119 = .ok (.aload_n 0, 1) := by decide +kernel
theorem dX4_delete_120 : decode cX4_delete 120 = .ok (.getfield 46, 3) := by decide +kernel
theorem dX4_delete_123 : decode cX4_delete 123 = .ok (.aload_n 0, 1) := by decide +kernel
theorem dX4_delete_124 : decode cX4_delete 124 = .ok (.getfield 91, 3) := by decide +kernel
theorem dX4_delete_127 : decode cX4_delete 127 = .ok (.iaload, 1) := by decide +kernel
theorem dX4_delete_128 : decode cX4_delete 128 = .ok (.imul, 1) := by decide +kernel
theorem dX4_delete_129 : decode cX4_delete 129 = .ok (.iload_n 3, 1) := by decide +kernel
theorem dX4_delete_130 : decode cX4_delete 130 = .ok (.iadd, 1) := by decide +kernel
theorem dX4_delete_131 : decode cX4_delete 131 = .ok (.iaload, 1) := by decide +kernel
theorem dX4_delete_132 : decode cX4_delete 132 = .ok (.istore 4, 2) := by decide +kernel
theorem dX4_delete_134 : decode cX4_delete 134 = .ok (.aload_n 0, 1) := by decide +kernel
theorem dX4_delete_135 : decode cX4_delete 135 = .ok (.aload_n 0, 1) := by decide +kernel
theorem dX4_delete_136 : decode cX4_delete 136 = .ok (.getfield 46, 3) := by decide +kernel
theorem dX4_delete_139 : decode cX4_delete 139 = .ok (.aload_n 0, 1) := by decide +kernel
theorem dX4_delete_140 : decode cX4_delete 140 = .ok (.getfield 91, 3) := by decide +kernel
theorem dX4_delete_143 : decode cX4_delete 143 = .ok (.iaload, 1) := by decide +kernel
theorem dX4_delete_144 : decode cX4_delete 144 = .ok (.iload_n 3, 1) := by decide +kernel
theorem dX4_delete_145 : decode cX4_delete 145 = .ok (.invokevirtual 112, 3) := by decide +kernel
theorem dX4_delete_148 : decode cX4_delete 148 = .ok (.aload_n 0, 1) := by decide +kernel
theorem dX4_delete_149 : decode cX4_delete 149 = .ok (.invokevirtual 140, 3) := by decide +kernel
theorem dX4_delete_152 : decode cX4_delete 152 = .ok (.iload 4, 2) := by decide +kernel
theorem dX4_delete_154 : decode cX4_delete 154 = .ok (.ireturn, 1) := by decide +kernel
theorem dX4_word_0 : decode cX4_word 0 = .ok (.aload_n 0, 1) := by decide +kernel
theorem dX4_word_1 : decode cX4_word 1 = .ok (.getfield 32, 3) := by decide +kernel
theorem dX4_word_4 : decode cX4_word 4 = .ok (.i2l, 1) := by decide +kernel
theorem dX4_word_5 : decode cX4_word 5 = .ok (.lstore_n 2, 1) := by decide +kernel
theorem dX4_word_6 : decode cX4_word 6 = .ok (.ldc2_w 143, 3) := by decide +kernel
theorem dX4_word_9 : decode cX4_word 9 = .ok (.aload_n 0, 1) := by decide +kernel
theorem dX4_word_10 : decode cX4_word 10 = .ok (.getfield 122, 3) := by decide +kernel
theorem dX4_word_13 : decode cX4_word 13 = .ok (.iconst 1, 1) := by decide +kernel
theorem dX4_word_14 : decode cX4_word 14 = .ok (.iadd, 1) := by decide +kernel
theorem dX4_word_15 : decode cX4_word 15 = .ok (.i2l, 1) := by decide +kernel
theorem dX4_word_16 : decode cX4_word 16 = .ok (.lmul, 1) := by decide +kernel
theorem dX4_word_17 : decode cX4_word 17 = .ok (.ldc2_w 145, 3) := by decide +kernel
theorem dX4_word_20 : decode cX4_word 20 = .ok (.lload_n 2, 1) := by decide +kernel
theorem dX4_word_21 : decode cX4_word 21 = .ok (.lmul, 1) := by decide +kernel
theorem dX4_word_22 : decode cX4_word 22 = .ok (.ladd, 1) := by decide +kernel
theorem dX4_word_23 : decode cX4_word 23 = .ok (.aload_n 0, 1) := by decide +kernel
theorem dX4_word_24 : decode cX4_word 24 = .ok (.aload_n 0, 1) := by decide +kernel
theorem dX4_word_25 : decode cX4_word 25 = .ok (.getfield 32, 3) := by decide +kernel
theorem dX4_word_28 : decode cX4_word 28 = .ok (.invokevirtual 147, 3) := by decide +kernel
theorem dX4_word_31 : decode cX4_word 31 = .ok (.i2l, 1) := by decide +kernel
theorem dX4_word_32 : decode cX4_word 32 = .ok (.ladd, 1) := by decide +kernel
theorem dX4_word_33 : decode cX4_word 33 = .ok (.lstore 4, 2) := by decide +kernel
theorem dX4_word_35 : decode cX4_word 35 = .ok (.iload_n 1, 1) := by decide +kernel
theorem dX4_word_36 : decode cX4_word 36 = .ok (.ifCond .ne 13, 3) := by decide +kernel
theorem dX4_word_39 : decode cX4_word 39 = .ok (.aload_n 0, 1) := by decide +kernel
theorem dX4_word_40 : decode cX4_word 40 = .ok (.getfield 122, 3) := by decide +kernel
theorem dX4_word_43 : decode cX4_word 43 = .ok (.iconst 1, 1) := by decide +kernel
theorem dX4_word_44 : decode cX4_word 44 = .ok (.iadd, 1) := by decide +kernel
theorem dX4_word_45 : decode cX4_word 45 = .ok (.i2l, 1) := by decide +kernel
theorem dX4_word_46 : decode cX4_word 46 = .ok (.goto 31, 3) := by decide +kernel
theorem dX4_word_49 : decode cX4_word 49 = .ok (.iload_n 1, 1) := by decide +kernel
theorem dX4_word_50 : decode cX4_word 50 = .ok (.iconst 1, 1) := by decide +kernel
theorem dX4_word_51 : decode cX4_word 51 = .ok (.if_icmp .ne 7, 3) := by decide +kernel
theorem dX4_word_54 : decode cX4_word 54 = .ok (.lload_n 2, 1) := by decide +kernel
theorem dX4_word_55 : decode cX4_word 55 = .ok (.goto 22, 3) := by decide +kernel
theorem dX4_word_58 : decode cX4_word 58 = .ok (.iload_n 1, 1) := by decide +kernel
theorem dX4_word_59 : decode cX4_word 59 = .ok (.iconst 2, 1) := by decide +kernel
theorem dX4_word_60 : decode cX4_word 60 = .ok (.if_icmp .ne 15, 3) := by decide +kernel
theorem dX4_word_63 : decode cX4_word 63 = .ok (.aload_n 0, 1) := by decide +kernel
theorem dX4_word_64 : decode cX4_word 64 = .ok (.aload_n 0, 1) := by decide +kernel
theorem dX4_word_65 : decode cX4_word 65 = .ok (.getfield 32, 3) := by decide +kernel
theorem dX4_word_68 : decode cX4_word 68 = .ok (.invokevirtual 147, 3) := by decide +kernel
theorem dX4_word_71 : decode cX4_word 71 = .ok (.i2l, 1) := by decide +kernel
theorem dX4_word_72 : decode cX4_word 72 = .ok (.goto 5, 3) := by decide +kernel
theorem dX4_word_75 : decode cX4_word 75 = .ok (.lload 4, 2) := by decide +kernel
theorem dX4_word_77 : decode cX4_word 77 = .ok (.lreturn, 1) := by decide +kernel
theorem dX4_writes_0 : decode cX4_writes 0 = .ok (.iconst 0, 1) := by decide +kernel
theorem dX4_writes_1 : decode cX4_writes 1 = .ok (.istore_n 2, 1) := by decide +kernel
theorem dX4_writes_2 : decode cX4_writes 2 = .ok (.iload_n 2, 1) := by decide +kernel
theorem dX4_writes_3 : decode cX4_writes 3 = .ok (.iload_n 1, 1) := by decide +kernel
theorem dX4_writes_4 : decode cX4_writes 4 = .ok (.if_icmp .ge 29, 3) := by decide +kernel
theorem dX4_writes_7 : decode cX4_writes 7 = .ok (.aload_n 0, 1) := by decide +kernel
theorem dX4_writes_8 : decode cX4_writes 8 = .ok (.getfield 36, 3) := by decide +kernel
theorem dX4_writes_11 : decode cX4_writes 11 = .ok (.iconst 4, 1) := by decide +kernel
theorem dX4_writes_12 : decode cX4_writes 12 = .ok (.iconst 1, 1) := by decide +kernel
theorem dX4_writes_13 : decode cX4_writes 13 = .ok (.aload_n 0, 1) := by decide +kernel
theorem dX4_writes_14 : decode cX4_writes 14 = .ok (.getfield 150, 3) := by decide +kernel
theorem dX4_writes_17 : decode cX4_writes 17 = .ok (.isub, 1) := by decide +kernel
theorem dX4_writes_18 : decode cX4_writes 18 = .ok (.imul, 1) := by decide +kernel
theorem dX4_writes_19 : decode cX4_writes 19 = .ok (.iload_n 2, 1) := by decide +kernel
theorem dX4_writes_20 : decode cX4_writes 20 = .ok (.iadd, 1) := by decide +kernel
theorem dX4_writes_21 : decode cX4_writes 21 = .ok (.aload_n 0, 1) := by decide +kernel
theorem dX4_writes_22 : decode cX4_writes 22 = .ok (.iload_n 2, 1) := by decide +kernel
theorem dX4_writes_23 : decode cX4_writes 23 = .ok (.invokevirtual 153, 3) := by decide +kernel
theorem dX4_writes_26 : decode cX4_writes 26 = .ok (.lastore, 1) := by decide +kernel
theorem dX4_writes_27 : decode cX4_writes 27 = .ok (.iinc 2 1, 3) := by decide +kernel
theorem dX4_writes_30 : decode cX4_writes 30 = .ok (.goto (-28), 3) := by decide +kernel
theorem dX4_writes_33 : decode cX4_writes 33 = .ok (.return_, 1) := by decide +kernel
theorem dX4_reads_0 : decode cX4_reads 0 = .ok (.aload_n 0, 1) := by decide +kernel
theorem dX4_reads_1 : decode cX4_reads 1 = .ok (.iload_n 1, 1) := by decide +kernel
theorem dX4_reads_2 : decode cX4_reads 2 = .ok (.putfield 150, 3) := by decide +kernel
theorem dX4_reads_5 : decode cX4_reads 5 = .ok (.aload_n 0, 1) := by decide +kernel
theorem dX4_reads_6 : decode cX4_reads 6 = .ok (.aload_n 0, 1) := by decide +kernel
theorem dX4_reads_7 : decode cX4_reads 7 = .ok (.getfield 36, 3) := by decide +kernel
theorem dX4_reads_10 : decode cX4_reads 10 = .ok (.iconst 4, 1) := by decide +kernel
theorem dX4_reads_11 : decode cX4_reads 11 = .ok (.iload_n 1, 1) := by decide +kernel
theorem dX4_reads_12 : decode cX4_reads 12 = .ok (.imul, 1) := by decide +kernel
theorem dX4_reads_13 : decode cX4_reads 13 = .ok (.laload, 1) := by decide +kernel
theorem dX4_reads_14 : decode cX4_reads 14 = .ok (.l2i, 1) := by decide +kernel
theorem dX4_reads_15 : decode cX4_reads 15 = .ok (.putfield 122, 3) := by decide +kernel
theorem dX4_reads_18 : decode cX4_reads 18 = .ok (.aload_n 0, 1) := by decide +kernel
theorem dX4_reads_19 : decode cX4_reads 19 = .ok (.aload_n 0, 1) := by decide +kernel
theorem dX4_reads_20 : decode cX4_reads 20 = .ok (.getfield 36, 3) := by decide +kernel
theorem dX4_reads_23 : decode cX4_reads 23 = .ok (.iconst 4, 1) := by decide +kernel
theorem dX4_reads_24 : decode cX4_reads 24 = .ok (.iload_n 1, 1) := by decide +kernel
theorem dX4_reads_25 : decode cX4_reads 25 = .ok (.imul, 1) := by decide +kernel
theorem dX4_reads_26 : decode cX4_reads 26 = .ok (.iconst 1, 1) := by decide +kernel
theorem dX4_reads_27 : decode cX4_reads 27 = .ok (.iadd, 1) := by decide +kernel
theorem dX4_reads_28 : decode cX4_reads 28 = .ok (.laload, 1) := by decide +kernel
theorem dX4_reads_29 : decode cX4_reads 29 = .ok (.l2i, 1) := by decide +kernel
theorem dX4_reads_30 : decode cX4_reads 30 = .ok (.putfield 61, 3) := by decide +kernel
theorem dX4_reads_33 : decode cX4_reads 33 = .ok (.aload_n 0, 1) := by decide +kernel
theorem dX4_reads_34 : decode cX4_reads 34 = .ok (.getfield 122, 3) := by decide +kernel
theorem dX4_reads_37 : decode cX4_reads 37 = .ok (.ireturn, 1) := by decide +kernel
theorem dX4_commit_0 : decode cX4_commit 0 = .ok (.aload_n 0, 1) := by decide +kernel
theorem dX4_commit_1 : decode cX4_commit 1 = .ok (.aload_n 0, 1) := by decide +kernel
theorem dX4_commit_2 : decode cX4_commit 2 = .ok (.getfield 32, 3) := by decide +kernel
theorem dX4_commit_5 : decode cX4_commit 5 = .ok (.iconst (-1), 1) := by decide +kernel
theorem dX4_commit_6 : decode cX4_commit 6 = .ok (.if_icmp .eq 7, 3) := by decide +kernel
theorem dX4_commit_9 : decode cX4_commit 9 = .ok (.iconst 1, 1) := by decide +kernel
theorem dX4_commit_10 : decode cX4_commit 10 = .ok (.goto 4, 3) := by decide +kernel
theorem dX4_commit_13 : decode cX4_commit 13 = .ok (.iconst 0, 1) := by decide +kernel
theorem dX4_commit_14 : decode cX4_commit 14 = .ok (.iconst 1, 1) := by decide +kernel
theorem dX4_commit_15 : decode cX4_commit 15 = .ok (.iconst 1, 1) := by decide +kernel
theorem dX4_commit_16 : decode cX4_commit 16 = .ok (.invokevirtual 118, 3) := by decide +kernel
theorem dX4_commit_19 : decode cX4_commit 19 = .ok (.ifCond .ne 5, 3) := by decide +kernel
theorem dX4_commit_22 : decode cX4_commit 22 = .ok (.iconst 0, 1) := by decide +kernel
theorem dX4_commit_23 : decode cX4_commit 23 = .ok (.ireturn, 1) := by decide +kernel
theorem dX4_commit_24 : decode cX4_commit 24 = .ok (.aload_n 0, 1) := by decide +kernel
theorem dX4_commit_25 : decode cX4_commit 25 = .ok (.iconst 4, 1) := by decide +kernel
theorem dX4_commit_26 : decode cX4_commit 26 = .ok (.invokevirtual 157, 3) := by decide +kernel
theorem dX4_commit_29 : decode cX4_commit 29 = .ok (.aload_n 0, 1) := by decide +kernel
theorem dX4_commit_30 : decode cX4_commit 30 = .ok (.iconst (-1), 1) := by decide +kernel
theorem dX4_commit_31 : decode cX4_commit 31 = .ok (.putfield 32, 3) := by decide +kernel
theorem dX4_commit_34 : decode cX4_commit 34 = .ok (.aload_n 0, 1) := by decide +kernel
theorem dX4_commit_35 : decode cX4_commit 35 = .ok (.iconst 1, 1) := by decide +kernel
theorem dX4_commit_36 : decode cX4_commit 36 = .ok (.aload_n 0, 1) := by decide +kernel
theorem dX4_commit_37 : decode cX4_commit 37 = .ok (.getfield 150, 3) := by decide +kernel
theorem dX4_commit_40 : decode cX4_commit 40 = .ok (.isub, 1) := by decide +kernel
theorem dX4_commit_41 : decode cX4_commit 41 = .ok (.invokevirtual 160, 3) := by decide +kernel
theorem dX4_commit_44 : decode cX4_commit 44 = .ok (.ireturn, 1) := by decide +kernel
theorem dX4_abandon_0 : decode cX4_abandon 0 = .ok (.aload_n 0, 1) := by decide +kernel
theorem dX4_abandon_1 : decode cX4_abandon 1 = .ok (.aload_n 0, 1) := by decide +kernel
theorem dX4_abandon_2 : decode cX4_abandon 2 = .ok (.getfield 32, 3) := by decide +kernel
theorem dX4_abandon_5 : decode cX4_abandon 5 = .ok (.iconst (-1), 1) := by decide +kernel
theorem dX4_abandon_6 : decode cX4_abandon 6 = .ok (.if_icmp .eq 7, 3) := by decide +kernel
theorem dX4_abandon_9 : decode cX4_abandon 9 = .ok (.iconst 1, 1) := by decide +kernel
theorem dX4_abandon_10 : decode cX4_abandon 10 = .ok (.goto 4, 3) := by decide +kernel
theorem dX4_abandon_13 : decode cX4_abandon 13 = .ok (.iconst 0, 1) := by decide +kernel
theorem dX4_abandon_14 : decode cX4_abandon 14 = .ok (.iconst 1, 1) := by decide +kernel
theorem dX4_abandon_15 : decode cX4_abandon 15 = .ok (.iconst 1, 1) := by decide +kernel
theorem dX4_abandon_16 : decode cX4_abandon 16 = .ok (.invokevirtual 118, 3) := by decide +kernel
theorem dX4_abandon_19 : decode cX4_abandon 19 = .ok (.ifCond .ne 5, 3) := by decide +kernel
theorem dX4_abandon_22 : decode cX4_abandon 22 = .ok (.iconst 0, 1) := by decide +kernel
theorem dX4_abandon_23 : decode cX4_abandon 23 = .ok (.ireturn, 1) := by decide +kernel
theorem dX4_abandon_24 : decode cX4_abandon 24 = .ok (.aload_n 0, 1) := by decide +kernel
theorem dX4_abandon_25 : decode cX4_abandon 25 = .ok (.iconst (-1), 1) := by decide +kernel
theorem dX4_abandon_26 : decode cX4_abandon 26 = .ok (.invokevirtual 72, 3) := by decide +kernel
theorem dX4_abandon_29 : decode cX4_abandon 29 = .ok (.istore_n 1, 1) := by decide +kernel
theorem dX4_abandon_30 : decode cX4_abandon 30 = .ok (.aload_n 0, 1) := by decide +kernel
theorem dX4_abandon_31 : decode cX4_abandon 31 = .ok (.iconst (-1), 1) := by decide +kernel
theorem dX4_abandon_32 : decode cX4_abandon 32 = .ok (.putfield 32, 3) := by decide +kernel
theorem dX4_abandon_35 : decode cX4_abandon 35 = .ok (.iload_n 1, 1) := by decide +kernel
theorem dX4_abandon_36 : decode cX4_abandon 36 = .ok (.aload_n 0, 1) := by decide +kernel
theorem dX4_abandon_37 : decode cX4_abandon 37 = .ok (.iconst (-1), 1) := by decide +kernel
theorem dX4_abandon_38 : decode cX4_abandon 38 = .ok (.invokevirtual 72, 3) := by decide +kernel
theorem dX4_abandon_41 : decode cX4_abandon 41 = .ok (.isub, 1) := by decide +kernel
theorem dX4_abandon_42 : decode cX4_abandon 42 = .ok (.ireturn, 1) := by decide +kernel
theorem dX4_isReader_0 : decode cX4_isReader 0 = .ok (.iload_n 1, 1) := by decide +kernel
theorem dX4_isReader_1 : decode cX4_isReader 1 = .ok (.iconst 0, 1) := by decide +kernel
theorem dX4_isReader_2 : decode cX4_isReader 2 = .ok (.iconst 3, 1) := by decide +kernel
theorem dX4_isReader_3 : decode cX4_isReader 3 = .ok (.invokestatic 76, 3) := by decide +kernel
theorem dX4_isReader_6 : decode cX4_isReader 6 = .ok (.ifCond .eq 17, 3) := by decide +kernel
theorem dX4_isReader_9 : decode cX4_isReader 9 = .ok (.aload_n 0, 1) := by decide +kernel
theorem dX4_isReader_10 : decode cX4_isReader 10 = .ok (.getfield 40, 3) := by decide +kernel
theorem dX4_isReader_13 : decode cX4_isReader 13 = .ok (.iload_n 1, 1) := by decide +kernel
theorem dX4_isReader_14 : decode cX4_isReader 14 = .ok (.iaload, 1) := by decide +kernel
theorem dX4_isReader_15 : decode cX4_isReader 15 = .ok (.iconst (-1), 1) := by decide +kernel
theorem dX4_isReader_16 : decode cX4_isReader 16 = .ok (.if_icmp .eq 7, 3) := by decide +kernel
theorem dX4_isReader_19 : decode cX4_isReader 19 = .ok (.iconst 1, 1) := by decide +kernel
theorem dX4_isReader_20 : decode cX4_isReader 20 = .ok (.goto 4, 3) := by decide +kernel
theorem dX4_isReader_23 : decode cX4_isReader 23 = .ok (.iconst 0, 1) := by decide +kernel
theorem dX4_isReader_24 : decode cX4_isReader 24 = .ok (.ireturn, 1) := by decide +kernel
theorem dX4_openReader_0 : decode cX4_openReader 0 = .ok (.iconst 0, 1) := by decide +kernel
theorem dX4_openReader_1 : decode cX4_openReader 1 = .ok (.istore_n 1, 1) := by decide +kernel
theorem dX4_openReader_2 : decode cX4_openReader 2 = .ok (.iload_n 1, 1) := by decide +kernel
theorem dX4_openReader_3 : decode cX4_openReader 3 = .ok (.iconst 4, 1) := by decide +kernel
theorem dX4_openReader_4 : decode cX4_openReader 4 = .ok (.if_icmp .ge 19, 3) := by decide +kernel
theorem dX4_openReader_7 : decode cX4_openReader 7 = .ok (.aload_n 0, 1) := by decide +kernel
theorem dX4_openReader_8 : decode cX4_openReader 8 = .ok (.getfield 40, 3) := by decide +kernel
theorem dX4_openReader_11 : decode cX4_openReader 11 = .ok (.iload_n 1, 1) := by decide +kernel
theorem dX4_openReader_12 : decode cX4_openReader 12 = .ok (.iaload, 1) := by decide +kernel
theorem dX4_openReader_13 : decode cX4_openReader 13 = .ok (.iconst (-1), 1) := by decide +kernel
theorem dX4_openReader_14 : decode cX4_openReader 14 = .ok (.if_icmp .eq 9, 3) := by decide +kernel
theorem dX4_openReader_17 : decode cX4_openReader 17 = .ok (.iinc 1 1, 3) := by decide +kernel
theorem dX4_openReader_20 : decode cX4_openReader 20 = .ok (.goto (-18), 3) := by decide +kernel
theorem dX4_openReader_23 : decode cX4_openReader 23 = .ok (.aload_n 0, 1) := by decide +kernel
theorem dX4_openReader_24 : decode cX4_openReader 24 = .ok (.iload_n 1, 1) := by decide +kernel
theorem dX4_openReader_25 : decode cX4_openReader 25 = .ok (.iconst 4, 1) := by decide +kernel
theorem dX4_openReader_26 : decode cX4_openReader 26 = .ok (.if_icmp .ge 7, 3) := by decide +kernel
theorem dX4_openReader_29 : decode cX4_openReader 29 = .ok (.iconst 1, 1) := by decide +kernel
theorem dX4_openReader_30 : decode cX4_openReader 30 = .ok (.goto 4, 3) := by decide +kernel
theorem dX4_openReader_33 : decode cX4_openReader 33 = .ok (.iconst 0, 1) := by decide +kernel
theorem dX4_openReader_34 : decode cX4_openReader 34 = .ok (.iconst 1, 1) := by decide +kernel
theorem dX4_openReader_35 : decode cX4_openReader 35 = .ok (.iconst 1, 1) := by decide +kernel
theorem dX4_openReader_36 : decode cX4_openReader 36 = .ok (.invokevirtual 118, 3) := by decide +kernel
theorem dX4_openReader_39 : decode cX4_openReader 39 = .ok (.ifCond .ne 5, 3) := by decide +kernel
theorem dX4_openReader_42 : decode cX4_openReader 42 = .ok (.iconst 0, 1) := by decide +kernel
theorem dX4_openReader_43 : decode cX4_openReader 43 = .ok (.ireturn, 1) := by decide +kernel
theorem dX4_openReader_44 : decode cX4_openReader 44 = .ok (.aload_n 0, 1) := by decide +kernel
theorem dX4_openReader_45 : decode cX4_openReader 45 = .ok (.getfield 40, 3) := by decide +kernel
theorem dX4_openReader_48 : decode cX4_openReader 48 = .ok (.iload_n 1, 1) := by decide +kernel
theorem dX4_openReader_49 : decode cX4_openReader 49 = .ok (.aload_n 0, 1) := by decide +kernel
theorem dX4_openReader_50 : decode cX4_openReader 50 = .ok (.getfield 61, 3) := by decide +kernel
theorem dX4_openReader_53 : decode cX4_openReader 53 = .ok (.iastore, 1) := by decide +kernel
theorem dX4_openReader_54 : decode cX4_openReader 54 = .ok (.aload_n 0, 1) := by decide +kernel
theorem dX4_openReader_55 : decode cX4_openReader 55 = .ok (.getfield 43, 3) := by decide +kernel
theorem dX4_openReader_58 : decode cX4_openReader 58 = .ok (.iload_n 1, 1) := by decide +kernel
theorem dX4_openReader_59 : decode cX4_openReader 59 = .ok (.aload_n 0, 1) := by decide +kernel
theorem dX4_openReader_60 : decode cX4_openReader 60 = .ok (.getfield 122, 3) := by decide +kernel
theorem dX4_openReader_63 : decode cX4_openReader 63 = .ok (.iastore, 1) := by decide +kernel
theorem dX4_openReader_64 : decode cX4_openReader 64 = .ok (.iload_n 1, 1) := by decide +kernel
theorem dX4_openReader_65 : decode cX4_openReader 65 = .ok (.ireturn, 1) := by decide +kernel
theorem dX4_held_0 : decode cX4_held 0 = .ok (.aload_n 0, 1) := by decide +kernel
theorem dX4_held_1 : decode cX4_held 1 = .ok (.iconst (-1), 1) := by decide +kernel
theorem dX4_held_2 : decode cX4_held 2 = .ok (.invokevirtual 72, 3) := by decide +kernel
theorem dX4_held_5 : decode cX4_held 5 = .ok (.istore_n 2, 1) := by decide +kernel
theorem dX4_held_6 : decode cX4_held 6 = .ok (.iload_n 2, 1) := by decide +kernel
theorem dX4_held_7 : decode cX4_held 7 = .ok (.aload_n 0, 1) := by decide +kernel
theorem dX4_held_8 : decode cX4_held 8 = .ok (.iload_n 1, 1) := by decide +kernel
theorem dX4_held_9 : decode cX4_held 9 = .ok (.invokevirtual 72, 3) := by decide +kernel
theorem dX4_held_12 : decode cX4_held 12 = .ok (.isub, 1) := by decide +kernel
theorem dX4_held_13 : decode cX4_held 13 = .ok (.ireturn, 1) := by decide +kernel
theorem dX4_closeReader_0 : decode cX4_closeReader 0 = .ok (.aload_n 0, 1) := by decide +kernel
theorem dX4_closeReader_1 : decode cX4_closeReader 1 = .ok (.aload_n 0, 1) := by decide +kernel
theorem dX4_closeReader_2 : decode cX4_closeReader 2 = .ok (.iload_n 1, 1) := by decide +kernel
theorem dX4_closeReader_3 : decode cX4_closeReader 3 = .ok (.invokevirtual 163, 3) := by decide +kernel
theorem dX4_closeReader_6 : decode cX4_closeReader 6 = .ok (.iconst 1, 1) := by decide +kernel
theorem dX4_closeReader_7 : decode cX4_closeReader 7 = .ok (.iconst 1, 1) := by decide +kernel
theorem dX4_closeReader_8 : decode cX4_closeReader 8 = .ok (.invokevirtual 118, 3) := by decide +kernel
theorem dX4_closeReader_11 : decode cX4_closeReader 11 = .ok (.ifCond .ne 5, 3) := by decide +kernel
theorem dX4_closeReader_14 : decode cX4_closeReader 14 = .ok (.iconst 0, 1) := by decide +kernel
theorem dX4_closeReader_15 : decode cX4_closeReader 15 = .ok (.ireturn, 1) := by decide +kernel
theorem dX4_closeReader_16 : decode cX4_closeReader 16 = .ok (.aload_n 0, 1) := by decide +kernel
theorem dX4_closeReader_17 : decode cX4_closeReader 17 = .ok (.iload_n 1, 1) := by decide +kernel
theorem dX4_closeReader_18 : decode cX4_closeReader 18 = .ok (.invokevirtual 166, 3) := by decide +kernel
theorem dX4_closeReader_21 : decode cX4_closeReader 21 = .ok (.istore_n 2, 1) := by decide +kernel
theorem dX4_closeReader_22 : decode cX4_closeReader 22 = .ok (.aload_n 0, 1) := by decide +kernel
theorem dX4_closeReader_23 : decode cX4_closeReader 23 = .ok (.getfield 40, 3) := by decide +kernel
theorem dX4_closeReader_26 : decode cX4_closeReader 26 = .ok (.iload_n 1, 1) := by decide +kernel
theorem dX4_closeReader_27 : decode cX4_closeReader 27 = .ok (.iconst (-1), 1) := by decide +kernel
theorem dX4_closeReader_28 : decode cX4_closeReader 28 = .ok (.iastore, 1) := by decide +kernel
theorem dX4_closeReader_29 : decode cX4_closeReader 29 = .ok (.iload_n 2, 1) := by decide +kernel
theorem dX4_closeReader_30 : decode cX4_closeReader 30 = .ok (.ireturn, 1) := by decide +kernel
theorem dX4_readers_0 : decode cX4_readers 0 = .ok (.aload_n 0, 1) := by decide +kernel
theorem dX4_readers_1 : decode cX4_readers 1 = .ok (.iconst 0, 1) := by decide +kernel
theorem dX4_readers_2 : decode cX4_readers 2 = .ok (.putfield 55, 3) := by decide +kernel
theorem dX4_readers_5 : decode cX4_readers 5 = .ok (.iconst 0, 1) := by decide +kernel
theorem dX4_readers_6 : decode cX4_readers 6 = .ok (.istore_n 1, 1) := by decide +kernel
theorem dX4_readers_7 : decode cX4_readers 7 = .ok (.iconst 0, 1) := by decide +kernel
theorem dX4_readers_8 : decode cX4_readers 8 = .ok (.istore_n 2, 1) := by decide +kernel
theorem dX4_readers_9 : decode cX4_readers 9 = .ok (.iload_n 2, 1) := by decide +kernel
theorem dX4_readers_10 : decode cX4_readers 10 = .ok (.iconst 4, 1) := by decide +kernel
theorem dX4_readers_11 : decode cX4_readers 11 = .ok (.if_icmp .ge 27, 3) := by decide +kernel
theorem dX4_readers_14 : decode cX4_readers 14 = .ok (.iload_n 1, 1) := by decide +kernel
theorem dX4_readers_15 : decode cX4_readers 15 = .ok (.aload_n 0, 1) := by decide +kernel
theorem dX4_readers_16 : decode cX4_readers 16 = .ok (.getfield 40, 3) := by decide +kernel
theorem dX4_readers_19 : decode cX4_readers 19 = .ok (.iload_n 2, 1) := by decide +kernel
theorem dX4_readers_20 : decode cX4_readers 20 = .ok (.iaload, 1) := by decide +kernel
theorem dX4_readers_21 : decode cX4_readers 21 = .ok (.iconst (-1), 1) := by decide +kernel
theorem dX4_readers_22 : decode cX4_readers 22 = .ok (.if_icmp .ne 7, 3) := by decide +kernel
theorem dX4_readers_25 : decode cX4_readers 25 = .ok (.iconst 0, 1) := by decide +kernel
theorem dX4_readers_26 : decode cX4_readers 26 = .ok (.goto 4, 3) := by decide +kernel
theorem dX4_readers_29 : decode cX4_readers 29 = .ok (.iconst 1, 1) := by decide +kernel
theorem dX4_readers_30 : decode cX4_readers 30 = .ok (.iadd, 1) := by decide +kernel
theorem dX4_readers_31 : decode cX4_readers 31 = .ok (.istore_n 1, 1) := by decide +kernel
theorem dX4_readers_32 : decode cX4_readers 32 = .ok (.iinc 2 1, 3) := by decide +kernel
theorem dX4_readers_35 : decode cX4_readers 35 = .ok (.goto (-26), 3) := by decide +kernel
theorem dX4_readers_38 : decode cX4_readers 38 = .ok (.iload_n 1, 1) := by decide +kernel
theorem dX4_readers_39 : decode cX4_readers 39 = .ok (.ireturn, 1) := by decide +kernel
theorem dX4_heldBy_0 : decode cX4_heldBy 0 = .ok (.aload_n 0, 1) := by decide +kernel
theorem dX4_heldBy_1 : decode cX4_heldBy 1 = .ok (.aload_n 0, 1) := by decide +kernel
theorem dX4_heldBy_2 : decode cX4_heldBy 2 = .ok (.iload_n 1, 1) := by decide +kernel
theorem dX4_heldBy_3 : decode cX4_heldBy 3 = .ok (.invokevirtual 163, 3) := by decide +kernel
theorem dX4_heldBy_6 : decode cX4_heldBy 6 = .ok (.iconst 1, 1) := by decide +kernel
theorem dX4_heldBy_7 : decode cX4_heldBy 7 = .ok (.iconst 1, 1) := by decide +kernel
theorem dX4_heldBy_8 : decode cX4_heldBy 8 = .ok (.invokevirtual 118, 3) := by decide +kernel
theorem dX4_heldBy_11 : decode cX4_heldBy 11 = .ok (.ifCond .eq 11, 3) := by decide +kernel
theorem dX4_heldBy_14 : decode cX4_heldBy 14 = .ok (.aload_n 0, 1) := by decide +kernel
theorem dX4_heldBy_15 : decode cX4_heldBy 15 = .ok (.iload_n 1, 1) := by decide +kernel
theorem dX4_heldBy_16 : decode cX4_heldBy 16 = .ok (.invokevirtual 166, 3) := by decide +kernel
theorem dX4_heldBy_19 : decode cX4_heldBy 19 = .ok (.goto 4, 3) := by decide +kernel
theorem dX4_heldBy_22 : decode cX4_heldBy 22 = .ok (.iconst 0, 1) := by decide +kernel
theorem dX4_heldBy_23 : decode cX4_heldBy 23 = .ok (.ireturn, 1) := by decide +kernel
theorem dX4_isView_0 : decode cX4_isView 0 = .ok (.iload_n 1, 1) := by decide +kernel
theorem dX4_isView_1 : decode cX4_isView 1 = .ok (.iconst (-1), 1) := by decide +kernel
theorem dX4_isView_2 : decode cX4_isView 2 = .ok (.if_icmp .eq 11, 3) := by decide +kernel
theorem dX4_isView_5 : decode cX4_isView 5 = .ok (.aload_n 0, 1) := by decide +kernel
theorem dX4_isView_6 : decode cX4_isView 6 = .ok (.iload_n 1, 1) := by decide +kernel
theorem dX4_isView_7 : decode cX4_isView 7 = .ok (.invokevirtual 163, 3) := by decide +kernel
theorem dX4_isView_10 : decode cX4_isView 10 = .ok (.ifCond .eq 7, 3) := by decide +kernel
theorem dX4_isView_13 : decode cX4_isView 13 = .ok (.iconst 1, 1) := by decide +kernel
theorem dX4_isView_14 : decode cX4_isView 14 = .ok (.goto 4, 3) := by decide +kernel
theorem dX4_isView_17 : decode cX4_isView 17 = .ok (.iconst 0, 1) := by decide +kernel
theorem dX4_isView_18 : decode cX4_isView 18 = .ok (.ireturn, 1) := by decide +kernel
theorem dX4_top_0 : decode cX4_top 0 = .ok (.iload_n 1, 1) := by decide +kernel
theorem dX4_top_1 : decode cX4_top 1 = .ok (.ifCond .lt 12, 3) := by decide +kernel
theorem dX4_top_4 : decode cX4_top 4 = .ok (.aload_n 0, 1) := by decide +kernel
theorem dX4_top_5 : decode cX4_top 5 = .ok (.getfield 40, 3) := by decide +kernel
theorem dX4_top_8 : decode cX4_top 8 = .ok (.iload_n 1, 1) := by decide +kernel
theorem dX4_top_9 : decode cX4_top 9 = .ok (.iaload, 1) := by decide +kernel
theorem dX4_top_10 : decode cX4_top 10 = .ok (.goto 22, 3) := by decide +kernel
theorem dX4_top_13 : decode cX4_top 13 = .ok (.aload_n 0, 1) := by decide +kernel
theorem dX4_top_14 : decode cX4_top 14 = .ok (.getfield 32, 3) := by decide +kernel
theorem dX4_top_17 : decode cX4_top 17 = .ok (.iconst (-1), 1) := by decide +kernel
theorem dX4_top_18 : decode cX4_top 18 = .ok (.if_icmp .eq 10, 3) := by decide +kernel
theorem dX4_top_21 : decode cX4_top 21 = .ok (.aload_n 0, 1) := by decide +kernel
theorem dX4_top_22 : decode cX4_top 22 = .ok (.getfield 32, 3) := by decide +kernel
theorem dX4_top_25 : decode cX4_top 25 = .ok (.goto 7, 3) := by decide +kernel
theorem dX4_top_28 : decode cX4_top 28 = .ok (.aload_n 0, 1) := by decide +kernel
theorem dX4_top_29 : decode cX4_top 29 = .ok (.getfield 61, 3) := by decide +kernel
theorem dX4_top_32 : decode cX4_top 32 = .ok (.ireturn, 1) := by decide +kernel
theorem dX4_below_0 : decode cX4_below 0 = .ok (.iconst 0, 1) := by decide +kernel
theorem dX4_below_1 : decode cX4_below 1 = .ok (.istore_n 3, 1) := by decide +kernel
theorem dX4_below_2 : decode cX4_below 2 = .ok (.iconst 1, 1) := by decide +kernel
theorem dX4_below_3 : decode cX4_below 3 = .ok (.istore 4, 2) := by decide +kernel
theorem dX4_below_5 : decode cX4_below 5 = .ok (.aload_n 0, 1) := by decide +kernel
theorem dX4_below_6 : decode cX4_below 6 = .ok (.getfield 29, 3) := by decide +kernel
theorem dX4_below_9 : decode cX4_below 9 = .ok (.iconst 0, 1) := by decide +kernel
theorem dX4_below_10 : decode cX4_below 10 = .ok (.iload_n 1, 1) := by decide +kernel
theorem dX4_below_11 : decode cX4_below 11 = .ok (.iastore, 1) := by decide +kernel
theorem dX4_below_12 : decode cX4_below 12 = .ok (.iload 4, 2) := by decide +kernel
theorem dX4_below_14 : decode cX4_below 14 = .ok (.ifCond .le 92, 3) := by decide +kernel
theorem dX4_below_17 : decode cX4_below 17 = .ok (.iinc 4 (-1), 3) := by decide +kernel
theorem dX4_below_20 : decode cX4_below 20 = .ok (.aload_n 0, 1) := by decide +kernel
theorem dX4_below_21 : decode cX4_below 21 = .ok (.getfield 29, 3) := by decide +kernel
theorem dX4_below_24 : decode cX4_below 24 = .ok (.iload 4, 2) := by decide +kernel
theorem dX4_below_26 : decode cX4_below 26 = .ok (.iaload, 1) := by decide +kernel
theorem dX4_below_27 : decode cX4_below 27 = .ok (.istore 5, 2) := by decide +kernel
theorem dX4_below_29 : decode cX4_below 29 = .ok (.iconst 0, 1) := by decide +kernel
theorem dX4_below_30 : decode cX4_below 30 = .ok (.istore 6, 2) := by decide +kernel
theorem dX4_below_32 : decode cX4_below 32 = .ok (.iload 6, 2) := by decide +kernel
theorem dX4_below_34 : decode cX4_below 34 = .ok (.aload_n 0, 1) := by decide +kernel
theorem dX4_below_35 : decode cX4_below 35 = .ok (.getfield 7, 3) := by decide +kernel
theorem dX4_below_38 : decode cX4_below 38 = .ok (.iload 5, 2) := by decide +kernel
theorem dX4_below_40 : decode cX4_below 40 = .ok (.iaload, 1) := by decide +kernel
theorem dX4_below_41 : decode cX4_below 41 = .ok (.if_icmp .ge 62, 3) := by decide +kernel
theorem dX4_below_44 : decode cX4_below 44 = .ok (.aload_n 0, 1) := by decide +kernel
theorem dX4_below_45 : decode cX4_below 45 = .ok (.getfield 17, 3) := by decide +kernel
theorem dX4_below_48 : decode cX4_below 48 = .ok (.iconst 5, 1) := by decide +kernel
theorem dX4_below_49 : decode cX4_below 49 = .ok (.iload 5, 2) := by decide +kernel
theorem dX4_below_51 : decode cX4_below 51 = .ok (.imul, 1) := by decide +kernel
theorem dX4_below_52 : decode cX4_below 52 = .ok (.iload 6, 2) := by decide +kernel
theorem dX4_below_54 : decode cX4_below 54 = .ok (.iadd, 1) := by decide +kernel
theorem dX4_below_55 : decode cX4_below 55 = .ok (.iaload, 1) := by decide +kernel
theorem dX4_below_56 : decode cX4_below 56 = .ok (.istore 7, 2) := by decide +kernel
theorem dX4_below_58 : decode cX4_below 58 = .ok (.aload_n 0, 1) := by decide +kernel
theorem dX4_below_59 : decode cX4_below 59 = .ok (.getfield 13, 3) := by decide +kernel
theorem dX4_below_62 : decode cX4_below 62 = .ok (.iload 5, 2) := by decide +kernel
theorem dX4_below_64 : decode cX4_below 64 = .ok (.baload, 1) := by decide +kernel
theorem dX4_below_65 : decode cX4_below 65 = .ok (.ifCond .eq 18, 3) := by decide +kernel
theorem dX4_below_68 : decode cX4_below 68 = .ok (.aload_n 0, 1) := by decide +kernel
theorem dX4_below_69 : decode cX4_below 69 = .ok (.getfield 29, 3) := by decide +kernel
theorem dX4_below_72 : decode cX4_below 72 = .ok (.iload 4, 2) := by decide +kernel
theorem dX4_below_74 : decode cX4_below 74 = .ok (.iload 7, 2) := by decide +kernel
theorem dX4_below_76 : decode cX4_below 76 = .ok (.iastore, 1) := by decide +kernel
theorem dX4_below_77 : decode cX4_below 77 = .ok (.iinc 4 1, 3) := by decide +kernel
theorem dX4_below_80 : decode cX4_below 80 = .ok (.goto 17, 3) := by decide +kernel
theorem dX4_below_83 : decode cX4_below 83 = .ok (.iload_n 3, 1) := by decide +kernel
theorem dX4_below_84 : decode cX4_below 84 = .ok (.iload 7, 2) := by decide +kernel
theorem dX4_below_86 : decode cX4_below 86 = .ok (.iload_n 2, 1) := by decide +kernel
theorem dX4_below_87 : decode cX4_below 87 = .ok (.if_icmp .ge 7, 3) := by decide +kernel
theorem dX4_below_90 : decode cX4_below 90 = .ok (.iconst 1, 1) := by decide +kernel
theorem dX4_below_91 : decode cX4_below 91 = .ok (.goto 4, 3) := by decide +kernel
theorem dX4_below_94 : decode cX4_below 94 = .ok (.iconst 0, 1) := by decide +kernel
theorem dX4_below_95 : decode cX4_below 95 = .ok (.iadd, 1) := by decide +kernel
theorem dX4_below_96 : decode cX4_below 96 = .ok (.istore_n 3, 1) := by decide +kernel
theorem dX4_below_97 : decode cX4_below 97 = .ok (.iinc 6 1, 3) := by decide +kernel
theorem dX4_below_100 : decode cX4_below 100 = .ok (.goto (-68), 3) := by decide +kernel
theorem dX4_below_103 : decode cX4_below 103 = .ok (.goto (-91), 3) := by decide +kernel
theorem dX4_below_106 : decode cX4_below 106 = .ok (.iload_n 3, 1) := by decide +kernel
theorem dX4_below_107 : decode cX4_below 107 = .ok (.ireturn, 1) := by decide +kernel
theorem dX4_keys_0 : decode cX4_keys 0 = .ok (.aload_n 0, 1) := by decide +kernel
theorem dX4_keys_1 : decode cX4_keys 1 = .ok (.iload_n 1, 1) := by decide +kernel
theorem dX4_keys_2 : decode cX4_keys 2 = .ok (.bipush 100, 2) := by decide +kernel
theorem dX4_keys_4 : decode cX4_keys 4 = .ok (.invokevirtual 169, 3) := by decide +kernel
theorem dX4_keys_7 : decode cX4_keys 7 = .ok (.ireturn, 1) := by decide +kernel
theorem dX4_epochOf_0 : decode cX4_epochOf 0 = .ok (.aload_n 0, 1) := by decide +kernel
theorem dX4_epochOf_1 : decode cX4_epochOf 1 = .ok (.aload_n 0, 1) := by decide +kernel
theorem dX4_epochOf_2 : decode cX4_epochOf 2 = .ok (.iload_n 1, 1) := by decide +kernel
theorem dX4_epochOf_3 : decode cX4_epochOf 3 = .ok (.invokevirtual 172, 3) := by decide +kernel
theorem dX4_epochOf_6 : decode cX4_epochOf 6 = .ok (.iconst 1, 1) := by decide +kernel
theorem dX4_epochOf_7 : decode cX4_epochOf 7 = .ok (.iconst 1, 1) := by decide +kernel
theorem dX4_epochOf_8 : decode cX4_epochOf 8 = .ok (.invokevirtual 118, 3) := by decide +kernel
theorem dX4_epochOf_11 : decode cX4_epochOf 11 = .ok (.ifCond .ne 5, 3) := by decide +kernel
theorem dX4_epochOf_14 : decode cX4_epochOf 14 = .ok (.iconst 0, 1) := by decide +kernel
theorem dX4_epochOf_15 : decode cX4_epochOf 15 = .ok (.ireturn, 1) := by decide +kernel
theorem dX4_epochOf_16 : decode cX4_epochOf 16 = .ok (.iload_n 1, 1) := by decide +kernel
theorem dX4_epochOf_17 : decode cX4_epochOf 17 = .ok (.ifCond .lt 12, 3) := by decide +kernel
theorem dX4_epochOf_20 : decode cX4_epochOf 20 = .ok (.aload_n 0, 1) := by decide +kernel
theorem dX4_epochOf_21 : decode cX4_epochOf 21 = .ok (.getfield 43, 3) := by decide +kernel
theorem dX4_epochOf_24 : decode cX4_epochOf 24 = .ok (.iload_n 1, 1) := by decide +kernel
theorem dX4_epochOf_25 : decode cX4_epochOf 25 = .ok (.iaload, 1) := by decide +kernel
theorem dX4_epochOf_26 : decode cX4_epochOf 26 = .ok (.goto 24, 3) := by decide +kernel
theorem dX4_epochOf_29 : decode cX4_epochOf 29 = .ok (.aload_n 0, 1) := by decide +kernel
theorem dX4_epochOf_30 : decode cX4_epochOf 30 = .ok (.getfield 32, 3) := by decide +kernel
theorem dX4_epochOf_33 : decode cX4_epochOf 33 = .ok (.iconst (-1), 1) := by decide +kernel
theorem dX4_epochOf_34 : decode cX4_epochOf 34 = .ok (.if_icmp .eq 12, 3) := by decide +kernel
theorem dX4_epochOf_37 : decode cX4_epochOf 37 = .ok (.aload_n 0, 1) := by decide +kernel
theorem dX4_epochOf_38 : decode cX4_epochOf 38 = .ok (.getfield 122, 3) := by decide +kernel
theorem dX4_epochOf_41 : decode cX4_epochOf 41 = .ok (.iconst 1, 1) := by decide +kernel
theorem dX4_epochOf_42 : decode cX4_epochOf 42 = .ok (.iadd, 1) := by decide +kernel
theorem dX4_epochOf_43 : decode cX4_epochOf 43 = .ok (.goto 7, 3) := by decide +kernel
theorem dX4_epochOf_46 : decode cX4_epochOf 46 = .ok (.aload_n 0, 1) := by decide +kernel
theorem dX4_epochOf_47 : decode cX4_epochOf 47 = .ok (.getfield 122, 3) := by decide +kernel
theorem dX4_epochOf_50 : decode cX4_epochOf 50 = .ok (.ireturn, 1) := by decide +kernel
theorem dX4_get_0 : decode cX4_get 0 = .ok (.aload_n 0, 1) := by decide +kernel
theorem dX4_get_1 : decode cX4_get 1 = .ok (.iload_n 1, 1) := by decide +kernel
theorem dX4_get_2 : decode cX4_get 2 = .ok (.invokevirtual 172, 3) := by decide +kernel
theorem dX4_get_5 : decode cX4_get 5 = .ok (.ifCond .eq 17, 3) := by decide +kernel
theorem dX4_get_8 : decode cX4_get 8 = .ok (.iload_n 2, 1) := by decide +kernel
theorem dX4_get_9 : decode cX4_get 9 = .ok (.iconst 0, 1) := by decide +kernel
theorem dX4_get_10 : decode cX4_get 10 = .ok (.bipush 99, 2) := by decide +kernel
theorem dX4_get_12 : decode cX4_get 12 = .ok (.invokestatic 76, 3) := by decide +kernel
theorem dX4_get_15 : decode cX4_get 15 = .ok (.ifCond .eq 7, 3) := by decide +kernel
theorem dX4_get_18 : decode cX4_get 18 = .ok (.iconst 1, 1) := by decide +kernel
theorem dX4_get_19 : decode cX4_get 19 = .ok (.goto 4, 3) := by decide +kernel
theorem dX4_get_22 : decode cX4_get 22 = .ok (.iconst 0, 1) := by decide +kernel
theorem dX4_get_23 : decode cX4_get 23 = .ok (.istore_n 3, 1) := by decide +kernel
theorem dX4_get_24 : decode cX4_get 24 = .ok (.iconst 0, 1) := by decide +kernel
theorem dX4_get_25 : decode cX4_get 25 = .ok (.istore 4, 2) := by decide +kernel
theorem dX4_get_27 : decode cX4_get 27 = .ok (.iload_n 3, 1) := by decide +kernel
theorem dX4_get_28 : decode cX4_get 28 = .ok (.ifCond .eq 29, 3) := by decide +kernel
theorem dX4_get_31 : decode cX4_get 31 = .ok (.aload_n 0, 1) := by decide +kernel
theorem dX4_get_32 : decode cX4_get 32 = .ok (.aload_n 0, 1) := by decide +kernel
theorem dX4_get_33 : decode cX4_get 33 = .ok (.iload_n 1, 1) := by decide +kernel
theorem dX4_get_34 : decode cX4_get 34 = .ok (.invokevirtual 175, 3) := by decide +kernel
theorem dX4_get_37 : decode cX4_get 37 = .ok (.iload_n 2, 1) := by decide +kernel
theorem dX4_get_38 : decode cX4_get 38 = .ok (.invokevirtual 125, 3) := by decide +kernel
theorem dX4_get_41 : decode cX4_get 41 = .ok (.aload_n 0, 1) := by decide +kernel
theorem dX4_get_42 : decode cX4_get 42 = .ok (.aload_n 0, 1) := by decide +kernel
theorem dX4_get_43 : decode cX4_get 43 = .ok (.getfield 46, 3) := by decide +kernel
theorem dX4_get_46 : decode cX4_get 46 = .ok (.aload_n 0, 1) := by decide +kernel
theorem dX4_get_47 : decode cX4_get 47 = .ok (.getfield 91, 3) := by decide +kernel
theorem dX4_get_50 : decode cX4_get 50 = .ok (.iaload, 1) := by decide +kernel
theorem dX4_get_51 : decode cX4_get 51 = .ok (.iload_n 2, 1) := by decide +kernel
theorem dX4_get_52 : decode cX4_get 52 = .ok (.invokevirtual 131, 3) := by decide +kernel
theorem dX4_get_55 : decode cX4_get 55 = .ok (.istore 4, 2) := by decide +kernel
theorem dX4_get_57 : decode cX4_get 57 = .ok (.aload_n 0, 1) := by decide +kernel
theorem dX4_get_58 : decode cX4_get 58 = .ok (.aload_n 0, 1) := by decide +kernel
theorem dX4_get_59 : decode cX4_get 59 = .ok (.iload_n 1, 1) := by decide +kernel
theorem dX4_get_60 : decode cX4_get 60 = .ok (.invokevirtual 172, 3) := by decide +kernel
theorem dX4_get_63 : decode cX4_get 63 = .ok (.iload_n 2, 1) := by decide +kernel
theorem dX4_get_64 : decode cX4_get 64 = .ok (.iconst 0, 1) := by decide +kernel
theorem dX4_get_65 : decode cX4_get 65 = .ok (.bipush 99, 2) := by decide +kernel
theorem dX4_get_67 : decode cX4_get 67 = .ok (.invokestatic 76, 3) := by decide +kernel
theorem dX4_get_70 : decode cX4_get 70 = .ok (.iload_n 3, 1) := by decide +kernel
theorem dX4_get_71 : decode cX4_get 71 = .ok (.ifCond .eq 26, 3) := by decide +kernel
theorem dX4_get_74 : decode cX4_get 74 = .ok (.aload_n 0, 1) := by decide +kernel
theorem dX4_get_75 : decode cX4_get 75 = .ok (.aload_n 0, 1) := by decide +kernel
theorem dX4_get_76 : decode cX4_get 76 = .ok (.getfield 46, 3) := by decide +kernel
theorem dX4_get_79 : decode cX4_get 79 = .ok (.aload_n 0, 1) := by decide +kernel
theorem dX4_get_80 : decode cX4_get 80 = .ok (.getfield 91, 3) := by decide +kernel
theorem dX4_get_83 : decode cX4_get 83 = .ok (.iaload, 1) := by decide +kernel
theorem dX4_get_84 : decode cX4_get 84 = .ok (.iload 4, 2) := by decide +kernel
theorem dX4_get_86 : decode cX4_get 86 = .ok (.iload_n 2, 1) := by decide +kernel
theorem dX4_get_87 : decode cX4_get 87 = .ok (.invokevirtual 134, 3) := by decide +kernel
theorem dX4_get_90 : decode cX4_get 90 = .ok (.ifCond .eq 7, 3) := by decide +kernel
theorem dX4_get_93 : decode cX4_get 93 = .ok (.iconst 1, 1) := by decide +kernel
theorem dX4_get_94 : decode cX4_get 94 = .ok (.goto 4, 3) := by decide +kernel
theorem dX4_get_97 : decode cX4_get 97 = .ok (.iconst 0, 1) := by decide +kernel
theorem dX4_get_98 : decode cX4_get 98 = .ok (.invokevirtual 118, 3) := by decide +kernel
theorem dX4_get_101 : decode cX4_get 101 = .ok (.istore 5, 2) := by decide +kernel
theorem dX4_get_103 : decode cX4_get 103 = .ok (.iload 5, 2) := by decide +kernel
theorem dX4_get_105 : decode cX4_get 105 = .ok (.ifCond .eq 25, 3) := by decide +kernel
theorem dX4_get_108 : decode cX4_get 108 = .ok (.aload_n 0, 1) := by decide +kernel
theorem dX4_get_109 : decode cX4_get 109 = .ok (.getfield 20, 3) := by decide +kernel
theorem dX4_get_112 : decode cX4_get 112 = .ok (.iconst 5, 1) := by decide +kernel
theorem dX4_get_113 : decode cX4_get 113 = .ok (.aload_n 0, 1) := by decide +kernel
theorem dX4_get_114 : decode cX4_get 114 = .ok (.getfield 46, 3) := by decide +kernel
theorem dX4_get_117 : decode cX4_get 117 = .ok (.aload_n 0, 1) := by decide +kernel
theorem dX4_get_118 : decode cX4_get 118 = .ok (.getfield 91, 3) := by decide +kernel
theorem dX4_get_121 : decode cX4_get 121 = .ok (.iaload, 1) := by decide +kernel
theorem dX4_get_122 : decode cX4_get 122 = .ok (.imul, 1) := by decide +kernel
theorem dX4_get_123 : decode cX4_get 123 = .ok (.iload 4, 2) := by decide +kernel
theorem dX4_get_125 : decode cX4_get 125 = .ok (.iadd, 1) := by decide +kernel
theorem dX4_get_126 : decode cX4_get 126 = .ok (.iaload, 1) := by decide +kernel
theorem dX4_get_127 : decode cX4_get 127 = .ok (.goto 4, 3) := by decide +kernel
theorem dX4_get_130 : decode cX4_get 130 = .ok (.iconst 0, 1) := by decide +kernel
theorem dX4_get_131 : decode cX4_get 131 = .ok (.ireturn, 1) := by decide +kernel
theorem dX4_next_0 : decode cX4_next 0 = .ok (.aload_n 0, 1) := by decide +kernel
theorem dX4_next_1 : decode cX4_next 1 = .ok (.aload_n 0, 1) := by decide +kernel
theorem dX4_next_2 : decode cX4_next 2 = .ok (.iload_n 1, 1) := by decide +kernel
theorem dX4_next_3 : decode cX4_next 3 = .ok (.invokevirtual 172, 3) := by decide +kernel
theorem dX4_next_6 : decode cX4_next 6 = .ok (.iconst 1, 1) := by decide +kernel
theorem dX4_next_7 : decode cX4_next 7 = .ok (.iconst 1, 1) := by decide +kernel
theorem dX4_next_8 : decode cX4_next 8 = .ok (.invokevirtual 118, 3) := by decide +kernel
theorem dX4_next_11 : decode cX4_next 11 = .ok (.ifCond .ne 5, 3) := by decide +kernel
theorem dX4_next_14 : decode cX4_next 14 = .ok (.iconst 0, 1) := by decide +kernel
theorem dX4_next_15 : decode cX4_next 15 = .ok (.ireturn, 1) := by decide +kernel
theorem dX4_next_16 : decode cX4_next 16 = .ok (.iload_n 2, 1) := by decide +kernel
theorem dX4_next_17 : decode cX4_next 17 = .ok (.ifCond .ge 7, 3) := by decide +kernel
theorem dX4_next_20 : decode cX4_next 20 = .ok (.iconst 0, 1) := by decide +kernel
theorem dX4_next_21 : decode cX4_next 21 = .ok (.goto 4, 3) := by decide +kernel
theorem dX4_next_24 : decode cX4_next 24 = .ok (.iload_n 2, 1) := by decide +kernel
theorem dX4_next_25 : decode cX4_next 25 = .ok (.istore_n 3, 1) := by decide +kernel
theorem dX4_next_26 : decode cX4_next 26 = .ok (.iload_n 3, 1) := by decide +kernel
theorem dX4_next_27 : decode cX4_next 27 = .ok (.bipush 100, 2) := by decide +kernel
theorem dX4_next_29 : decode cX4_next 29 = .ok (.if_icmp .ge 52, 3) := by decide +kernel
theorem dX4_next_32 : decode cX4_next 32 = .ok (.aload_n 0, 1) := by decide +kernel
theorem dX4_next_33 : decode cX4_next 33 = .ok (.aload_n 0, 1) := by decide +kernel
theorem dX4_next_34 : decode cX4_next 34 = .ok (.iload_n 1, 1) := by decide +kernel
theorem dX4_next_35 : decode cX4_next 35 = .ok (.invokevirtual 175, 3) := by decide +kernel
theorem dX4_next_38 : decode cX4_next 38 = .ok (.iload_n 3, 1) := by decide +kernel
theorem dX4_next_39 : decode cX4_next 39 = .ok (.invokevirtual 125, 3) := by decide +kernel
theorem dX4_next_42 : decode cX4_next 42 = .ok (.aload_n 0, 1) := by decide +kernel
theorem dX4_next_43 : decode cX4_next 43 = .ok (.aload_n 0, 1) := by decide +kernel
theorem dX4_next_44 : decode cX4_next 44 = .ok (.getfield 46, 3) := by decide +kernel
theorem dX4_next_47 : decode cX4_next 47 = .ok (.aload_n 0, 1) := by decide +kernel
theorem dX4_next_48 : decode cX4_next 48 = .ok (.getfield 91, 3) := by decide +kernel
theorem dX4_next_51 : decode cX4_next 51 = .ok (.iaload, 1) := by decide +kernel
theorem dX4_next_52 : decode cX4_next 52 = .ok (.aload_n 0, 1) := by decide +kernel
theorem dX4_next_53 : decode cX4_next 53 = .ok (.aload_n 0, 1) := by decide +kernel
theorem dX4_next_54 : decode cX4_next 54 = .ok (.getfield 46, 3) := by decide +kernel
theorem dX4_next_57 : decode cX4_next 57 = .ok (.aload_n 0, 1) := by decide +kernel
theorem dX4_next_58 : decode cX4_next 58 = .ok (.getfield 91, 3) := by decide +kernel
theorem dX4_next_61 : decode cX4_next 61 = .ok (.iaload, 1) := by decide +kernel
theorem dX4_next_62 : decode cX4_next 62 = .ok (.iload_n 3, 1) := by decide +kernel
theorem dX4_next_63 : decode cX4_next 63 = .ok (.invokevirtual 131, 3) := by decide +kernel
theorem dX4_next_66 : decode cX4_next 66 = .ok (.iload_n 3, 1) := by decide +kernel
theorem dX4_next_67 : decode cX4_next 67 = .ok (.invokevirtual 134, 3) := by decide +kernel
theorem dX4_next_70 : decode cX4_next 70 = .ok (.ifCond .eq 5, 3) := by decide +kernel
theorem dX4_next_73 : decode cX4_next 73 = .ok (.iload_n 3, 1) := by decide +kernel
theorem dX4_next_74 : decode cX4_next 74 = .ok (.ireturn, 1) := by decide +kernel
theorem dX4_next_75 : decode cX4_next 75 = .ok (.iinc 3 1, 3) := by decide +kernel
theorem dX4_next_78 : decode cX4_next 78 = .ok (.goto (-52), 3) := by decide +kernel
theorem dX4_next_81 : decode cX4_next 81 = .ok (.iconst (-1), 1) := by decide +kernel
theorem dX4_next_82 : decode cX4_next 82 = .ok (.ireturn, 1) := by decide +kernel
theorem dX4_rank_0 : decode cX4_rank 0 = .ok (.aload_n 0, 1) := by decide +kernel
theorem dX4_rank_1 : decode cX4_rank 1 = .ok (.aload_n 0, 1) := by decide +kernel
theorem dX4_rank_2 : decode cX4_rank 2 = .ok (.iload_n 1, 1) := by decide +kernel
theorem dX4_rank_3 : decode cX4_rank 3 = .ok (.invokevirtual 172, 3) := by decide +kernel
theorem dX4_rank_6 : decode cX4_rank 6 = .ok (.iconst 1, 1) := by decide +kernel
theorem dX4_rank_7 : decode cX4_rank 7 = .ok (.iconst 1, 1) := by decide +kernel
theorem dX4_rank_8 : decode cX4_rank 8 = .ok (.invokevirtual 118, 3) := by decide +kernel
theorem dX4_rank_11 : decode cX4_rank 11 = .ok (.ifCond .eq 16, 3) := by decide +kernel
theorem dX4_rank_14 : decode cX4_rank 14 = .ok (.aload_n 0, 1) := by decide +kernel
theorem dX4_rank_15 : decode cX4_rank 15 = .ok (.aload_n 0, 1) := by decide +kernel
theorem dX4_rank_16 : decode cX4_rank 16 = .ok (.iload_n 1, 1) := by decide +kernel
theorem dX4_rank_17 : decode cX4_rank 17 = .ok (.invokevirtual 175, 3) := by decide +kernel
theorem dX4_rank_20 : decode cX4_rank 20 = .ok (.iload_n 2, 1) := by decide +kernel
theorem dX4_rank_21 : decode cX4_rank 21 = .ok (.invokevirtual 169, 3) := by decide +kernel
theorem dX4_rank_24 : decode cX4_rank 24 = .ok (.goto 4, 3) := by decide +kernel
theorem dX4_rank_27 : decode cX4_rank 27 = .ok (.iconst 0, 1) := by decide +kernel
theorem dX4_rank_28 : decode cX4_rank 28 = .ok (.ireturn, 1) := by decide +kernel
theorem dX4_size_0 : decode cX4_size 0 = .ok (.aload_n 0, 1) := by decide +kernel
theorem dX4_size_1 : decode cX4_size 1 = .ok (.aload_n 0, 1) := by decide +kernel
theorem dX4_size_2 : decode cX4_size 2 = .ok (.iload_n 1, 1) := by decide +kernel
theorem dX4_size_3 : decode cX4_size 3 = .ok (.invokevirtual 172, 3) := by decide +kernel
theorem dX4_size_6 : decode cX4_size 6 = .ok (.iconst 1, 1) := by decide +kernel
theorem dX4_size_7 : decode cX4_size 7 = .ok (.iconst 1, 1) := by decide +kernel
theorem dX4_size_8 : decode cX4_size 8 = .ok (.invokevirtual 118, 3) := by decide +kernel
theorem dX4_size_11 : decode cX4_size 11 = .ok (.ifCond .eq 15, 3) := by decide +kernel
theorem dX4_size_14 : decode cX4_size 14 = .ok (.aload_n 0, 1) := by decide +kernel
theorem dX4_size_15 : decode cX4_size 15 = .ok (.aload_n 0, 1) := by decide +kernel
theorem dX4_size_16 : decode cX4_size 16 = .ok (.iload_n 1, 1) := by decide +kernel
theorem dX4_size_17 : decode cX4_size 17 = .ok (.invokevirtual 175, 3) := by decide +kernel
theorem dX4_size_20 : decode cX4_size 20 = .ok (.invokevirtual 147, 3) := by decide +kernel
theorem dX4_size_23 : decode cX4_size 23 = .ok (.goto 4, 3) := by decide +kernel
theorem dX4_size_26 : decode cX4_size 26 = .ok (.iconst 0, 1) := by decide +kernel
theorem dX4_size_27 : decode cX4_size 27 = .ok (.ireturn, 1) := by decide +kernel
theorem dX4_depth_0 : decode cX4_depth 0 = .ok (.aload_n 0, 1) := by decide +kernel
theorem dX4_depth_1 : decode cX4_depth 1 = .ok (.aload_n 0, 1) := by decide +kernel
theorem dX4_depth_2 : decode cX4_depth 2 = .ok (.iload_n 1, 1) := by decide +kernel
theorem dX4_depth_3 : decode cX4_depth 3 = .ok (.invokevirtual 172, 3) := by decide +kernel
theorem dX4_depth_6 : decode cX4_depth 6 = .ok (.iconst 1, 1) := by decide +kernel
theorem dX4_depth_7 : decode cX4_depth 7 = .ok (.iconst 1, 1) := by decide +kernel
theorem dX4_depth_8 : decode cX4_depth 8 = .ok (.invokevirtual 118, 3) := by decide +kernel
theorem dX4_depth_11 : decode cX4_depth 11 = .ok (.ifCond .ne 5, 3) := by decide +kernel
theorem dX4_depth_14 : decode cX4_depth 14 = .ok (.iconst 0, 1) := by decide +kernel
theorem dX4_depth_15 : decode cX4_depth 15 = .ok (.ireturn, 1) := by decide +kernel
theorem dX4_depth_16 : decode cX4_depth 16 = .ok (.aload_n 0, 1) := by decide +kernel
theorem dX4_depth_17 : decode cX4_depth 17 = .ok (.aload_n 0, 1) := by decide +kernel
theorem dX4_depth_18 : decode cX4_depth 18 = .ok (.iload_n 1, 1) := by decide +kernel
theorem dX4_depth_19 : decode cX4_depth 19 = .ok (.invokevirtual 175, 3) := by decide +kernel
theorem dX4_depth_22 : decode cX4_depth 22 = .ok (.iconst 0, 1) := by decide +kernel
theorem dX4_depth_23 : decode cX4_depth 23 = .ok (.invokevirtual 125, 3) := by decide +kernel
theorem dX4_depth_26 : decode cX4_depth 26 = .ok (.aload_n 0, 1) := by decide +kernel
theorem dX4_depth_27 : decode cX4_depth 27 = .ok (.getfield 91, 3) := by decide +kernel
theorem dX4_depth_30 : decode cX4_depth 30 = .ok (.iconst 1, 1) := by decide +kernel
theorem dX4_depth_31 : decode cX4_depth 31 = .ok (.iadd, 1) := by decide +kernel
theorem dX4_depth_32 : decode cX4_depth 32 = .ok (.ireturn, 1) := by decide +kernel
theorem dX4_rootOf_0 : decode cX4_rootOf 0 = .ok (.aload_n 0, 1) := by decide +kernel
theorem dX4_rootOf_1 : decode cX4_rootOf 1 = .ok (.aload_n 0, 1) := by decide +kernel
theorem dX4_rootOf_2 : decode cX4_rootOf 2 = .ok (.iload_n 1, 1) := by decide +kernel
theorem dX4_rootOf_3 : decode cX4_rootOf 3 = .ok (.invokevirtual 172, 3) := by decide +kernel
theorem dX4_rootOf_6 : decode cX4_rootOf 6 = .ok (.iconst 1, 1) := by decide +kernel
theorem dX4_rootOf_7 : decode cX4_rootOf 7 = .ok (.iconst 1, 1) := by decide +kernel
theorem dX4_rootOf_8 : decode cX4_rootOf 8 = .ok (.invokevirtual 118, 3) := by decide +kernel
theorem dX4_rootOf_11 : decode cX4_rootOf 11 = .ok (.ifCond .eq 11, 3) := by decide +kernel
theorem dX4_rootOf_14 : decode cX4_rootOf 14 = .ok (.aload_n 0, 1) := by decide +kernel
theorem dX4_rootOf_15 : decode cX4_rootOf 15 = .ok (.iload_n 1, 1) := by decide +kernel
theorem dX4_rootOf_16 : decode cX4_rootOf 16 = .ok (.invokevirtual 175, 3) := by decide +kernel
theorem dX4_rootOf_19 : decode cX4_rootOf 19 = .ok (.goto 4, 3) := by decide +kernel
theorem dX4_rootOf_22 : decode cX4_rootOf 22 = .ok (.iconst 0, 1) := by decide +kernel
theorem dX4_rootOf_23 : decode cX4_rootOf 23 = .ok (.ireturn, 1) := by decide +kernel
theorem dX4_shared_0 : decode cX4_shared 0 = .ok (.iconst 0, 1) := by decide +kernel
theorem dX4_shared_1 : decode cX4_shared 1 = .ok (.istore_n 2, 1) := by decide +kernel
theorem dX4_shared_2 : decode cX4_shared 2 = .ok (.iconst 1, 1) := by decide +kernel
theorem dX4_shared_3 : decode cX4_shared 3 = .ok (.istore_n 3, 1) := by decide +kernel
theorem dX4_shared_4 : decode cX4_shared 4 = .ok (.aload_n 0, 1) := by decide +kernel
theorem dX4_shared_5 : decode cX4_shared 5 = .ok (.getfield 29, 3) := by decide +kernel
theorem dX4_shared_8 : decode cX4_shared 8 = .ok (.iconst 0, 1) := by decide +kernel
theorem dX4_shared_9 : decode cX4_shared 9 = .ok (.iload_n 1, 1) := by decide +kernel
theorem dX4_shared_10 : decode cX4_shared 10 = .ok (.iastore, 1) := by decide +kernel
theorem dX4_shared_11 : decode cX4_shared 11 = .ok (.iload_n 3, 1) := by decide +kernel
theorem dX4_shared_12 : decode cX4_shared 12 = .ok (.ifCond .le 87, 3) := by decide +kernel
theorem dX4_shared_15 : decode cX4_shared 15 = .ok (.iinc 3 (-1), 3) := by decide +kernel
theorem dX4_shared_18 : decode cX4_shared 18 = .ok (.aload_n 0, 1) := by decide +kernel
theorem dX4_shared_19 : decode cX4_shared 19 = .ok (.getfield 29, 3) := by decide +kernel
theorem dX4_shared_22 : decode cX4_shared 22 = .ok (.iload_n 3, 1) := by decide +kernel
theorem dX4_shared_23 : decode cX4_shared 23 = .ok (.iaload, 1) := by decide +kernel
theorem dX4_shared_24 : decode cX4_shared 24 = .ok (.istore 4, 2) := by decide +kernel
theorem dX4_shared_26 : decode cX4_shared 26 = .ok (.iload_n 2, 1) := by decide +kernel
theorem dX4_shared_27 : decode cX4_shared 27 = .ok (.aload_n 0, 1) := by decide +kernel
theorem dX4_shared_28 : decode cX4_shared 28 = .ok (.getfield 26, 3) := by decide +kernel
theorem dX4_shared_31 : decode cX4_shared 31 = .ok (.iload 4, 2) := by decide +kernel
theorem dX4_shared_33 : decode cX4_shared 33 = .ok (.baload, 1) := by decide +kernel
theorem dX4_shared_34 : decode cX4_shared 34 = .ok (.ifCond .eq 7, 3) := by decide +kernel
theorem dX4_shared_37 : decode cX4_shared 37 = .ok (.iconst 1, 1) := by decide +kernel
theorem dX4_shared_38 : decode cX4_shared 38 = .ok (.goto 4, 3) := by decide +kernel
theorem dX4_shared_41 : decode cX4_shared 41 = .ok (.iconst 0, 1) := by decide +kernel
theorem dX4_shared_42 : decode cX4_shared 42 = .ok (.iadd, 1) := by decide +kernel
theorem dX4_shared_43 : decode cX4_shared 43 = .ok (.istore_n 2, 1) := by decide +kernel
theorem dX4_shared_44 : decode cX4_shared 44 = .ok (.iconst 0, 1) := by decide +kernel
theorem dX4_shared_45 : decode cX4_shared 45 = .ok (.istore 5, 2) := by decide +kernel
theorem dX4_shared_47 : decode cX4_shared 47 = .ok (.iload 5, 2) := by decide +kernel
theorem dX4_shared_49 : decode cX4_shared 49 = .ok (.aload_n 0, 1) := by decide +kernel
theorem dX4_shared_50 : decode cX4_shared 50 = .ok (.getfield 7, 3) := by decide +kernel
theorem dX4_shared_53 : decode cX4_shared 53 = .ok (.iload 4, 2) := by decide +kernel
theorem dX4_shared_55 : decode cX4_shared 55 = .ok (.iaload, 1) := by decide +kernel
theorem dX4_shared_56 : decode cX4_shared 56 = .ok (.if_icmp .ge 40, 3) := by decide +kernel
theorem dX4_shared_59 : decode cX4_shared 59 = .ok (.aload_n 0, 1) := by decide +kernel
theorem dX4_shared_60 : decode cX4_shared 60 = .ok (.getfield 13, 3) := by decide +kernel
theorem dX4_shared_63 : decode cX4_shared 63 = .ok (.iload 4, 2) := by decide +kernel
theorem dX4_shared_65 : decode cX4_shared 65 = .ok (.baload, 1) := by decide +kernel
theorem dX4_shared_66 : decode cX4_shared 66 = .ok (.ifCond .eq 30, 3) := by decide +kernel
theorem dX4_shared_69 : decode cX4_shared 69 = .ok (.aload_n 0, 1) := by decide +kernel
theorem dX4_shared_70 : decode cX4_shared 70 = .ok (.getfield 29, 3) := by decide +kernel
theorem dX4_shared_73 : decode cX4_shared 73 = .ok (.iload_n 3, 1) := by decide +kernel
theorem dX4_shared_74 : decode cX4_shared 74 = .ok (.aload_n 0, 1) := by decide +kernel
theorem dX4_shared_75 : decode cX4_shared 75 = .ok (.getfield 17, 3) := by decide +kernel
theorem dX4_shared_78 : decode cX4_shared 78 = .ok (.iconst 5, 1) := by decide +kernel
theorem dX4_shared_79 : decode cX4_shared 79 = .ok (.iload 4, 2) := by decide +kernel
theorem dX4_shared_81 : decode cX4_shared 81 = .ok (.imul, 1) := by decide +kernel
theorem dX4_shared_82 : decode cX4_shared 82 = .ok (.iload 5, 2) := by decide +kernel
theorem dX4_shared_84 : decode cX4_shared 84 = .ok (.iadd, 1) := by decide +kernel
theorem dX4_shared_85 : decode cX4_shared 85 = .ok (.iaload, 1) := by decide +kernel
theorem dX4_shared_86 : decode cX4_shared 86 = .ok (.iastore, 1) := by decide +kernel
theorem dX4_shared_87 : decode cX4_shared 87 = .ok (.iinc 3 1, 3) := by decide +kernel
theorem dX4_shared_90 : decode cX4_shared 90 = .ok (.iinc 5 1, 3) := by decide +kernel
theorem dX4_shared_93 : decode cX4_shared 93 = .ok (.goto (-46), 3) := by decide +kernel
theorem dX4_shared_96 : decode cX4_shared 96 = .ok (.goto (-85), 3) := by decide +kernel
theorem dX4_shared_99 : decode cX4_shared 99 = .ok (.iload_n 2, 1) := by decide +kernel
theorem dX4_shared_100 : decode cX4_shared 100 = .ok (.ireturn, 1) := by decide +kernel
theorem dX4_sharedPages_0 : decode cX4_sharedPages 0 = .ok (.aload_n 0, 1) := by decide +kernel
theorem dX4_sharedPages_1 : decode cX4_sharedPages 1 = .ok (.aload_n 0, 1) := by decide +kernel
theorem dX4_sharedPages_2 : decode cX4_sharedPages 2 = .ok (.iload_n 1, 1) := by decide +kernel
theorem dX4_sharedPages_3 : decode cX4_sharedPages 3 = .ok (.invokevirtual 172, 3) := by decide +kernel
theorem dX4_sharedPages_6 : decode cX4_sharedPages 6 = .ok (.ifCond .eq 15, 3) := by decide +kernel
theorem dX4_sharedPages_9 : decode cX4_sharedPages 9 = .ok (.aload_n 0, 1) := by decide +kernel
theorem dX4_sharedPages_10 : decode cX4_sharedPages 10 = .ok (.iload_n 2, 1) := by decide +kernel
theorem dX4_sharedPages_11 : decode cX4_sharedPages 11 = .ok (.invokevirtual 172, 3) := by decide +kernel
theorem dX4_sharedPages_14 : decode cX4_sharedPages 14 = .ok (.ifCond .eq 7, 3) := by decide +kernel
theorem dX4_sharedPages_17 : decode cX4_sharedPages 17 = .ok (.iconst 1, 1) := by decide +kernel
theorem dX4_sharedPages_18 : decode cX4_sharedPages 18 = .ok (.goto 4, 3) := by decide +kernel
theorem dX4_sharedPages_21 : decode cX4_sharedPages 21 = .ok (.iconst 0, 1) := by decide +kernel
theorem dX4_sharedPages_22 : decode cX4_sharedPages 22 = .ok (.iconst 1, 1) := by decide +kernel
theorem dX4_sharedPages_23 : decode cX4_sharedPages 23 = .ok (.iconst 1, 1) := by decide +kernel
theorem dX4_sharedPages_24 : decode cX4_sharedPages 24 = .ok (.invokevirtual 118, 3) := by decide +kernel
theorem dX4_sharedPages_27 : decode cX4_sharedPages 27 = .ok (.ifCond .ne 5, 3) := by decide +kernel
theorem dX4_sharedPages_30 : decode cX4_sharedPages 30 = .ok (.iconst 0, 1) := by decide +kernel
theorem dX4_sharedPages_31 : decode cX4_sharedPages 31 = .ok (.ireturn, 1) := by decide +kernel
theorem dX4_sharedPages_32 : decode cX4_sharedPages 32 = .ok (.aload_n 0, 1) := by decide +kernel
theorem dX4_sharedPages_33 : decode cX4_sharedPages 33 = .ok (.invokevirtual 58, 3) := by decide +kernel
theorem dX4_sharedPages_36 : decode cX4_sharedPages 36 = .ok (.aload_n 0, 1) := by decide +kernel
theorem dX4_sharedPages_37 : decode cX4_sharedPages 37 = .ok (.aload_n 0, 1) := by decide +kernel
theorem dX4_sharedPages_38 : decode cX4_sharedPages 38 = .ok (.iload_n 1, 1) := by decide +kernel
theorem dX4_sharedPages_39 : decode cX4_sharedPages 39 = .ok (.invokevirtual 175, 3) := by decide +kernel
theorem dX4_sharedPages_42 : decode cX4_sharedPages 42 = .ok (.invokevirtual 64, 3) := by decide +kernel
theorem dX4_sharedPages_45 : decode cX4_sharedPages 45 = .ok (.aload_n 0, 1) := by decide +kernel
theorem dX4_sharedPages_46 : decode cX4_sharedPages 46 = .ok (.aload_n 0, 1) := by decide +kernel
theorem dX4_sharedPages_47 : decode cX4_sharedPages 47 = .ok (.iload_n 2, 1) := by decide +kernel
theorem dX4_sharedPages_48 : decode cX4_sharedPages 48 = .ok (.invokevirtual 175, 3) := by decide +kernel
theorem dX4_sharedPages_51 : decode cX4_sharedPages 51 = .ok (.invokevirtual 178, 3) := by decide +kernel
theorem dX4_sharedPages_54 : decode cX4_sharedPages 54 = .ok (.ireturn, 1) := by decide +kernel
theorem dX4_isFree_0 : decode cX4_isFree 0 = .ok (.aload_n 0, 1) := by decide +kernel
theorem dX4_isFree_1 : decode cX4_isFree 1 = .ok (.iload_n 1, 1) := by decide +kernel
theorem dX4_isFree_2 : decode cX4_isFree 2 = .ok (.ifCond .lt 7, 3) := by decide +kernel
theorem dX4_isFree_5 : decode cX4_isFree 5 = .ok (.iconst 1, 1) := by decide +kernel
theorem dX4_isFree_6 : decode cX4_isFree 6 = .ok (.goto 4, 3) := by decide +kernel
theorem dX4_isFree_9 : decode cX4_isFree 9 = .ok (.iconst 0, 1) := by decide +kernel
theorem dX4_isFree_10 : decode cX4_isFree 10 = .ok (.iconst 1, 1) := by decide +kernel
theorem dX4_isFree_11 : decode cX4_isFree 11 = .ok (.iconst 1, 1) := by decide +kernel
theorem dX4_isFree_12 : decode cX4_isFree 12 = .ok (.invokevirtual 118, 3) := by decide +kernel
theorem dX4_isFree_15 : decode cX4_isFree 15 = .ok (.ifCond .eq 15, 3) := by decide +kernel
theorem dX4_isFree_18 : decode cX4_isFree 18 = .ok (.aload_n 0, 1) := by decide +kernel
theorem dX4_isFree_19 : decode cX4_isFree 19 = .ok (.iload_n 1, 1) := by decide +kernel
theorem dX4_isFree_20 : decode cX4_isFree 20 = .ok (.invokevirtual 181, 3) := by decide +kernel
theorem dX4_isFree_23 : decode cX4_isFree 23 = .ok (.ifCond .ne 7, 3) := by decide +kernel
theorem dX4_isFree_26 : decode cX4_isFree 26 = .ok (.iconst 1, 1) := by decide +kernel
theorem dX4_isFree_27 : decode cX4_isFree 27 = .ok (.goto 4, 3) := by decide +kernel
theorem dX4_isFree_30 : decode cX4_isFree 30 = .ok (.iconst 0, 1) := by decide +kernel
theorem dX4_isFree_31 : decode cX4_isFree 31 = .ok (.ireturn, 1) := by decide +kernel
theorem dX4_pagesInUse_0 : decode cX4_pagesInUse 0 = .ok (.aload_n 0, 1) := by decide +kernel
theorem dX4_pagesInUse_1 : decode cX4_pagesInUse 1 = .ok (.iconst 0, 1) := by decide +kernel
theorem dX4_pagesInUse_2 : decode cX4_pagesInUse 2 = .ok (.putfield 55, 3) := by decide +kernel
theorem dX4_pagesInUse_5 : decode cX4_pagesInUse 5 = .ok (.aload_n 0, 1) := by decide +kernel
theorem dX4_pagesInUse_6 : decode cX4_pagesInUse 6 = .ok (.iconst (-1), 1) := by decide +kernel
theorem dX4_pagesInUse_7 : decode cX4_pagesInUse 7 = .ok (.invokevirtual 72, 3) := by decide +kernel
theorem dX4_pagesInUse_10 : decode cX4_pagesInUse 10 = .ok (.ireturn, 1) := by decide +kernel
theorem dX4_leastFree_0 : decode cX4_leastFree 0 = .ok (.aload_n 0, 1) := by decide +kernel
theorem dX4_leastFree_1 : decode cX4_leastFree 1 = .ok (.iconst 0, 1) := by decide +kernel
theorem dX4_leastFree_2 : decode cX4_leastFree 2 = .ok (.putfield 55, 3) := by decide +kernel
theorem dX4_leastFree_5 : decode cX4_leastFree 5 = .ok (.aload_n 0, 1) := by decide +kernel
theorem dX4_leastFree_6 : decode cX4_leastFree 6 = .ok (.iconst (-1), 1) := by decide +kernel
theorem dX4_leastFree_7 : decode cX4_leastFree 7 = .ok (.invokevirtual 72, 3) := by decide +kernel
theorem dX4_leastFree_10 : decode cX4_leastFree 10 = .ok (.pop, 1) := by decide +kernel
theorem dX4_leastFree_11 : decode cX4_leastFree 11 = .ok (.aload_n 0, 1) := by decide +kernel
theorem dX4_leastFree_12 : decode cX4_leastFree 12 = .ok (.invokevirtual 80, 3) := by decide +kernel
theorem dX4_leastFree_15 : decode cX4_leastFree 15 = .ok (.ireturn, 1) := by decide +kernel
theorem dX4_entries_0 : decode cX4_entries 0 = .ok (.aload_n 0, 1) := by decide +kernel
theorem dX4_entries_1 : decode cX4_entries 1 = .ok (.aload_n 0, 1) := by decide +kernel
theorem dX4_entries_2 : decode cX4_entries 2 = .ok (.iload_n 1, 1) := by decide +kernel
theorem dX4_entries_3 : decode cX4_entries 3 = .ok (.invokevirtual 181, 3) := by decide +kernel
theorem dX4_entries_6 : decode cX4_entries 6 = .ok (.iconst 1, 1) := by decide +kernel
theorem dX4_entries_7 : decode cX4_entries 7 = .ok (.iconst 1, 1) := by decide +kernel
theorem dX4_entries_8 : decode cX4_entries 8 = .ok (.invokevirtual 118, 3) := by decide +kernel
theorem dX4_entries_11 : decode cX4_entries 11 = .ok (.ifCond .eq 12, 3) := by decide +kernel
theorem dX4_entries_14 : decode cX4_entries 14 = .ok (.aload_n 0, 1) := by decide +kernel
theorem dX4_entries_15 : decode cX4_entries 15 = .ok (.getfield 7, 3) := by decide +kernel
theorem dX4_entries_18 : decode cX4_entries 18 = .ok (.iload_n 1, 1) := by decide +kernel
theorem dX4_entries_19 : decode cX4_entries 19 = .ok (.iaload, 1) := by decide +kernel
theorem dX4_entries_20 : decode cX4_entries 20 = .ok (.goto 4, 3) := by decide +kernel
theorem dX4_entries_23 : decode cX4_entries 23 = .ok (.iconst 0, 1) := by decide +kernel
theorem dX4_entries_24 : decode cX4_entries 24 = .ok (.ireturn, 1) := by decide +kernel
theorem dX4_isEntry_0 : decode cX4_isEntry 0 = .ok (.aload_n 0, 1) := by decide +kernel
theorem dX4_isEntry_1 : decode cX4_isEntry 1 = .ok (.iload_n 1, 1) := by decide +kernel
theorem dX4_isEntry_2 : decode cX4_isEntry 2 = .ok (.invokevirtual 181, 3) := by decide +kernel
theorem dX4_isEntry_5 : decode cX4_isEntry 5 = .ok (.ifCond .eq 23, 3) := by decide +kernel
theorem dX4_isEntry_8 : decode cX4_isEntry 8 = .ok (.iload_n 2, 1) := by decide +kernel
theorem dX4_isEntry_9 : decode cX4_isEntry 9 = .ok (.iconst 0, 1) := by decide +kernel
theorem dX4_isEntry_10 : decode cX4_isEntry 10 = .ok (.aload_n 0, 1) := by decide +kernel
theorem dX4_isEntry_11 : decode cX4_isEntry 11 = .ok (.getfield 7, 3) := by decide +kernel
theorem dX4_isEntry_14 : decode cX4_isEntry 14 = .ok (.iload_n 1, 1) := by decide +kernel
theorem dX4_isEntry_15 : decode cX4_isEntry 15 = .ok (.iaload, 1) := by decide +kernel
theorem dX4_isEntry_16 : decode cX4_isEntry 16 = .ok (.iconst 1, 1) := by decide +kernel
theorem dX4_isEntry_17 : decode cX4_isEntry 17 = .ok (.isub, 1) := by decide +kernel
theorem dX4_isEntry_18 : decode cX4_isEntry 18 = .ok (.invokestatic 76, 3) := by decide +kernel
theorem dX4_isEntry_21 : decode cX4_isEntry 21 = .ok (.ifCond .eq 7, 3) := by decide +kernel
theorem dX4_isEntry_24 : decode cX4_isEntry 24 = .ok (.iconst 1, 1) := by decide +kernel
theorem dX4_isEntry_25 : decode cX4_isEntry 25 = .ok (.goto 4, 3) := by decide +kernel
theorem dX4_isEntry_28 : decode cX4_isEntry 28 = .ok (.iconst 0, 1) := by decide +kernel
theorem dX4_isEntry_29 : decode cX4_isEntry 29 = .ok (.ireturn, 1) := by decide +kernel
theorem dX4_keyAt_0 : decode cX4_keyAt 0 = .ok (.aload_n 0, 1) := by decide +kernel
theorem dX4_keyAt_1 : decode cX4_keyAt 1 = .ok (.aload_n 0, 1) := by decide +kernel
theorem dX4_keyAt_2 : decode cX4_keyAt 2 = .ok (.iload_n 1, 1) := by decide +kernel
theorem dX4_keyAt_3 : decode cX4_keyAt 3 = .ok (.iload_n 2, 1) := by decide +kernel
theorem dX4_keyAt_4 : decode cX4_keyAt 4 = .ok (.invokevirtual 184, 3) := by decide +kernel
theorem dX4_keyAt_7 : decode cX4_keyAt 7 = .ok (.iconst 1, 1) := by decide +kernel
theorem dX4_keyAt_8 : decode cX4_keyAt 8 = .ok (.iconst 1, 1) := by decide +kernel
theorem dX4_keyAt_9 : decode cX4_keyAt 9 = .ok (.invokevirtual 118, 3) := by decide +kernel
theorem dX4_keyAt_12 : decode cX4_keyAt 12 = .ok (.ifCond .eq 12, 3) := by decide +kernel
theorem dX4_keyAt_15 : decode cX4_keyAt 15 = .ok (.aload_n 0, 1) := by decide +kernel
theorem dX4_keyAt_16 : decode cX4_keyAt 16 = .ok (.iload_n 1, 1) := by decide +kernel
theorem dX4_keyAt_17 : decode cX4_keyAt 17 = .ok (.iload_n 2, 1) := by decide +kernel
theorem dX4_keyAt_18 : decode cX4_keyAt 18 = .ok (.invokevirtual 94, 3) := by decide +kernel
theorem dX4_keyAt_21 : decode cX4_keyAt 21 = .ok (.goto 4, 3) := by decide +kernel
theorem dX4_keyAt_24 : decode cX4_keyAt 24 = .ok (.iconst 0, 1) := by decide +kernel
theorem dX4_keyAt_25 : decode cX4_keyAt 25 = .ok (.ireturn, 1) := by decide +kernel
theorem dX4_pageAt_0 : decode cX4_pageAt 0 = .ok (.aload_n 0, 1) := by decide +kernel
theorem dX4_pageAt_1 : decode cX4_pageAt 1 = .ok (.aload_n 0, 1) := by decide +kernel
theorem dX4_pageAt_2 : decode cX4_pageAt 2 = .ok (.iload_n 1, 1) := by decide +kernel
theorem dX4_pageAt_3 : decode cX4_pageAt 3 = .ok (.iload_n 2, 1) := by decide +kernel
theorem dX4_pageAt_4 : decode cX4_pageAt 4 = .ok (.invokevirtual 184, 3) := by decide +kernel
theorem dX4_pageAt_7 : decode cX4_pageAt 7 = .ok (.iconst 1, 1) := by decide +kernel
theorem dX4_pageAt_8 : decode cX4_pageAt 8 = .ok (.iconst 1, 1) := by decide +kernel
theorem dX4_pageAt_9 : decode cX4_pageAt 9 = .ok (.invokevirtual 118, 3) := by decide +kernel
theorem dX4_pageAt_12 : decode cX4_pageAt 12 = .ok (.ifCond .ne 5, 3) := by decide +kernel
theorem dX4_pageAt_15 : decode cX4_pageAt 15 = .ok (.iconst 0, 1) := by decide +kernel
theorem dX4_pageAt_16 : decode cX4_pageAt 16 = .ok (.ireturn, 1) := by decide +kernel
theorem dX4_pageAt_17 : decode cX4_pageAt 17 = .ok (.aload_n 0, 1) := by decide +kernel
theorem dX4_pageAt_18 : decode cX4_pageAt 18 = .ok (.getfield 13, 3) := by decide +kernel
theorem dX4_pageAt_21 : decode cX4_pageAt 21 = .ok (.iload_n 1, 1) := by decide +kernel
theorem dX4_pageAt_22 : decode cX4_pageAt 22 = .ok (.baload, 1) := by decide +kernel
theorem dX4_pageAt_23 : decode cX4_pageAt 23 = .ok (.ifCond .eq 16, 3) := by decide +kernel
theorem dX4_pageAt_26 : decode cX4_pageAt 26 = .ok (.aload_n 0, 1) := by decide +kernel
theorem dX4_pageAt_27 : decode cX4_pageAt 27 = .ok (.getfield 17, 3) := by decide +kernel
theorem dX4_pageAt_30 : decode cX4_pageAt 30 = .ok (.iconst 5, 1) := by decide +kernel
theorem dX4_pageAt_31 : decode cX4_pageAt 31 = .ok (.iload_n 1, 1) := by decide +kernel
theorem dX4_pageAt_32 : decode cX4_pageAt 32 = .ok (.imul, 1) := by decide +kernel
theorem dX4_pageAt_33 : decode cX4_pageAt 33 = .ok (.iload_n 2, 1) := by decide +kernel
theorem dX4_pageAt_34 : decode cX4_pageAt 34 = .ok (.iadd, 1) := by decide +kernel
theorem dX4_pageAt_35 : decode cX4_pageAt 35 = .ok (.iaload, 1) := by decide +kernel
theorem dX4_pageAt_36 : decode cX4_pageAt 36 = .ok (.goto 4, 3) := by decide +kernel
theorem dX4_pageAt_39 : decode cX4_pageAt 39 = .ok (.iconst (-1), 1) := by decide +kernel
theorem dX4_pageAt_40 : decode cX4_pageAt 40 = .ok (.ireturn, 1) := by decide +kernel
theorem dX4_whole_0 : decode cX4_whole 0 = .ok (.iconst 4, 1) := by decide +kernel
theorem dX4_whole_1 : decode cX4_whole 1 = .ok (.iload_n 1, 1) := by decide +kernel
theorem dX4_whole_2 : decode cX4_whole 2 = .ok (.imul, 1) := by decide +kernel
theorem dX4_whole_3 : decode cX4_whole 3 = .ok (.istore_n 2, 1) := by decide +kernel
theorem dX4_whole_4 : decode cX4_whole 4 = .ok (.aload_n 0, 1) := by decide +kernel
theorem dX4_whole_5 : decode cX4_whole 5 = .ok (.getfield 36, 3) := by decide +kernel
theorem dX4_whole_8 : decode cX4_whole 8 = .ok (.iload_n 2, 1) := by decide +kernel
theorem dX4_whole_9 : decode cX4_whole 9 = .ok (.iconst 3, 1) := by decide +kernel
theorem dX4_whole_10 : decode cX4_whole 10 = .ok (.iadd, 1) := by decide +kernel
theorem dX4_whole_11 : decode cX4_whole 11 = .ok (.laload, 1) := by decide +kernel
theorem dX4_whole_12 : decode cX4_whole 12 = .ok (.ldc2_w 143, 3) := by decide +kernel
theorem dX4_whole_15 : decode cX4_whole 15 = .ok (.aload_n 0, 1) := by decide +kernel
theorem dX4_whole_16 : decode cX4_whole 16 = .ok (.getfield 36, 3) := by decide +kernel
theorem dX4_whole_19 : decode cX4_whole 19 = .ok (.iload_n 2, 1) := by decide +kernel
theorem dX4_whole_20 : decode cX4_whole 20 = .ok (.laload, 1) := by decide +kernel
theorem dX4_whole_21 : decode cX4_whole 21 = .ok (.lmul, 1) := by decide +kernel
theorem dX4_whole_22 : decode cX4_whole 22 = .ok (.ldc2_w 145, 3) := by decide +kernel
theorem dX4_whole_25 : decode cX4_whole 25 = .ok (.aload_n 0, 1) := by decide +kernel
theorem dX4_whole_26 : decode cX4_whole 26 = .ok (.getfield 36, 3) := by decide +kernel
theorem dX4_whole_29 : decode cX4_whole 29 = .ok (.iload_n 2, 1) := by decide +kernel
theorem dX4_whole_30 : decode cX4_whole 30 = .ok (.iconst 1, 1) := by decide +kernel
theorem dX4_whole_31 : decode cX4_whole 31 = .ok (.iadd, 1) := by decide +kernel
theorem dX4_whole_32 : decode cX4_whole 32 = .ok (.laload, 1) := by decide +kernel
theorem dX4_whole_33 : decode cX4_whole 33 = .ok (.lmul, 1) := by decide +kernel
theorem dX4_whole_34 : decode cX4_whole 34 = .ok (.ladd, 1) := by decide +kernel
theorem dX4_whole_35 : decode cX4_whole 35 = .ok (.aload_n 0, 1) := by decide +kernel
theorem dX4_whole_36 : decode cX4_whole 36 = .ok (.getfield 36, 3) := by decide +kernel
theorem dX4_whole_39 : decode cX4_whole 39 = .ok (.iload_n 2, 1) := by decide +kernel
theorem dX4_whole_40 : decode cX4_whole 40 = .ok (.iconst 2, 1) := by decide +kernel
theorem dX4_whole_41 : decode cX4_whole 41 = .ok (.iadd, 1) := by decide +kernel
theorem dX4_whole_42 : decode cX4_whole 42 = .ok (.laload, 1) := by decide +kernel
theorem dX4_whole_43 : decode cX4_whole 43 = .ok (.ladd, 1) := by decide +kernel
theorem dX4_whole_44 : decode cX4_whole 44 = .ok (.lcmp, 1) := by decide +kernel
theorem dX4_whole_45 : decode cX4_whole 45 = .ok (.ifCond .ne 7, 3) := by decide +kernel
theorem dX4_whole_48 : decode cX4_whole 48 = .ok (.iconst 1, 1) := by decide +kernel
theorem dX4_whole_49 : decode cX4_whole 49 = .ok (.goto 4, 3) := by decide +kernel
theorem dX4_whole_52 : decode cX4_whole 52 = .ok (.iconst 0, 1) := by decide +kernel
theorem dX4_whole_53 : decode cX4_whole 53 = .ok (.ireturn, 1) := by decide +kernel
theorem dX4_currentSlot_0 : decode cX4_currentSlot 0 = .ok (.aload_n 0, 1) := by decide +kernel
theorem dX4_currentSlot_1 : decode cX4_currentSlot 1 = .ok (.iconst 0, 1) := by decide +kernel
theorem dX4_currentSlot_2 : decode cX4_currentSlot 2 = .ok (.putfield 55, 3) := by decide +kernel
theorem dX4_currentSlot_5 : decode cX4_currentSlot 5 = .ok (.aload_n 0, 1) := by decide +kernel
theorem dX4_currentSlot_6 : decode cX4_currentSlot 6 = .ok (.getfield 150, 3) := by decide +kernel
theorem dX4_currentSlot_9 : decode cX4_currentSlot 9 = .ok (.ireturn, 1) := by decide +kernel
theorem dX4_slotWord_0 : decode cX4_slotWord 0 = .ok (.aload_n 0, 1) := by decide +kernel
theorem dX4_slotWord_1 : decode cX4_slotWord 1 = .ok (.iload_n 1, 1) := by decide +kernel
theorem dX4_slotWord_2 : decode cX4_slotWord 2 = .ok (.iconst 0, 1) := by decide +kernel
theorem dX4_slotWord_3 : decode cX4_slotWord 3 = .ok (.iconst 1, 1) := by decide +kernel
theorem dX4_slotWord_4 : decode cX4_slotWord 4 = .ok (.invokestatic 76, 3) := by decide +kernel
theorem dX4_slotWord_7 : decode cX4_slotWord 7 = .ok (.ifCond .eq 16, 3) := by decide +kernel
theorem dX4_slotWord_10 : decode cX4_slotWord 10 = .ok (.iload_n 2, 1) := by decide +kernel
theorem dX4_slotWord_11 : decode cX4_slotWord 11 = .ok (.iconst 0, 1) := by decide +kernel
theorem dX4_slotWord_12 : decode cX4_slotWord 12 = .ok (.iconst 3, 1) := by decide +kernel
theorem dX4_slotWord_13 : decode cX4_slotWord 13 = .ok (.invokestatic 76, 3) := by decide +kernel
theorem dX4_slotWord_16 : decode cX4_slotWord 16 = .ok (.ifCond .eq 7, 3) := by decide +kernel
theorem dX4_slotWord_19 : decode cX4_slotWord 19 = .ok (.iconst 1, 1) := by decide +kernel
theorem dX4_slotWord_20 : decode cX4_slotWord 20 = .ok (.goto 4, 3) := by decide +kernel
theorem dX4_slotWord_23 : decode cX4_slotWord 23 = .ok (.iconst 0, 1) := by decide +kernel
theorem dX4_slotWord_24 : decode cX4_slotWord 24 = .ok (.iconst 1, 1) := by decide +kernel
theorem dX4_slotWord_25 : decode cX4_slotWord 25 = .ok (.iconst 1, 1) := by decide +kernel
theorem dX4_slotWord_26 : decode cX4_slotWord 26 = .ok (.invokevirtual 118, 3) := by decide +kernel
theorem dX4_slotWord_29 : decode cX4_slotWord 29 = .ok (.ifCond .eq 16, 3) := by decide +kernel
theorem dX4_slotWord_32 : decode cX4_slotWord 32 = .ok (.aload_n 0, 1) := by decide +kernel
theorem dX4_slotWord_33 : decode cX4_slotWord 33 = .ok (.getfield 36, 3) := by decide +kernel
theorem dX4_slotWord_36 : decode cX4_slotWord 36 = .ok (.iconst 4, 1) := by decide +kernel
theorem dX4_slotWord_37 : decode cX4_slotWord 37 = .ok (.iload_n 1, 1) := by decide +kernel
theorem dX4_slotWord_38 : decode cX4_slotWord 38 = .ok (.imul, 1) := by decide +kernel
theorem dX4_slotWord_39 : decode cX4_slotWord 39 = .ok (.iload_n 2, 1) := by decide +kernel
theorem dX4_slotWord_40 : decode cX4_slotWord 40 = .ok (.iadd, 1) := by decide +kernel
theorem dX4_slotWord_41 : decode cX4_slotWord 41 = .ok (.laload, 1) := by decide +kernel
theorem dX4_slotWord_42 : decode cX4_slotWord 42 = .ok (.goto 4, 3) := by decide +kernel
theorem dX4_slotWord_45 : decode cX4_slotWord 45 = .ok (.lconst 0, 1) := by decide +kernel
theorem dX4_slotWord_46 : decode cX4_slotWord 46 = .ok (.lreturn, 1) := by decide +kernel
theorem dX4_isWhole_0 : decode cX4_isWhole 0 = .ok (.aload_n 0, 1) := by decide +kernel
theorem dX4_isWhole_1 : decode cX4_isWhole 1 = .ok (.iload_n 1, 1) := by decide +kernel
theorem dX4_isWhole_2 : decode cX4_isWhole 2 = .ok (.iconst 0, 1) := by decide +kernel
theorem dX4_isWhole_3 : decode cX4_isWhole 3 = .ok (.iconst 1, 1) := by decide +kernel
theorem dX4_isWhole_4 : decode cX4_isWhole 4 = .ok (.invokestatic 76, 3) := by decide +kernel
theorem dX4_isWhole_7 : decode cX4_isWhole 7 = .ok (.iconst 1, 1) := by decide +kernel
theorem dX4_isWhole_8 : decode cX4_isWhole 8 = .ok (.iconst 1, 1) := by decide +kernel
theorem dX4_isWhole_9 : decode cX4_isWhole 9 = .ok (.invokevirtual 118, 3) := by decide +kernel
theorem dX4_isWhole_12 : decode cX4_isWhole 12 = .ok (.ifCond .eq 15, 3) := by decide +kernel
theorem dX4_isWhole_15 : decode cX4_isWhole 15 = .ok (.aload_n 0, 1) := by decide +kernel
theorem dX4_isWhole_16 : decode cX4_isWhole 16 = .ok (.iload_n 1, 1) := by decide +kernel
theorem dX4_isWhole_17 : decode cX4_isWhole 17 = .ok (.invokevirtual 68, 3) := by decide +kernel
theorem dX4_isWhole_20 : decode cX4_isWhole 20 = .ok (.ifCond .eq 7, 3) := by decide +kernel
theorem dX4_isWhole_23 : decode cX4_isWhole 23 = .ok (.iconst 1, 1) := by decide +kernel
theorem dX4_isWhole_24 : decode cX4_isWhole 24 = .ok (.goto 4, 3) := by decide +kernel
theorem dX4_isWhole_27 : decode cX4_isWhole 27 = .ok (.iconst 0, 1) := by decide +kernel
theorem dX4_isWhole_28 : decode cX4_isWhole 28 = .ok (.ireturn, 1) := by decide +kernel
theorem dX4_tear_0 : decode cX4_tear 0 = .ok (.iload_n 1, 1) := by decide +kernel
theorem dX4_tear_1 : decode cX4_tear 1 = .ok (.iconst 0, 1) := by decide +kernel
theorem dX4_tear_2 : decode cX4_tear 2 = .ok (.iconst 1, 1) := by decide +kernel
theorem dX4_tear_3 : decode cX4_tear 3 = .ok (.invokestatic 76, 3) := by decide +kernel
theorem dX4_tear_6 : decode cX4_tear 6 = .ok (.istore_n 2, 1) := by decide +kernel
theorem dX4_tear_7 : decode cX4_tear 7 = .ok (.aload_n 0, 1) := by decide +kernel
theorem dX4_tear_8 : decode cX4_tear 8 = .ok (.iload_n 2, 1) := by decide +kernel
theorem dX4_tear_9 : decode cX4_tear 9 = .ok (.iload_n 2, 1) := by decide +kernel
theorem dX4_tear_10 : decode cX4_tear 10 = .ok (.ifCond .eq 17, 3) := by decide +kernel
theorem dX4_tear_13 : decode cX4_tear 13 = .ok (.aload_n 0, 1) := by decide +kernel
theorem dX4_tear_14 : decode cX4_tear 14 = .ok (.iconst 1, 1) := by decide +kernel
theorem dX4_tear_15 : decode cX4_tear 15 = .ok (.iload_n 1, 1) := by decide +kernel
theorem dX4_tear_16 : decode cX4_tear 16 = .ok (.isub, 1) := by decide +kernel
theorem dX4_tear_17 : decode cX4_tear 17 = .ok (.invokevirtual 68, 3) := by decide +kernel
theorem dX4_tear_20 : decode cX4_tear 20 = .ok (.ifCond .eq 7, 3) := by decide +kernel
theorem dX4_tear_23 : decode cX4_tear 23 = .ok (.iconst 1, 1) := by decide +kernel
theorem dX4_tear_24 : decode cX4_tear 24 = .ok (.goto 4, 3) := by decide +kernel
theorem dX4_tear_27 : decode cX4_tear 27 = .ok (.iconst 0, 1) := by decide +kernel
theorem dX4_tear_28 : decode cX4_tear 28 = .ok (.iconst 1, 1) := by decide +kernel
theorem dX4_tear_29 : decode cX4_tear 29 = .ok (.invokevirtual 118, 3) := by decide +kernel
theorem dX4_tear_32 : decode cX4_tear 32 = .ok (.ifCond .ne 5, 3) := by decide +kernel
theorem dX4_tear_35 : decode cX4_tear 35 = .ok (.iconst 0, 1) := by decide +kernel
theorem dX4_tear_36 : decode cX4_tear 36 = .ok (.ireturn, 1) := by decide +kernel
theorem dX4_tear_37 : decode cX4_tear 37 = .ok (.aload_n 0, 1) := by decide +kernel
theorem dX4_tear_38 : decode cX4_tear 38 = .ok (.iconst (-1), 1) := by decide +kernel
theorem dX4_tear_39 : decode cX4_tear 39 = .ok (.invokevirtual 72, 3) := by decide +kernel
theorem dX4_tear_42 : decode cX4_tear 42 = .ok (.istore_n 3, 1) := by decide +kernel
theorem dX4_tear_43 : decode cX4_tear 43 = .ok (.aload_n 0, 1) := by decide +kernel
theorem dX4_tear_44 : decode cX4_tear 44 = .ok (.getfield 36, 3) := by decide +kernel
theorem dX4_tear_47 : decode cX4_tear 47 = .ok (.iconst 4, 1) := by decide +kernel
theorem dX4_tear_48 : decode cX4_tear 48 = .ok (.iload_n 1, 1) := by decide +kernel
theorem dX4_tear_49 : decode cX4_tear 49 = .ok (.imul, 1) := by decide +kernel
theorem dX4_tear_50 : decode cX4_tear 50 = .ok (.iconst 3, 1) := by decide +kernel
theorem dX4_tear_51 : decode cX4_tear 51 = .ok (.iadd, 1) := by decide +kernel
theorem dX4_tear_52 : decode cX4_tear 52 = .ok (.ldc2_w 188, 3) := by decide +kernel
theorem dX4_tear_55 : decode cX4_tear 55 = .ok (.lastore, 1) := by decide +kernel
theorem dX4_tear_56 : decode cX4_tear 56 = .ok (.iload_n 3, 1) := by decide +kernel
theorem dX4_tear_57 : decode cX4_tear 57 = .ok (.aload_n 0, 1) := by decide +kernel
theorem dX4_tear_58 : decode cX4_tear 58 = .ok (.iconst (-1), 1) := by decide +kernel
theorem dX4_tear_59 : decode cX4_tear 59 = .ok (.invokevirtual 72, 3) := by decide +kernel
theorem dX4_tear_62 : decode cX4_tear 62 = .ok (.isub, 1) := by decide +kernel
theorem dX4_tear_63 : decode cX4_tear 63 = .ok (.ireturn, 1) := by decide +kernel
theorem dX4_restarts_0 : decode cX4_restarts 0 = .ok (.aload_n 0, 1) := by decide +kernel
theorem dX4_restarts_1 : decode cX4_restarts 1 = .ok (.iconst (-1), 1) := by decide +kernel
theorem dX4_restarts_2 : decode cX4_restarts 2 = .ok (.putfield 32, 3) := by decide +kernel
theorem dX4_restarts_5 : decode cX4_restarts 5 = .ok (.aload_n 0, 1) := by decide +kernel
theorem dX4_restarts_6 : decode cX4_restarts 6 = .ok (.invokevirtual 52, 3) := by decide +kernel
theorem dX4_restarts_9 : decode cX4_restarts 9 = .ok (.aload_n 0, 1) := by decide +kernel
theorem dX4_restarts_10 : decode cX4_restarts 10 = .ok (.iconst 0, 1) := by decide +kernel
theorem dX4_restarts_11 : decode cX4_restarts 11 = .ok (.invokevirtual 68, 3) := by decide +kernel
theorem dX4_restarts_14 : decode cX4_restarts 14 = .ok (.ifCond .eq 31, 3) := by decide +kernel
theorem dX4_restarts_17 : decode cX4_restarts 17 = .ok (.aload_n 0, 1) := by decide +kernel
theorem dX4_restarts_18 : decode cX4_restarts 18 = .ok (.iconst 1, 1) := by decide +kernel
theorem dX4_restarts_19 : decode cX4_restarts 19 = .ok (.invokevirtual 68, 3) := by decide +kernel
theorem dX4_restarts_22 : decode cX4_restarts 22 = .ok (.ifCond .eq 19, 3) := by decide +kernel
theorem dX4_restarts_25 : decode cX4_restarts 25 = .ok (.aload_n 0, 1) := by decide +kernel
theorem dX4_restarts_26 : decode cX4_restarts 26 = .ok (.getfield 36, 3) := by decide +kernel
theorem dX4_restarts_29 : decode cX4_restarts 29 = .ok (.iconst 0, 1) := by decide +kernel
theorem dX4_restarts_30 : decode cX4_restarts 30 = .ok (.laload, 1) := by decide +kernel
theorem dX4_restarts_31 : decode cX4_restarts 31 = .ok (.aload_n 0, 1) := by decide +kernel
theorem dX4_restarts_32 : decode cX4_restarts 32 = .ok (.getfield 36, 3) := by decide +kernel
theorem dX4_restarts_35 : decode cX4_restarts 35 = .ok (.iconst 4, 1) := by decide +kernel
theorem dX4_restarts_36 : decode cX4_restarts 36 = .ok (.laload, 1) := by decide +kernel
theorem dX4_restarts_37 : decode cX4_restarts 37 = .ok (.lcmp, 1) := by decide +kernel
theorem dX4_restarts_38 : decode cX4_restarts 38 = .ok (.ifCond .lt 7, 3) := by decide +kernel
theorem dX4_restarts_41 : decode cX4_restarts 41 = .ok (.iconst 1, 1) := by decide +kernel
theorem dX4_restarts_42 : decode cX4_restarts 42 = .ok (.goto 4, 3) := by decide +kernel
theorem dX4_restarts_45 : decode cX4_restarts 45 = .ok (.iconst 0, 1) := by decide +kernel
theorem dX4_restarts_46 : decode cX4_restarts 46 = .ok (.istore_n 1, 1) := by decide +kernel
theorem dX4_restarts_47 : decode cX4_restarts 47 = .ok (.aload_n 0, 1) := by decide +kernel
theorem dX4_restarts_48 : decode cX4_restarts 48 = .ok (.iload_n 1, 1) := by decide +kernel
theorem dX4_restarts_49 : decode cX4_restarts 49 = .ok (.ifCond .eq 7, 3) := by decide +kernel
theorem dX4_restarts_52 : decode cX4_restarts 52 = .ok (.iconst 0, 1) := by decide +kernel
theorem dX4_restarts_53 : decode cX4_restarts 53 = .ok (.goto 4, 3) := by decide +kernel
theorem dX4_restarts_56 : decode cX4_restarts 56 = .ok (.iconst 1, 1) := by decide +kernel
theorem dX4_restarts_57 : decode cX4_restarts 57 = .ok (.invokevirtual 160, 3) := by decide +kernel
theorem dX4_restarts_60 : decode cX4_restarts 60 = .ok (.ireturn, 1) := by decide +kernel
theorem dX4_crash_0 : decode cX4_crash 0 = .ok (.aload_n 0, 1) := by decide +kernel
theorem dX4_crash_1 : decode cX4_crash 1 = .ok (.iconst 0, 1) := by decide +kernel
theorem dX4_crash_2 : decode cX4_crash 2 = .ok (.putfield 55, 3) := by decide +kernel
theorem dX4_crash_5 : decode cX4_crash 5 = .ok (.aload_n 0, 1) := by decide +kernel
theorem dX4_crash_6 : decode cX4_crash 6 = .ok (.invokevirtual 190, 3) := by decide +kernel
theorem dX4_crash_9 : decode cX4_crash 9 = .ok (.ireturn, 1) := by decide +kernel
theorem dX4_crashInCommit_0 : decode cX4_crashInCommit 0 = .ok (.iload_n 1, 1) := by decide +kernel
theorem dX4_crashInCommit_1 : decode cX4_crashInCommit 1 = .ok (.iconst 1, 1) := by decide +kernel
theorem dX4_crashInCommit_2 : decode cX4_crashInCommit 2 = .ok (.iconst 3, 1) := by decide +kernel
theorem dX4_crashInCommit_3 : decode cX4_crashInCommit 3 = .ok (.invokestatic 76, 3) := by decide +kernel
theorem dX4_crashInCommit_6 : decode cX4_crashInCommit 6 = .ok (.istore_n 2, 1) := by decide +kernel
theorem dX4_crashInCommit_7 : decode cX4_crashInCommit 7 = .ok (.aload_n 0, 1) := by decide +kernel
theorem dX4_crashInCommit_8 : decode cX4_crashInCommit 8 = .ok (.iload_n 1, 1) := by decide +kernel
theorem dX4_crashInCommit_9 : decode cX4_crashInCommit 9 = .ok (.iconst 0, 1) := by decide +kernel
theorem dX4_crashInCommit_10 : decode cX4_crashInCommit 10 = .ok (.iconst 4, 1) := by decide +kernel
theorem dX4_crashInCommit_11 : decode cX4_crashInCommit 11 = .ok (.invokestatic 76, 3) := by decide +kernel
theorem dX4_crashInCommit_14 : decode cX4_crashInCommit 14 = .ok (.aload_n 0, 1) := by decide +kernel
theorem dX4_crashInCommit_15 : decode cX4_crashInCommit 15 = .ok (.getfield 32, 3) := by decide +kernel
theorem dX4_crashInCommit_18 : decode cX4_crashInCommit 18 = .ok (.iconst (-1), 1) := by decide +kernel
theorem dX4_crashInCommit_19 : decode cX4_crashInCommit 19 = .ok (.if_icmp .eq 22, 3) := by decide +kernel
theorem dX4_crashInCommit_22 : decode cX4_crashInCommit 22 = .ok (.iload_n 2, 1) := by decide +kernel
theorem dX4_crashInCommit_23 : decode cX4_crashInCommit 23 = .ok (.ifCond .eq 14, 3) := by decide +kernel
theorem dX4_crashInCommit_26 : decode cX4_crashInCommit 26 = .ok (.aload_n 0, 1) := by decide +kernel
theorem dX4_crashInCommit_27 : decode cX4_crashInCommit 27 = .ok (.aload_n 0, 1) := by decide +kernel
theorem dX4_crashInCommit_28 : decode cX4_crashInCommit 28 = .ok (.getfield 150, 3) := by decide +kernel
theorem dX4_crashInCommit_31 : decode cX4_crashInCommit 31 = .ok (.invokevirtual 68, 3) := by decide +kernel
theorem dX4_crashInCommit_34 : decode cX4_crashInCommit 34 = .ok (.ifCond .eq 7, 3) := by decide +kernel
theorem dX4_crashInCommit_37 : decode cX4_crashInCommit 37 = .ok (.iconst 1, 1) := by decide +kernel
theorem dX4_crashInCommit_38 : decode cX4_crashInCommit 38 = .ok (.goto 4, 3) := by decide +kernel
theorem dX4_crashInCommit_41 : decode cX4_crashInCommit 41 = .ok (.iconst 0, 1) := by decide +kernel
theorem dX4_crashInCommit_42 : decode cX4_crashInCommit 42 = .ok (.iconst 1, 1) := by decide +kernel
theorem dX4_crashInCommit_43 : decode cX4_crashInCommit 43 = .ok (.invokevirtual 118, 3) := by decide +kernel
theorem dX4_crashInCommit_46 : decode cX4_crashInCommit 46 = .ok (.ifCond .ne 5, 3) := by decide +kernel
theorem dX4_crashInCommit_49 : decode cX4_crashInCommit 49 = .ok (.iconst 0, 1) := by decide +kernel
theorem dX4_crashInCommit_50 : decode cX4_crashInCommit 50 = .ok (.ireturn, 1) := by decide +kernel
theorem dX4_crashInCommit_51 : decode cX4_crashInCommit 51 = .ok (.aload_n 0, 1) := by decide +kernel
theorem dX4_crashInCommit_52 : decode cX4_crashInCommit 52 = .ok (.iload_n 1, 1) := by decide +kernel
theorem dX4_crashInCommit_53 : decode cX4_crashInCommit 53 = .ok (.invokevirtual 157, 3) := by decide +kernel
theorem dX4_crashInCommit_56 : decode cX4_crashInCommit 56 = .ok (.aload_n 0, 1) := by decide +kernel
theorem dX4_crashInCommit_57 : decode cX4_crashInCommit 57 = .ok (.invokevirtual 190, 3) := by decide +kernel
theorem dX4_crashInCommit_60 : decode cX4_crashInCommit 60 = .ok (.ireturn, 1) := by decide +kernel
end
section
/-! decode rows, out of claim/NAMES.whole.lean.txt -/
theorem dL_beginBatch_0 : decode cL_beginBatch 0 = .ok (.aload_n 1, 1) := by decide +kernel
theorem dL_beginBatch_1 : decode cL_beginBatch 1 = .ok (.iconst 0, 1) := by decide +kernel
theorem dL_beginBatch_2 : decode cL_beginBatch 2 = .ok (.aload_n 0, 1) := by decide +kernel
theorem dL_beginBatch_3 : decode cL_beginBatch 3 = .ok (.invokevirtual 7, 3) := by decide +kernel
theorem dL_beginBatch_6 : decode cL_beginBatch 6 = .ok (.i2l, 1) := by decide +kernel
theorem dL_beginBatch_7 : decode cL_beginBatch 7 = .ok (.lastore, 1) := by decide +kernel
theorem dL_beginBatch_8 : decode cL_beginBatch 8 = .ok (.goto 6, 3) := by decide +kernel
theorem dL_beginBatch_11 : decode cL_beginBatch 11 = .ok (.astore_n 2, 1) := by decide +kernel
theorem dL_beginBatch_12 : decode cL_beginBatch 12 = .ok (.iconst 1, 1) := by decide +kernel
theorem dL_beginBatch_13 : decode cL_beginBatch 13 = .ok (.ireturn, 1) := by decide +kernel
theorem dL_beginBatch_14 : decode cL_beginBatch 14 = .ok (.iconst 0, 1) := by decide +kernel
theorem dL_beginBatch_15 : decode cL_beginBatch 15 = .ok (.ireturn, 1) := by decide +kernel
theorem dL_put_0 : decode cL_put 0 = .ok (.aload_n 3, 1) := by decide +kernel
theorem dL_put_1 : decode cL_put 1 = .ok (.iconst 0, 1) := by decide +kernel
theorem dL_put_2 : decode cL_put 2 = .ok (.aload_n 0, 1) := by decide +kernel
theorem dL_put_3 : decode cL_put 3 = .ok (.iload_n 1, 1) := by decide +kernel
theorem dL_put_4 : decode cL_put 4 = .ok (.iload_n 2, 1) := by decide +kernel
theorem dL_put_5 : decode cL_put 5 = .ok (.invokevirtual 15, 3) := by decide +kernel
theorem dL_put_8 : decode cL_put 8 = .ok (.ifCond .eq 7, 3) := by decide +kernel
theorem dL_put_11 : decode cL_put 11 = .ok (.lconst 1, 1) := by decide +kernel
theorem dL_put_12 : decode cL_put 12 = .ok (.goto 4, 3) := by decide +kernel
theorem dL_put_15 : decode cL_put 15 = .ok (.lconst 0, 1) := by decide +kernel
theorem dL_put_16 : decode cL_put 16 = .ok (.lastore, 1) := by decide +kernel
theorem dL_put_17 : decode cL_put 17 = .ok (.goto 11, 3) := by decide +kernel
theorem dL_put_20 : decode cL_put 20 = .ok (.astore 4, 2) := by decide +kernel
theorem dL_put_22 : decode cL_put 22 = .ok (.iconst 1, 1) := by decide +kernel
theorem dL_put_23 : decode cL_put 23 = .ok (.ireturn, 1) := by decide +kernel
theorem dL_put_24 : decode cL_put 24 = .ok (.astore 4, 2) := by decide +kernel
theorem dL_put_26 : decode cL_put 26 = .ok (.iconst 2, 1) := by decide +kernel
theorem dL_put_27 : decode cL_put 27 = .ok (.ireturn, 1) := by decide +kernel
theorem dL_put_28 : decode cL_put 28 = .ok (.iconst 0, 1) := by decide +kernel
theorem dL_put_29 : decode cL_put 29 = .ok (.ireturn, 1) := by decide +kernel
theorem dL_delete_0 : decode cL_delete 0 = .ok (.aload_n 2, 1) := by decide +kernel
theorem dL_delete_1 : decode cL_delete 1 = .ok (.iconst 0, 1) := by decide +kernel
theorem dL_delete_2 : decode cL_delete 2 = .ok (.aload_n 0, 1) := by decide +kernel
theorem dL_delete_3 : decode cL_delete 3 = .ok (.iload_n 1, 1) := by decide +kernel
theorem dL_delete_4 : decode cL_delete 4 = .ok (.invokevirtual 21, 3) := by decide +kernel
theorem dL_delete_7 : decode cL_delete 7 = .ok (.i2l, 1) := by decide +kernel
theorem dL_delete_8 : decode cL_delete 8 = .ok (.lastore, 1) := by decide +kernel
theorem dL_delete_9 : decode cL_delete 9 = .ok (.goto 12, 3) := by decide +kernel
theorem dL_delete_12 : decode cL_delete 12 = .ok (.astore_n 3, 1) := by decide +kernel
theorem dL_delete_13 : decode cL_delete 13 = .ok (.iconst 1, 1) := by decide +kernel
theorem dL_delete_14 : decode cL_delete 14 = .ok (.ireturn, 1) := by decide +kernel
theorem dL_delete_15 : decode cL_delete 15 = .ok (.astore_n 3, 1) := by decide +kernel
theorem dL_delete_16 : decode cL_delete 16 = .ok (.iconst 2, 1) := by decide +kernel
theorem dL_delete_17 : decode cL_delete 17 = .ok (.ireturn, 1) := by decide +kernel
theorem dL_delete_18 : decode cL_delete 18 = .ok (.astore_n 3, 1) := by decide +kernel
theorem dL_delete_19 : decode cL_delete 19 = .ok (.iconst 3, 1) := by decide +kernel
theorem dL_delete_20 : decode cL_delete 20 = .ok (.ireturn, 1) := by decide +kernel
theorem dL_delete_21 : decode cL_delete 21 = .ok (.iconst 0, 1) := by decide +kernel
theorem dL_delete_22 : decode cL_delete 22 = .ok (.ireturn, 1) := by decide +kernel
theorem dL_commit_0 : decode cL_commit 0 = .ok (.aload_n 1, 1) := by decide +kernel
theorem dL_commit_1 : decode cL_commit 1 = .ok (.iconst 0, 1) := by decide +kernel
theorem dL_commit_2 : decode cL_commit 2 = .ok (.aload_n 0, 1) := by decide +kernel
theorem dL_commit_3 : decode cL_commit 3 = .ok (.invokevirtual 27, 3) := by decide +kernel
theorem dL_commit_6 : decode cL_commit 6 = .ok (.i2l, 1) := by decide +kernel
theorem dL_commit_7 : decode cL_commit 7 = .ok (.lastore, 1) := by decide +kernel
theorem dL_commit_8 : decode cL_commit 8 = .ok (.goto 6, 3) := by decide +kernel
theorem dL_commit_11 : decode cL_commit 11 = .ok (.astore_n 2, 1) := by decide +kernel
theorem dL_commit_12 : decode cL_commit 12 = .ok (.iconst 1, 1) := by decide +kernel
theorem dL_commit_13 : decode cL_commit 13 = .ok (.ireturn, 1) := by decide +kernel
theorem dL_commit_14 : decode cL_commit 14 = .ok (.iconst 0, 1) := by decide +kernel
theorem dL_commit_15 : decode cL_commit 15 = .ok (.ireturn, 1) := by decide +kernel
theorem dL_abandon_0 : decode cL_abandon 0 = .ok (.aload_n 1, 1) := by decide +kernel
theorem dL_abandon_1 : decode cL_abandon 1 = .ok (.iconst 0, 1) := by decide +kernel
theorem dL_abandon_2 : decode cL_abandon 2 = .ok (.aload_n 0, 1) := by decide +kernel
theorem dL_abandon_3 : decode cL_abandon 3 = .ok (.invokevirtual 30, 3) := by decide +kernel
theorem dL_abandon_6 : decode cL_abandon 6 = .ok (.i2l, 1) := by decide +kernel
theorem dL_abandon_7 : decode cL_abandon 7 = .ok (.lastore, 1) := by decide +kernel
theorem dL_abandon_8 : decode cL_abandon 8 = .ok (.goto 6, 3) := by decide +kernel
theorem dL_abandon_11 : decode cL_abandon 11 = .ok (.astore_n 2, 1) := by decide +kernel
theorem dL_abandon_12 : decode cL_abandon 12 = .ok (.iconst 1, 1) := by decide +kernel
theorem dL_abandon_13 : decode cL_abandon 13 = .ok (.ireturn, 1) := by decide +kernel
theorem dL_abandon_14 : decode cL_abandon 14 = .ok (.iconst 0, 1) := by decide +kernel
theorem dL_abandon_15 : decode cL_abandon 15 = .ok (.ireturn, 1) := by decide +kernel
theorem dL_openReader_0 : decode cL_openReader 0 = .ok (.aload_n 1, 1) := by decide +kernel
theorem dL_openReader_1 : decode cL_openReader 1 = .ok (.iconst 0, 1) := by decide +kernel
theorem dL_openReader_2 : decode cL_openReader 2 = .ok (.aload_n 0, 1) := by decide +kernel
theorem dL_openReader_3 : decode cL_openReader 3 = .ok (.invokevirtual 33, 3) := by decide +kernel
theorem dL_openReader_6 : decode cL_openReader 6 = .ok (.i2l, 1) := by decide +kernel
theorem dL_openReader_7 : decode cL_openReader 7 = .ok (.lastore, 1) := by decide +kernel
theorem dL_openReader_8 : decode cL_openReader 8 = .ok (.goto 6, 3) := by decide +kernel
theorem dL_openReader_11 : decode cL_openReader 11 = .ok (.astore_n 2, 1) := by decide +kernel
theorem dL_openReader_12 : decode cL_openReader 12 = .ok (.iconst 1, 1) := by decide +kernel
theorem dL_openReader_13 : decode cL_openReader 13 = .ok (.ireturn, 1) := by decide +kernel
theorem dL_openReader_14 : decode cL_openReader 14 = .ok (.iconst 0, 1) := by decide +kernel
theorem dL_openReader_15 : decode cL_openReader 15 = .ok (.ireturn, 1) := by decide +kernel
theorem dL_closeReader_0 : decode cL_closeReader 0 = .ok (.aload_n 2, 1) := by decide +kernel
theorem dL_closeReader_1 : decode cL_closeReader 1 = .ok (.iconst 0, 1) := by decide +kernel
theorem dL_closeReader_2 : decode cL_closeReader 2 = .ok (.aload_n 0, 1) := by decide +kernel
theorem dL_closeReader_3 : decode cL_closeReader 3 = .ok (.iload_n 1, 1) := by decide +kernel
theorem dL_closeReader_4 : decode cL_closeReader 4 = .ok (.invokevirtual 36, 3) := by decide +kernel
theorem dL_closeReader_7 : decode cL_closeReader 7 = .ok (.i2l, 1) := by decide +kernel
theorem dL_closeReader_8 : decode cL_closeReader 8 = .ok (.lastore, 1) := by decide +kernel
theorem dL_closeReader_9 : decode cL_closeReader 9 = .ok (.goto 6, 3) := by decide +kernel
theorem dL_closeReader_12 : decode cL_closeReader 12 = .ok (.astore_n 3, 1) := by decide +kernel
theorem dL_closeReader_13 : decode cL_closeReader 13 = .ok (.iconst 1, 1) := by decide +kernel
theorem dL_closeReader_14 : decode cL_closeReader 14 = .ok (.ireturn, 1) := by decide +kernel
theorem dL_closeReader_15 : decode cL_closeReader 15 = .ok (.iconst 0, 1) := by decide +kernel
theorem dL_closeReader_16 : decode cL_closeReader 16 = .ok (.ireturn, 1) := by decide +kernel
theorem dL_heldBy_0 : decode cL_heldBy 0 = .ok (.aload_n 2, 1) := by decide +kernel
theorem dL_heldBy_1 : decode cL_heldBy 1 = .ok (.iconst 0, 1) := by decide +kernel
theorem dL_heldBy_2 : decode cL_heldBy 2 = .ok (.aload_n 0, 1) := by decide +kernel
theorem dL_heldBy_3 : decode cL_heldBy 3 = .ok (.iload_n 1, 1) := by decide +kernel
theorem dL_heldBy_4 : decode cL_heldBy 4 = .ok (.invokevirtual 41, 3) := by decide +kernel
theorem dL_heldBy_7 : decode cL_heldBy 7 = .ok (.i2l, 1) := by decide +kernel
theorem dL_heldBy_8 : decode cL_heldBy 8 = .ok (.lastore, 1) := by decide +kernel
theorem dL_heldBy_9 : decode cL_heldBy 9 = .ok (.goto 6, 3) := by decide +kernel
theorem dL_heldBy_12 : decode cL_heldBy 12 = .ok (.astore_n 3, 1) := by decide +kernel
theorem dL_heldBy_13 : decode cL_heldBy 13 = .ok (.iconst 1, 1) := by decide +kernel
theorem dL_heldBy_14 : decode cL_heldBy 14 = .ok (.ireturn, 1) := by decide +kernel
theorem dL_heldBy_15 : decode cL_heldBy 15 = .ok (.iconst 0, 1) := by decide +kernel
theorem dL_heldBy_16 : decode cL_heldBy 16 = .ok (.ireturn, 1) := by decide +kernel
theorem dL_epochOf_0 : decode cL_epochOf 0 = .ok (.aload_n 2, 1) := by decide +kernel
theorem dL_epochOf_1 : decode cL_epochOf 1 = .ok (.iconst 0, 1) := by decide +kernel
theorem dL_epochOf_2 : decode cL_epochOf 2 = .ok (.aload_n 0, 1) := by decide +kernel
theorem dL_epochOf_3 : decode cL_epochOf 3 = .ok (.iload_n 1, 1) := by decide +kernel
theorem dL_epochOf_4 : decode cL_epochOf 4 = .ok (.invokevirtual 44, 3) := by decide +kernel
theorem dL_epochOf_7 : decode cL_epochOf 7 = .ok (.i2l, 1) := by decide +kernel
theorem dL_epochOf_8 : decode cL_epochOf 8 = .ok (.lastore, 1) := by decide +kernel
theorem dL_epochOf_9 : decode cL_epochOf 9 = .ok (.goto 6, 3) := by decide +kernel
theorem dL_epochOf_12 : decode cL_epochOf 12 = .ok (.astore_n 3, 1) := by decide +kernel
theorem dL_epochOf_13 : decode cL_epochOf 13 = .ok (.iconst 1, 1) := by decide +kernel
theorem dL_epochOf_14 : decode cL_epochOf 14 = .ok (.ireturn, 1) := by decide +kernel
theorem dL_epochOf_15 : decode cL_epochOf 15 = .ok (.iconst 0, 1) := by decide +kernel
theorem dL_epochOf_16 : decode cL_epochOf 16 = .ok (.ireturn, 1) := by decide +kernel
theorem dL_get_0 : decode cL_get 0 = .ok (.aload_n 3, 1) := by decide +kernel
theorem dL_get_1 : decode cL_get 1 = .ok (.iconst 0, 1) := by decide +kernel
theorem dL_get_2 : decode cL_get 2 = .ok (.aload_n 0, 1) := by decide +kernel
theorem dL_get_3 : decode cL_get 3 = .ok (.iload_n 1, 1) := by decide +kernel
theorem dL_get_4 : decode cL_get 4 = .ok (.iload_n 2, 1) := by decide +kernel
theorem dL_get_5 : decode cL_get 5 = .ok (.invokevirtual 47, 3) := by decide +kernel
theorem dL_get_8 : decode cL_get 8 = .ok (.i2l, 1) := by decide +kernel
theorem dL_get_9 : decode cL_get 9 = .ok (.lastore, 1) := by decide +kernel
theorem dL_get_10 : decode cL_get 10 = .ok (.goto 15, 3) := by decide +kernel
theorem dL_get_13 : decode cL_get 13 = .ok (.astore 4, 2) := by decide +kernel
theorem dL_get_15 : decode cL_get 15 = .ok (.iconst 1, 1) := by decide +kernel
theorem dL_get_16 : decode cL_get 16 = .ok (.ireturn, 1) := by decide +kernel
theorem dL_get_17 : decode cL_get 17 = .ok (.astore 4, 2) := by decide +kernel
theorem dL_get_19 : decode cL_get 19 = .ok (.iconst 2, 1) := by decide +kernel
theorem dL_get_20 : decode cL_get 20 = .ok (.ireturn, 1) := by decide +kernel
theorem dL_get_21 : decode cL_get 21 = .ok (.astore 4, 2) := by decide +kernel
theorem dL_get_23 : decode cL_get 23 = .ok (.iconst 3, 1) := by decide +kernel
theorem dL_get_24 : decode cL_get 24 = .ok (.ireturn, 1) := by decide +kernel
theorem dL_get_25 : decode cL_get 25 = .ok (.iconst 0, 1) := by decide +kernel
theorem dL_get_26 : decode cL_get 26 = .ok (.ireturn, 1) := by decide +kernel
theorem dL_next_0 : decode cL_next 0 = .ok (.aload_n 3, 1) := by decide +kernel
theorem dL_next_1 : decode cL_next 1 = .ok (.iconst 0, 1) := by decide +kernel
theorem dL_next_2 : decode cL_next 2 = .ok (.aload_n 0, 1) := by decide +kernel
theorem dL_next_3 : decode cL_next 3 = .ok (.iload_n 1, 1) := by decide +kernel
theorem dL_next_4 : decode cL_next 4 = .ok (.iload_n 2, 1) := by decide +kernel
theorem dL_next_5 : decode cL_next 5 = .ok (.invokevirtual 51, 3) := by decide +kernel
theorem dL_next_8 : decode cL_next 8 = .ok (.i2l, 1) := by decide +kernel
theorem dL_next_9 : decode cL_next 9 = .ok (.lastore, 1) := by decide +kernel
theorem dL_next_10 : decode cL_next 10 = .ok (.goto 7, 3) := by decide +kernel
theorem dL_next_13 : decode cL_next 13 = .ok (.astore 4, 2) := by decide +kernel
theorem dL_next_15 : decode cL_next 15 = .ok (.iconst 1, 1) := by decide +kernel
theorem dL_next_16 : decode cL_next 16 = .ok (.ireturn, 1) := by decide +kernel
theorem dL_next_17 : decode cL_next 17 = .ok (.iconst 0, 1) := by decide +kernel
theorem dL_next_18 : decode cL_next 18 = .ok (.ireturn, 1) := by decide +kernel
theorem dL_rank_0 : decode cL_rank 0 = .ok (.aload_n 3, 1) := by decide +kernel
theorem dL_rank_1 : decode cL_rank 1 = .ok (.iconst 0, 1) := by decide +kernel
theorem dL_rank_2 : decode cL_rank 2 = .ok (.aload_n 0, 1) := by decide +kernel
theorem dL_rank_3 : decode cL_rank 3 = .ok (.iload_n 1, 1) := by decide +kernel
theorem dL_rank_4 : decode cL_rank 4 = .ok (.iload_n 2, 1) := by decide +kernel
theorem dL_rank_5 : decode cL_rank 5 = .ok (.invokevirtual 54, 3) := by decide +kernel
theorem dL_rank_8 : decode cL_rank 8 = .ok (.i2l, 1) := by decide +kernel
theorem dL_rank_9 : decode cL_rank 9 = .ok (.lastore, 1) := by decide +kernel
theorem dL_rank_10 : decode cL_rank 10 = .ok (.goto 7, 3) := by decide +kernel
theorem dL_rank_13 : decode cL_rank 13 = .ok (.astore 4, 2) := by decide +kernel
theorem dL_rank_15 : decode cL_rank 15 = .ok (.iconst 1, 1) := by decide +kernel
theorem dL_rank_16 : decode cL_rank 16 = .ok (.ireturn, 1) := by decide +kernel
theorem dL_rank_17 : decode cL_rank 17 = .ok (.iconst 0, 1) := by decide +kernel
theorem dL_rank_18 : decode cL_rank 18 = .ok (.ireturn, 1) := by decide +kernel
theorem dL_size_0 : decode cL_size 0 = .ok (.aload_n 2, 1) := by decide +kernel
theorem dL_size_1 : decode cL_size 1 = .ok (.iconst 0, 1) := by decide +kernel
theorem dL_size_2 : decode cL_size 2 = .ok (.aload_n 0, 1) := by decide +kernel
theorem dL_size_3 : decode cL_size 3 = .ok (.iload_n 1, 1) := by decide +kernel
theorem dL_size_4 : decode cL_size 4 = .ok (.invokevirtual 57, 3) := by decide +kernel
theorem dL_size_7 : decode cL_size 7 = .ok (.i2l, 1) := by decide +kernel
theorem dL_size_8 : decode cL_size 8 = .ok (.lastore, 1) := by decide +kernel
theorem dL_size_9 : decode cL_size 9 = .ok (.goto 6, 3) := by decide +kernel
theorem dL_size_12 : decode cL_size 12 = .ok (.astore_n 3, 1) := by decide +kernel
theorem dL_size_13 : decode cL_size 13 = .ok (.iconst 1, 1) := by decide +kernel
theorem dL_size_14 : decode cL_size 14 = .ok (.ireturn, 1) := by decide +kernel
theorem dL_size_15 : decode cL_size 15 = .ok (.iconst 0, 1) := by decide +kernel
theorem dL_size_16 : decode cL_size 16 = .ok (.ireturn, 1) := by decide +kernel
theorem dL_depth_0 : decode cL_depth 0 = .ok (.aload_n 2, 1) := by decide +kernel
theorem dL_depth_1 : decode cL_depth 1 = .ok (.iconst 0, 1) := by decide +kernel
theorem dL_depth_2 : decode cL_depth 2 = .ok (.aload_n 0, 1) := by decide +kernel
theorem dL_depth_3 : decode cL_depth 3 = .ok (.iload_n 1, 1) := by decide +kernel
theorem dL_depth_4 : decode cL_depth 4 = .ok (.invokevirtual 60, 3) := by decide +kernel
theorem dL_depth_7 : decode cL_depth 7 = .ok (.i2l, 1) := by decide +kernel
theorem dL_depth_8 : decode cL_depth 8 = .ok (.lastore, 1) := by decide +kernel
theorem dL_depth_9 : decode cL_depth 9 = .ok (.goto 6, 3) := by decide +kernel
theorem dL_depth_12 : decode cL_depth 12 = .ok (.astore_n 3, 1) := by decide +kernel
theorem dL_depth_13 : decode cL_depth 13 = .ok (.iconst 1, 1) := by decide +kernel
theorem dL_depth_14 : decode cL_depth 14 = .ok (.ireturn, 1) := by decide +kernel
theorem dL_depth_15 : decode cL_depth 15 = .ok (.iconst 0, 1) := by decide +kernel
theorem dL_depth_16 : decode cL_depth 16 = .ok (.ireturn, 1) := by decide +kernel
theorem dL_rootOf_0 : decode cL_rootOf 0 = .ok (.aload_n 2, 1) := by decide +kernel
theorem dL_rootOf_1 : decode cL_rootOf 1 = .ok (.iconst 0, 1) := by decide +kernel
theorem dL_rootOf_2 : decode cL_rootOf 2 = .ok (.aload_n 0, 1) := by decide +kernel
theorem dL_rootOf_3 : decode cL_rootOf 3 = .ok (.iload_n 1, 1) := by decide +kernel
theorem dL_rootOf_4 : decode cL_rootOf 4 = .ok (.invokevirtual 63, 3) := by decide +kernel
theorem dL_rootOf_7 : decode cL_rootOf 7 = .ok (.i2l, 1) := by decide +kernel
theorem dL_rootOf_8 : decode cL_rootOf 8 = .ok (.lastore, 1) := by decide +kernel
theorem dL_rootOf_9 : decode cL_rootOf 9 = .ok (.goto 6, 3) := by decide +kernel
theorem dL_rootOf_12 : decode cL_rootOf 12 = .ok (.astore_n 3, 1) := by decide +kernel
theorem dL_rootOf_13 : decode cL_rootOf 13 = .ok (.iconst 1, 1) := by decide +kernel
theorem dL_rootOf_14 : decode cL_rootOf 14 = .ok (.ireturn, 1) := by decide +kernel
theorem dL_rootOf_15 : decode cL_rootOf 15 = .ok (.iconst 0, 1) := by decide +kernel
theorem dL_rootOf_16 : decode cL_rootOf 16 = .ok (.ireturn, 1) := by decide +kernel
theorem dL_sharedPages_0 : decode cL_sharedPages 0 = .ok (.aload_n 3, 1) := by decide +kernel
theorem dL_sharedPages_1 : decode cL_sharedPages 1 = .ok (.iconst 0, 1) := by decide +kernel
theorem dL_sharedPages_2 : decode cL_sharedPages 2 = .ok (.aload_n 0, 1) := by decide +kernel
theorem dL_sharedPages_3 : decode cL_sharedPages 3 = .ok (.iload_n 1, 1) := by decide +kernel
theorem dL_sharedPages_4 : decode cL_sharedPages 4 = .ok (.iload_n 2, 1) := by decide +kernel
theorem dL_sharedPages_5 : decode cL_sharedPages 5 = .ok (.invokevirtual 66, 3) := by decide +kernel
theorem dL_sharedPages_8 : decode cL_sharedPages 8 = .ok (.i2l, 1) := by decide +kernel
theorem dL_sharedPages_9 : decode cL_sharedPages 9 = .ok (.lastore, 1) := by decide +kernel
theorem dL_sharedPages_10 : decode cL_sharedPages 10 = .ok (.goto 7, 3) := by decide +kernel
theorem dL_sharedPages_13 : decode cL_sharedPages 13 = .ok (.astore 4, 2) := by decide +kernel
theorem dL_sharedPages_15 : decode cL_sharedPages 15 = .ok (.iconst 1, 1) := by decide +kernel
theorem dL_sharedPages_16 : decode cL_sharedPages 16 = .ok (.ireturn, 1) := by decide +kernel
theorem dL_sharedPages_17 : decode cL_sharedPages 17 = .ok (.iconst 0, 1) := by decide +kernel
theorem dL_sharedPages_18 : decode cL_sharedPages 18 = .ok (.ireturn, 1) := by decide +kernel
theorem dL_isFree_0 : decode cL_isFree 0 = .ok (.aload_n 2, 1) := by decide +kernel
theorem dL_isFree_1 : decode cL_isFree 1 = .ok (.iconst 0, 1) := by decide +kernel
theorem dL_isFree_2 : decode cL_isFree 2 = .ok (.aload_n 0, 1) := by decide +kernel
theorem dL_isFree_3 : decode cL_isFree 3 = .ok (.iload_n 1, 1) := by decide +kernel
theorem dL_isFree_4 : decode cL_isFree 4 = .ok (.invokevirtual 69, 3) := by decide +kernel
theorem dL_isFree_7 : decode cL_isFree 7 = .ok (.ifCond .eq 7, 3) := by decide +kernel
theorem dL_isFree_10 : decode cL_isFree 10 = .ok (.lconst 1, 1) := by decide +kernel
theorem dL_isFree_11 : decode cL_isFree 11 = .ok (.goto 4, 3) := by decide +kernel
theorem dL_isFree_14 : decode cL_isFree 14 = .ok (.lconst 0, 1) := by decide +kernel
theorem dL_isFree_15 : decode cL_isFree 15 = .ok (.lastore, 1) := by decide +kernel
theorem dL_isFree_16 : decode cL_isFree 16 = .ok (.goto 6, 3) := by decide +kernel
theorem dL_isFree_19 : decode cL_isFree 19 = .ok (.astore_n 3, 1) := by decide +kernel
theorem dL_isFree_20 : decode cL_isFree 20 = .ok (.iconst 1, 1) := by decide +kernel
theorem dL_isFree_21 : decode cL_isFree 21 = .ok (.ireturn, 1) := by decide +kernel
theorem dL_isFree_22 : decode cL_isFree 22 = .ok (.iconst 0, 1) := by decide +kernel
theorem dL_isFree_23 : decode cL_isFree 23 = .ok (.ireturn, 1) := by decide +kernel
theorem dL_entries_0 : decode cL_entries 0 = .ok (.aload_n 2, 1) := by decide +kernel
theorem dL_entries_1 : decode cL_entries 1 = .ok (.iconst 0, 1) := by decide +kernel
theorem dL_entries_2 : decode cL_entries 2 = .ok (.aload_n 0, 1) := by decide +kernel
theorem dL_entries_3 : decode cL_entries 3 = .ok (.iload_n 1, 1) := by decide +kernel
theorem dL_entries_4 : decode cL_entries 4 = .ok (.invokevirtual 73, 3) := by decide +kernel
theorem dL_entries_7 : decode cL_entries 7 = .ok (.i2l, 1) := by decide +kernel
theorem dL_entries_8 : decode cL_entries 8 = .ok (.lastore, 1) := by decide +kernel
theorem dL_entries_9 : decode cL_entries 9 = .ok (.goto 6, 3) := by decide +kernel
theorem dL_entries_12 : decode cL_entries 12 = .ok (.astore_n 3, 1) := by decide +kernel
theorem dL_entries_13 : decode cL_entries 13 = .ok (.iconst 1, 1) := by decide +kernel
theorem dL_entries_14 : decode cL_entries 14 = .ok (.ireturn, 1) := by decide +kernel
theorem dL_entries_15 : decode cL_entries 15 = .ok (.iconst 0, 1) := by decide +kernel
theorem dL_entries_16 : decode cL_entries 16 = .ok (.ireturn, 1) := by decide +kernel
theorem dL_keyAt_0 : decode cL_keyAt 0 = .ok (.aload_n 3, 1) := by decide +kernel
theorem dL_keyAt_1 : decode cL_keyAt 1 = .ok (.iconst 0, 1) := by decide +kernel
theorem dL_keyAt_2 : decode cL_keyAt 2 = .ok (.aload_n 0, 1) := by decide +kernel
theorem dL_keyAt_3 : decode cL_keyAt 3 = .ok (.iload_n 1, 1) := by decide +kernel
theorem dL_keyAt_4 : decode cL_keyAt 4 = .ok (.iload_n 2, 1) := by decide +kernel
theorem dL_keyAt_5 : decode cL_keyAt 5 = .ok (.invokevirtual 76, 3) := by decide +kernel
theorem dL_keyAt_8 : decode cL_keyAt 8 = .ok (.i2l, 1) := by decide +kernel
theorem dL_keyAt_9 : decode cL_keyAt 9 = .ok (.lastore, 1) := by decide +kernel
theorem dL_keyAt_10 : decode cL_keyAt 10 = .ok (.goto 7, 3) := by decide +kernel
theorem dL_keyAt_13 : decode cL_keyAt 13 = .ok (.astore 4, 2) := by decide +kernel
theorem dL_keyAt_15 : decode cL_keyAt 15 = .ok (.iconst 1, 1) := by decide +kernel
theorem dL_keyAt_16 : decode cL_keyAt 16 = .ok (.ireturn, 1) := by decide +kernel
theorem dL_keyAt_17 : decode cL_keyAt 17 = .ok (.iconst 0, 1) := by decide +kernel
theorem dL_keyAt_18 : decode cL_keyAt 18 = .ok (.ireturn, 1) := by decide +kernel
theorem dL_pageAt_0 : decode cL_pageAt 0 = .ok (.aload_n 3, 1) := by decide +kernel
theorem dL_pageAt_1 : decode cL_pageAt 1 = .ok (.iconst 0, 1) := by decide +kernel
theorem dL_pageAt_2 : decode cL_pageAt 2 = .ok (.aload_n 0, 1) := by decide +kernel
theorem dL_pageAt_3 : decode cL_pageAt 3 = .ok (.iload_n 1, 1) := by decide +kernel
theorem dL_pageAt_4 : decode cL_pageAt 4 = .ok (.iload_n 2, 1) := by decide +kernel
theorem dL_pageAt_5 : decode cL_pageAt 5 = .ok (.invokevirtual 79, 3) := by decide +kernel
theorem dL_pageAt_8 : decode cL_pageAt 8 = .ok (.i2l, 1) := by decide +kernel
theorem dL_pageAt_9 : decode cL_pageAt 9 = .ok (.lastore, 1) := by decide +kernel
theorem dL_pageAt_10 : decode cL_pageAt 10 = .ok (.goto 7, 3) := by decide +kernel
theorem dL_pageAt_13 : decode cL_pageAt 13 = .ok (.astore 4, 2) := by decide +kernel
theorem dL_pageAt_15 : decode cL_pageAt 15 = .ok (.iconst 1, 1) := by decide +kernel
theorem dL_pageAt_16 : decode cL_pageAt 16 = .ok (.ireturn, 1) := by decide +kernel
theorem dL_pageAt_17 : decode cL_pageAt 17 = .ok (.iconst 0, 1) := by decide +kernel
theorem dL_pageAt_18 : decode cL_pageAt 18 = .ok (.ireturn, 1) := by decide +kernel
theorem dL_slotWord_0 : decode cL_slotWord 0 = .ok (.aload_n 3, 1) := by decide +kernel
theorem dL_slotWord_1 : decode cL_slotWord 1 = .ok (.iconst 0, 1) := by decide +kernel
theorem dL_slotWord_2 : decode cL_slotWord 2 = .ok (.aload_n 0, 1) := by decide +kernel
theorem dL_slotWord_3 : decode cL_slotWord 3 = .ok (.iload_n 1, 1) := by decide +kernel
theorem dL_slotWord_4 : decode cL_slotWord 4 = .ok (.iload_n 2, 1) := by decide +kernel
theorem dL_slotWord_5 : decode cL_slotWord 5 = .ok (.invokevirtual 82, 3) := by decide +kernel
theorem dL_slotWord_8 : decode cL_slotWord 8 = .ok (.lastore, 1) := by decide +kernel
theorem dL_slotWord_9 : decode cL_slotWord 9 = .ok (.goto 7, 3) := by decide +kernel
theorem dL_slotWord_12 : decode cL_slotWord 12 = .ok (.astore 4, 2) := by decide +kernel
theorem dL_slotWord_14 : decode cL_slotWord 14 = .ok (.iconst 1, 1) := by decide +kernel
theorem dL_slotWord_15 : decode cL_slotWord 15 = .ok (.ireturn, 1) := by decide +kernel
theorem dL_slotWord_16 : decode cL_slotWord 16 = .ok (.iconst 0, 1) := by decide +kernel
theorem dL_slotWord_17 : decode cL_slotWord 17 = .ok (.ireturn, 1) := by decide +kernel
theorem dL_isWhole_0 : decode cL_isWhole 0 = .ok (.aload_n 2, 1) := by decide +kernel
theorem dL_isWhole_1 : decode cL_isWhole 1 = .ok (.iconst 0, 1) := by decide +kernel
theorem dL_isWhole_2 : decode cL_isWhole 2 = .ok (.aload_n 0, 1) := by decide +kernel
theorem dL_isWhole_3 : decode cL_isWhole 3 = .ok (.iload_n 1, 1) := by decide +kernel
theorem dL_isWhole_4 : decode cL_isWhole 4 = .ok (.invokevirtual 86, 3) := by decide +kernel
theorem dL_isWhole_7 : decode cL_isWhole 7 = .ok (.ifCond .eq 7, 3) := by decide +kernel
theorem dL_isWhole_10 : decode cL_isWhole 10 = .ok (.lconst 1, 1) := by decide +kernel
theorem dL_isWhole_11 : decode cL_isWhole 11 = .ok (.goto 4, 3) := by decide +kernel
theorem dL_isWhole_14 : decode cL_isWhole 14 = .ok (.lconst 0, 1) := by decide +kernel
theorem dL_isWhole_15 : decode cL_isWhole 15 = .ok (.lastore, 1) := by decide +kernel
theorem dL_isWhole_16 : decode cL_isWhole 16 = .ok (.goto 6, 3) := by decide +kernel
theorem dL_isWhole_19 : decode cL_isWhole 19 = .ok (.astore_n 3, 1) := by decide +kernel
theorem dL_isWhole_20 : decode cL_isWhole 20 = .ok (.iconst 1, 1) := by decide +kernel
theorem dL_isWhole_21 : decode cL_isWhole 21 = .ok (.ireturn, 1) := by decide +kernel
theorem dL_isWhole_22 : decode cL_isWhole 22 = .ok (.iconst 0, 1) := by decide +kernel
theorem dL_isWhole_23 : decode cL_isWhole 23 = .ok (.ireturn, 1) := by decide +kernel
theorem dL_tear_0 : decode cL_tear 0 = .ok (.aload_n 2, 1) := by decide +kernel
theorem dL_tear_1 : decode cL_tear 1 = .ok (.iconst 0, 1) := by decide +kernel
theorem dL_tear_2 : decode cL_tear 2 = .ok (.aload_n 0, 1) := by decide +kernel
theorem dL_tear_3 : decode cL_tear 3 = .ok (.iload_n 1, 1) := by decide +kernel
theorem dL_tear_4 : decode cL_tear 4 = .ok (.invokevirtual 89, 3) := by decide +kernel
theorem dL_tear_7 : decode cL_tear 7 = .ok (.i2l, 1) := by decide +kernel
theorem dL_tear_8 : decode cL_tear 8 = .ok (.lastore, 1) := by decide +kernel
theorem dL_tear_9 : decode cL_tear 9 = .ok (.goto 9, 3) := by decide +kernel
theorem dL_tear_12 : decode cL_tear 12 = .ok (.astore_n 3, 1) := by decide +kernel
theorem dL_tear_13 : decode cL_tear 13 = .ok (.iconst 1, 1) := by decide +kernel
theorem dL_tear_14 : decode cL_tear 14 = .ok (.ireturn, 1) := by decide +kernel
theorem dL_tear_15 : decode cL_tear 15 = .ok (.astore_n 3, 1) := by decide +kernel
theorem dL_tear_16 : decode cL_tear 16 = .ok (.iconst 2, 1) := by decide +kernel
theorem dL_tear_17 : decode cL_tear 17 = .ok (.ireturn, 1) := by decide +kernel
theorem dL_tear_18 : decode cL_tear 18 = .ok (.iconst 0, 1) := by decide +kernel
theorem dL_tear_19 : decode cL_tear 19 = .ok (.ireturn, 1) := by decide +kernel
theorem dL_crashInCommit_0 : decode cL_crashInCommit 0 = .ok (.aload_n 2, 1) := by decide +kernel
theorem dL_crashInCommit_1 : decode cL_crashInCommit 1 = .ok (.iconst 0, 1) := by decide +kernel
theorem dL_crashInCommit_2 : decode cL_crashInCommit 2 = .ok (.aload_n 0, 1) := by decide +kernel
theorem dL_crashInCommit_3 : decode cL_crashInCommit 3 = .ok (.iload_n 1, 1) := by decide +kernel
theorem dL_crashInCommit_4 : decode cL_crashInCommit 4 = .ok (.invokevirtual 92, 3) := by decide +kernel
theorem dL_crashInCommit_7 : decode cL_crashInCommit 7 = .ok (.i2l, 1) := by decide +kernel
theorem dL_crashInCommit_8 : decode cL_crashInCommit 8 = .ok (.lastore, 1) := by decide +kernel
theorem dL_crashInCommit_9 : decode cL_crashInCommit 9 = .ok (.goto 9, 3) := by decide +kernel
theorem dL_crashInCommit_12 : decode cL_crashInCommit 12 = .ok (.astore_n 3, 1) := by decide +kernel
theorem dL_crashInCommit_13 : decode cL_crashInCommit 13 = .ok (.iconst 1, 1) := by decide +kernel
theorem dL_crashInCommit_14 : decode cL_crashInCommit 14 = .ok (.ireturn, 1) := by decide +kernel
theorem dL_crashInCommit_15 : decode cL_crashInCommit 15 = .ok (.astore_n 3, 1) := by decide +kernel
theorem dL_crashInCommit_16 : decode cL_crashInCommit 16 = .ok (.iconst 2, 1) := by decide +kernel
theorem dL_crashInCommit_17 : decode cL_crashInCommit 17 = .ok (.ireturn, 1) := by decide +kernel
theorem dL_crashInCommit_18 : decode cL_crashInCommit 18 = .ok (.iconst 0, 1) := by decide +kernel
theorem dL_crashInCommit_19 : decode cL_crashInCommit 19 = .ok (.ireturn, 1) := by decide +kernel
theorem dL_law_0 : decode cL_law 0 = .ok (.new 8, 3) := by decide +kernel
theorem dL_law_3 : decode cL_law 3 = .ok (.dup, 1) := by decide +kernel
theorem dL_law_4 : decode cL_law 4 = .ok (.invokespecial 95, 3) := by decide +kernel
theorem dL_law_7 : decode cL_law 7 = .ok (.astore_n 1, 1) := by decide +kernel
theorem dL_law_8 : decode cL_law 8 = .ok (.new 96, 3) := by decide +kernel
theorem dL_law_11 : decode cL_law 11 = .ok (.dup, 1) := by decide +kernel
theorem dL_law_12 : decode cL_law 12 = .ok (.invokespecial 98, 3) := by decide +kernel
theorem dL_law_15 : decode cL_law 15 = .ok (.astore_n 2, 1) := by decide +kernel
theorem dL_law_16 : decode cL_law 16 = .ok (.iconst 1, 1) := by decide +kernel
theorem dL_law_17 : decode cL_law 17 = .ok (.newarray .long, 2) := by decide +kernel
theorem dL_law_19 : decode cL_law 19 = .ok (.astore_n 3, 1) := by decide +kernel
theorem dL_law_20 : decode cL_law 20 = .ok (.iconst 0, 1) := by decide +kernel
theorem dL_law_21 : decode cL_law 21 = .ok (.istore 4, 2) := by decide +kernel
theorem dL_law_23 : decode cL_law 23 = .ok (.iload 4, 2) := by decide +kernel
theorem dL_law_25 : decode cL_law 25 = .ok (.aload_n 0, 1) := by decide +kernel
theorem dL_law_26 : decode cL_law 26 = .ok (.arraylength, 1) := by decide +kernel
theorem dL_law_27 : decode cL_law 27 = .ok (.iconst 3, 1) := by decide +kernel
theorem dL_law_28 : decode cL_law 28 = .ok (.isub, 1) := by decide +kernel
theorem dL_law_29 : decode cL_law 29 = .ok (.if_icmp .gt 1639, 3) := by decide +kernel
theorem dL_law_32 : decode cL_law 32 = .ok (.aload_n 0, 1) := by decide +kernel
theorem dL_law_33 : decode cL_law 33 = .ok (.iload 4, 2) := by decide +kernel
theorem dL_law_35 : decode cL_law 35 = .ok (.iaload, 1) := by decide +kernel
theorem dL_law_36 : decode cL_law 36 = .ok (.bipush 31, 2) := by decide +kernel
theorem dL_law_38 : decode cL_law 38 = .ok (.iand, 1) := by decide +kernel
theorem dL_law_39 : decode cL_law 39 = .ok (.tableswitch 1623 0 29 #[133, 177, 190, 265, 321, 365, 409, 453, 509, 522, 578, 634, 702, 770, 838, 894, 950, 1006, 1074, 1137, 1150, 1163, 1219, 1287, 1355, 1368, 1435, 1498, 1554, 1567], 133) := by decide +kernel
theorem dL_law_172 : decode cL_law 172 = .ok (.aload_n 1, 1) := by decide +kernel
theorem dL_law_173 : decode cL_law 173 = .ok (.aload_n 3, 1) := by decide +kernel
theorem dL_law_174 : decode cL_law 174 = .ok (.invokestatic 99, 3) := by decide +kernel
theorem dL_law_177 : decode cL_law 177 = .ok (.istore 5, 2) := by decide +kernel
theorem dL_law_179 : decode cL_law 179 = .ok (.aload_n 2, 1) := by decide +kernel
theorem dL_law_180 : decode cL_law 180 = .ok (.invokevirtual 104, 3) := by decide +kernel
theorem dL_law_183 : decode cL_law 183 = .ok (.istore 6, 2) := by decide +kernel
theorem dL_law_185 : decode cL_law 185 = .ok (.aload_n 2, 1) := by decide +kernel
theorem dL_law_186 : decode cL_law 186 = .ok (.invokevirtual 105, 3) := by decide +kernel
theorem dL_law_189 : decode cL_law 189 = .ok (.iload 5, 2) := by decide +kernel
theorem dL_law_191 : decode cL_law 191 = .ok (.if_icmp .eq 5, 3) := by decide +kernel
theorem dL_law_194 : decode cL_law 194 = .ok (.iconst 0, 1) := by decide +kernel
theorem dL_law_195 : decode cL_law 195 = .ok (.ireturn, 1) := by decide +kernel
theorem dL_law_196 : decode cL_law 196 = .ok (.iload 5, 2) := by decide +kernel
theorem dL_law_198 : decode cL_law 198 = .ok (.ifCond .ne 15, 3) := by decide +kernel
theorem dL_law_201 : decode cL_law 201 = .ok (.aload_n 3, 1) := by decide +kernel
theorem dL_law_202 : decode cL_law 202 = .ok (.iconst 0, 1) := by decide +kernel
theorem dL_law_203 : decode cL_law 203 = .ok (.laload, 1) := by decide +kernel
theorem dL_law_204 : decode cL_law 204 = .ok (.iload 6, 2) := by decide +kernel
theorem dL_law_206 : decode cL_law 206 = .ok (.i2l, 1) := by decide +kernel
theorem dL_law_207 : decode cL_law 207 = .ok (.lcmp, 1) := by decide +kernel
theorem dL_law_208 : decode cL_law 208 = .ok (.ifCond .eq 5, 3) := by decide +kernel
theorem dL_law_211 : decode cL_law 211 = .ok (.iconst 0, 1) := by decide +kernel
theorem dL_law_212 : decode cL_law 212 = .ok (.ireturn, 1) := by decide +kernel
theorem dL_law_213 : decode cL_law 213 = .ok (.goto 1449, 3) := by decide +kernel
theorem dL_law_216 : decode cL_law 216 = .ok (.aload_n 1, 1) := by decide +kernel
theorem dL_law_217 : decode cL_law 217 = .ok (.invokevirtual 108, 3) := by decide +kernel
theorem dL_law_220 : decode cL_law 220 = .ok (.aload_n 2, 1) := by decide +kernel
theorem dL_law_221 : decode cL_law 221 = .ok (.invokevirtual 112, 3) := by decide +kernel
theorem dL_law_224 : decode cL_law 224 = .ok (.if_icmp .eq 1438, 3) := by decide +kernel
theorem dL_law_227 : decode cL_law 227 = .ok (.iconst 0, 1) := by decide +kernel
theorem dL_law_228 : decode cL_law 228 = .ok (.ireturn, 1) := by decide +kernel
theorem dL_law_229 : decode cL_law 229 = .ok (.aload_n 1, 1) := by decide +kernel
theorem dL_law_230 : decode cL_law 230 = .ok (.aload_n 0, 1) := by decide +kernel
theorem dL_law_231 : decode cL_law 231 = .ok (.iload 4, 2) := by decide +kernel
theorem dL_law_233 : decode cL_law 233 = .ok (.iconst 1, 1) := by decide +kernel
theorem dL_law_234 : decode cL_law 234 = .ok (.iadd, 1) := by decide +kernel
theorem dL_law_235 : decode cL_law 235 = .ok (.iaload, 1) := by decide +kernel
theorem dL_law_236 : decode cL_law 236 = .ok (.aload_n 0, 1) := by decide +kernel
theorem dL_law_237 : decode cL_law 237 = .ok (.iload 4, 2) := by decide +kernel
theorem dL_law_239 : decode cL_law 239 = .ok (.iconst 2, 1) := by decide +kernel
theorem dL_law_240 : decode cL_law 240 = .ok (.iadd, 1) := by decide +kernel
theorem dL_law_241 : decode cL_law 241 = .ok (.iaload, 1) := by decide +kernel
theorem dL_law_242 : decode cL_law 242 = .ok (.aload_n 3, 1) := by decide +kernel
theorem dL_law_243 : decode cL_law 243 = .ok (.invokestatic 113, 3) := by decide +kernel
theorem dL_law_246 : decode cL_law 246 = .ok (.istore 5, 2) := by decide +kernel
theorem dL_law_248 : decode cL_law 248 = .ok (.aload_n 2, 1) := by decide +kernel
theorem dL_law_249 : decode cL_law 249 = .ok (.aload_n 0, 1) := by decide +kernel
theorem dL_law_250 : decode cL_law 250 = .ok (.iload 4, 2) := by decide +kernel
theorem dL_law_252 : decode cL_law 252 = .ok (.iconst 1, 1) := by decide +kernel
theorem dL_law_253 : decode cL_law 253 = .ok (.iadd, 1) := by decide +kernel
theorem dL_law_254 : decode cL_law 254 = .ok (.iaload, 1) := by decide +kernel
theorem dL_law_255 : decode cL_law 255 = .ok (.aload_n 0, 1) := by decide +kernel
theorem dL_law_256 : decode cL_law 256 = .ok (.iload 4, 2) := by decide +kernel
theorem dL_law_258 : decode cL_law 258 = .ok (.iconst 2, 1) := by decide +kernel
theorem dL_law_259 : decode cL_law 259 = .ok (.iadd, 1) := by decide +kernel
theorem dL_law_260 : decode cL_law 260 = .ok (.iaload, 1) := by decide +kernel
theorem dL_law_261 : decode cL_law 261 = .ok (.invokevirtual 116, 3) := by decide +kernel
theorem dL_law_264 : decode cL_law 264 = .ok (.istore 6, 2) := by decide +kernel
theorem dL_law_266 : decode cL_law 266 = .ok (.aload_n 2, 1) := by decide +kernel
theorem dL_law_267 : decode cL_law 267 = .ok (.invokevirtual 105, 3) := by decide +kernel
theorem dL_law_270 : decode cL_law 270 = .ok (.iload 5, 2) := by decide +kernel
theorem dL_law_272 : decode cL_law 272 = .ok (.if_icmp .eq 5, 3) := by decide +kernel
theorem dL_law_275 : decode cL_law 275 = .ok (.iconst 0, 1) := by decide +kernel
theorem dL_law_276 : decode cL_law 276 = .ok (.ireturn, 1) := by decide +kernel
theorem dL_law_277 : decode cL_law 277 = .ok (.iload 5, 2) := by decide +kernel
theorem dL_law_279 : decode cL_law 279 = .ok (.ifCond .ne 22, 3) := by decide +kernel
theorem dL_law_282 : decode cL_law 282 = .ok (.aload_n 3, 1) := by decide +kernel
theorem dL_law_283 : decode cL_law 283 = .ok (.iconst 0, 1) := by decide +kernel
theorem dL_law_284 : decode cL_law 284 = .ok (.laload, 1) := by decide +kernel
theorem dL_law_285 : decode cL_law 285 = .ok (.iload 6, 2) := by decide +kernel
theorem dL_law_287 : decode cL_law 287 = .ok (.ifCond .eq 7, 3) := by decide +kernel
theorem dL_law_290 : decode cL_law 290 = .ok (.lconst 1, 1) := by decide +kernel
theorem dL_law_291 : decode cL_law 291 = .ok (.goto 4, 3) := by decide +kernel
theorem dL_law_294 : decode cL_law 294 = .ok (.lconst 0, 1) := by decide +kernel
theorem dL_law_295 : decode cL_law 295 = .ok (.lcmp, 1) := by decide +kernel
theorem dL_law_296 : decode cL_law 296 = .ok (.ifCond .eq 5, 3) := by decide +kernel
theorem dL_law_299 : decode cL_law 299 = .ok (.iconst 0, 1) := by decide +kernel
theorem dL_law_300 : decode cL_law 300 = .ok (.ireturn, 1) := by decide +kernel
theorem dL_law_301 : decode cL_law 301 = .ok (.goto 1361, 3) := by decide +kernel
theorem dL_law_304 : decode cL_law 304 = .ok (.aload_n 1, 1) := by decide +kernel
theorem dL_law_305 : decode cL_law 305 = .ok (.aload_n 0, 1) := by decide +kernel
theorem dL_law_306 : decode cL_law 306 = .ok (.iload 4, 2) := by decide +kernel
theorem dL_law_308 : decode cL_law 308 = .ok (.iconst 1, 1) := by decide +kernel
theorem dL_law_309 : decode cL_law 309 = .ok (.iadd, 1) := by decide +kernel
theorem dL_law_310 : decode cL_law 310 = .ok (.iaload, 1) := by decide +kernel
theorem dL_law_311 : decode cL_law 311 = .ok (.aload_n 3, 1) := by decide +kernel
theorem dL_law_312 : decode cL_law 312 = .ok (.invokestatic 117, 3) := by decide +kernel
theorem dL_law_315 : decode cL_law 315 = .ok (.istore 5, 2) := by decide +kernel
theorem dL_law_317 : decode cL_law 317 = .ok (.aload_n 2, 1) := by decide +kernel
theorem dL_law_318 : decode cL_law 318 = .ok (.aload_n 0, 1) := by decide +kernel
theorem dL_law_319 : decode cL_law 319 = .ok (.iload 4, 2) := by decide +kernel
theorem dL_law_321 : decode cL_law 321 = .ok (.iconst 1, 1) := by decide +kernel
theorem dL_law_322 : decode cL_law 322 = .ok (.iadd, 1) := by decide +kernel
theorem dL_law_323 : decode cL_law 323 = .ok (.iaload, 1) := by decide +kernel
theorem dL_law_324 : decode cL_law 324 = .ok (.invokevirtual 120, 3) := by decide +kernel
theorem dL_law_327 : decode cL_law 327 = .ok (.istore 6, 2) := by decide +kernel
theorem dL_law_329 : decode cL_law 329 = .ok (.aload_n 2, 1) := by decide +kernel
theorem dL_law_330 : decode cL_law 330 = .ok (.invokevirtual 105, 3) := by decide +kernel
theorem dL_law_333 : decode cL_law 333 = .ok (.iload 5, 2) := by decide +kernel
theorem dL_law_335 : decode cL_law 335 = .ok (.if_icmp .eq 5, 3) := by decide +kernel
theorem dL_law_338 : decode cL_law 338 = .ok (.iconst 0, 1) := by decide +kernel
theorem dL_law_339 : decode cL_law 339 = .ok (.ireturn, 1) := by decide +kernel
theorem dL_law_340 : decode cL_law 340 = .ok (.iload 5, 2) := by decide +kernel
theorem dL_law_342 : decode cL_law 342 = .ok (.ifCond .ne 15, 3) := by decide +kernel
theorem dL_law_345 : decode cL_law 345 = .ok (.aload_n 3, 1) := by decide +kernel
theorem dL_law_346 : decode cL_law 346 = .ok (.iconst 0, 1) := by decide +kernel
theorem dL_law_347 : decode cL_law 347 = .ok (.laload, 1) := by decide +kernel
theorem dL_law_348 : decode cL_law 348 = .ok (.iload 6, 2) := by decide +kernel
theorem dL_law_350 : decode cL_law 350 = .ok (.i2l, 1) := by decide +kernel
theorem dL_law_351 : decode cL_law 351 = .ok (.lcmp, 1) := by decide +kernel
theorem dL_law_352 : decode cL_law 352 = .ok (.ifCond .eq 5, 3) := by decide +kernel
theorem dL_law_355 : decode cL_law 355 = .ok (.iconst 0, 1) := by decide +kernel
theorem dL_law_356 : decode cL_law 356 = .ok (.ireturn, 1) := by decide +kernel
theorem dL_law_357 : decode cL_law 357 = .ok (.goto 1305, 3) := by decide +kernel
theorem dL_law_360 : decode cL_law 360 = .ok (.aload_n 1, 1) := by decide +kernel
theorem dL_law_361 : decode cL_law 361 = .ok (.aload_n 3, 1) := by decide +kernel
theorem dL_law_362 : decode cL_law 362 = .ok (.invokestatic 121, 3) := by decide +kernel
theorem dL_law_365 : decode cL_law 365 = .ok (.istore 5, 2) := by decide +kernel
theorem dL_law_367 : decode cL_law 367 = .ok (.aload_n 2, 1) := by decide +kernel
theorem dL_law_368 : decode cL_law 368 = .ok (.invokevirtual 123, 3) := by decide +kernel
theorem dL_law_371 : decode cL_law 371 = .ok (.istore 6, 2) := by decide +kernel
theorem dL_law_373 : decode cL_law 373 = .ok (.aload_n 2, 1) := by decide +kernel
theorem dL_law_374 : decode cL_law 374 = .ok (.invokevirtual 105, 3) := by decide +kernel
theorem dL_law_377 : decode cL_law 377 = .ok (.iload 5, 2) := by decide +kernel
theorem dL_law_379 : decode cL_law 379 = .ok (.if_icmp .eq 5, 3) := by decide +kernel
theorem dL_law_382 : decode cL_law 382 = .ok (.iconst 0, 1) := by decide +kernel
theorem dL_law_383 : decode cL_law 383 = .ok (.ireturn, 1) := by decide +kernel
theorem dL_law_384 : decode cL_law 384 = .ok (.iload 5, 2) := by decide +kernel
theorem dL_law_386 : decode cL_law 386 = .ok (.ifCond .ne 15, 3) := by decide +kernel
theorem dL_law_389 : decode cL_law 389 = .ok (.aload_n 3, 1) := by decide +kernel
theorem dL_law_390 : decode cL_law 390 = .ok (.iconst 0, 1) := by decide +kernel
theorem dL_law_391 : decode cL_law 391 = .ok (.laload, 1) := by decide +kernel
theorem dL_law_392 : decode cL_law 392 = .ok (.iload 6, 2) := by decide +kernel
theorem dL_law_394 : decode cL_law 394 = .ok (.i2l, 1) := by decide +kernel
theorem dL_law_395 : decode cL_law 395 = .ok (.lcmp, 1) := by decide +kernel
theorem dL_law_396 : decode cL_law 396 = .ok (.ifCond .eq 5, 3) := by decide +kernel
theorem dL_law_399 : decode cL_law 399 = .ok (.iconst 0, 1) := by decide +kernel
theorem dL_law_400 : decode cL_law 400 = .ok (.ireturn, 1) := by decide +kernel
theorem dL_law_401 : decode cL_law 401 = .ok (.goto 1261, 3) := by decide +kernel
theorem dL_law_404 : decode cL_law 404 = .ok (.aload_n 1, 1) := by decide +kernel
theorem dL_law_405 : decode cL_law 405 = .ok (.aload_n 3, 1) := by decide +kernel
theorem dL_law_406 : decode cL_law 406 = .ok (.invokestatic 124, 3) := by decide +kernel
theorem dL_law_409 : decode cL_law 409 = .ok (.istore 5, 2) := by decide +kernel
theorem dL_law_411 : decode cL_law 411 = .ok (.aload_n 2, 1) := by decide +kernel
theorem dL_law_412 : decode cL_law 412 = .ok (.invokevirtual 126, 3) := by decide +kernel
theorem dL_law_415 : decode cL_law 415 = .ok (.istore 6, 2) := by decide +kernel
theorem dL_law_417 : decode cL_law 417 = .ok (.aload_n 2, 1) := by decide +kernel
theorem dL_law_418 : decode cL_law 418 = .ok (.invokevirtual 105, 3) := by decide +kernel
theorem dL_law_421 : decode cL_law 421 = .ok (.iload 5, 2) := by decide +kernel
theorem dL_law_423 : decode cL_law 423 = .ok (.if_icmp .eq 5, 3) := by decide +kernel
theorem dL_law_426 : decode cL_law 426 = .ok (.iconst 0, 1) := by decide +kernel
theorem dL_law_427 : decode cL_law 427 = .ok (.ireturn, 1) := by decide +kernel
theorem dL_law_428 : decode cL_law 428 = .ok (.iload 5, 2) := by decide +kernel
theorem dL_law_430 : decode cL_law 430 = .ok (.ifCond .ne 15, 3) := by decide +kernel
theorem dL_law_433 : decode cL_law 433 = .ok (.aload_n 3, 1) := by decide +kernel
theorem dL_law_434 : decode cL_law 434 = .ok (.iconst 0, 1) := by decide +kernel
theorem dL_law_435 : decode cL_law 435 = .ok (.laload, 1) := by decide +kernel
theorem dL_law_436 : decode cL_law 436 = .ok (.iload 6, 2) := by decide +kernel
theorem dL_law_438 : decode cL_law 438 = .ok (.i2l, 1) := by decide +kernel
theorem dL_law_439 : decode cL_law 439 = .ok (.lcmp, 1) := by decide +kernel
theorem dL_law_440 : decode cL_law 440 = .ok (.ifCond .eq 5, 3) := by decide +kernel
theorem dL_law_443 : decode cL_law 443 = .ok (.iconst 0, 1) := by decide +kernel
theorem dL_law_444 : decode cL_law 444 = .ok (.ireturn, 1) := by decide +kernel
theorem dL_law_445 : decode cL_law 445 = .ok (.goto 1217, 3) := by decide +kernel
theorem dL_law_448 : decode cL_law 448 = .ok (.aload_n 1, 1) := by decide +kernel
theorem dL_law_449 : decode cL_law 449 = .ok (.aload_n 3, 1) := by decide +kernel
theorem dL_law_450 : decode cL_law 450 = .ok (.invokestatic 127, 3) := by decide +kernel
theorem dL_law_453 : decode cL_law 453 = .ok (.istore 5, 2) := by decide +kernel
theorem dL_law_455 : decode cL_law 455 = .ok (.aload_n 2, 1) := by decide +kernel
theorem dL_law_456 : decode cL_law 456 = .ok (.invokevirtual 129, 3) := by decide +kernel
theorem dL_law_459 : decode cL_law 459 = .ok (.istore 6, 2) := by decide +kernel
theorem dL_law_461 : decode cL_law 461 = .ok (.aload_n 2, 1) := by decide +kernel
theorem dL_law_462 : decode cL_law 462 = .ok (.invokevirtual 105, 3) := by decide +kernel
theorem dL_law_465 : decode cL_law 465 = .ok (.iload 5, 2) := by decide +kernel
theorem dL_law_467 : decode cL_law 467 = .ok (.if_icmp .eq 5, 3) := by decide +kernel
theorem dL_law_470 : decode cL_law 470 = .ok (.iconst 0, 1) := by decide +kernel
theorem dL_law_471 : decode cL_law 471 = .ok (.ireturn, 1) := by decide +kernel
theorem dL_law_472 : decode cL_law 472 = .ok (.iload 5, 2) := by decide +kernel
theorem dL_law_474 : decode cL_law 474 = .ok (.ifCond .ne 15, 3) := by decide +kernel
theorem dL_law_477 : decode cL_law 477 = .ok (.aload_n 3, 1) := by decide +kernel
theorem dL_law_478 : decode cL_law 478 = .ok (.iconst 0, 1) := by decide +kernel
theorem dL_law_479 : decode cL_law 479 = .ok (.laload, 1) := by decide +kernel
theorem dL_law_480 : decode cL_law 480 = .ok (.iload 6, 2) := by decide +kernel
theorem dL_law_482 : decode cL_law 482 = .ok (.i2l, 1) := by decide +kernel
theorem dL_law_483 : decode cL_law 483 = .ok (.lcmp, 1) := by decide +kernel
theorem dL_law_484 : decode cL_law 484 = .ok (.ifCond .eq 5, 3) := by decide +kernel
theorem dL_law_487 : decode cL_law 487 = .ok (.iconst 0, 1) := by decide +kernel
theorem dL_law_488 : decode cL_law 488 = .ok (.ireturn, 1) := by decide +kernel
theorem dL_law_489 : decode cL_law 489 = .ok (.goto 1173, 3) := by decide +kernel
theorem dL_law_492 : decode cL_law 492 = .ok (.aload_n 1, 1) := by decide +kernel
theorem dL_law_493 : decode cL_law 493 = .ok (.aload_n 0, 1) := by decide +kernel
theorem dL_law_494 : decode cL_law 494 = .ok (.iload 4, 2) := by decide +kernel
theorem dL_law_496 : decode cL_law 496 = .ok (.iconst 1, 1) := by decide +kernel
theorem dL_law_497 : decode cL_law 497 = .ok (.iadd, 1) := by decide +kernel
theorem dL_law_498 : decode cL_law 498 = .ok (.iaload, 1) := by decide +kernel
theorem dL_law_499 : decode cL_law 499 = .ok (.aload_n 3, 1) := by decide +kernel
theorem dL_law_500 : decode cL_law 500 = .ok (.invokestatic 130, 3) := by decide +kernel
theorem dL_law_503 : decode cL_law 503 = .ok (.istore 5, 2) := by decide +kernel
theorem dL_law_505 : decode cL_law 505 = .ok (.aload_n 2, 1) := by decide +kernel
theorem dL_law_506 : decode cL_law 506 = .ok (.aload_n 0, 1) := by decide +kernel
theorem dL_law_507 : decode cL_law 507 = .ok (.iload 4, 2) := by decide +kernel
theorem dL_law_509 : decode cL_law 509 = .ok (.iconst 1, 1) := by decide +kernel
theorem dL_law_510 : decode cL_law 510 = .ok (.iadd, 1) := by decide +kernel
theorem dL_law_511 : decode cL_law 511 = .ok (.iaload, 1) := by decide +kernel
theorem dL_law_512 : decode cL_law 512 = .ok (.invokevirtual 132, 3) := by decide +kernel
theorem dL_law_515 : decode cL_law 515 = .ok (.istore 6, 2) := by decide +kernel
theorem dL_law_517 : decode cL_law 517 = .ok (.aload_n 2, 1) := by decide +kernel
theorem dL_law_518 : decode cL_law 518 = .ok (.invokevirtual 105, 3) := by decide +kernel
theorem dL_law_521 : decode cL_law 521 = .ok (.iload 5, 2) := by decide +kernel
theorem dL_law_523 : decode cL_law 523 = .ok (.if_icmp .eq 5, 3) := by decide +kernel
theorem dL_law_526 : decode cL_law 526 = .ok (.iconst 0, 1) := by decide +kernel
theorem dL_law_527 : decode cL_law 527 = .ok (.ireturn, 1) := by decide +kernel
theorem dL_law_528 : decode cL_law 528 = .ok (.iload 5, 2) := by decide +kernel
theorem dL_law_530 : decode cL_law 530 = .ok (.ifCond .ne 15, 3) := by decide +kernel
theorem dL_law_533 : decode cL_law 533 = .ok (.aload_n 3, 1) := by decide +kernel
theorem dL_law_534 : decode cL_law 534 = .ok (.iconst 0, 1) := by decide +kernel
theorem dL_law_535 : decode cL_law 535 = .ok (.laload, 1) := by decide +kernel
theorem dL_law_536 : decode cL_law 536 = .ok (.iload 6, 2) := by decide +kernel
theorem dL_law_538 : decode cL_law 538 = .ok (.i2l, 1) := by decide +kernel
theorem dL_law_539 : decode cL_law 539 = .ok (.lcmp, 1) := by decide +kernel
theorem dL_law_540 : decode cL_law 540 = .ok (.ifCond .eq 5, 3) := by decide +kernel
theorem dL_law_543 : decode cL_law 543 = .ok (.iconst 0, 1) := by decide +kernel
theorem dL_law_544 : decode cL_law 544 = .ok (.ireturn, 1) := by decide +kernel
theorem dL_law_545 : decode cL_law 545 = .ok (.goto 1117, 3) := by decide +kernel
theorem dL_law_548 : decode cL_law 548 = .ok (.aload_n 1, 1) := by decide +kernel
theorem dL_law_549 : decode cL_law 549 = .ok (.invokevirtual 133, 3) := by decide +kernel
theorem dL_law_552 : decode cL_law 552 = .ok (.aload_n 2, 1) := by decide +kernel
theorem dL_law_553 : decode cL_law 553 = .ok (.invokevirtual 136, 3) := by decide +kernel
theorem dL_law_556 : decode cL_law 556 = .ok (.if_icmp .eq 1106, 3) := by decide +kernel
theorem dL_law_559 : decode cL_law 559 = .ok (.iconst 0, 1) := by decide +kernel
theorem dL_law_560 : decode cL_law 560 = .ok (.ireturn, 1) := by decide +kernel
theorem dL_law_561 : decode cL_law 561 = .ok (.aload_n 1, 1) := by decide +kernel
theorem dL_law_562 : decode cL_law 562 = .ok (.aload_n 0, 1) := by decide +kernel
theorem dL_law_563 : decode cL_law 563 = .ok (.iload 4, 2) := by decide +kernel
theorem dL_law_565 : decode cL_law 565 = .ok (.iconst 1, 1) := by decide +kernel
theorem dL_law_566 : decode cL_law 566 = .ok (.iadd, 1) := by decide +kernel
theorem dL_law_567 : decode cL_law 567 = .ok (.iaload, 1) := by decide +kernel
theorem dL_law_568 : decode cL_law 568 = .ok (.aload_n 3, 1) := by decide +kernel
theorem dL_law_569 : decode cL_law 569 = .ok (.invokestatic 137, 3) := by decide +kernel
theorem dL_law_572 : decode cL_law 572 = .ok (.istore 5, 2) := by decide +kernel
theorem dL_law_574 : decode cL_law 574 = .ok (.aload_n 2, 1) := by decide +kernel
theorem dL_law_575 : decode cL_law 575 = .ok (.aload_n 0, 1) := by decide +kernel
theorem dL_law_576 : decode cL_law 576 = .ok (.iload 4, 2) := by decide +kernel
theorem dL_law_578 : decode cL_law 578 = .ok (.iconst 1, 1) := by decide +kernel
theorem dL_law_579 : decode cL_law 579 = .ok (.iadd, 1) := by decide +kernel
theorem dL_law_580 : decode cL_law 580 = .ok (.iaload, 1) := by decide +kernel
theorem dL_law_581 : decode cL_law 581 = .ok (.invokevirtual 139, 3) := by decide +kernel
theorem dL_law_584 : decode cL_law 584 = .ok (.istore 6, 2) := by decide +kernel
theorem dL_law_586 : decode cL_law 586 = .ok (.aload_n 2, 1) := by decide +kernel
theorem dL_law_587 : decode cL_law 587 = .ok (.invokevirtual 105, 3) := by decide +kernel
theorem dL_law_590 : decode cL_law 590 = .ok (.iload 5, 2) := by decide +kernel
theorem dL_law_592 : decode cL_law 592 = .ok (.if_icmp .eq 5, 3) := by decide +kernel
theorem dL_law_595 : decode cL_law 595 = .ok (.iconst 0, 1) := by decide +kernel
theorem dL_law_596 : decode cL_law 596 = .ok (.ireturn, 1) := by decide +kernel
theorem dL_law_597 : decode cL_law 597 = .ok (.iload 5, 2) := by decide +kernel
theorem dL_law_599 : decode cL_law 599 = .ok (.ifCond .ne 15, 3) := by decide +kernel
theorem dL_law_602 : decode cL_law 602 = .ok (.aload_n 3, 1) := by decide +kernel
theorem dL_law_603 : decode cL_law 603 = .ok (.iconst 0, 1) := by decide +kernel
theorem dL_law_604 : decode cL_law 604 = .ok (.laload, 1) := by decide +kernel
theorem dL_law_605 : decode cL_law 605 = .ok (.iload 6, 2) := by decide +kernel
theorem dL_law_607 : decode cL_law 607 = .ok (.i2l, 1) := by decide +kernel
theorem dL_law_608 : decode cL_law 608 = .ok (.lcmp, 1) := by decide +kernel
theorem dL_law_609 : decode cL_law 609 = .ok (.ifCond .eq 5, 3) := by decide +kernel
theorem dL_law_612 : decode cL_law 612 = .ok (.iconst 0, 1) := by decide +kernel
theorem dL_law_613 : decode cL_law 613 = .ok (.ireturn, 1) := by decide +kernel
theorem dL_law_614 : decode cL_law 614 = .ok (.goto 1048, 3) := by decide +kernel
theorem dL_law_617 : decode cL_law 617 = .ok (.aload_n 1, 1) := by decide +kernel
theorem dL_law_618 : decode cL_law 618 = .ok (.aload_n 0, 1) := by decide +kernel
theorem dL_law_619 : decode cL_law 619 = .ok (.iload 4, 2) := by decide +kernel
theorem dL_law_621 : decode cL_law 621 = .ok (.iconst 1, 1) := by decide +kernel
theorem dL_law_622 : decode cL_law 622 = .ok (.iadd, 1) := by decide +kernel
theorem dL_law_623 : decode cL_law 623 = .ok (.iaload, 1) := by decide +kernel
theorem dL_law_624 : decode cL_law 624 = .ok (.aload_n 3, 1) := by decide +kernel
theorem dL_law_625 : decode cL_law 625 = .ok (.invokestatic 140, 3) := by decide +kernel
theorem dL_law_628 : decode cL_law 628 = .ok (.istore 5, 2) := by decide +kernel
theorem dL_law_630 : decode cL_law 630 = .ok (.aload_n 2, 1) := by decide +kernel
theorem dL_law_631 : decode cL_law 631 = .ok (.aload_n 0, 1) := by decide +kernel
theorem dL_law_632 : decode cL_law 632 = .ok (.iload 4, 2) := by decide +kernel
theorem dL_law_634 : decode cL_law 634 = .ok (.iconst 1, 1) := by decide +kernel
theorem dL_law_635 : decode cL_law 635 = .ok (.iadd, 1) := by decide +kernel
theorem dL_law_636 : decode cL_law 636 = .ok (.iaload, 1) := by decide +kernel
theorem dL_law_637 : decode cL_law 637 = .ok (.invokevirtual 142, 3) := by decide +kernel
theorem dL_law_640 : decode cL_law 640 = .ok (.istore 6, 2) := by decide +kernel
theorem dL_law_642 : decode cL_law 642 = .ok (.aload_n 2, 1) := by decide +kernel
theorem dL_law_643 : decode cL_law 643 = .ok (.invokevirtual 105, 3) := by decide +kernel
theorem dL_law_646 : decode cL_law 646 = .ok (.iload 5, 2) := by decide +kernel
theorem dL_law_648 : decode cL_law 648 = .ok (.if_icmp .eq 5, 3) := by decide +kernel
theorem dL_law_651 : decode cL_law 651 = .ok (.iconst 0, 1) := by decide +kernel
theorem dL_law_652 : decode cL_law 652 = .ok (.ireturn, 1) := by decide +kernel
theorem dL_law_653 : decode cL_law 653 = .ok (.iload 5, 2) := by decide +kernel
theorem dL_law_655 : decode cL_law 655 = .ok (.ifCond .ne 15, 3) := by decide +kernel
theorem dL_law_658 : decode cL_law 658 = .ok (.aload_n 3, 1) := by decide +kernel
theorem dL_law_659 : decode cL_law 659 = .ok (.iconst 0, 1) := by decide +kernel
theorem dL_law_660 : decode cL_law 660 = .ok (.laload, 1) := by decide +kernel
theorem dL_law_661 : decode cL_law 661 = .ok (.iload 6, 2) := by decide +kernel
theorem dL_law_663 : decode cL_law 663 = .ok (.i2l, 1) := by decide +kernel
theorem dL_law_664 : decode cL_law 664 = .ok (.lcmp, 1) := by decide +kernel
theorem dL_law_665 : decode cL_law 665 = .ok (.ifCond .eq 5, 3) := by decide +kernel
theorem dL_law_668 : decode cL_law 668 = .ok (.iconst 0, 1) := by decide +kernel
theorem dL_law_669 : decode cL_law 669 = .ok (.ireturn, 1) := by decide +kernel
theorem dL_law_670 : decode cL_law 670 = .ok (.goto 992, 3) := by decide +kernel
theorem dL_law_673 : decode cL_law 673 = .ok (.aload_n 1, 1) := by decide +kernel
theorem dL_law_674 : decode cL_law 674 = .ok (.aload_n 0, 1) := by decide +kernel
theorem dL_law_675 : decode cL_law 675 = .ok (.iload 4, 2) := by decide +kernel
theorem dL_law_677 : decode cL_law 677 = .ok (.iconst 1, 1) := by decide +kernel
theorem dL_law_678 : decode cL_law 678 = .ok (.iadd, 1) := by decide +kernel
theorem dL_law_679 : decode cL_law 679 = .ok (.iaload, 1) := by decide +kernel
theorem dL_law_680 : decode cL_law 680 = .ok (.aload_n 0, 1) := by decide +kernel
theorem dL_law_681 : decode cL_law 681 = .ok (.iload 4, 2) := by decide +kernel
theorem dL_law_683 : decode cL_law 683 = .ok (.iconst 2, 1) := by decide +kernel
theorem dL_law_684 : decode cL_law 684 = .ok (.iadd, 1) := by decide +kernel
theorem dL_law_685 : decode cL_law 685 = .ok (.iaload, 1) := by decide +kernel
theorem dL_law_686 : decode cL_law 686 = .ok (.aload_n 3, 1) := by decide +kernel
theorem dL_law_687 : decode cL_law 687 = .ok (.invokestatic 143, 3) := by decide +kernel
theorem dL_law_690 : decode cL_law 690 = .ok (.istore 5, 2) := by decide +kernel
theorem dL_law_692 : decode cL_law 692 = .ok (.aload_n 2, 1) := by decide +kernel
theorem dL_law_693 : decode cL_law 693 = .ok (.aload_n 0, 1) := by decide +kernel
theorem dL_law_694 : decode cL_law 694 = .ok (.iload 4, 2) := by decide +kernel
theorem dL_law_696 : decode cL_law 696 = .ok (.iconst 1, 1) := by decide +kernel
theorem dL_law_697 : decode cL_law 697 = .ok (.iadd, 1) := by decide +kernel
theorem dL_law_698 : decode cL_law 698 = .ok (.iaload, 1) := by decide +kernel
theorem dL_law_699 : decode cL_law 699 = .ok (.aload_n 0, 1) := by decide +kernel
theorem dL_law_700 : decode cL_law 700 = .ok (.iload 4, 2) := by decide +kernel
theorem dL_law_702 : decode cL_law 702 = .ok (.iconst 2, 1) := by decide +kernel
theorem dL_law_703 : decode cL_law 703 = .ok (.iadd, 1) := by decide +kernel
theorem dL_law_704 : decode cL_law 704 = .ok (.iaload, 1) := by decide +kernel
theorem dL_law_705 : decode cL_law 705 = .ok (.invokevirtual 145, 3) := by decide +kernel
theorem dL_law_708 : decode cL_law 708 = .ok (.istore 6, 2) := by decide +kernel
theorem dL_law_710 : decode cL_law 710 = .ok (.aload_n 2, 1) := by decide +kernel
theorem dL_law_711 : decode cL_law 711 = .ok (.invokevirtual 105, 3) := by decide +kernel
theorem dL_law_714 : decode cL_law 714 = .ok (.iload 5, 2) := by decide +kernel
theorem dL_law_716 : decode cL_law 716 = .ok (.if_icmp .eq 5, 3) := by decide +kernel
theorem dL_law_719 : decode cL_law 719 = .ok (.iconst 0, 1) := by decide +kernel
theorem dL_law_720 : decode cL_law 720 = .ok (.ireturn, 1) := by decide +kernel
theorem dL_law_721 : decode cL_law 721 = .ok (.iload 5, 2) := by decide +kernel
theorem dL_law_723 : decode cL_law 723 = .ok (.ifCond .ne 15, 3) := by decide +kernel
theorem dL_law_726 : decode cL_law 726 = .ok (.aload_n 3, 1) := by decide +kernel
theorem dL_law_727 : decode cL_law 727 = .ok (.iconst 0, 1) := by decide +kernel
theorem dL_law_728 : decode cL_law 728 = .ok (.laload, 1) := by decide +kernel
theorem dL_law_729 : decode cL_law 729 = .ok (.iload 6, 2) := by decide +kernel
theorem dL_law_731 : decode cL_law 731 = .ok (.i2l, 1) := by decide +kernel
theorem dL_law_732 : decode cL_law 732 = .ok (.lcmp, 1) := by decide +kernel
theorem dL_law_733 : decode cL_law 733 = .ok (.ifCond .eq 5, 3) := by decide +kernel
theorem dL_law_736 : decode cL_law 736 = .ok (.iconst 0, 1) := by decide +kernel
theorem dL_law_737 : decode cL_law 737 = .ok (.ireturn, 1) := by decide +kernel
theorem dL_law_738 : decode cL_law 738 = .ok (.goto 924, 3) := by decide +kernel
theorem dL_law_741 : decode cL_law 741 = .ok (.aload_n 1, 1) := by decide +kernel
theorem dL_law_742 : decode cL_law 742 = .ok (.aload_n 0, 1) := by decide +kernel
theorem dL_law_743 : decode cL_law 743 = .ok (.iload 4, 2) := by decide +kernel
theorem dL_law_745 : decode cL_law 745 = .ok (.iconst 1, 1) := by decide +kernel
theorem dL_law_746 : decode cL_law 746 = .ok (.iadd, 1) := by decide +kernel
theorem dL_law_747 : decode cL_law 747 = .ok (.iaload, 1) := by decide +kernel
theorem dL_law_748 : decode cL_law 748 = .ok (.aload_n 0, 1) := by decide +kernel
theorem dL_law_749 : decode cL_law 749 = .ok (.iload 4, 2) := by decide +kernel
theorem dL_law_751 : decode cL_law 751 = .ok (.iconst 2, 1) := by decide +kernel
theorem dL_law_752 : decode cL_law 752 = .ok (.iadd, 1) := by decide +kernel
theorem dL_law_753 : decode cL_law 753 = .ok (.iaload, 1) := by decide +kernel
theorem dL_law_754 : decode cL_law 754 = .ok (.aload_n 3, 1) := by decide +kernel
theorem dL_law_755 : decode cL_law 755 = .ok (.invokestatic 146, 3) := by decide +kernel
theorem dL_law_758 : decode cL_law 758 = .ok (.istore 5, 2) := by decide +kernel
theorem dL_law_760 : decode cL_law 760 = .ok (.aload_n 2, 1) := by decide +kernel
theorem dL_law_761 : decode cL_law 761 = .ok (.aload_n 0, 1) := by decide +kernel
theorem dL_law_762 : decode cL_law 762 = .ok (.iload 4, 2) := by decide +kernel
theorem dL_law_764 : decode cL_law 764 = .ok (.iconst 1, 1) := by decide +kernel
theorem dL_law_765 : decode cL_law 765 = .ok (.iadd, 1) := by decide +kernel
theorem dL_law_766 : decode cL_law 766 = .ok (.iaload, 1) := by decide +kernel
theorem dL_law_767 : decode cL_law 767 = .ok (.aload_n 0, 1) := by decide +kernel
theorem dL_law_768 : decode cL_law 768 = .ok (.iload 4, 2) := by decide +kernel
theorem dL_law_770 : decode cL_law 770 = .ok (.iconst 2, 1) := by decide +kernel
theorem dL_law_771 : decode cL_law 771 = .ok (.iadd, 1) := by decide +kernel
theorem dL_law_772 : decode cL_law 772 = .ok (.iaload, 1) := by decide +kernel
theorem dL_law_773 : decode cL_law 773 = .ok (.invokevirtual 148, 3) := by decide +kernel
theorem dL_law_776 : decode cL_law 776 = .ok (.istore 6, 2) := by decide +kernel
theorem dL_law_778 : decode cL_law 778 = .ok (.aload_n 2, 1) := by decide +kernel
theorem dL_law_779 : decode cL_law 779 = .ok (.invokevirtual 105, 3) := by decide +kernel
theorem dL_law_782 : decode cL_law 782 = .ok (.iload 5, 2) := by decide +kernel
theorem dL_law_784 : decode cL_law 784 = .ok (.if_icmp .eq 5, 3) := by decide +kernel
theorem dL_law_787 : decode cL_law 787 = .ok (.iconst 0, 1) := by decide +kernel
theorem dL_law_788 : decode cL_law 788 = .ok (.ireturn, 1) := by decide +kernel
theorem dL_law_789 : decode cL_law 789 = .ok (.iload 5, 2) := by decide +kernel
theorem dL_law_791 : decode cL_law 791 = .ok (.ifCond .ne 15, 3) := by decide +kernel
theorem dL_law_794 : decode cL_law 794 = .ok (.aload_n 3, 1) := by decide +kernel
theorem dL_law_795 : decode cL_law 795 = .ok (.iconst 0, 1) := by decide +kernel
theorem dL_law_796 : decode cL_law 796 = .ok (.laload, 1) := by decide +kernel
theorem dL_law_797 : decode cL_law 797 = .ok (.iload 6, 2) := by decide +kernel
theorem dL_law_799 : decode cL_law 799 = .ok (.i2l, 1) := by decide +kernel
theorem dL_law_800 : decode cL_law 800 = .ok (.lcmp, 1) := by decide +kernel
theorem dL_law_801 : decode cL_law 801 = .ok (.ifCond .eq 5, 3) := by decide +kernel
theorem dL_law_804 : decode cL_law 804 = .ok (.iconst 0, 1) := by decide +kernel
theorem dL_law_805 : decode cL_law 805 = .ok (.ireturn, 1) := by decide +kernel
theorem dL_law_806 : decode cL_law 806 = .ok (.goto 856, 3) := by decide +kernel
theorem dL_law_809 : decode cL_law 809 = .ok (.aload_n 1, 1) := by decide +kernel
theorem dL_law_810 : decode cL_law 810 = .ok (.aload_n 0, 1) := by decide +kernel
theorem dL_law_811 : decode cL_law 811 = .ok (.iload 4, 2) := by decide +kernel
theorem dL_law_813 : decode cL_law 813 = .ok (.iconst 1, 1) := by decide +kernel
theorem dL_law_814 : decode cL_law 814 = .ok (.iadd, 1) := by decide +kernel
theorem dL_law_815 : decode cL_law 815 = .ok (.iaload, 1) := by decide +kernel
theorem dL_law_816 : decode cL_law 816 = .ok (.aload_n 0, 1) := by decide +kernel
theorem dL_law_817 : decode cL_law 817 = .ok (.iload 4, 2) := by decide +kernel
theorem dL_law_819 : decode cL_law 819 = .ok (.iconst 2, 1) := by decide +kernel
theorem dL_law_820 : decode cL_law 820 = .ok (.iadd, 1) := by decide +kernel
theorem dL_law_821 : decode cL_law 821 = .ok (.iaload, 1) := by decide +kernel
theorem dL_law_822 : decode cL_law 822 = .ok (.aload_n 3, 1) := by decide +kernel
theorem dL_law_823 : decode cL_law 823 = .ok (.invokestatic 149, 3) := by decide +kernel
theorem dL_law_826 : decode cL_law 826 = .ok (.istore 5, 2) := by decide +kernel
theorem dL_law_828 : decode cL_law 828 = .ok (.aload_n 2, 1) := by decide +kernel
theorem dL_law_829 : decode cL_law 829 = .ok (.aload_n 0, 1) := by decide +kernel
theorem dL_law_830 : decode cL_law 830 = .ok (.iload 4, 2) := by decide +kernel
theorem dL_law_832 : decode cL_law 832 = .ok (.iconst 1, 1) := by decide +kernel
theorem dL_law_833 : decode cL_law 833 = .ok (.iadd, 1) := by decide +kernel
theorem dL_law_834 : decode cL_law 834 = .ok (.iaload, 1) := by decide +kernel
theorem dL_law_835 : decode cL_law 835 = .ok (.aload_n 0, 1) := by decide +kernel
theorem dL_law_836 : decode cL_law 836 = .ok (.iload 4, 2) := by decide +kernel
theorem dL_law_838 : decode cL_law 838 = .ok (.iconst 2, 1) := by decide +kernel
theorem dL_law_839 : decode cL_law 839 = .ok (.iadd, 1) := by decide +kernel
theorem dL_law_840 : decode cL_law 840 = .ok (.iaload, 1) := by decide +kernel
theorem dL_law_841 : decode cL_law 841 = .ok (.invokevirtual 151, 3) := by decide +kernel
theorem dL_law_844 : decode cL_law 844 = .ok (.istore 6, 2) := by decide +kernel
theorem dL_law_846 : decode cL_law 846 = .ok (.aload_n 2, 1) := by decide +kernel
theorem dL_law_847 : decode cL_law 847 = .ok (.invokevirtual 105, 3) := by decide +kernel
theorem dL_law_850 : decode cL_law 850 = .ok (.iload 5, 2) := by decide +kernel
theorem dL_law_852 : decode cL_law 852 = .ok (.if_icmp .eq 5, 3) := by decide +kernel
theorem dL_law_855 : decode cL_law 855 = .ok (.iconst 0, 1) := by decide +kernel
theorem dL_law_856 : decode cL_law 856 = .ok (.ireturn, 1) := by decide +kernel
theorem dL_law_857 : decode cL_law 857 = .ok (.iload 5, 2) := by decide +kernel
theorem dL_law_859 : decode cL_law 859 = .ok (.ifCond .ne 15, 3) := by decide +kernel
theorem dL_law_862 : decode cL_law 862 = .ok (.aload_n 3, 1) := by decide +kernel
theorem dL_law_863 : decode cL_law 863 = .ok (.iconst 0, 1) := by decide +kernel
theorem dL_law_864 : decode cL_law 864 = .ok (.laload, 1) := by decide +kernel
theorem dL_law_865 : decode cL_law 865 = .ok (.iload 6, 2) := by decide +kernel
theorem dL_law_867 : decode cL_law 867 = .ok (.i2l, 1) := by decide +kernel
theorem dL_law_868 : decode cL_law 868 = .ok (.lcmp, 1) := by decide +kernel
theorem dL_law_869 : decode cL_law 869 = .ok (.ifCond .eq 5, 3) := by decide +kernel
theorem dL_law_872 : decode cL_law 872 = .ok (.iconst 0, 1) := by decide +kernel
theorem dL_law_873 : decode cL_law 873 = .ok (.ireturn, 1) := by decide +kernel
theorem dL_law_874 : decode cL_law 874 = .ok (.goto 788, 3) := by decide +kernel
theorem dL_law_877 : decode cL_law 877 = .ok (.aload_n 1, 1) := by decide +kernel
theorem dL_law_878 : decode cL_law 878 = .ok (.aload_n 0, 1) := by decide +kernel
theorem dL_law_879 : decode cL_law 879 = .ok (.iload 4, 2) := by decide +kernel
theorem dL_law_881 : decode cL_law 881 = .ok (.iconst 1, 1) := by decide +kernel
theorem dL_law_882 : decode cL_law 882 = .ok (.iadd, 1) := by decide +kernel
theorem dL_law_883 : decode cL_law 883 = .ok (.iaload, 1) := by decide +kernel
theorem dL_law_884 : decode cL_law 884 = .ok (.aload_n 3, 1) := by decide +kernel
theorem dL_law_885 : decode cL_law 885 = .ok (.invokestatic 152, 3) := by decide +kernel
theorem dL_law_888 : decode cL_law 888 = .ok (.istore 5, 2) := by decide +kernel
theorem dL_law_890 : decode cL_law 890 = .ok (.aload_n 2, 1) := by decide +kernel
theorem dL_law_891 : decode cL_law 891 = .ok (.aload_n 0, 1) := by decide +kernel
theorem dL_law_892 : decode cL_law 892 = .ok (.iload 4, 2) := by decide +kernel
theorem dL_law_894 : decode cL_law 894 = .ok (.iconst 1, 1) := by decide +kernel
theorem dL_law_895 : decode cL_law 895 = .ok (.iadd, 1) := by decide +kernel
theorem dL_law_896 : decode cL_law 896 = .ok (.iaload, 1) := by decide +kernel
theorem dL_law_897 : decode cL_law 897 = .ok (.invokevirtual 154, 3) := by decide +kernel
theorem dL_law_900 : decode cL_law 900 = .ok (.istore 6, 2) := by decide +kernel
theorem dL_law_902 : decode cL_law 902 = .ok (.aload_n 2, 1) := by decide +kernel
theorem dL_law_903 : decode cL_law 903 = .ok (.invokevirtual 105, 3) := by decide +kernel
theorem dL_law_906 : decode cL_law 906 = .ok (.iload 5, 2) := by decide +kernel
theorem dL_law_908 : decode cL_law 908 = .ok (.if_icmp .eq 5, 3) := by decide +kernel
theorem dL_law_911 : decode cL_law 911 = .ok (.iconst 0, 1) := by decide +kernel
theorem dL_law_912 : decode cL_law 912 = .ok (.ireturn, 1) := by decide +kernel
theorem dL_law_913 : decode cL_law 913 = .ok (.iload 5, 2) := by decide +kernel
theorem dL_law_915 : decode cL_law 915 = .ok (.ifCond .ne 15, 3) := by decide +kernel
theorem dL_law_918 : decode cL_law 918 = .ok (.aload_n 3, 1) := by decide +kernel
theorem dL_law_919 : decode cL_law 919 = .ok (.iconst 0, 1) := by decide +kernel
theorem dL_law_920 : decode cL_law 920 = .ok (.laload, 1) := by decide +kernel
theorem dL_law_921 : decode cL_law 921 = .ok (.iload 6, 2) := by decide +kernel
theorem dL_law_923 : decode cL_law 923 = .ok (.i2l, 1) := by decide +kernel
theorem dL_law_924 : decode cL_law 924 = .ok (.lcmp, 1) := by decide +kernel
theorem dL_law_925 : decode cL_law 925 = .ok (.ifCond .eq 5, 3) := by decide +kernel
theorem dL_law_928 : decode cL_law 928 = .ok (.iconst 0, 1) := by decide +kernel
theorem dL_law_929 : decode cL_law 929 = .ok (.ireturn, 1) := by decide +kernel
theorem dL_law_930 : decode cL_law 930 = .ok (.goto 732, 3) := by decide +kernel
theorem dL_law_933 : decode cL_law 933 = .ok (.aload_n 1, 1) := by decide +kernel
theorem dL_law_934 : decode cL_law 934 = .ok (.aload_n 0, 1) := by decide +kernel
theorem dL_law_935 : decode cL_law 935 = .ok (.iload 4, 2) := by decide +kernel
theorem dL_law_937 : decode cL_law 937 = .ok (.iconst 1, 1) := by decide +kernel
theorem dL_law_938 : decode cL_law 938 = .ok (.iadd, 1) := by decide +kernel
theorem dL_law_939 : decode cL_law 939 = .ok (.iaload, 1) := by decide +kernel
theorem dL_law_940 : decode cL_law 940 = .ok (.aload_n 3, 1) := by decide +kernel
theorem dL_law_941 : decode cL_law 941 = .ok (.invokestatic 155, 3) := by decide +kernel
theorem dL_law_944 : decode cL_law 944 = .ok (.istore 5, 2) := by decide +kernel
theorem dL_law_946 : decode cL_law 946 = .ok (.aload_n 2, 1) := by decide +kernel
theorem dL_law_947 : decode cL_law 947 = .ok (.aload_n 0, 1) := by decide +kernel
theorem dL_law_948 : decode cL_law 948 = .ok (.iload 4, 2) := by decide +kernel
theorem dL_law_950 : decode cL_law 950 = .ok (.iconst 1, 1) := by decide +kernel
theorem dL_law_951 : decode cL_law 951 = .ok (.iadd, 1) := by decide +kernel
theorem dL_law_952 : decode cL_law 952 = .ok (.iaload, 1) := by decide +kernel
theorem dL_law_953 : decode cL_law 953 = .ok (.invokevirtual 157, 3) := by decide +kernel
theorem dL_law_956 : decode cL_law 956 = .ok (.istore 6, 2) := by decide +kernel
theorem dL_law_958 : decode cL_law 958 = .ok (.aload_n 2, 1) := by decide +kernel
theorem dL_law_959 : decode cL_law 959 = .ok (.invokevirtual 105, 3) := by decide +kernel
theorem dL_law_962 : decode cL_law 962 = .ok (.iload 5, 2) := by decide +kernel
theorem dL_law_964 : decode cL_law 964 = .ok (.if_icmp .eq 5, 3) := by decide +kernel
theorem dL_law_967 : decode cL_law 967 = .ok (.iconst 0, 1) := by decide +kernel
theorem dL_law_968 : decode cL_law 968 = .ok (.ireturn, 1) := by decide +kernel
theorem dL_law_969 : decode cL_law 969 = .ok (.iload 5, 2) := by decide +kernel
theorem dL_law_971 : decode cL_law 971 = .ok (.ifCond .ne 15, 3) := by decide +kernel
theorem dL_law_974 : decode cL_law 974 = .ok (.aload_n 3, 1) := by decide +kernel
theorem dL_law_975 : decode cL_law 975 = .ok (.iconst 0, 1) := by decide +kernel
theorem dL_law_976 : decode cL_law 976 = .ok (.laload, 1) := by decide +kernel
theorem dL_law_977 : decode cL_law 977 = .ok (.iload 6, 2) := by decide +kernel
theorem dL_law_979 : decode cL_law 979 = .ok (.i2l, 1) := by decide +kernel
theorem dL_law_980 : decode cL_law 980 = .ok (.lcmp, 1) := by decide +kernel
theorem dL_law_981 : decode cL_law 981 = .ok (.ifCond .eq 5, 3) := by decide +kernel
theorem dL_law_984 : decode cL_law 984 = .ok (.iconst 0, 1) := by decide +kernel
theorem dL_law_985 : decode cL_law 985 = .ok (.ireturn, 1) := by decide +kernel
theorem dL_law_986 : decode cL_law 986 = .ok (.goto 676, 3) := by decide +kernel
theorem dL_law_989 : decode cL_law 989 = .ok (.aload_n 1, 1) := by decide +kernel
theorem dL_law_990 : decode cL_law 990 = .ok (.aload_n 0, 1) := by decide +kernel
theorem dL_law_991 : decode cL_law 991 = .ok (.iload 4, 2) := by decide +kernel
theorem dL_law_993 : decode cL_law 993 = .ok (.iconst 1, 1) := by decide +kernel
theorem dL_law_994 : decode cL_law 994 = .ok (.iadd, 1) := by decide +kernel
theorem dL_law_995 : decode cL_law 995 = .ok (.iaload, 1) := by decide +kernel
theorem dL_law_996 : decode cL_law 996 = .ok (.aload_n 3, 1) := by decide +kernel
theorem dL_law_997 : decode cL_law 997 = .ok (.invokestatic 158, 3) := by decide +kernel
theorem dL_law_1000 : decode cL_law 1000 = .ok (.istore 5, 2) := by decide +kernel
theorem dL_law_1002 : decode cL_law 1002 = .ok (.aload_n 2, 1) := by decide +kernel
theorem dL_law_1003 : decode cL_law 1003 = .ok (.aload_n 0, 1) := by decide +kernel
theorem dL_law_1004 : decode cL_law 1004 = .ok (.iload 4, 2) := by decide +kernel
theorem dL_law_1006 : decode cL_law 1006 = .ok (.iconst 1, 1) := by decide +kernel
theorem dL_law_1007 : decode cL_law 1007 = .ok (.iadd, 1) := by decide +kernel
theorem dL_law_1008 : decode cL_law 1008 = .ok (.iaload, 1) := by decide +kernel
theorem dL_law_1009 : decode cL_law 1009 = .ok (.invokevirtual 160, 3) := by decide +kernel
theorem dL_law_1012 : decode cL_law 1012 = .ok (.istore 6, 2) := by decide +kernel
theorem dL_law_1014 : decode cL_law 1014 = .ok (.aload_n 2, 1) := by decide +kernel
theorem dL_law_1015 : decode cL_law 1015 = .ok (.invokevirtual 105, 3) := by decide +kernel
theorem dL_law_1018 : decode cL_law 1018 = .ok (.iload 5, 2) := by decide +kernel
theorem dL_law_1020 : decode cL_law 1020 = .ok (.if_icmp .eq 5, 3) := by decide +kernel
theorem dL_law_1023 : decode cL_law 1023 = .ok (.iconst 0, 1) := by decide +kernel
theorem dL_law_1024 : decode cL_law 1024 = .ok (.ireturn, 1) := by decide +kernel
theorem dL_law_1025 : decode cL_law 1025 = .ok (.iload 5, 2) := by decide +kernel
theorem dL_law_1027 : decode cL_law 1027 = .ok (.ifCond .ne 15, 3) := by decide +kernel
theorem dL_law_1030 : decode cL_law 1030 = .ok (.aload_n 3, 1) := by decide +kernel
theorem dL_law_1031 : decode cL_law 1031 = .ok (.iconst 0, 1) := by decide +kernel
theorem dL_law_1032 : decode cL_law 1032 = .ok (.laload, 1) := by decide +kernel
theorem dL_law_1033 : decode cL_law 1033 = .ok (.iload 6, 2) := by decide +kernel
theorem dL_law_1035 : decode cL_law 1035 = .ok (.i2l, 1) := by decide +kernel
theorem dL_law_1036 : decode cL_law 1036 = .ok (.lcmp, 1) := by decide +kernel
theorem dL_law_1037 : decode cL_law 1037 = .ok (.ifCond .eq 5, 3) := by decide +kernel
theorem dL_law_1040 : decode cL_law 1040 = .ok (.iconst 0, 1) := by decide +kernel
theorem dL_law_1041 : decode cL_law 1041 = .ok (.ireturn, 1) := by decide +kernel
theorem dL_law_1042 : decode cL_law 1042 = .ok (.goto 620, 3) := by decide +kernel
theorem dL_law_1045 : decode cL_law 1045 = .ok (.aload_n 1, 1) := by decide +kernel
theorem dL_law_1046 : decode cL_law 1046 = .ok (.aload_n 0, 1) := by decide +kernel
theorem dL_law_1047 : decode cL_law 1047 = .ok (.iload 4, 2) := by decide +kernel
theorem dL_law_1049 : decode cL_law 1049 = .ok (.iconst 1, 1) := by decide +kernel
theorem dL_law_1050 : decode cL_law 1050 = .ok (.iadd, 1) := by decide +kernel
theorem dL_law_1051 : decode cL_law 1051 = .ok (.iaload, 1) := by decide +kernel
theorem dL_law_1052 : decode cL_law 1052 = .ok (.aload_n 0, 1) := by decide +kernel
theorem dL_law_1053 : decode cL_law 1053 = .ok (.iload 4, 2) := by decide +kernel
theorem dL_law_1055 : decode cL_law 1055 = .ok (.iconst 2, 1) := by decide +kernel
theorem dL_law_1056 : decode cL_law 1056 = .ok (.iadd, 1) := by decide +kernel
theorem dL_law_1057 : decode cL_law 1057 = .ok (.iaload, 1) := by decide +kernel
theorem dL_law_1058 : decode cL_law 1058 = .ok (.aload_n 3, 1) := by decide +kernel
theorem dL_law_1059 : decode cL_law 1059 = .ok (.invokestatic 161, 3) := by decide +kernel
theorem dL_law_1062 : decode cL_law 1062 = .ok (.istore 5, 2) := by decide +kernel
theorem dL_law_1064 : decode cL_law 1064 = .ok (.aload_n 2, 1) := by decide +kernel
theorem dL_law_1065 : decode cL_law 1065 = .ok (.aload_n 0, 1) := by decide +kernel
theorem dL_law_1066 : decode cL_law 1066 = .ok (.iload 4, 2) := by decide +kernel
theorem dL_law_1068 : decode cL_law 1068 = .ok (.iconst 1, 1) := by decide +kernel
theorem dL_law_1069 : decode cL_law 1069 = .ok (.iadd, 1) := by decide +kernel
theorem dL_law_1070 : decode cL_law 1070 = .ok (.iaload, 1) := by decide +kernel
theorem dL_law_1071 : decode cL_law 1071 = .ok (.aload_n 0, 1) := by decide +kernel
theorem dL_law_1072 : decode cL_law 1072 = .ok (.iload 4, 2) := by decide +kernel
theorem dL_law_1074 : decode cL_law 1074 = .ok (.iconst 2, 1) := by decide +kernel
theorem dL_law_1075 : decode cL_law 1075 = .ok (.iadd, 1) := by decide +kernel
theorem dL_law_1076 : decode cL_law 1076 = .ok (.iaload, 1) := by decide +kernel
theorem dL_law_1077 : decode cL_law 1077 = .ok (.invokevirtual 163, 3) := by decide +kernel
theorem dL_law_1080 : decode cL_law 1080 = .ok (.istore 6, 2) := by decide +kernel
theorem dL_law_1082 : decode cL_law 1082 = .ok (.aload_n 2, 1) := by decide +kernel
theorem dL_law_1083 : decode cL_law 1083 = .ok (.invokevirtual 105, 3) := by decide +kernel
theorem dL_law_1086 : decode cL_law 1086 = .ok (.iload 5, 2) := by decide +kernel
theorem dL_law_1088 : decode cL_law 1088 = .ok (.if_icmp .eq 5, 3) := by decide +kernel
theorem dL_law_1091 : decode cL_law 1091 = .ok (.iconst 0, 1) := by decide +kernel
theorem dL_law_1092 : decode cL_law 1092 = .ok (.ireturn, 1) := by decide +kernel
theorem dL_law_1093 : decode cL_law 1093 = .ok (.iload 5, 2) := by decide +kernel
theorem dL_law_1095 : decode cL_law 1095 = .ok (.ifCond .ne 15, 3) := by decide +kernel
theorem dL_law_1098 : decode cL_law 1098 = .ok (.aload_n 3, 1) := by decide +kernel
theorem dL_law_1099 : decode cL_law 1099 = .ok (.iconst 0, 1) := by decide +kernel
theorem dL_law_1100 : decode cL_law 1100 = .ok (.laload, 1) := by decide +kernel
theorem dL_law_1101 : decode cL_law 1101 = .ok (.iload 6, 2) := by decide +kernel
theorem dL_law_1103 : decode cL_law 1103 = .ok (.i2l, 1) := by decide +kernel
theorem dL_law_1104 : decode cL_law 1104 = .ok (.lcmp, 1) := by decide +kernel
theorem dL_law_1105 : decode cL_law 1105 = .ok (.ifCond .eq 5, 3) := by decide +kernel
theorem dL_law_1108 : decode cL_law 1108 = .ok (.iconst 0, 1) := by decide +kernel
theorem dL_law_1109 : decode cL_law 1109 = .ok (.ireturn, 1) := by decide +kernel
theorem dL_law_1110 : decode cL_law 1110 = .ok (.goto 552, 3) := by decide +kernel
theorem dL_law_1113 : decode cL_law 1113 = .ok (.aload_n 1, 1) := by decide +kernel
theorem dL_law_1114 : decode cL_law 1114 = .ok (.aload_n 0, 1) := by decide +kernel
theorem dL_law_1115 : decode cL_law 1115 = .ok (.iload 4, 2) := by decide +kernel
theorem dL_law_1117 : decode cL_law 1117 = .ok (.iconst 1, 1) := by decide +kernel
theorem dL_law_1118 : decode cL_law 1118 = .ok (.iadd, 1) := by decide +kernel
theorem dL_law_1119 : decode cL_law 1119 = .ok (.iaload, 1) := by decide +kernel
theorem dL_law_1120 : decode cL_law 1120 = .ok (.aload_n 3, 1) := by decide +kernel
theorem dL_law_1121 : decode cL_law 1121 = .ok (.invokestatic 164, 3) := by decide +kernel
theorem dL_law_1124 : decode cL_law 1124 = .ok (.istore 5, 2) := by decide +kernel
theorem dL_law_1126 : decode cL_law 1126 = .ok (.aload_n 2, 1) := by decide +kernel
theorem dL_law_1127 : decode cL_law 1127 = .ok (.aload_n 0, 1) := by decide +kernel
theorem dL_law_1128 : decode cL_law 1128 = .ok (.iload 4, 2) := by decide +kernel
theorem dL_law_1130 : decode cL_law 1130 = .ok (.iconst 1, 1) := by decide +kernel
theorem dL_law_1131 : decode cL_law 1131 = .ok (.iadd, 1) := by decide +kernel
theorem dL_law_1132 : decode cL_law 1132 = .ok (.iaload, 1) := by decide +kernel
theorem dL_law_1133 : decode cL_law 1133 = .ok (.invokevirtual 166, 3) := by decide +kernel
theorem dL_law_1136 : decode cL_law 1136 = .ok (.istore 6, 2) := by decide +kernel
theorem dL_law_1138 : decode cL_law 1138 = .ok (.aload_n 2, 1) := by decide +kernel
theorem dL_law_1139 : decode cL_law 1139 = .ok (.invokevirtual 105, 3) := by decide +kernel
theorem dL_law_1142 : decode cL_law 1142 = .ok (.iload 5, 2) := by decide +kernel
theorem dL_law_1144 : decode cL_law 1144 = .ok (.if_icmp .eq 5, 3) := by decide +kernel
theorem dL_law_1147 : decode cL_law 1147 = .ok (.iconst 0, 1) := by decide +kernel
theorem dL_law_1148 : decode cL_law 1148 = .ok (.ireturn, 1) := by decide +kernel
theorem dL_law_1149 : decode cL_law 1149 = .ok (.iload 5, 2) := by decide +kernel
theorem dL_law_1151 : decode cL_law 1151 = .ok (.ifCond .ne 22, 3) := by decide +kernel
theorem dL_law_1154 : decode cL_law 1154 = .ok (.aload_n 3, 1) := by decide +kernel
theorem dL_law_1155 : decode cL_law 1155 = .ok (.iconst 0, 1) := by decide +kernel
theorem dL_law_1156 : decode cL_law 1156 = .ok (.laload, 1) := by decide +kernel
theorem dL_law_1157 : decode cL_law 1157 = .ok (.iload 6, 2) := by decide +kernel
theorem dL_law_1159 : decode cL_law 1159 = .ok (.ifCond .eq 7, 3) := by decide +kernel
theorem dL_law_1162 : decode cL_law 1162 = .ok (.lconst 1, 1) := by decide +kernel
theorem dL_law_1163 : decode cL_law 1163 = .ok (.goto 4, 3) := by decide +kernel
theorem dL_law_1166 : decode cL_law 1166 = .ok (.lconst 0, 1) := by decide +kernel
theorem dL_law_1167 : decode cL_law 1167 = .ok (.lcmp, 1) := by decide +kernel
theorem dL_law_1168 : decode cL_law 1168 = .ok (.ifCond .eq 5, 3) := by decide +kernel
theorem dL_law_1171 : decode cL_law 1171 = .ok (.iconst 0, 1) := by decide +kernel
theorem dL_law_1172 : decode cL_law 1172 = .ok (.ireturn, 1) := by decide +kernel
theorem dL_law_1173 : decode cL_law 1173 = .ok (.goto 489, 3) := by decide +kernel
theorem dL_law_1176 : decode cL_law 1176 = .ok (.aload_n 1, 1) := by decide +kernel
theorem dL_law_1177 : decode cL_law 1177 = .ok (.invokevirtual 167, 3) := by decide +kernel
theorem dL_law_1180 : decode cL_law 1180 = .ok (.aload_n 2, 1) := by decide +kernel
theorem dL_law_1181 : decode cL_law 1181 = .ok (.invokevirtual 170, 3) := by decide +kernel
theorem dL_law_1184 : decode cL_law 1184 = .ok (.if_icmp .eq 478, 3) := by decide +kernel
theorem dL_law_1187 : decode cL_law 1187 = .ok (.iconst 0, 1) := by decide +kernel
theorem dL_law_1188 : decode cL_law 1188 = .ok (.ireturn, 1) := by decide +kernel
theorem dL_law_1189 : decode cL_law 1189 = .ok (.aload_n 1, 1) := by decide +kernel
theorem dL_law_1190 : decode cL_law 1190 = .ok (.invokevirtual 171, 3) := by decide +kernel
theorem dL_law_1193 : decode cL_law 1193 = .ok (.aload_n 2, 1) := by decide +kernel
theorem dL_law_1194 : decode cL_law 1194 = .ok (.invokevirtual 174, 3) := by decide +kernel
theorem dL_law_1197 : decode cL_law 1197 = .ok (.if_icmp .eq 465, 3) := by decide +kernel
theorem dL_law_1200 : decode cL_law 1200 = .ok (.iconst 0, 1) := by decide +kernel
theorem dL_law_1201 : decode cL_law 1201 = .ok (.ireturn, 1) := by decide +kernel
theorem dL_law_1202 : decode cL_law 1202 = .ok (.aload_n 1, 1) := by decide +kernel
theorem dL_law_1203 : decode cL_law 1203 = .ok (.aload_n 0, 1) := by decide +kernel
theorem dL_law_1204 : decode cL_law 1204 = .ok (.iload 4, 2) := by decide +kernel
theorem dL_law_1206 : decode cL_law 1206 = .ok (.iconst 1, 1) := by decide +kernel
theorem dL_law_1207 : decode cL_law 1207 = .ok (.iadd, 1) := by decide +kernel
theorem dL_law_1208 : decode cL_law 1208 = .ok (.iaload, 1) := by decide +kernel
theorem dL_law_1209 : decode cL_law 1209 = .ok (.aload_n 3, 1) := by decide +kernel
theorem dL_law_1210 : decode cL_law 1210 = .ok (.invokestatic 175, 3) := by decide +kernel
theorem dL_law_1213 : decode cL_law 1213 = .ok (.istore 5, 2) := by decide +kernel
theorem dL_law_1215 : decode cL_law 1215 = .ok (.aload_n 2, 1) := by decide +kernel
theorem dL_law_1216 : decode cL_law 1216 = .ok (.aload_n 0, 1) := by decide +kernel
theorem dL_law_1217 : decode cL_law 1217 = .ok (.iload 4, 2) := by decide +kernel
theorem dL_law_1219 : decode cL_law 1219 = .ok (.iconst 1, 1) := by decide +kernel
theorem dL_law_1220 : decode cL_law 1220 = .ok (.iadd, 1) := by decide +kernel
theorem dL_law_1221 : decode cL_law 1221 = .ok (.iaload, 1) := by decide +kernel
theorem dL_law_1222 : decode cL_law 1222 = .ok (.invokevirtual 177, 3) := by decide +kernel
theorem dL_law_1225 : decode cL_law 1225 = .ok (.istore 6, 2) := by decide +kernel
theorem dL_law_1227 : decode cL_law 1227 = .ok (.aload_n 2, 1) := by decide +kernel
theorem dL_law_1228 : decode cL_law 1228 = .ok (.invokevirtual 105, 3) := by decide +kernel
theorem dL_law_1231 : decode cL_law 1231 = .ok (.iload 5, 2) := by decide +kernel
theorem dL_law_1233 : decode cL_law 1233 = .ok (.if_icmp .eq 5, 3) := by decide +kernel
theorem dL_law_1236 : decode cL_law 1236 = .ok (.iconst 0, 1) := by decide +kernel
theorem dL_law_1237 : decode cL_law 1237 = .ok (.ireturn, 1) := by decide +kernel
theorem dL_law_1238 : decode cL_law 1238 = .ok (.iload 5, 2) := by decide +kernel
theorem dL_law_1240 : decode cL_law 1240 = .ok (.ifCond .ne 15, 3) := by decide +kernel
theorem dL_law_1243 : decode cL_law 1243 = .ok (.aload_n 3, 1) := by decide +kernel
theorem dL_law_1244 : decode cL_law 1244 = .ok (.iconst 0, 1) := by decide +kernel
theorem dL_law_1245 : decode cL_law 1245 = .ok (.laload, 1) := by decide +kernel
theorem dL_law_1246 : decode cL_law 1246 = .ok (.iload 6, 2) := by decide +kernel
theorem dL_law_1248 : decode cL_law 1248 = .ok (.i2l, 1) := by decide +kernel
theorem dL_law_1249 : decode cL_law 1249 = .ok (.lcmp, 1) := by decide +kernel
theorem dL_law_1250 : decode cL_law 1250 = .ok (.ifCond .eq 5, 3) := by decide +kernel
theorem dL_law_1253 : decode cL_law 1253 = .ok (.iconst 0, 1) := by decide +kernel
theorem dL_law_1254 : decode cL_law 1254 = .ok (.ireturn, 1) := by decide +kernel
theorem dL_law_1255 : decode cL_law 1255 = .ok (.goto 407, 3) := by decide +kernel
theorem dL_law_1258 : decode cL_law 1258 = .ok (.aload_n 1, 1) := by decide +kernel
theorem dL_law_1259 : decode cL_law 1259 = .ok (.aload_n 0, 1) := by decide +kernel
theorem dL_law_1260 : decode cL_law 1260 = .ok (.iload 4, 2) := by decide +kernel
theorem dL_law_1262 : decode cL_law 1262 = .ok (.iconst 1, 1) := by decide +kernel
theorem dL_law_1263 : decode cL_law 1263 = .ok (.iadd, 1) := by decide +kernel
theorem dL_law_1264 : decode cL_law 1264 = .ok (.iaload, 1) := by decide +kernel
theorem dL_law_1265 : decode cL_law 1265 = .ok (.aload_n 0, 1) := by decide +kernel
theorem dL_law_1266 : decode cL_law 1266 = .ok (.iload 4, 2) := by decide +kernel
theorem dL_law_1268 : decode cL_law 1268 = .ok (.iconst 2, 1) := by decide +kernel
theorem dL_law_1269 : decode cL_law 1269 = .ok (.iadd, 1) := by decide +kernel
theorem dL_law_1270 : decode cL_law 1270 = .ok (.iaload, 1) := by decide +kernel
theorem dL_law_1271 : decode cL_law 1271 = .ok (.aload_n 3, 1) := by decide +kernel
theorem dL_law_1272 : decode cL_law 1272 = .ok (.invokestatic 178, 3) := by decide +kernel
theorem dL_law_1275 : decode cL_law 1275 = .ok (.istore 5, 2) := by decide +kernel
theorem dL_law_1277 : decode cL_law 1277 = .ok (.aload_n 2, 1) := by decide +kernel
theorem dL_law_1278 : decode cL_law 1278 = .ok (.aload_n 0, 1) := by decide +kernel
theorem dL_law_1279 : decode cL_law 1279 = .ok (.iload 4, 2) := by decide +kernel
theorem dL_law_1281 : decode cL_law 1281 = .ok (.iconst 1, 1) := by decide +kernel
theorem dL_law_1282 : decode cL_law 1282 = .ok (.iadd, 1) := by decide +kernel
theorem dL_law_1283 : decode cL_law 1283 = .ok (.iaload, 1) := by decide +kernel
theorem dL_law_1284 : decode cL_law 1284 = .ok (.aload_n 0, 1) := by decide +kernel
theorem dL_law_1285 : decode cL_law 1285 = .ok (.iload 4, 2) := by decide +kernel
theorem dL_law_1287 : decode cL_law 1287 = .ok (.iconst 2, 1) := by decide +kernel
theorem dL_law_1288 : decode cL_law 1288 = .ok (.iadd, 1) := by decide +kernel
theorem dL_law_1289 : decode cL_law 1289 = .ok (.iaload, 1) := by decide +kernel
theorem dL_law_1290 : decode cL_law 1290 = .ok (.invokevirtual 180, 3) := by decide +kernel
theorem dL_law_1293 : decode cL_law 1293 = .ok (.istore 6, 2) := by decide +kernel
theorem dL_law_1295 : decode cL_law 1295 = .ok (.aload_n 2, 1) := by decide +kernel
theorem dL_law_1296 : decode cL_law 1296 = .ok (.invokevirtual 105, 3) := by decide +kernel
theorem dL_law_1299 : decode cL_law 1299 = .ok (.iload 5, 2) := by decide +kernel
theorem dL_law_1301 : decode cL_law 1301 = .ok (.if_icmp .eq 5, 3) := by decide +kernel
theorem dL_law_1304 : decode cL_law 1304 = .ok (.iconst 0, 1) := by decide +kernel
theorem dL_law_1305 : decode cL_law 1305 = .ok (.ireturn, 1) := by decide +kernel
theorem dL_law_1306 : decode cL_law 1306 = .ok (.iload 5, 2) := by decide +kernel
theorem dL_law_1308 : decode cL_law 1308 = .ok (.ifCond .ne 15, 3) := by decide +kernel
theorem dL_law_1311 : decode cL_law 1311 = .ok (.aload_n 3, 1) := by decide +kernel
theorem dL_law_1312 : decode cL_law 1312 = .ok (.iconst 0, 1) := by decide +kernel
theorem dL_law_1313 : decode cL_law 1313 = .ok (.laload, 1) := by decide +kernel
theorem dL_law_1314 : decode cL_law 1314 = .ok (.iload 6, 2) := by decide +kernel
theorem dL_law_1316 : decode cL_law 1316 = .ok (.i2l, 1) := by decide +kernel
theorem dL_law_1317 : decode cL_law 1317 = .ok (.lcmp, 1) := by decide +kernel
theorem dL_law_1318 : decode cL_law 1318 = .ok (.ifCond .eq 5, 3) := by decide +kernel
theorem dL_law_1321 : decode cL_law 1321 = .ok (.iconst 0, 1) := by decide +kernel
theorem dL_law_1322 : decode cL_law 1322 = .ok (.ireturn, 1) := by decide +kernel
theorem dL_law_1323 : decode cL_law 1323 = .ok (.goto 339, 3) := by decide +kernel
theorem dL_law_1326 : decode cL_law 1326 = .ok (.aload_n 1, 1) := by decide +kernel
theorem dL_law_1327 : decode cL_law 1327 = .ok (.aload_n 0, 1) := by decide +kernel
theorem dL_law_1328 : decode cL_law 1328 = .ok (.iload 4, 2) := by decide +kernel
theorem dL_law_1330 : decode cL_law 1330 = .ok (.iconst 1, 1) := by decide +kernel
theorem dL_law_1331 : decode cL_law 1331 = .ok (.iadd, 1) := by decide +kernel
theorem dL_law_1332 : decode cL_law 1332 = .ok (.iaload, 1) := by decide +kernel
theorem dL_law_1333 : decode cL_law 1333 = .ok (.aload_n 0, 1) := by decide +kernel
theorem dL_law_1334 : decode cL_law 1334 = .ok (.iload 4, 2) := by decide +kernel
theorem dL_law_1336 : decode cL_law 1336 = .ok (.iconst 2, 1) := by decide +kernel
theorem dL_law_1337 : decode cL_law 1337 = .ok (.iadd, 1) := by decide +kernel
theorem dL_law_1338 : decode cL_law 1338 = .ok (.iaload, 1) := by decide +kernel
theorem dL_law_1339 : decode cL_law 1339 = .ok (.aload_n 3, 1) := by decide +kernel
theorem dL_law_1340 : decode cL_law 1340 = .ok (.invokestatic 181, 3) := by decide +kernel
theorem dL_law_1343 : decode cL_law 1343 = .ok (.istore 5, 2) := by decide +kernel
theorem dL_law_1345 : decode cL_law 1345 = .ok (.aload_n 2, 1) := by decide +kernel
theorem dL_law_1346 : decode cL_law 1346 = .ok (.aload_n 0, 1) := by decide +kernel
theorem dL_law_1347 : decode cL_law 1347 = .ok (.iload 4, 2) := by decide +kernel
theorem dL_law_1349 : decode cL_law 1349 = .ok (.iconst 1, 1) := by decide +kernel
theorem dL_law_1350 : decode cL_law 1350 = .ok (.iadd, 1) := by decide +kernel
theorem dL_law_1351 : decode cL_law 1351 = .ok (.iaload, 1) := by decide +kernel
theorem dL_law_1352 : decode cL_law 1352 = .ok (.aload_n 0, 1) := by decide +kernel
theorem dL_law_1353 : decode cL_law 1353 = .ok (.iload 4, 2) := by decide +kernel
theorem dL_law_1355 : decode cL_law 1355 = .ok (.iconst 2, 1) := by decide +kernel
theorem dL_law_1356 : decode cL_law 1356 = .ok (.iadd, 1) := by decide +kernel
theorem dL_law_1357 : decode cL_law 1357 = .ok (.iaload, 1) := by decide +kernel
theorem dL_law_1358 : decode cL_law 1358 = .ok (.invokevirtual 183, 3) := by decide +kernel
theorem dL_law_1361 : decode cL_law 1361 = .ok (.istore 6, 2) := by decide +kernel
theorem dL_law_1363 : decode cL_law 1363 = .ok (.aload_n 2, 1) := by decide +kernel
theorem dL_law_1364 : decode cL_law 1364 = .ok (.invokevirtual 105, 3) := by decide +kernel
theorem dL_law_1367 : decode cL_law 1367 = .ok (.iload 5, 2) := by decide +kernel
theorem dL_law_1369 : decode cL_law 1369 = .ok (.if_icmp .eq 5, 3) := by decide +kernel
theorem dL_law_1372 : decode cL_law 1372 = .ok (.iconst 0, 1) := by decide +kernel
theorem dL_law_1373 : decode cL_law 1373 = .ok (.ireturn, 1) := by decide +kernel
theorem dL_law_1374 : decode cL_law 1374 = .ok (.iload 5, 2) := by decide +kernel
theorem dL_law_1376 : decode cL_law 1376 = .ok (.ifCond .ne 15, 3) := by decide +kernel
theorem dL_law_1379 : decode cL_law 1379 = .ok (.aload_n 3, 1) := by decide +kernel
theorem dL_law_1380 : decode cL_law 1380 = .ok (.iconst 0, 1) := by decide +kernel
theorem dL_law_1381 : decode cL_law 1381 = .ok (.laload, 1) := by decide +kernel
theorem dL_law_1382 : decode cL_law 1382 = .ok (.iload 6, 2) := by decide +kernel
theorem dL_law_1384 : decode cL_law 1384 = .ok (.i2l, 1) := by decide +kernel
theorem dL_law_1385 : decode cL_law 1385 = .ok (.lcmp, 1) := by decide +kernel
theorem dL_law_1386 : decode cL_law 1386 = .ok (.ifCond .eq 5, 3) := by decide +kernel
theorem dL_law_1389 : decode cL_law 1389 = .ok (.iconst 0, 1) := by decide +kernel
theorem dL_law_1390 : decode cL_law 1390 = .ok (.ireturn, 1) := by decide +kernel
theorem dL_law_1391 : decode cL_law 1391 = .ok (.goto 271, 3) := by decide +kernel
theorem dL_law_1394 : decode cL_law 1394 = .ok (.aload_n 1, 1) := by decide +kernel
theorem dL_law_1395 : decode cL_law 1395 = .ok (.invokevirtual 184, 3) := by decide +kernel
theorem dL_law_1398 : decode cL_law 1398 = .ok (.aload_n 2, 1) := by decide +kernel
theorem dL_law_1399 : decode cL_law 1399 = .ok (.invokevirtual 187, 3) := by decide +kernel
theorem dL_law_1402 : decode cL_law 1402 = .ok (.if_icmp .eq 260, 3) := by decide +kernel
theorem dL_law_1405 : decode cL_law 1405 = .ok (.iconst 0, 1) := by decide +kernel
theorem dL_law_1406 : decode cL_law 1406 = .ok (.ireturn, 1) := by decide +kernel
theorem dL_law_1407 : decode cL_law 1407 = .ok (.aload_n 1, 1) := by decide +kernel
theorem dL_law_1408 : decode cL_law 1408 = .ok (.aload_n 0, 1) := by decide +kernel
theorem dL_law_1409 : decode cL_law 1409 = .ok (.iload 4, 2) := by decide +kernel
theorem dL_law_1411 : decode cL_law 1411 = .ok (.iconst 1, 1) := by decide +kernel
theorem dL_law_1412 : decode cL_law 1412 = .ok (.iadd, 1) := by decide +kernel
theorem dL_law_1413 : decode cL_law 1413 = .ok (.iaload, 1) := by decide +kernel
theorem dL_law_1414 : decode cL_law 1414 = .ok (.aload_n 0, 1) := by decide +kernel
theorem dL_law_1415 : decode cL_law 1415 = .ok (.iload 4, 2) := by decide +kernel
theorem dL_law_1417 : decode cL_law 1417 = .ok (.iconst 2, 1) := by decide +kernel
theorem dL_law_1418 : decode cL_law 1418 = .ok (.iadd, 1) := by decide +kernel
theorem dL_law_1419 : decode cL_law 1419 = .ok (.iaload, 1) := by decide +kernel
theorem dL_law_1420 : decode cL_law 1420 = .ok (.aload_n 3, 1) := by decide +kernel
theorem dL_law_1421 : decode cL_law 1421 = .ok (.invokestatic 188, 3) := by decide +kernel
theorem dL_law_1424 : decode cL_law 1424 = .ok (.istore 5, 2) := by decide +kernel
theorem dL_law_1426 : decode cL_law 1426 = .ok (.aload_n 2, 1) := by decide +kernel
theorem dL_law_1427 : decode cL_law 1427 = .ok (.aload_n 0, 1) := by decide +kernel
theorem dL_law_1428 : decode cL_law 1428 = .ok (.iload 4, 2) := by decide +kernel
theorem dL_law_1430 : decode cL_law 1430 = .ok (.iconst 1, 1) := by decide +kernel
theorem dL_law_1431 : decode cL_law 1431 = .ok (.iadd, 1) := by decide +kernel
theorem dL_law_1432 : decode cL_law 1432 = .ok (.iaload, 1) := by decide +kernel
theorem dL_law_1433 : decode cL_law 1433 = .ok (.aload_n 0, 1) := by decide +kernel
theorem dL_law_1434 : decode cL_law 1434 = .ok (.iload 4, 2) := by decide +kernel
theorem dL_law_1436 : decode cL_law 1436 = .ok (.iconst 2, 1) := by decide +kernel
theorem dL_law_1437 : decode cL_law 1437 = .ok (.iadd, 1) := by decide +kernel
theorem dL_law_1438 : decode cL_law 1438 = .ok (.iaload, 1) := by decide +kernel
theorem dL_law_1439 : decode cL_law 1439 = .ok (.invokevirtual 190, 3) := by decide +kernel
theorem dL_law_1442 : decode cL_law 1442 = .ok (.lstore 6, 2) := by decide +kernel
theorem dL_law_1444 : decode cL_law 1444 = .ok (.aload_n 2, 1) := by decide +kernel
theorem dL_law_1445 : decode cL_law 1445 = .ok (.invokevirtual 105, 3) := by decide +kernel
theorem dL_law_1448 : decode cL_law 1448 = .ok (.iload 5, 2) := by decide +kernel
theorem dL_law_1450 : decode cL_law 1450 = .ok (.if_icmp .eq 5, 3) := by decide +kernel
theorem dL_law_1453 : decode cL_law 1453 = .ok (.iconst 0, 1) := by decide +kernel
theorem dL_law_1454 : decode cL_law 1454 = .ok (.ireturn, 1) := by decide +kernel
theorem dL_law_1455 : decode cL_law 1455 = .ok (.iload 5, 2) := by decide +kernel
theorem dL_law_1457 : decode cL_law 1457 = .ok (.ifCond .ne 14, 3) := by decide +kernel
theorem dL_law_1460 : decode cL_law 1460 = .ok (.aload_n 3, 1) := by decide +kernel
theorem dL_law_1461 : decode cL_law 1461 = .ok (.iconst 0, 1) := by decide +kernel
theorem dL_law_1462 : decode cL_law 1462 = .ok (.laload, 1) := by decide +kernel
theorem dL_law_1463 : decode cL_law 1463 = .ok (.lload 6, 2) := by decide +kernel
theorem dL_law_1465 : decode cL_law 1465 = .ok (.lcmp, 1) := by decide +kernel
theorem dL_law_1466 : decode cL_law 1466 = .ok (.ifCond .eq 5, 3) := by decide +kernel
theorem dL_law_1469 : decode cL_law 1469 = .ok (.iconst 0, 1) := by decide +kernel
theorem dL_law_1470 : decode cL_law 1470 = .ok (.ireturn, 1) := by decide +kernel
theorem dL_law_1471 : decode cL_law 1471 = .ok (.goto 191, 3) := by decide +kernel
theorem dL_law_1474 : decode cL_law 1474 = .ok (.aload_n 1, 1) := by decide +kernel
theorem dL_law_1475 : decode cL_law 1475 = .ok (.aload_n 0, 1) := by decide +kernel
theorem dL_law_1476 : decode cL_law 1476 = .ok (.iload 4, 2) := by decide +kernel
theorem dL_law_1478 : decode cL_law 1478 = .ok (.iconst 1, 1) := by decide +kernel
theorem dL_law_1479 : decode cL_law 1479 = .ok (.iadd, 1) := by decide +kernel
theorem dL_law_1480 : decode cL_law 1480 = .ok (.iaload, 1) := by decide +kernel
theorem dL_law_1481 : decode cL_law 1481 = .ok (.aload_n 3, 1) := by decide +kernel
theorem dL_law_1482 : decode cL_law 1482 = .ok (.invokestatic 191, 3) := by decide +kernel
theorem dL_law_1485 : decode cL_law 1485 = .ok (.istore 5, 2) := by decide +kernel
theorem dL_law_1487 : decode cL_law 1487 = .ok (.aload_n 2, 1) := by decide +kernel
theorem dL_law_1488 : decode cL_law 1488 = .ok (.aload_n 0, 1) := by decide +kernel
theorem dL_law_1489 : decode cL_law 1489 = .ok (.iload 4, 2) := by decide +kernel
theorem dL_law_1491 : decode cL_law 1491 = .ok (.iconst 1, 1) := by decide +kernel
theorem dL_law_1492 : decode cL_law 1492 = .ok (.iadd, 1) := by decide +kernel
theorem dL_law_1493 : decode cL_law 1493 = .ok (.iaload, 1) := by decide +kernel
theorem dL_law_1494 : decode cL_law 1494 = .ok (.invokevirtual 193, 3) := by decide +kernel
theorem dL_law_1497 : decode cL_law 1497 = .ok (.istore 6, 2) := by decide +kernel
theorem dL_law_1499 : decode cL_law 1499 = .ok (.aload_n 2, 1) := by decide +kernel
theorem dL_law_1500 : decode cL_law 1500 = .ok (.invokevirtual 105, 3) := by decide +kernel
theorem dL_law_1503 : decode cL_law 1503 = .ok (.iload 5, 2) := by decide +kernel
theorem dL_law_1505 : decode cL_law 1505 = .ok (.if_icmp .eq 5, 3) := by decide +kernel
theorem dL_law_1508 : decode cL_law 1508 = .ok (.iconst 0, 1) := by decide +kernel
theorem dL_law_1509 : decode cL_law 1509 = .ok (.ireturn, 1) := by decide +kernel
theorem dL_law_1510 : decode cL_law 1510 = .ok (.iload 5, 2) := by decide +kernel
theorem dL_law_1512 : decode cL_law 1512 = .ok (.ifCond .ne 22, 3) := by decide +kernel
theorem dL_law_1515 : decode cL_law 1515 = .ok (.aload_n 3, 1) := by decide +kernel
theorem dL_law_1516 : decode cL_law 1516 = .ok (.iconst 0, 1) := by decide +kernel
theorem dL_law_1517 : decode cL_law 1517 = .ok (.laload, 1) := by decide +kernel
theorem dL_law_1518 : decode cL_law 1518 = .ok (.iload 6, 2) := by decide +kernel
theorem dL_law_1520 : decode cL_law 1520 = .ok (.ifCond .eq 7, 3) := by decide +kernel
theorem dL_law_1523 : decode cL_law 1523 = .ok (.lconst 1, 1) := by decide +kernel
theorem dL_law_1524 : decode cL_law 1524 = .ok (.goto 4, 3) := by decide +kernel
theorem dL_law_1527 : decode cL_law 1527 = .ok (.lconst 0, 1) := by decide +kernel
theorem dL_law_1528 : decode cL_law 1528 = .ok (.lcmp, 1) := by decide +kernel
theorem dL_law_1529 : decode cL_law 1529 = .ok (.ifCond .eq 5, 3) := by decide +kernel
theorem dL_law_1532 : decode cL_law 1532 = .ok (.iconst 0, 1) := by decide +kernel
theorem dL_law_1533 : decode cL_law 1533 = .ok (.ireturn, 1) := by decide +kernel
theorem dL_law_1534 : decode cL_law 1534 = .ok (.goto 128, 3) := by decide +kernel
theorem dL_law_1537 : decode cL_law 1537 = .ok (.aload_n 1, 1) := by decide +kernel
theorem dL_law_1538 : decode cL_law 1538 = .ok (.aload_n 0, 1) := by decide +kernel
theorem dL_law_1539 : decode cL_law 1539 = .ok (.iload 4, 2) := by decide +kernel
theorem dL_law_1541 : decode cL_law 1541 = .ok (.iconst 1, 1) := by decide +kernel
theorem dL_law_1542 : decode cL_law 1542 = .ok (.iadd, 1) := by decide +kernel
theorem dL_law_1543 : decode cL_law 1543 = .ok (.iaload, 1) := by decide +kernel
theorem dL_law_1544 : decode cL_law 1544 = .ok (.aload_n 3, 1) := by decide +kernel
theorem dL_law_1545 : decode cL_law 1545 = .ok (.invokestatic 194, 3) := by decide +kernel
theorem dL_law_1548 : decode cL_law 1548 = .ok (.istore 5, 2) := by decide +kernel
theorem dL_law_1550 : decode cL_law 1550 = .ok (.aload_n 2, 1) := by decide +kernel
theorem dL_law_1551 : decode cL_law 1551 = .ok (.aload_n 0, 1) := by decide +kernel
theorem dL_law_1552 : decode cL_law 1552 = .ok (.iload 4, 2) := by decide +kernel
theorem dL_law_1554 : decode cL_law 1554 = .ok (.iconst 1, 1) := by decide +kernel
theorem dL_law_1555 : decode cL_law 1555 = .ok (.iadd, 1) := by decide +kernel
theorem dL_law_1556 : decode cL_law 1556 = .ok (.iaload, 1) := by decide +kernel
theorem dL_law_1557 : decode cL_law 1557 = .ok (.invokevirtual 196, 3) := by decide +kernel
theorem dL_law_1560 : decode cL_law 1560 = .ok (.istore 6, 2) := by decide +kernel
theorem dL_law_1562 : decode cL_law 1562 = .ok (.aload_n 2, 1) := by decide +kernel
theorem dL_law_1563 : decode cL_law 1563 = .ok (.invokevirtual 105, 3) := by decide +kernel
theorem dL_law_1566 : decode cL_law 1566 = .ok (.iload 5, 2) := by decide +kernel
theorem dL_law_1568 : decode cL_law 1568 = .ok (.if_icmp .eq 5, 3) := by decide +kernel
theorem dL_law_1571 : decode cL_law 1571 = .ok (.iconst 0, 1) := by decide +kernel
theorem dL_law_1572 : decode cL_law 1572 = .ok (.ireturn, 1) := by decide +kernel
theorem dL_law_1573 : decode cL_law 1573 = .ok (.iload 5, 2) := by decide +kernel
theorem dL_law_1575 : decode cL_law 1575 = .ok (.ifCond .ne 15, 3) := by decide +kernel
theorem dL_law_1578 : decode cL_law 1578 = .ok (.aload_n 3, 1) := by decide +kernel
theorem dL_law_1579 : decode cL_law 1579 = .ok (.iconst 0, 1) := by decide +kernel
theorem dL_law_1580 : decode cL_law 1580 = .ok (.laload, 1) := by decide +kernel
theorem dL_law_1581 : decode cL_law 1581 = .ok (.iload 6, 2) := by decide +kernel
theorem dL_law_1583 : decode cL_law 1583 = .ok (.i2l, 1) := by decide +kernel
theorem dL_law_1584 : decode cL_law 1584 = .ok (.lcmp, 1) := by decide +kernel
theorem dL_law_1585 : decode cL_law 1585 = .ok (.ifCond .eq 5, 3) := by decide +kernel
theorem dL_law_1588 : decode cL_law 1588 = .ok (.iconst 0, 1) := by decide +kernel
theorem dL_law_1589 : decode cL_law 1589 = .ok (.ireturn, 1) := by decide +kernel
theorem dL_law_1590 : decode cL_law 1590 = .ok (.goto 72, 3) := by decide +kernel
theorem dL_law_1593 : decode cL_law 1593 = .ok (.aload_n 1, 1) := by decide +kernel
theorem dL_law_1594 : decode cL_law 1594 = .ok (.invokevirtual 197, 3) := by decide +kernel
theorem dL_law_1597 : decode cL_law 1597 = .ok (.aload_n 2, 1) := by decide +kernel
theorem dL_law_1598 : decode cL_law 1598 = .ok (.invokevirtual 200, 3) := by decide +kernel
theorem dL_law_1601 : decode cL_law 1601 = .ok (.if_icmp .eq 61, 3) := by decide +kernel
theorem dL_law_1604 : decode cL_law 1604 = .ok (.iconst 0, 1) := by decide +kernel
theorem dL_law_1605 : decode cL_law 1605 = .ok (.ireturn, 1) := by decide +kernel
theorem dL_law_1606 : decode cL_law 1606 = .ok (.aload_n 1, 1) := by decide +kernel
theorem dL_law_1607 : decode cL_law 1607 = .ok (.aload_n 0, 1) := by decide +kernel
theorem dL_law_1608 : decode cL_law 1608 = .ok (.iload 4, 2) := by decide +kernel
theorem dL_law_1610 : decode cL_law 1610 = .ok (.iconst 1, 1) := by decide +kernel
theorem dL_law_1611 : decode cL_law 1611 = .ok (.iadd, 1) := by decide +kernel
theorem dL_law_1612 : decode cL_law 1612 = .ok (.iaload, 1) := by decide +kernel
theorem dL_law_1613 : decode cL_law 1613 = .ok (.aload_n 3, 1) := by decide +kernel
theorem dL_law_1614 : decode cL_law 1614 = .ok (.invokestatic 201, 3) := by decide +kernel
theorem dL_law_1617 : decode cL_law 1617 = .ok (.istore 5, 2) := by decide +kernel
theorem dL_law_1619 : decode cL_law 1619 = .ok (.aload_n 2, 1) := by decide +kernel
theorem dL_law_1620 : decode cL_law 1620 = .ok (.aload_n 0, 1) := by decide +kernel
theorem dL_law_1621 : decode cL_law 1621 = .ok (.iload 4, 2) := by decide +kernel
theorem dL_law_1623 : decode cL_law 1623 = .ok (.iconst 1, 1) := by decide +kernel
theorem dL_law_1624 : decode cL_law 1624 = .ok (.iadd, 1) := by decide +kernel
theorem dL_law_1625 : decode cL_law 1625 = .ok (.iaload, 1) := by decide +kernel
theorem dL_law_1626 : decode cL_law 1626 = .ok (.invokevirtual 203, 3) := by decide +kernel
theorem dL_law_1629 : decode cL_law 1629 = .ok (.istore 6, 2) := by decide +kernel
theorem dL_law_1631 : decode cL_law 1631 = .ok (.aload_n 2, 1) := by decide +kernel
theorem dL_law_1632 : decode cL_law 1632 = .ok (.invokevirtual 105, 3) := by decide +kernel
theorem dL_law_1635 : decode cL_law 1635 = .ok (.iload 5, 2) := by decide +kernel
theorem dL_law_1637 : decode cL_law 1637 = .ok (.if_icmp .eq 5, 3) := by decide +kernel
theorem dL_law_1640 : decode cL_law 1640 = .ok (.iconst 0, 1) := by decide +kernel
theorem dL_law_1641 : decode cL_law 1641 = .ok (.ireturn, 1) := by decide +kernel
theorem dL_law_1642 : decode cL_law 1642 = .ok (.iload 5, 2) := by decide +kernel
theorem dL_law_1644 : decode cL_law 1644 = .ok (.ifCond .ne 15, 3) := by decide +kernel
theorem dL_law_1647 : decode cL_law 1647 = .ok (.aload_n 3, 1) := by decide +kernel
theorem dL_law_1648 : decode cL_law 1648 = .ok (.iconst 0, 1) := by decide +kernel
theorem dL_law_1649 : decode cL_law 1649 = .ok (.laload, 1) := by decide +kernel
theorem dL_law_1650 : decode cL_law 1650 = .ok (.iload 6, 2) := by decide +kernel
theorem dL_law_1652 : decode cL_law 1652 = .ok (.i2l, 1) := by decide +kernel
theorem dL_law_1653 : decode cL_law 1653 = .ok (.lcmp, 1) := by decide +kernel
theorem dL_law_1654 : decode cL_law 1654 = .ok (.ifCond .eq 5, 3) := by decide +kernel
theorem dL_law_1657 : decode cL_law 1657 = .ok (.iconst 0, 1) := by decide +kernel
theorem dL_law_1658 : decode cL_law 1658 = .ok (.ireturn, 1) := by decide +kernel
theorem dL_law_1659 : decode cL_law 1659 = .ok (.goto 3, 3) := by decide +kernel
theorem dL_law_1662 : decode cL_law 1662 = .ok (.iinc 4 3, 3) := by decide +kernel
theorem dL_law_1665 : decode cL_law 1665 = .ok (.goto (-1642), 3) := by decide +kernel
theorem dL_law_1668 : decode cL_law 1668 = .ok (.iconst 1, 1) := by decide +kernel
theorem dL_law_1669 : decode cL_law 1669 = .ok (.ireturn, 1) := by decide +kernel
end
section
/-! THE MINI MACHINE'S WORDS: worlds as lists of cells whose references are places of the list; one judgement, EvF: from this frame, in this world, the method comes to its end as Qf says -/
abbrev mC : Type := (Nat × Nat × ((Nat → Int32) ⊕ ((Nat → Int64) ⊕ (Nat → Option Nat)))) ⊕ (Nat × List Value)
abbrev mW : Type := List mC
/-- a method: its name, code, locals, return type, room, handlers, is it a constructor, how many cells the world has when it starts (for methods that make cells), the script it may read -/
abbrev mM : Type := MethodName × ByteArray × Nat × Option FieldType × Room × List (Nat × Nat × Nat × Nat) × Bool × Option Nat × Option (Nat × (Nat → Int32))
abbrev mMy (M : mM) : MethodName := M.1
abbrev mMc (M : mM) : ByteArray := M.2.1
abbrev mMn (M : mM) : Nat := M.2.2.1
abbrev mMr (M : mM) : Option FieldType := M.2.2.2.1
abbrev mMR (M : mM) : Room := M.2.2.2.2.1
abbrev mMh (M : mM) : List (Nat × Nat × Nat × Nat) := M.2.2.2.2.2.1
abbrev mMi (M : mM) : Bool := M.2.2.2.2.2.2.1
abbrev mMz (M : mM) : Option Nat := M.2.2.2.2.2.2.2.1
abbrev mMs (M : mM) : Option (Nat × (Nat → Int32)) := M.2.2.2.2.2.2.2.2
abbrev hole : Value := .retAddr 0
abbrev scr1 : Value := .retAddr 1
def mV (z b : Nat) (v : Value) : Value := match v with
  | .ref k => .ref (z + k)
  | .retAddr (_ + 1) => .ref b
  | v => v
def mE (z b : Nat) (cA : Nat → ClassId) (e : mC) : va_E := match e with
  | .inl (t, n, .inl f) => .inl (cA t, n, .inl f)
  | .inl (t, n, .inr (.inl f)) => .inl (cA t, n, .inr (.inl f))
  | .inl (t, n, .inr (.inr f)) => .inl (cA t, n, .inr (.inr (.inr (.inr (fun k => (f k).map (fun a => z + a))))))
  | .inr (ci, fs) => .inr (ci, fs.map (mV z b))
def mR (z b : Nat) (cA : Nat → ClassId) (w : List mC) : va_W := w.mapIdx (fun k e => (z + k, mE z b cA e))
theorem mR_get {z b : Nat} {cA : Nat → ClassId} {w : List mC} {k : Nat} {e : mC} (h : w[k]? = some e) : (mR z b cA w)[k]? = some (z + k, mE z b cA e) := by
  simp [mR, List.getElem?_mapIdx, h]
theorem mR_set {z b : Nat} {cA : Nat → ClassId} {w : List mC} {k : Nat} {e : mC} : (mR z b cA w).set k (z + k, mE z b cA e) = mR z b cA (w.set k e) := by
  apply List.ext_getElem?
  intro j
  simp only [mR, List.getElem?_set, List.getElem?_mapIdx, List.length_mapIdx]
  by_cases hk : k = j
  · subst hk
    by_cases hl : k < w.length <;> simp [hl]
  · simp [hk]
theorem mR_app {z b : Nat} {cA : Nat → ClassId} {w : List mC} {e : mC} : mR z b cA (w ++ [e]) = mR z b cA w ++ [(z + w.length, mE z b cA e)] := by
  simp [mR, List.mapIdx_append]
theorem mR_D {z b : Nat} {cA : Nat → ClassId} {w : List mC} : va_D (fun q => z ≤ q) (mR z b cA w) := by
  have key : ∀ (k : Nat) (q : Nat × va_E), (mR z b cA w)[k]? = some q → q.1 = z + k := by
    intro k q h
    simp only [mR, List.getElem?_mapIdx, Option.map_eq_some_iff] at h
    obtain ⟨e, -, h⟩ := h
    rw [← h]
  refine ⟨fun i j p q h1 h2 h3 => ?_, fun k q h => ?_⟩
  · rw [key i p h1, key j q h2] at h3
    omega
  · rw [key k q h]
    omega
def mT (cA : Nat → ClassId) : List (ClassId × FieldType) := [(cA 0, .int), (cA 1, .boolean), (cA 2, .long), (cA 3, .object "Copperleaf$State")]
/-- the good words of the tables -/
def WA : List Jvm.Cond := lw_tbl.filter goodWord
theorem wa_m {w : Jvm.Cond} (i : Nat) (h : lw_tbl[i]? = some w) (g : goodWord w = true) : w ∈ WA := List.mem_filter.mpr ⟨List.mem_of_getElem? h, g⟩
theorem wa_good {w : Jvm.Cond} (h : w ∈ WA) : goodWord w = true := (List.mem_filter.mp h).2
/-- the exceptions' names -/
def mX : List String := ["java/lang/IllegalStateException", "java/lang/IllegalArgumentException", "java/util/NoSuchElementException", "java/lang/IndexOutOfBoundsException"]
def mSt : List (Nat × String) := [(64, "there is a batch"), (206, "key is not 0 to 99"), (208, "there is no batch"), (230, "the tree does not have the key"), (113, "all readers are open"), (210, "no open reader has this number"), (150, "no such page"), (212, "no such page in use"), (214, "no such entry"), (216, "no such slot"), (180, "no such word"), (189, "the other slot is torn"), (198, "words is out of range"), (201, "no slot would be whole")]
def mDe : List Jvm.Cond := [.declares (Bundle.initS "java/lang/RuntimeException"), .declares (Bundle.initS "java/lang/Exception"), .declares (Bundle.initS "java/lang/Throwable")]
/-- what isn't a good word -/
def mXF (U : State) : Prop := (∀ E ∈ mX, va_Nw (.castable E E) U) ∧ (∀ E ∈ mX, ∀ F ∈ mX, E ≠ F → va_Nc E F U) ∧ va_Nw (.methodLinkNest "Copperleaf" 11 yX0_init "Copperleaf") U ∧ va_Nw (.methodLinkNest "Copperleaf" 18 yX1_init "Copperleaf") U ∧ va_AO "Copperleaf$State" U ∧ (∀ q ∈ mSt, ∃ a, vk_R "Copperleaf" q.1 q.2 a U) ∧ ∀ x ∈ mDe, va_Nw x U
theorem mXF.warm {s U : State} (hW : s.WarmedH U.vm) (h : mXF s) : mXF U :=
  ⟨fun E hE => va_Nw.warmC hW (h.1 E hE), fun E hE F hF n => va_Nc.moved hW.alike (h.2.1 E hE F hF n), va_Nw.warmM hW h.2.2.1, va_Nw.warmM hW h.2.2.2.1, va_AO.moved hW.alike h.2.2.2.2.1, fun q hq => by
    obtain ⟨a, ha⟩ := h.2.2.2.2.2.1 q hq
    exact ⟨a, vk_R.warm hW ha⟩, fun x hx => by
    have h9 := h.2.2.2.2.2.2
    simp only [mDe, List.forall_mem_cons, List.not_mem_nil, false_implies, implies_true, and_true] at h9
    simp only [mDe, List.mem_cons, List.not_mem_nil, or_false] at hx
    rcases hx with rfl | rfl | rfl
    · exact va_Nw.warmD hW h9.1
    · exact va_Nw.warmD hW h9.2.1
    · exact va_Nw.warmD hW h9.2.2⟩
abbrev mZ1 (z : Nat) (U : State) (H : Heap) : Prop := vx_Zq Bundle.tN "UNASSIGNED_STACK" Bundle.steD (fun q => z ≤ q) U H
abbrev mZ2 (z : Nat) (U : State) (H : Heap) : Prop := vx_Zq Bundle.tN "SUPPRESSED_SENTINEL" Bundle.listD (fun q => z ≤ q) U H
/-- what holds of the machine, the method and its start -/
def mCX (M : mM) (z b : Nat) (G : va_G) (cA : Nat → ClassId) (p : Program) (l : Launch) (s : State) (m : MethodId) (args : Array Value) (meth : Method) (c : Code) : Prop :=
  p.tables.exec = Jvm.exec ∧ c.code = mMc M ∧ c.maxLocals = mMn M ∧ meth.sig.returnType = mMr M ∧ s.vm.findClass (mMy M).cls = some m.cls ∧ (∀ w ∈ WA, w.before args s = true) ∧ meth.locks = false ∧ c.exceptionTable.toList = tableOf (mMh M) ∧ (mMi M = true → meth.name = "<init>") ∧ va_K G vwCl (mT cA) s ∧ mXF s ∧ l.stackTraces = false ∧ mZ1 z s s.heap ∧ mZ2 z s s.heap ∧ z ≤ s.heap.size ∧ (∀ n0 : Nat, mMz M = some n0 → s.heap.size = z + n0) ∧
  (∀ (Ls : Nat) (xs : Nat → Int32), mMs M = some (Ls, xs) → va_X b Ls xs s s.heap ∧ b < s.heap.size ∧ b < z ∧ args = #[Value.ref b])
/-- the world lies in the heap -/
def mWR (z b : Nat) (G : va_G) (cA : Nat → ClassId) (w : mW) (s : State) (H : Heap) (locs : List Loc) : Prop :=
  va_P G vwCl (mR z b cA w) H ∧ va_S (fun q => z ≤ q) s.heap H locs
/-- the locals -/
def mLs (z b nL : Nat) (ls : Array Slot) (L : List Value) : Prop := ls.size = nL ∧ L.length = nL ∧ lv_wf ls ∧ ∀ (i : Nat) (v : Value), L[i]? = some v → v ≠ hole → ls[i]? = some (.val (mV z b v))
abbrev mQ : Type := Nat → Nat → va_G → (Nat → ClassId) → List Frame → Array Value → State → State → Prop
def EvF (M : mM) (Qf : mQ) (pc : Nat) (L st : List Value) (k n : Nat) (w : mW) : Prop :=
  ∀ (z b : Nat) (G : va_G) (cA : Nat → ClassId) (p : Program) (l : Launch) (e : Env) (s : State) (m : MethodId) (args : Array Value) (below : List Frame) (meth : Method) (c : Code) (H : Heap) (locs : List Loc) (ls : Array Slot),
    mCX M z b G cA p l s m args meth c → mWR z b G cA w s H locs → mLs z b (mMn M) ls L → W p l e (mMR M) s m args below meth c H locs k n (Qf z b G cA below args s) (F0 m pc ls (st.map (mV z b)))
theorem mV_int {z b : Nat} {x : Int32} : mV z b (.int x) = .int x := rfl
theorem mV_cat (z b : Nat) (v : Value) : (mV z b v).category = v.category := by
  cases v with
  | retAddr n => cases n <;> rfl
  | _ => rfl
theorem mV_sum (z b : Nat) (st : List Value) : ((st.map (mV z b)).map fun v => v.category).sum = (st.map fun v => v.category).sum := by
  rw [List.map_map]
  congr 1
  apply List.map_congr_left
  intro v _
  exact mV_cat z b v
theorem mLs_at {z b nL : Nat} {ls : Array Slot} {L : List Value} (h : mLs z b nL ls L) {i : Nat} {v : Value} (hi : L[i]? = some v) (hv : v ≠ hole) : ls[i]? = some (.val (mV z b v)) := h.2.2.2 i v hi hv
/-- the known locals as a list -/
def mLo (z b : Nat) (L : List Value) : List (Nat × Value) := (List.range L.length).filterMap (fun i => match L[i]? with
  | some v => if v = hole then none else some (i, mV z b v)
  | none => none)
theorem mLo_mem {z b : Nat} {L : List Value} {q : Nat × Value} : q ∈ mLo z b L ↔ ∃ v, L[q.1]? = some v ∧ v ≠ hole ∧ q.2 = mV z b v := by
  unfold mLo
  rw [List.mem_filterMap]
  constructor
  · rintro ⟨i, hi, h⟩
    cases hv : L[i]? with
    | none => rw [hv] at h; cases h
    | some v =>
      rw [hv] at h
      by_cases he : v = hole
      · simp [he] at h
      · simp only [if_neg he, Option.some.injEq] at h
        rw [← h]
        exact ⟨v, hv, he, rfl⟩
  · rintro ⟨v, h1, h2, h3⟩
    refine ⟨q.1, ?_, ?_⟩
    · rw [List.mem_range]
      exact (List.getElem?_eq_some_iff.mp h1).1
    · simp only [h1, if_neg h2]
      rw [← h3]
theorem mLs_has {z b nL : Nat} {ls : Array Slot} {L : List Value} (h : mLs z b nL ls L) : lv_has ls nL (mLo z b L) :=
  ⟨h.1, h.2.2.1, fun q hq => by
    obtain ⟨v, h1, h2, h3⟩ := mLo_mem.mp hq
    rw [h3]
    exact h.2.2.2 _ _ h1 h2⟩
/-- a value of two slots doesn't end just before this place -/
def mc1 (L : List Value) (i : Nat) : Bool := match i with
  | 0 => true
  | j + 1 => match L[j]? with
    | some v => v.category == 1
    | none => true
theorem mc1_ok {z b : Nat} {L : List Value} {i : Nat} (h : mc1 L i = true) {q : Nat × Value} (hq : q ∈ mLo z b L) (hi : q.1 + 1 = i) : q.2.category = 1 := by
  obtain ⟨v, h1, -, h3⟩ := mLo_mem.mp hq
  subst hi
  simp only [mc1, h1, beq_iff_eq] at h
  rw [h3, mV_cat]
  exact h
theorem mLs_set1 {z b nL : Nat} {ls' : Array Slot} {L : List Value} {i : Nat} {v : Value} {u : Value} (hL : L.length = nL) (hu : mV z b v = u) (hm : mc1 L i = true)
    (h : lv_has ls' nL ((i, u) :: (mLo z b L).filter (fun q => !(q.1 == i) && !(q.1 + 1 == i && q.2.category == 2)))) : mLs z b nL ls' (L.set i v) := by
  refine ⟨h.1, by rw [List.length_set, hL], h.2.1, fun j x hj hx => ?_⟩
  by_cases hij : i = j
  · subst hij
    rw [List.getElem?_set] at hj
    by_cases hl : i < L.length
    · simp only [if_pos rfl, if_pos hl] at hj
      cases hj
      rw [hu]
      exact h.2.2 (i, u) List.mem_cons_self
    · simp only [if_pos rfl, if_neg hl] at hj
      cases hj
  · rw [List.getElem?_set_ne hij] at hj
    refine h.2.2 (j, mV z b x) (List.mem_cons_of_mem _ (List.mem_filter.mpr ⟨mLo_mem.mpr ⟨x, hj, hx, rfl⟩, ?_⟩))
    simp only [Bool.and_eq_true, Bool.not_eq_true', beq_eq_false_iff_ne, ne_eq, Bool.and_eq_false_iff]
    refine ⟨fun q => hij q.symm, ?_⟩
    by_cases hc : j + 1 = i
    · right
      have h1 := mc1_ok (z := z) (b := b) hm (q := (j, mV z b x)) (mLo_mem.mpr ⟨x, hj, hx, rfl⟩) hc
      dsimp only at h1 ⊢
      omega
    · exact Or.inl hc
theorem mLs_set2 {z b nL : Nat} {ls' : Array Slot} {L : List Value} {i : Nat} {v : Value} {u : Value} (hL : L.length = nL) (hu : mV z b v = u) (hm : mc1 L i = true)
    (h : lv_has ls' nL ((i, u) :: (mLo z b L).filter (fun q => !(q.1 == i) && (!(q.1 == i + 1) && !(q.1 + 1 == i && q.2.category == 2))))) : mLs z b nL ls' ((L.set i v).set (i + 1) hole) := by
  refine ⟨h.1, by rw [List.length_set, List.length_set, hL], h.2.1, fun j x hj hx => ?_⟩
  by_cases hj1 : i + 1 = j
  · subst hj1
    rw [List.getElem?_set] at hj
    by_cases hl : i + 1 < (L.set i v).length
    · simp only [if_pos rfl, if_pos hl] at hj
      cases hj
      exact absurd rfl hx
    · simp only [if_pos rfl, if_neg hl] at hj
      cases hj
  · rw [List.getElem?_set_ne hj1] at hj
    by_cases hij : i = j
    · subst hij
      rw [List.getElem?_set] at hj
      by_cases hl : i < L.length
      · simp only [if_pos rfl, if_pos hl] at hj
        cases hj
        rw [hu]
        exact h.2.2 (i, u) List.mem_cons_self
      · simp only [if_pos rfl, if_neg hl] at hj
        cases hj
    · rw [List.getElem?_set_ne hij] at hj
      refine h.2.2 (j, mV z b x) (List.mem_cons_of_mem _ (List.mem_filter.mpr ⟨mLo_mem.mpr ⟨x, hj, hx, rfl⟩, ?_⟩))
      simp only [Bool.and_eq_true, Bool.not_eq_true', beq_eq_false_iff_ne, ne_eq, Bool.and_eq_false_iff]
      refine ⟨fun q => hij q.symm, fun q => hj1 q.symm, ?_⟩
      by_cases hc : j + 1 = i
      · right
        have h1 := mc1_ok (z := z) (b := b) hm (q := (j, mV z b x)) (mLo_mem.mpr ⟨x, hj, hx, rfl⟩) hc
        dsimp only at h1 ⊢
        omega
      · exact Or.inl hc
end
section
/-! THE RULES: one for each kind of instruction -/
section RU
variable {M : mM} {Qf : mQ} {pc : Nat} {L st : List Value} {kc ks : Nat} {w : mW}
theorem ev_iconst {n : Int} {v : Int32} (d : decode (mMc M) pc = .ok (.iconst n, 1)) (hv : Int32.ofInt n = v) (k : EvF M Qf (pc + 1) L (.int v :: st) kc ks w) : EvF M Qf pc L st kc ks w :=
  fun z b G cA p l e s m args below meth c H locs ls C hw hL => lv_iconst C.1 C.2.1 d hv (k z b G cA p l e s m args below meth c H locs ls C hw hL)
theorem ev_bipush {n : Int} {v : Int32} (d : decode (mMc M) pc = .ok (.bipush n, 2)) (hv : (Int8.ofInt n).toInt32 = v) (k : EvF M Qf (pc + 2) L (.int v :: st) kc ks w) : EvF M Qf pc L st kc ks w :=
  fun z b G cA p l e s m args below meth c H locs ls C hw hL => lv_bipush C.1 C.2.1 d hv (k z b G cA p l e s m args below meth c H locs ls C hw hL)
theorem ev_sipush {n : Int} {v : Int32} (d : decode (mMc M) pc = .ok (.sipush n, 3)) (hv : (Int16.ofInt n).toInt32 = v) (k : EvF M Qf (pc + 3) L (.int v :: st) kc ks w) : EvF M Qf pc L st kc ks w :=
  fun z b G cA p l e s m args below meth c H locs ls C hw hL => lv_sipush C.1 C.2.1 d hv (k z b G cA p l e s m args below meth c H locs ls C hw hL)
theorem ev_lconst {n : Fin 2} {v : Int64} (d : decode (mMc M) pc = .ok (.lconst n, 1)) (hv : Int64.ofNat (n : Nat) = v) (k : EvF M Qf (pc + 1) L (.long v :: st) kc ks w) : EvF M Qf pc L st kc ks w :=
  fun z b G cA p l e s m args below meth c H locs ls C hw hL => lv_lconst C.1 C.2.1 d hv (k z b G cA p l e s m args below meth c H locs ls C hw hL)
theorem ev_ldc2 {i : Nat} {v : Int64} (d : decode (mMc M) pc = .ok (.ldc2_w i, 3)) (hc : Jvm.Cond.constantLong (mMy M).cls i v ∈ WA) (k : EvF M Qf (pc + 3) L (.long v :: st) kc ks w) : EvF M Qf pc L st kc ks w :=
  fun z b G cA p l e s m args below meth c H locs ls C hw hL => lv_ldc2 C.1 C.2.1 C.2.2.2.2.1 (C.2.2.2.2.2.1 _ hc) d (k z b G cA p l e s m args below meth c H locs ls C hw hL)
theorem ev_iload_n {j : Fin 4} {i : Nat} {x : Int32} (d : decode (mMc M) pc = .ok (.iload_n j, 1)) (hi : (j : Nat) = i) (hl : L[i]? = some (.int x)) (k : EvF M Qf (pc + 1) L (.int x :: st) kc ks w) : EvF M Qf pc L st kc ks w :=
  fun z b G cA p l e s m args below meth c H locs ls C hw hL => lv_iload_n C.1 C.2.1 d hi (mLs_at hL hl (fun h => by cases h)) (k z b G cA p l e s m args below meth c H locs ls C hw hL)
theorem ev_iload {i : Nat} {x : Int32} (d : decode (mMc M) pc = .ok (.iload i, 2)) (hl : L[i]? = some (.int x)) (k : EvF M Qf (pc + 2) L (.int x :: st) kc ks w) : EvF M Qf pc L st kc ks w :=
  fun z b G cA p l e s m args below meth c H locs ls C hw hL => lv_iload C.1 C.2.1 d (mLs_at hL hl (fun h => by cases h)) (k z b G cA p l e s m args below meth c H locs ls C hw hL)
theorem ev_lload_n {j : Fin 4} {i : Nat} {x : Int64} (d : decode (mMc M) pc = .ok (.lload_n j, 1)) (hi : (j : Nat) = i) (hl : L[i]? = some (.long x)) (k : EvF M Qf (pc + 1) L (.long x :: st) kc ks w) : EvF M Qf pc L st kc ks w :=
  fun z b G cA p l e s m args below meth c H locs ls C hw hL => lv_lload_n C.1 C.2.1 d hi (mLs_at hL hl (fun h => by cases h)) (k z b G cA p l e s m args below meth c H locs ls C hw hL)
theorem ev_lload {i : Nat} {x : Int64} (d : decode (mMc M) pc = .ok (.lload i, 2)) (hl : L[i]? = some (.long x)) (k : EvF M Qf (pc + 2) L (.long x :: st) kc ks w) : EvF M Qf pc L st kc ks w :=
  fun z b G cA p l e s m args below meth c H locs ls C hw hL => lv_lload C.1 C.2.1 d (mLs_at hL hl (fun h => by cases h)) (k z b G cA p l e s m args below meth c H locs ls C hw hL)
theorem ev_aload_n {j : Fin 4} {i a : Nat} (d : decode (mMc M) pc = .ok (.aload_n j, 1)) (hi : (j : Nat) = i) (hl : L[i]? = some (.ref a)) (k : EvF M Qf (pc + 1) L (.ref a :: st) kc ks w) : EvF M Qf pc L st kc ks w :=
  fun z b G cA p l e s m args below meth c H locs ls C hw hL => lv_aload_n C.1 C.2.1 d hi (mLs_at hL hl (fun h => by cases h)) (k z b G cA p l e s m args below meth c H locs ls C hw hL)
theorem ev_aload {i a : Nat} (d : decode (mMc M) pc = .ok (.aload i, 2)) (hl : L[i]? = some (.ref a)) (k : EvF M Qf (pc + 2) L (.ref a :: st) kc ks w) : EvF M Qf pc L st kc ks w :=
  fun z b G cA p l e s m args below meth c H locs ls C hw hL => lv_aload C.1 C.2.1 d (mLs_at hL hl (fun h => by cases h)) (k z b G cA p l e s m args below meth c H locs ls C hw hL)
theorem ev_aloadS_n {j : Fin 4} {i : Nat} (d : decode (mMc M) pc = .ok (.aload_n j, 1)) (hi : (j : Nat) = i) (hl : L[i]? = some scr1) (k : EvF M Qf (pc + 1) L (scr1 :: st) kc ks w) : EvF M Qf pc L st kc ks w :=
  fun z b G cA p l e s m args below meth c H locs ls C hw hL => lv_aload_n C.1 C.2.1 d hi (mLs_at hL hl (fun h => by cases h)) (k z b G cA p l e s m args below meth c H locs ls C hw hL)
theorem ev_istore_n {j : Fin 4} {i : Nat} {x : Int32} {L' : List Value} (d : decode (mMc M) pc = .ok (.istore_n j, 1)) (hi : (j : Nat) = i) (hm : (decide (i < mMn M) && mc1 L i) = true) (hL' : L.set i (.int x) = L') (k : EvF M Qf (pc + 1) L' st kc ks w) : EvF M Qf pc L (.int x :: st) kc ks w :=
  fun z b G cA p l e s m args below meth c H locs ls C hw hL => by
    simp only [Bool.and_eq_true, decide_eq_true_eq] at hm
    exact lv_istore_n C.1 C.2.1 d hi (mLs_has hL) hm.1 rfl (fun ls' h' => k z b G cA p l e s m args below meth c H locs ls' C hw (by rw [← hL']; exact mLs_set1 hL.2.1 rfl hm.2 h'))
theorem ev_istore {i : Nat} {x : Int32} {L' : List Value} (d : decode (mMc M) pc = .ok (.istore i, 2)) (hm : (decide (i < mMn M) && mc1 L i) = true) (hL' : L.set i (.int x) = L') (k : EvF M Qf (pc + 2) L' st kc ks w) : EvF M Qf pc L (.int x :: st) kc ks w :=
  fun z b G cA p l e s m args below meth c H locs ls C hw hL => by
    simp only [Bool.and_eq_true, decide_eq_true_eq] at hm
    exact lv_istore C.1 C.2.1 d (mLs_has hL) hm.1 rfl (fun ls' h' => k z b G cA p l e s m args below meth c H locs ls' C hw (by rw [← hL']; exact mLs_set1 hL.2.1 rfl hm.2 h'))
theorem ev_astore_n {j : Fin 4} {i a : Nat} {L' : List Value} (d : decode (mMc M) pc = .ok (.astore_n j, 1)) (hi : (j : Nat) = i) (hm : (decide (i < mMn M) && mc1 L i) = true) (hL' : L.set i (.ref a) = L') (k : EvF M Qf (pc + 1) L' st kc ks w) : EvF M Qf pc L (.ref a :: st) kc ks w :=
  fun z b G cA p l e s m args below meth c H locs ls C hw hL => by
    simp only [Bool.and_eq_true, decide_eq_true_eq] at hm
    exact lv_astore_n C.1 C.2.1 d hi (mLs_has hL) hm.1 rfl (fun ls' h' => k z b G cA p l e s m args below meth c H locs ls' C hw (by rw [← hL']; exact mLs_set1 hL.2.1 rfl hm.2 h'))
theorem ev_astore {i a : Nat} {L' : List Value} (d : decode (mMc M) pc = .ok (.astore i, 2)) (hm : (decide (i < mMn M) && mc1 L i) = true) (hL' : L.set i (.ref a) = L') (k : EvF M Qf (pc + 2) L' st kc ks w) : EvF M Qf pc L (.ref a :: st) kc ks w :=
  fun z b G cA p l e s m args below meth c H locs ls C hw hL => by
    simp only [Bool.and_eq_true, decide_eq_true_eq] at hm
    exact lv_astore C.1 C.2.1 d (mLs_has hL) hm.1 rfl (fun ls' h' => k z b G cA p l e s m args below meth c H locs ls' C hw (by rw [← hL']; exact mLs_set1 hL.2.1 rfl hm.2 h'))
theorem ev_lstore_n {j : Fin 4} {i : Nat} {x : Int64} {L' : List Value} (d : decode (mMc M) pc = .ok (.lstore_n j, 1)) (hi : (j : Nat) = i) (hm : (decide (i + 1 < mMn M) && mc1 L i) = true) (hL' : (L.set i (.long x)).set (i + 1) hole = L') (k : EvF M Qf (pc + 1) L' st kc ks w) : EvF M Qf pc L (.long x :: st) kc ks w :=
  fun z b G cA p l e s m args below meth c H locs ls C hw hL => by
    simp only [Bool.and_eq_true, decide_eq_true_eq] at hm
    exact lv_lstore_n C.1 C.2.1 d hi (mLs_has hL) hm.1 rfl (fun ls' h' => k z b G cA p l e s m args below meth c H locs ls' C hw (by rw [← hL']; exact mLs_set2 hL.2.1 rfl hm.2 h'))
theorem ev_lstore {i : Nat} {x : Int64} {L' : List Value} (d : decode (mMc M) pc = .ok (.lstore i, 2)) (hm : (decide (i + 1 < mMn M) && mc1 L i) = true) (hL' : (L.set i (.long x)).set (i + 1) hole = L') (k : EvF M Qf (pc + 2) L' st kc ks w) : EvF M Qf pc L (.long x :: st) kc ks w :=
  fun z b G cA p l e s m args below meth c H locs ls C hw hL => by
    simp only [Bool.and_eq_true, decide_eq_true_eq] at hm
    exact lv_lstore C.1 C.2.1 d (mLs_has hL) hm.1 rfl (fun ls' h' => k z b G cA p l e s m args below meth c H locs ls' C hw (by rw [← hL']; exact mLs_set2 hL.2.1 rfl hm.2 h'))
theorem ev_iinc {i : Nat} {n : Int} {x : Int32} {L' : List Value} (d : decode (mMc M) pc = .ok (.iinc i n, 3)) (hl : L[i]? = some (.int x)) (hm : (decide (i < mMn M) && mc1 L i) = true) (hL' : L.set i (.int (x + Int32.ofInt n)) = L') (k : EvF M Qf (pc + 3) L' st kc ks w) : EvF M Qf pc L st kc ks w :=
  fun z b G cA p l e s m args below meth c H locs ls C hw hL => by
    simp only [Bool.and_eq_true, decide_eq_true_eq] at hm
    obtain ⟨k0, hk0⟩ := List.getElem?_of_mem (mLo_mem (z := z) (b := b) (q := (i, .int x)) |>.mpr ⟨_, hl, (fun h => by cases h), rfl⟩)
    exact lv_iinc C.1 C.2.1 d (mLs_has hL) hk0 rfl hm.1 rfl (fun ls' h' => k z b G cA p l e s m args below meth c H locs ls' C hw (by rw [← hL']; exact mLs_set1 hL.2.1 rfl hm.2 h'))
theorem ev_iadd {x y : Int32} (d : decode (mMc M) pc = .ok (.iadd, 1)) (k : EvF M Qf (pc + 1) L (.int (x + y) :: st) kc ks w) : EvF M Qf pc L (.int y :: .int x :: st) kc ks w :=
  fun z b G cA p l e s m args below meth c H locs ls C hw hL => lv_iadd C.1 C.2.1 d (k z b G cA p l e s m args below meth c H locs ls C hw hL)
theorem ev_isub {x y : Int32} (d : decode (mMc M) pc = .ok (.isub, 1)) (k : EvF M Qf (pc + 1) L (.int (x - y) :: st) kc ks w) : EvF M Qf pc L (.int y :: .int x :: st) kc ks w :=
  fun z b G cA p l e s m args below meth c H locs ls C hw hL => lv_isub C.1 C.2.1 d (k z b G cA p l e s m args below meth c H locs ls C hw hL)
theorem ev_imul {x y : Int32} (d : decode (mMc M) pc = .ok (.imul, 1)) (k : EvF M Qf (pc + 1) L (.int (x * y) :: st) kc ks w) : EvF M Qf pc L (.int y :: .int x :: st) kc ks w :=
  fun z b G cA p l e s m args below meth c H locs ls C hw hL => lv_imul C.1 C.2.1 d (k z b G cA p l e s m args below meth c H locs ls C hw hL)
theorem ev_iand {x y : Int32} (d : decode (mMc M) pc = .ok (.iand, 1)) (k : EvF M Qf (pc + 1) L (.int (x &&& y) :: st) kc ks w) : EvF M Qf pc L (.int y :: .int x :: st) kc ks w :=
  fun z b G cA p l e s m args below meth c H locs ls C hw hL => lv_iand C.1 C.2.1 d (k z b G cA p l e s m args below meth c H locs ls C hw hL)
theorem ev_ladd {x y : Int64} (d : decode (mMc M) pc = .ok (.ladd, 1)) (k : EvF M Qf (pc + 1) L (.long (x + y) :: st) kc ks w) : EvF M Qf pc L (.long y :: .long x :: st) kc ks w :=
  fun z b G cA p l e s m args below meth c H locs ls C hw hL => lv_ladd C.1 C.2.1 d (k z b G cA p l e s m args below meth c H locs ls C hw hL)
theorem ev_lmul {x y : Int64} (d : decode (mMc M) pc = .ok (.lmul, 1)) (k : EvF M Qf (pc + 1) L (.long (x * y) :: st) kc ks w) : EvF M Qf pc L (.long y :: .long x :: st) kc ks w :=
  fun z b G cA p l e s m args below meth c H locs ls C hw hL => lv_lmul C.1 C.2.1 d (k z b G cA p l e s m args below meth c H locs ls C hw hL)
theorem ev_lcmp {x y : Int64} (d : decode (mMc M) pc = .ok (.lcmp, 1)) (k : EvF M Qf (pc + 1) L (.int (lg_cmp x y) :: st) kc ks w) : EvF M Qf pc L (.long y :: .long x :: st) kc ks w :=
  fun z b G cA p l e s m args below meth c H locs ls C hw hL => W.lcmp C.1 C.2.1 d (k z b G cA p l e s m args below meth c H locs ls C hw hL)
theorem ev_i2l {x : Int32} (d : decode (mMc M) pc = .ok (.i2l, 1)) (k : EvF M Qf (pc + 1) L (.long x.toInt64 :: st) kc ks w) : EvF M Qf pc L (.int x :: st) kc ks w :=
  fun z b G cA p l e s m args below meth c H locs ls C hw hL => lv_i2l C.1 C.2.1 d rfl (k z b G cA p l e s m args below meth c H locs ls C hw hL)
theorem ev_l2i {x : Int64} (d : decode (mMc M) pc = .ok (.l2i, 1)) (k : EvF M Qf (pc + 1) L (.int x.toInt32 :: st) kc ks w) : EvF M Qf pc L (.long x :: st) kc ks w :=
  fun z b G cA p l e s m args below meth c H locs ls C hw hL => lv_l2i C.1 C.2.1 d rfl (k z b G cA p l e s m args below meth c H locs ls C hw hL)
theorem ev_dup {v : Value} (d : decode (mMc M) pc = .ok (.dup, 1)) (hv : v.category = 1) (k : EvF M Qf (pc + 1) L (v :: v :: st) kc ks w) : EvF M Qf pc L (v :: st) kc ks w :=
  fun z b G cA p l e s m args below meth c H locs ls C hw hL => lv_dup C.1 C.2.1 d (by rw [mV_cat]; exact hv) (k z b G cA p l e s m args below meth c H locs ls C hw hL)
theorem ev_dup2 {v u : Value} (d : decode (mMc M) pc = .ok (.dup2, 1)) (hv : v.category = 1) (hu : u.category = 1) (k : EvF M Qf (pc + 1) L (v :: u :: v :: u :: st) kc ks w) : EvF M Qf pc L (v :: u :: st) kc ks w :=
  fun z b G cA p l e s m args below meth c H locs ls C hw hL => lv_dup2_11 C.1 C.2.1 d (by rw [mV_cat]; exact hv) (by rw [mV_cat]; exact hu) (k z b G cA p l e s m args below meth c H locs ls C hw hL)
theorem ev_pop {v : Value} (d : decode (mMc M) pc = .ok (.pop, 1)) (hv : v.category = 1) (k : EvF M Qf (pc + 1) L st kc ks w) : EvF M Qf pc L (v :: st) kc ks w :=
  fun z b G cA p l e s m args below meth c H locs ls C hw hL => lv_pop C.1 C.2.1 d (by rw [mV_cat]; exact hv) (k z b G cA p l e s m args below meth c H locs ls C hw hL)
theorem ev_goto {off : Int} {tgt : Nat} (d : decode (mMc M) pc = .ok (.goto off, 3)) (ht : (pc : Int) + off = (tgt : Int)) (k : EvF M Qf tgt L st kc ks w) : EvF M Qf pc L st kc ks w :=
  fun z b G cA p l e s m args below meth c H locs ls C hw hL => lv_goto C.1 C.2.1 d ht (k z b G cA p l e s m args below meth c H locs ls C hw hL)
theorem ev_tabIn {dflt lo hi : Int} {offs : Array Int} {len : Nat} {x : Int32} {off : Int} {tgt : Nat} (d : decode (mMc M) pc = .ok (.tableswitch dflt lo hi offs, len)) (h1 : ¬ x.toInt < lo) (h2 : ¬ hi < x.toInt) (ho : offs[(x.toInt - lo).toNat]? = some off) (ht : (pc : Int) + off = (tgt : Int)) (k : EvF M Qf tgt L st kc ks w) : EvF M Qf pc L (.int x :: st) kc ks w :=
  fun z b G cA p l e s m args below meth c H locs ls C hw hL => lv_tableIn C.1 C.2.1 d h1 h2 ho ht (k z b G cA p l e s m args below meth c H locs ls C hw hL)
theorem ev_tabOut {dflt lo hi : Int} {offs : Array Int} {len : Nat} {x : Int32} {tgt : Nat} (d : decode (mMc M) pc = .ok (.tableswitch dflt lo hi offs, len)) (h : x.toInt < lo ∨ hi < x.toInt) (ht : (pc : Int) + dflt = (tgt : Int)) (k : EvF M Qf tgt L st kc ks w) : EvF M Qf pc L (.int x :: st) kc ks w :=
  fun z b G cA p l e s m args below meth c H locs ls C hw hL => lv_tableOut C.1 C.2.1 d h ht (k z b G cA p l e s m args below meth c H locs ls C hw hL)
theorem ev_if_eq {x : Int32} {off : Int} {tgt : Nat} (d : decode (mMc M) pc = .ok (.ifCond .eq off, 3)) (ht : (pc : Int) + off = (tgt : Int)) (kt : x = 0 → EvF M Qf tgt L st kc ks w) (kf : ¬ x = 0 → EvF M Qf (pc + 3) L st kc ks w) : EvF M Qf pc L (.int x :: st) kc ks w :=
  fun z b G cA p l e s m args below meth c H locs ls C hw hL => lv_if_eq C.1 C.2.1 d ht (fun q => kt q z b G cA p l e s m args below meth c H locs ls C hw hL) (fun q => kf q z b G cA p l e s m args below meth c H locs ls C hw hL)
theorem ev_ic_eq {x y : Int32} {off : Int} {tgt : Nat} (d : decode (mMc M) pc = .ok (.if_icmp .eq off, 3)) (ht : (pc : Int) + off = (tgt : Int)) (kt : x = y → EvF M Qf tgt L st kc ks w) (kf : ¬ x = y → EvF M Qf (pc + 3) L st kc ks w) : EvF M Qf pc L (.int y :: .int x :: st) kc ks w :=
  fun z b G cA p l e s m args below meth c H locs ls C hw hL => lv_icmp_eq C.1 C.2.1 d ht (fun q => kt q z b G cA p l e s m args below meth c H locs ls C hw hL) (fun q => kf q z b G cA p l e s m args below meth c H locs ls C hw hL)
theorem ev_if_ne {x : Int32} {off : Int} {tgt : Nat} (d : decode (mMc M) pc = .ok (.ifCond .ne off, 3)) (ht : (pc : Int) + off = (tgt : Int)) (kt : ¬ x = 0 → EvF M Qf tgt L st kc ks w) (kf : x = 0 → EvF M Qf (pc + 3) L st kc ks w) : EvF M Qf pc L (.int x :: st) kc ks w :=
  fun z b G cA p l e s m args below meth c H locs ls C hw hL => lv_if_ne C.1 C.2.1 d ht (fun q => kt q z b G cA p l e s m args below meth c H locs ls C hw hL) (fun q => kf q z b G cA p l e s m args below meth c H locs ls C hw hL)
theorem ev_ic_ne {x y : Int32} {off : Int} {tgt : Nat} (d : decode (mMc M) pc = .ok (.if_icmp .ne off, 3)) (ht : (pc : Int) + off = (tgt : Int)) (kt : ¬ x = y → EvF M Qf tgt L st kc ks w) (kf : x = y → EvF M Qf (pc + 3) L st kc ks w) : EvF M Qf pc L (.int y :: .int x :: st) kc ks w :=
  fun z b G cA p l e s m args below meth c H locs ls C hw hL => lv_icmp_ne C.1 C.2.1 d ht (fun q => kt q z b G cA p l e s m args below meth c H locs ls C hw hL) (fun q => kf q z b G cA p l e s m args below meth c H locs ls C hw hL)
theorem ev_if_lt {x : Int32} {off : Int} {tgt : Nat} (d : decode (mMc M) pc = .ok (.ifCond .lt off, 3)) (ht : (pc : Int) + off = (tgt : Int)) (kt : x < 0 → EvF M Qf tgt L st kc ks w) (kf : ¬ x < 0 → EvF M Qf (pc + 3) L st kc ks w) : EvF M Qf pc L (.int x :: st) kc ks w :=
  fun z b G cA p l e s m args below meth c H locs ls C hw hL => lv_if_lt C.1 C.2.1 d ht (fun q => kt q z b G cA p l e s m args below meth c H locs ls C hw hL) (fun q => kf q z b G cA p l e s m args below meth c H locs ls C hw hL)
theorem ev_ic_lt {x y : Int32} {off : Int} {tgt : Nat} (d : decode (mMc M) pc = .ok (.if_icmp .lt off, 3)) (ht : (pc : Int) + off = (tgt : Int)) (kt : x < y → EvF M Qf tgt L st kc ks w) (kf : ¬ x < y → EvF M Qf (pc + 3) L st kc ks w) : EvF M Qf pc L (.int y :: .int x :: st) kc ks w :=
  fun z b G cA p l e s m args below meth c H locs ls C hw hL => lv_icmp_lt C.1 C.2.1 d ht (fun q => kt q z b G cA p l e s m args below meth c H locs ls C hw hL) (fun q => kf q z b G cA p l e s m args below meth c H locs ls C hw hL)
theorem ev_if_ge {x : Int32} {off : Int} {tgt : Nat} (d : decode (mMc M) pc = .ok (.ifCond .ge off, 3)) (ht : (pc : Int) + off = (tgt : Int)) (kt : 0 ≤ x → EvF M Qf tgt L st kc ks w) (kf : ¬ 0 ≤ x → EvF M Qf (pc + 3) L st kc ks w) : EvF M Qf pc L (.int x :: st) kc ks w :=
  fun z b G cA p l e s m args below meth c H locs ls C hw hL => lv_if_ge C.1 C.2.1 d ht (fun q => kt q z b G cA p l e s m args below meth c H locs ls C hw hL) (fun q => kf q z b G cA p l e s m args below meth c H locs ls C hw hL)
theorem ev_ic_ge {x y : Int32} {off : Int} {tgt : Nat} (d : decode (mMc M) pc = .ok (.if_icmp .ge off, 3)) (ht : (pc : Int) + off = (tgt : Int)) (kt : y ≤ x → EvF M Qf tgt L st kc ks w) (kf : ¬ y ≤ x → EvF M Qf (pc + 3) L st kc ks w) : EvF M Qf pc L (.int y :: .int x :: st) kc ks w :=
  fun z b G cA p l e s m args below meth c H locs ls C hw hL => lv_icmp_ge C.1 C.2.1 d ht (fun q => kt q z b G cA p l e s m args below meth c H locs ls C hw hL) (fun q => kf q z b G cA p l e s m args below meth c H locs ls C hw hL)
theorem ev_if_gt {x : Int32} {off : Int} {tgt : Nat} (d : decode (mMc M) pc = .ok (.ifCond .gt off, 3)) (ht : (pc : Int) + off = (tgt : Int)) (kt : 0 < x → EvF M Qf tgt L st kc ks w) (kf : ¬ 0 < x → EvF M Qf (pc + 3) L st kc ks w) : EvF M Qf pc L (.int x :: st) kc ks w :=
  fun z b G cA p l e s m args below meth c H locs ls C hw hL => lv_if_gt C.1 C.2.1 d ht (fun q => kt q z b G cA p l e s m args below meth c H locs ls C hw hL) (fun q => kf q z b G cA p l e s m args below meth c H locs ls C hw hL)
theorem ev_ic_gt {x y : Int32} {off : Int} {tgt : Nat} (d : decode (mMc M) pc = .ok (.if_icmp .gt off, 3)) (ht : (pc : Int) + off = (tgt : Int)) (kt : y < x → EvF M Qf tgt L st kc ks w) (kf : ¬ y < x → EvF M Qf (pc + 3) L st kc ks w) : EvF M Qf pc L (.int y :: .int x :: st) kc ks w :=
  fun z b G cA p l e s m args below meth c H locs ls C hw hL => lv_icmp_gt C.1 C.2.1 d ht (fun q => kt q z b G cA p l e s m args below meth c H locs ls C hw hL) (fun q => kf q z b G cA p l e s m args below meth c H locs ls C hw hL)
theorem ev_if_le {x : Int32} {off : Int} {tgt : Nat} (d : decode (mMc M) pc = .ok (.ifCond .le off, 3)) (ht : (pc : Int) + off = (tgt : Int)) (kt : x ≤ 0 → EvF M Qf tgt L st kc ks w) (kf : ¬ x ≤ 0 → EvF M Qf (pc + 3) L st kc ks w) : EvF M Qf pc L (.int x :: st) kc ks w :=
  fun z b G cA p l e s m args below meth c H locs ls C hw hL => lv_if_le C.1 C.2.1 d ht (fun q => kt q z b G cA p l e s m args below meth c H locs ls C hw hL) (fun q => kf q z b G cA p l e s m args below meth c H locs ls C hw hL)
theorem ev_ic_le {x y : Int32} {off : Int} {tgt : Nat} (d : decode (mMc M) pc = .ok (.if_icmp .le off, 3)) (ht : (pc : Int) + off = (tgt : Int)) (kt : x ≤ y → EvF M Qf tgt L st kc ks w) (kf : ¬ x ≤ y → EvF M Qf (pc + 3) L st kc ks w) : EvF M Qf pc L (.int y :: .int x :: st) kc ks w :=
  fun z b G cA p l e s m args below meth c H locs ls C hw hL => lv_icmp_le C.1 C.2.1 d ht (fun q => kt q z b G cA p l e s m args below meth c H locs ls C hw hL) (fun q => kf q z b G cA p l e s m args below meth c H locs ls C hw hL)
end RU
end
section
/-! RULES of fields, arrays, new cells -/
/-- what the tables say of a getfield: the class's kind ci, its slot k -/
def mFd (own : String) (idx ci k : Nat) : Prop := ∃ (C : String) (T : u_T) (N : Nat), vwCl[ci]? = some (C, T, N) ∧ (∀ x ∈ u_ws C T N, x ∈ WA) ∧ k < N ∧ Jvm.Cond.fieldLink own idx (T k).1 (T k).2.1 (T k).2.2.1 ∈ WA
/-- .. and of a putfield: fin says if the field is final -/
def mFp (own : String) (idx ci k : Nat) (ty : FieldType) (fin : Bool) : Prop := ∃ (C : String) (T : u_T) (N : Nat) (ty0 : Nat → FieldType), vwCl[ci]? = some (C, T, N) ∧ (∀ x ∈ u_ws C T N, x ∈ WA) ∧ k < N ∧ Jvm.Cond.fieldLink own idx (T k).1 (T k).2.1 (T k).2.2.1 ∈ WA ∧
  (∀ k, k < N → parseFieldDescriptor (T k).2.2.1 = some (ty0 k)) ∧ (∀ a, a < N → ∀ b, b < N → a ≠ b → (T a).2.1 ≠ (T b).2.1) ∧ (T k).2.2.2 = fin ∧ parseFieldDescriptor (T k).2.2.1 = some ty ∧ (fin = true → (T k).1 = own)
theorem mR_len {z b : Nat} {cA : Nat → ClassId} {w : List mC} : (mR z b cA w).length = w.length := by simp [mR]
theorem mR_low {z b : Nat} {cA : Nat → ClassId} {G : va_G} {w : List mC} {H : Heap} (h : va_P G vwCl (mR z b cA w) H) (h0 : z ≤ H.size) : z + w.length ≤ H.size := by
  cases hw : w.length with
  | zero => omega
  | succ n =>
    have hl : n < w.length := by omega
    have h1 := (h n _ (mR_get (z := z) (b := b) (cA := cA) (List.getElem?_eq_getElem hl))).lt
    dsimp only at h1
    omega
theorem mV_fit {ty : FieldType} {v : Value} (h : narrow ty v = v ∧ fits ty v = true) (hr : ∀ a, v = .ref a → ∀ a', narrow ty (.ref a') = .ref a' ∧ fits ty (.ref a') = true) (hs : ∀ n, v ≠ .retAddr n) (z b : Nat) : narrow ty (mV z b v) = mV z b v ∧ fits ty (mV z b v) = true := by
  cases v with
  | ref a => exact hr a rfl _
  | retAddr n => exact absurd rfl (hs n)
  | _ => exact h
section HE
variable {M : mM} {Qf : mQ} {pc : Nat} {L st : List Value} {kc ks : Nat} {w : mW}
theorem ev_get {idx ci k q : Nat} {fs : List Value} {v : Value} (d : decode (mMc M) pc = .ok (.getfield idx, 3)) (hF : mFd (mMy M).cls idx ci k) (he : w[q]? = some (.inr (ci, fs))) (hv : fs[k]? = some v) (kk : EvF M Qf (pc + 3) L (v :: st) kc ks w) : EvF M Qf pc L (.ref q :: st) kc ks w := by
  intro z b G cA p l e s m args below meth c H locs ls C hw hL
  obtain ⟨Cn, T, N, hc, hin, hk, hl⟩ := hF
  exact va_get C.1 C.2.1 (Ts := WA) C.2.2.2.2.2.1 hin C.2.2.2.2.1 C.2.2.2.2.2.2.2.2.2.1 hw.1 q (mR_get he) hc k hk (C.2.2.2.2.2.1 _ hl) (fun _ h => h) (v := mV z b v) (by rw [List.getElem?_map, hv]; rfl) d (kk z b G cA p l e s m args below meth c H locs ls C hw hL)
theorem ev_put {idx ci k q : Nat} {ty : FieldType} {fs : List Value} {v : Value} {w' : mW} (d : decode (mMc M) pc = .ok (.putfield idx, 3)) (hF : mFp (mMy M).cls idx ci k ty false) (he : w[q]? = some (.inr (ci, fs))) (hk : k < fs.length) (hv : ∀ z b, narrow ty (mV z b v) = mV z b v ∧ fits ty (mV z b v) = true) (hw' : w.set q (.inr (ci, fs.set k v)) = w') (kk : EvF M Qf (pc + 3) L st kc ks w') : EvF M Qf pc L (v :: .ref q :: st) kc ks w := by
  intro z b G cA p l e s m args below meth c H locs ls C hw hL
  obtain ⟨Cn, T, N, ty0, hc, hin, hkN, hl, hty, hnm, hfin, hd, -⟩ := hF
  refine va_put C.1 C.2.1 (Ts := WA) C.2.2.2.2.2.1 hin ty0 hty hnm C.2.2.2.2.1 C.2.2.2.2.2.2.2.2.2.1 hw.1 mR_D hw.2 q (mR_get he) hc k hkN (C.2.2.2.2.2.1 _ hl) (fun _ h => h) hfin hd (hv z b).1 (hv z b).2 (by rw [List.length_map]; exact hk) d (fun H1 locs1 hP hD hS => ?_)
  refine kk z b G cA p l e s m args below meth c H1 locs1 ls C ⟨?_, hS⟩ hL
  rw [← hw', ← mR_set]
  have e1 : mE z b cA (.inr (ci, fs.set k v)) = .inr (ci, (fs.map (mV z b)).set k (mV z b v)) := by
    show Sum.inr (ci, (fs.set k v).map (mV z b)) = _
    rw [List.map_set]
  rw [e1]
  exact hP
theorem ev_putF {idx ci k q : Nat} {ty : FieldType} {fs : List Value} {v : Value} {w' : mW} (d : decode (mMc M) pc = .ok (.putfield idx, 3)) (hF : mFp (mMy M).cls idx ci k ty true) (hi : mMi M = true) (he : w[q]? = some (.inr (ci, fs))) (hk : k < fs.length) (hv : ∀ z b, narrow ty (mV z b v) = mV z b v ∧ fits ty (mV z b v) = true) (hw' : w.set q (.inr (ci, fs.set k v)) = w') (kk : EvF M Qf (pc + 3) L st kc ks w') : EvF M Qf pc L (v :: .ref q :: st) kc ks w := by
  intro z b G cA p l e s m args below meth c H locs ls C hw hL
  obtain ⟨Cn, T, N, ty0, hc, hin, hkN, hl, hty, hnm, hfin, hd, hdecl⟩ := hF
  refine va_putF C.1 C.2.1 (Ts := WA) C.2.2.2.2.2.1 hin ty0 hty hnm C.2.2.2.2.1 C.2.2.2.2.2.2.2.2.2.1 hw.1 mR_D hw.2 q (mR_get he) hc k hkN (C.2.2.2.2.2.1 _ hl) (fun _ h => h) hfin (C.2.2.2.2.2.2.2.2.1 hi) (hdecl rfl) hd (hv z b).1 (hv z b).2 (by rw [List.length_map]; exact hk) d (fun H1 locs1 hP hD hS => ?_)
  refine kk z b G cA p l e s m args below meth c H1 locs1 ls C ⟨?_, hS⟩ hL
  rw [← hw', ← mR_set]
  have e1 : mE z b cA (.inr (ci, fs.set k v)) = .inr (ci, (fs.map (mV z b)).set k (mV z b v)) := by
    show Sum.inr (ci, (fs.set k v).map (mV z b)) = _
    rw [List.map_set]
  rw [e1]
  exact hP
/-- an int array's place -/
theorem ev_iald {q n : Nat} {f : Nat → Int32} {i : Int32} (d : decode (mMc M) pc = .ok (.iaload, 1)) (he : w[q]? = some (.inl (0, n, .inl f))) (hi : vp_in i n) (kk : EvF M Qf (pc + 1) L (.int (f i.toNatClampNeg) :: st) kc ks w) : EvF M Qf pc L (.int i :: .ref q :: st) kc ks w := by
  intro z b G cA p l e s m args below meth c H locs ls C hw hL
  exact va_iald C.1 C.2.1 C.2.2.2.2.2.2.2.2.2.1 hw.1 q 0 (mR_get he) rfl hi d (kk z b G cA p l e s m args below meth c H locs ls C hw hL)
theorem ev_zald {q n : Nat} {f : Nat → Int32} {i : Int32} (d : decode (mMc M) pc = .ok (.baload, 1)) (he : w[q]? = some (.inl (1, n, .inl f))) (hi : vp_in i n) (kk : EvF M Qf (pc + 1) L (.int (f i.toNatClampNeg) :: st) kc ks w) : EvF M Qf pc L (.int i :: .ref q :: st) kc ks w := by
  intro z b G cA p l e s m args below meth c H locs ls C hw hL
  exact va_zald C.1 C.2.1 C.2.2.2.2.2.2.2.2.2.1 hw.1 q 1 (mR_get he) rfl hi d (kk z b G cA p l e s m args below meth c H locs ls C hw hL)
theorem ev_lald {q n : Nat} {f : Nat → Int64} {i : Int32} (d : decode (mMc M) pc = .ok (.laload, 1)) (he : w[q]? = some (.inl (2, n, .inr (.inl f)))) (hi : vp_in i n) (kk : EvF M Qf (pc + 1) L (.long (f i.toNatClampNeg) :: st) kc ks w) : EvF M Qf pc L (.int i :: .ref q :: st) kc ks w := by
  intro z b G cA p l e s m args below meth c H locs ls C hw hL
  exact va_lald C.1 C.2.1 C.2.2.2.2.2.2.2.2.2.1 hw.1 q 2 (mR_get he) rfl hi d (kk z b G cA p l e s m args below meth c H locs ls C hw hL)
theorem ev_aald {q n a : Nat} {f : Nat → Option Nat} {i : Int32} (d : decode (mMc M) pc = .ok (.aaload, 1)) (he : w[q]? = some (.inl (3, n, .inr (.inr f)))) (hi : vp_in i n) (ha : f i.toNatClampNeg = some a) (kk : EvF M Qf (pc + 1) L (.ref a :: st) kc ks w) : EvF M Qf pc L (.int i :: .ref q :: st) kc ks w := by
  intro z b G cA p l e s m args below meth c H locs ls C hw hL
  refine va_aldq C.1 C.2.1 C.2.2.2.2.2.2.2.2.2.1 hw.1 q 3 (mR_get he) rfl hi d ?_
  rw [ha]
  exact kk z b G cA p l e s m args below meth c H locs ls C hw hL
theorem ev_iast {q n : Nat} {f : Nat → Int32} {i x : Int32} {w' : mW} (d : decode (mMc M) pc = .ok (.iastore, 1)) (he : w[q]? = some (.inl (0, n, .inl f))) (hi : vp_in i n) (hw' : w.set q (.inl (0, n, .inl (upd f i.toNatClampNeg x))) = w') (kk : EvF M Qf (pc + 1) L st kc ks w') : EvF M Qf pc L (.int x :: .int i :: .ref q :: st) kc ks w := by
  intro z b G cA p l e s m args below meth c H locs ls C hw hL
  refine va_iast C.1 C.2.1 C.2.2.2.2.2.2.2.2.2.1 hw.1 mR_D hw.2 q 0 (mR_get he) rfl hi d (fun H1 locs1 hP hD hS => ?_)
  refine kk z b G cA p l e s m args below meth c H1 locs1 ls C ⟨?_, hS⟩ hL
  rw [← hw', ← mR_set]
  exact hP
theorem ev_zast {q n : Nat} {f : Nat → Int32} {i x : Int32} {w' : mW} (d : decode (mMc M) pc = .ok (.bastore, 1)) (he : w[q]? = some (.inl (1, n, .inl f))) (hi : vp_in i n) (hw' : w.set q (.inl (1, n, .inl (upd f i.toNatClampNeg (x &&& 1)))) = w') (kk : EvF M Qf (pc + 1) L st kc ks w') : EvF M Qf pc L (.int x :: .int i :: .ref q :: st) kc ks w := by
  intro z b G cA p l e s m args below meth c H locs ls C hw hL
  refine va_zast C.1 C.2.1 C.2.2.2.2.2.2.2.2.2.1 hw.1 mR_D hw.2 q 1 (mR_get he) rfl hi d (fun H1 locs1 hP hD hS => ?_)
  refine kk z b G cA p l e s m args below meth c H1 locs1 ls C ⟨?_, hS⟩ hL
  rw [← hw', ← mR_set]
  exact hP
theorem ev_last {q n : Nat} {f : Nat → Int64} {i : Int32} {x : Int64} {w' : mW} (d : decode (mMc M) pc = .ok (.lastore, 1)) (he : w[q]? = some (.inl (2, n, .inr (.inl f)))) (hi : vp_in i n) (hw' : w.set q (.inl (2, n, .inr (.inl (vp_updL f i.toNatClampNeg x)))) = w') (kk : EvF M Qf (pc + 1) L st kc ks w') : EvF M Qf pc L (.long x :: .int i :: .ref q :: st) kc ks w := by
  intro z b G cA p l e s m args below meth c H locs ls C hw hL
  refine va_last C.1 C.2.1 C.2.2.2.2.2.2.2.2.2.1 hw.1 mR_D hw.2 q 2 (mR_get he) rfl hi d (fun H1 locs1 hP hD hS => ?_)
  refine kk z b G cA p l e s m args below meth c H1 locs1 ls C ⟨?_, hS⟩ hL
  rw [← hw', ← mR_set]
  exact hP
theorem ev_aast {q n v : Nat} {f : Nat → Option Nat} {fs : List Value} {i : Int32} {w' : mW} (d : decode (mMc M) pc = .ok (.aastore, 1)) (he : w[q]? = some (.inl (3, n, .inr (.inr f)))) (hi : vp_in i n) (hv : w[v]? = some (.inr (1, fs))) (hw' : w.set q (.inl (3, n, .inr (.inr (va_up f i.toNatClampNeg (some v))))) = w') (kk : EvF M Qf (pc + 1) L st kc ks w') : EvF M Qf pc L (.ref v :: .int i :: .ref q :: st) kc ks w := by
  intro z b G cA p l e s m args below meth c H locs ls C hw hL
  refine va_astq C.1 C.2.1 C.2.2.2.2.2.2.2.2.2.1 hw.1 mR_D hw.2 q 3 (z + v |> fun _ => v) 1 (mR_get he) (r := (RX1, TX1, 4)) rfl (mR_get hv) rfl hi d (fun H1 locs1 hP hD hS => ?_)
  refine kk z b G cA p l e s m args below meth c H1 locs1 ls C ⟨?_, hS⟩ hL
  rw [← hw', ← mR_set]
  have e1 : mE z b cA (.inl (3, n, .inr (.inr (va_up f i.toNatClampNeg (some v))))) = .inl (cA 3, n, .inr (.inr (.inr (.inr (va_up (fun k => (f k).map (fun a => z + a)) i.toNatClampNeg (some (z + v))))))) := by
    show Sum.inl _ = Sum.inl _
    congr 7
    funext k
    by_cases hk : k = i.toNatClampNeg
    · simp [va_up, hk]
    · simp [va_up, hk]
  rw [e1]
  exact hP
theorem ev_alen {q n t : Nat} {a : (Nat → Int32) ⊕ ((Nat → Int64) ⊕ (Nat → Option Nat))} (d : decode (mMc M) pc = .ok (.arraylength, 1)) (he : w[q]? = some (.inl (t, n, a))) (ht : t < 4) (kk : EvF M Qf (pc + 1) L (.int (Int32.ofNat n) :: st) kc ks w) : EvF M Qf pc L (.ref q :: st) kc ks w := by
  intro z b G cA p l e s m args below meth c H locs ls C hw hL
  have k9 := kk z b G cA p l e s m args below meth c H locs ls C hw hL
  obtain ⟨ty, hty⟩ : ∃ ty, (mT cA)[t]? = some (cA t, ty) := by
    match t, ht with
    | 0, _ => exact ⟨_, rfl⟩
    | 1, _ => exact ⟨_, rfl⟩
    | 2, _ => exact ⟨_, rfl⟩
    | 3, _ => exact ⟨_, rfl⟩
  match a, he with
  | .inl f, he => exact va_alen C.1 C.2.1 C.2.2.2.2.2.2.2.2.2.1 hw.1 q t (mR_get he) hty rfl d k9
  | .inr (.inl f), he => exact va_alen C.1 C.2.1 C.2.2.2.2.2.2.2.2.2.1 hw.1 q t (mR_get he) hty rfl d k9
  | .inr (.inr f), he => exact va_alen C.1 C.2.1 C.2.2.2.2.2.2.2.2.2.1 hw.1 q t (mR_get he) hty rfl d k9
/-- the script -/
theorem ev_sld {Ls : Nat} {xs : Nat → Int32} {i : Int32} (d : decode (mMc M) pc = .ok (.iaload, 1)) (hs : mMs M = some (Ls, xs)) (hi : vp_in i Ls) (kk : EvF M Qf (pc + 1) L (.int (xs i.toNatClampNeg) :: st) kc ks w) : EvF M Qf pc L (.int i :: scr1 :: st) kc ks w := by
  intro z b G cA p l e s m args below meth c H locs ls C hw hL
  obtain ⟨h1, h2, h3, -⟩ := C.2.2.2.2.2.2.2.2.2.2.2.2.2.2.2.2 Ls xs hs
  exact va_sld C.1 C.2.1 h1 h2 (A := fun q => z ≤ q) (Nat.not_le.mpr h3) hw.2 hi d (kk z b G cA p l e s m args below meth c H locs ls C hw hL)
theorem ev_slen {Ls : Nat} {xs : Nat → Int32} (d : decode (mMc M) pc = .ok (.arraylength, 1)) (hs : mMs M = some (Ls, xs)) (kk : EvF M Qf (pc + 1) L (.int (Int32.ofNat Ls) :: st) kc ks w) : EvF M Qf pc L (scr1 :: st) kc ks w := by
  intro z b G cA p l e s m args below meth c H locs ls C hw hL
  obtain ⟨h1, h2, h3, -⟩ := C.2.2.2.2.2.2.2.2.2.2.2.2.2.2.2.2 Ls xs hs
  exact va_slen C.1 C.2.1 h1 h2 (A := fun q => z ≤ q) (Nat.not_le.mpr h3) hw.2 d (kk z b G cA p l e s m args below meth c H locs ls C hw hL)
theorem ev_widen {k2 s2 : Nat} (h1 : kc ≤ k2) (h2 : ks ≤ s2) (kk : EvF M Qf pc L st k2 s2 w) : EvF M Qf pc L st kc ks w :=
  fun z b G cA p l e s m args below meth c H locs ls C hw hL => W.widen h1 h2 (kk z b G cA p l e s m args below meth c H locs ls C hw hL)
end HE
end
section
/-! RULES of new cells; contracts; calls; ends -/
section NW
variable {M : mM} {Qf : mQ} {pc : Nat} {L st : List Value} {kc ks : Nat} {w : mW}
/-- the new cell's address: the next one -/
theorem mR_next {z b : Nat} {cA : Nat → ClassId} {w : List mC} {q N : Nat} {e : va_E} (hD : va_D (fun q => z ≤ q) (mR z b cA w ++ [(q, e)])) (hq : q < N) (hN : N ≤ z + w.length + 1) : q = z + w.length := by
  have hA : z ≤ q := by
    have h1 := hD.2 (mR z b cA w).length (q, e) (by rw [List.getElem?_append_right (Nat.le_refl _), Nat.sub_self]; rfl)
    exact h1
  rcases Nat.lt_or_ge q (z + w.length) with h | h
  · exfalso
    have hl : q - z < w.length := by omega
    have h2 : (mR z b cA w ++ [(q, e)])[q - z]? = some (z + (q - z), mE z b cA w[q - z]) := by
      rw [List.getElem?_append_left (by rw [mR_len]; exact hl)]
      exact mR_get (List.getElem?_eq_getElem hl)
    have h3 := hD.1 (q - z) (mR z b cA w).length _ (q, e) h2 (by rw [List.getElem?_append_right (Nat.le_refl _), Nat.sub_self]; rfl) (show z + (q - z) = q by omega)
    rw [mR_len] at h3
    omega
  · omega
theorem ev_new {idx ci N n0 : Nat} {Cn : String} {T : u_T} {ty : Nat → FieldType} {fs : List Value} (d : decode (mMc M) pc = .ok (.new idx, 3)) (hc : vwCl[ci]? = some (Cn, T, N)) (hin : ∀ x ∈ u_ws Cn T N, x ∈ WA) (hty : ∀ k, k < N → parseFieldDescriptor (T k).2.2.1 = some (ty k))
    (h1 : Jvm.Cond.classLink (mMy M).cls idx Cn ∈ WA) (h2 : Jvm.Cond.instantiable Cn N ∈ WA) (h3 : Jvm.Cond.initialized Cn ∈ WA) (hfs : ∀ j, j < N → defaultValue (ty j) = vp_V fs j) (hfr : ∀ z b, fs.map (mV z b) = fs) (hz : mMz M = some n0) (hn : w.length = n0 + kc) (hR : kc + 1 ≤ (mMR M).cells ∧ ks + N ≤ (mMR M).slots)
    (kk : EvF M Qf (pc + 3) L (.ref w.length :: st) (kc + 1) (ks + N) (w ++ [.inr (ci, fs)])) : EvF M Qf pc L st kc ks w := by
  intro z b G cA p l e s m args below meth c H locs ls C hw hL
  refine va_new C.1 C.2.1 (Ts := WA) C.2.2.2.2.2.1 hin ty hty C.2.2.2.2.1 (C.2.2.2.2.2.1 _ h1) (C.2.2.2.2.2.1 _ h2) (C.2.2.2.2.2.1 _ h3) C.2.2.2.2.2.2.2.2.2.1 hw.1 mR_D hw.2 (fun q hq => Nat.le_trans C.2.2.2.2.2.2.2.2.2.2.2.2.2.2.1 hq) hc hfs hR.1 hR.2 d (fun q H1 hP hD hS => ?_)
  intro U hU X
  have hsz := X.same.2.2.1
  have hs0 := C.2.2.2.2.2.2.2.2.2.2.2.2.2.2.2.1 n0 hz
  have hU1 : (U.setVm s.vm).heap.size = H1.size := by rw [← hU]; rfl
  rw [hU1, hs0] at hsz
  have hq : q < H1.size := (hP (mR z b cA w).length _ (by rw [List.getElem?_append_right (Nat.le_refl _), Nat.sub_self]; rfl)).lt
  have e1 := mR_next hD hq (by omega)
  subst e1
  refine kk z b G cA p l e s m args below meth c H1 locs ls C ⟨?_, hS⟩ hL U hU X
  rw [mR_app]
  show va_P G vwCl (mR z b cA w ++ [(z + w.length, Sum.inr (ci, fs.map (mV z b)))]) H1
  rw [hfr]
  exact hP
/-- an array of numbers: its kind t in mT, its type -/
theorem ev_newa {atype : ArrayType} {t N n0 : Nat} {ty : FieldType} {v : Int32} {e0 : mC} {a0 : vp_A} (d : decode (mMc M) pc = .ok (.newarray atype, 2)) (hty : newarray.typeOf atype = ty) (hw1 : Jvm.Cond.arrayClass ty ∈ WA) (ht : ∀ cA, (mT cA)[t]? = some (cA t, ty)) (hne : ∀ Cn, ty ≠ .object Cn) (ha : ∀ cA : ClassId, vp_cell cA a0 = arrV cA N (fun _ => defaultValue ty)) (he : ∀ z b cA, mE z b cA e0 = .inl (cA t, a0))
    (hv : ¬ v < 0) (hN : v.toNatClampNeg = N) (hby : N * componentBytes ty ≤ 536870912) (hz : mMz M = some n0) (hn : w.length = n0 + kc) (hR : kc + 1 ≤ (mMR M).cells ∧ ks + N ≤ (mMR M).slots)
    (kk : EvF M Qf (pc + 2) L (.ref w.length :: st) (kc + 1) (ks + N) (w ++ [e0])) : EvF M Qf pc L (.int v :: st) kc ks w := by
  intro z b G cA p l e s m args below meth c H locs ls C hw hL
  refine va_newa C.1 C.2.1 (by rw [hty]; exact C.2.2.2.2.2.1 _ hw1) hty C.2.2.2.2.2.2.2.2.2.1 hw.1 mR_D hw.2 (fun q hq => Nat.le_trans C.2.2.2.2.2.2.2.2.2.2.2.2.2.2.1 hq) ha hv hN hby hR.1 hR.2 d (fun q cA1 H1 hK hP hD hS => ?_)
  have hc1 : cA1 = cA t := by
    have f1 := (hK.2 (mT cA).length (cA1, ty) (by rw [List.getElem?_append_right (Nat.le_refl _), Nat.sub_self]; rfl)).2
    have f2 := (C.2.2.2.2.2.2.2.2.2.1.2 t _ (ht cA)).2
    cases ty with
    | object Cn => exact absurd rfl (hne Cn)
    | _ => exact Option.some.inj (f1.symm.trans f2)
  subst hc1
  intro U hU X
  have hsz := X.same.2.2.1
  have hs0 := C.2.2.2.2.2.2.2.2.2.2.2.2.2.2.2.1 n0 hz
  have hU1 : (U.setVm s.vm).heap.size = H1.size := by rw [← hU]; rfl
  rw [hU1, hs0] at hsz
  have hq : q < H1.size := (hP (mR z b cA w).length _ (by rw [List.getElem?_append_right (Nat.le_refl _), Nat.sub_self]; rfl)).lt
  have e1 := mR_next hD hq (by omega)
  subst e1
  refine kk z b G cA p l e s m args below meth c H1 locs ls C ⟨?_, hS⟩ hL U hU X
  rw [mR_app, he]
  exact hP
theorem ev_newq {idx N n0 : Nat} {v : Int32} (d : decode (mMc M) pc = .ok (.anewarray idx, 3)) (h1 : Jvm.Cond.classLink (mMy M).cls idx "Copperleaf$State" ∈ WA)
    (hv : ¬ v < 0) (hN : v.toNatClampNeg = N) (hby : N * 4 ≤ 536870912) (hz : mMz M = some n0) (hn : w.length = n0 + kc) (hR : kc + 1 ≤ (mMR M).cells ∧ ks + N ≤ (mMR M).slots)
    (kk : EvF M Qf (pc + 3) L (.ref w.length :: st) (kc + 1) (ks + N) (w ++ [.inl (3, N, .inr (.inr (fun _ => none)))])) : EvF M Qf pc L (.int v :: st) kc ks w := by
  intro z b G cA p l e s m args below meth c H locs ls C hw hL
  refine va_newq C.1 C.2.1 C.2.2.2.2.1 (C.2.2.2.2.2.1 _ h1) C.2.2.2.2.2.2.2.2.2.2.1.2.2.2.2.1 C.2.2.2.2.2.2.2.2.2.1 hw.1 mR_D hw.2 (fun q hq => Nat.le_trans C.2.2.2.2.2.2.2.2.2.2.2.2.2.2.1 hq) hv hN hby hR.1 hR.2 d (fun q cA1 H1 hK hP hD hS => ?_)
  have hc1 : cA1 = cA 3 := by
    have f1 := (hK.2 (mT cA).length (cA1, .object "Copperleaf$State") (by rw [List.getElem?_append_right (Nat.le_refl _), Nat.sub_self]; rfl)).2
    have f2 := (C.2.2.2.2.2.2.2.2.2.1.2 3 _ rfl).2
    obtain ⟨-, -, -, -, -, g1⟩ := f1
    obtain ⟨-, -, -, -, -, g2⟩ := f2
    exact Option.some.inj (g1.symm.trans g2)
  subst hc1
  intro U hU X
  have hsz := X.same.2.2.1
  have hs0 := C.2.2.2.2.2.2.2.2.2.2.2.2.2.2.2.1 n0 hz
  have hU1 : (U.setVm s.vm).heap.size = H1.size := by rw [← hU]; rfl
  rw [hU1, hs0] at hsz
  have hq : q < H1.size := (hP (mR z b cA w).length _ (by rw [List.getElem?_append_right (Nat.le_refl _), Nat.sub_self]; rfl)).lt
  have e1 := mR_next hD hq (by omega)
  subst e1
  refine kk z b G cA p l e s m args below meth c H1 locs ls C ⟨?_, hS⟩ hL U hU X
  rw [mR_app]
  exact hP
end NW
/-! CONTRACTS -/
def mB (M : mM) (z b : Nat) (G : va_G) (cA : Nat → ClassId) (w : mW) (U : State) : Prop := va_P G vwCl (mR z b cA w) U.heap ∧ va_K G vwCl (mT cA) U ∧ mXF U ∧ mZ1 z U U.heap ∧ mZ2 z U U.heap ∧ z ≤ U.heap.size ∧ ∀ n0 : Nat, mMz M = some n0 → U.heap.size = z + n0
abbrev mPc (M : mM) (z b : Nat) (G : va_G) (cA : Nat → ClassId) (As : List Value) (w : mW) : Array Value → State → Prop := va_Pc (As.map (mV z b)) (mB M z b G cA w)
def mQr (z b : Nat) (G : va_G) (cA : Nat → ClassId) (res : Option Value ⊕ String) (w' : mW) : Array Value → State → Outcome → State → Prop := fun _ st o t => match res with
  | .inl v => o = .returned (v.map (mV z b)) ∧ va_P G vwCl (mR z b cA w') t.heap ∧ va_F (fun q => z ≤ q) st t
  | .inr _ => False
def mXr (z b : Nat) (G : va_G) (cA : Nat → ClassId) (res : Option Value ⊕ String) (w' : mW) : String → State → State → Prop := fun E st t => match res with
  | .inl _ => False
  | .inr E' => E = E' ∧ va_P G vwCl (mR z b cA w') t.heap ∧ va_F (fun q => z ≤ q) st t
def mHd (M : mM) : Jvm.Cond := match mMh M with
  | [] => .code (mMy M) (mMc M) (mMn M) (mMr M)
  | h :: hh => .codeWith (mMy M) (mMc M) (mMn M) (mMr M) (h :: hh)
abbrev mWs (M : mM) : List Jvm.Cond := mHd M :: WA
/-- THE CONTRACT: called with As in the world w the method ends with res in the world w' -/
def EvS (M : mM) (As : List Value) (w : mW) (res : Option Value ⊕ String) (w' : mW) : Prop :=
  ∀ (l : Launch) (z b : Nat) (G : va_G) (cA : Nat → ClassId), l.stackTraces = false → vx_Met l (mMy M) (mWs M) (mMR M) (mPc M z b G cA As w) (mQr z b G cA res w') (mXr z b G cA res w') (mMR M).cells (mMR M).slots (fun q => z ≤ q)
/-- a method's own end -/
def mQm (M : mM) (res : Option Value ⊕ String) (w' : mW) : mQ := fun z b G cA below args s => vx_MQ below (mQr z b G cA res w') (mXr z b G cA res w') args s (mMR M).cells (mMR M).slots (fun q => z ≤ q)
def mPad : List Value → List Value
  | [] => []
  | v :: vs => if v.category = 2 then v :: hole :: mPad vs else v :: mPad vs
theorem mPad_at {z b : Nat} : ∀ (As : List Value) (i : Nat) (v : Value), (mPad As)[i]? = some v → v ≠ hole → (lg_sl (As.map (mV z b)))[i]? = some (.val (mV z b v))
  | [], i, v, h, _ => by simp [mPad] at h
  | a :: As, i, v, h, hv => by
    have ih := mPad_at (z := z) (b := b) As
    unfold mPad at h
    simp only [List.map_cons, lg_sl, List.flatMap_cons, mV_cat]
    by_cases hc : a.category = 2
    · simp only [if_pos hc] at h ⊢
      match i, h with
      | 0, h => simp at h; rw [← h]; rfl
      | 1, h => simp at h; exact absurd h.symm hv
      | i + 2, h =>
        have h2 : (mPad As)[i]? = some v := by simpa using h
        have h3 := ih i v h2 hv
        simpa [lg_sl] using h3
    · simp only [if_neg hc] at h ⊢
      match i, h with
      | 0, h => simp at h; rw [← h]; rfl
      | i + 1, h =>
        have h2 : (mPad As)[i]? = some v := by simpa using h
        have h3 := ih i v h2 hv
        simpa [lg_sl] using h3
theorem mPad_len {z b : Nat} : ∀ (As : List Value), (lg_sl (As.map (mV z b))).length = (mPad As).length
  | [] => rfl
  | a :: As => by
    have ih := mPad_len (z := z) (b := b) As
    simp only [List.map_cons, lg_sl, List.flatMap_cons, mV_cat, mPad] at ih ⊢
    by_cases hc : a.category = 2
    · simp [if_pos hc, ih]
    · simp [if_neg hc, ih]
/-- the locals at the entry -/
abbrev mEn (M : mM) (As : List Value) : List Value := mPad As ++ List.replicate (mMn M - (mPad As).length) hole
theorem evs_of {M : mM} {As L0 : List Value} {w w' : mW} {res : Option Value ⊕ String} (hy : plainName (mMy M).cls = true) (hn : (mPad As).length ≤ mMn M) (hi : mMi M = true → (mMy M).name = "<init>") (hs : mMs M = none) (hL0 : mEn M As = L0) (k : EvF M (mQm M res w') 0 L0 [] 0 0 w) : EvS M As w res w' := by
  intro l z b G cA hl
  have body : ∀ p e s m args below meth c s₁, BodyLoose p l (mMy M) (headSpec (mWs M) (mMR M)) (mMc M) (mMn M) (mMr M) e s m args below meth c s₁ → c.maxLocals = mMn M → c.exceptionTable.toList = tableOf (mMh M) → mPc M z b G cA As w args s →
      W p l e (headSpec (mWs M) (mMR M)).room s m args below meth c s.heap [] 0 0 (vx_MQ below (mQr z b G cA res w') (mXr z b G cA res w') args s (mMR M).cells (mMR M).slots (fun q => z ≤ q)) (entryFrame m args (mMn M)) := by
    intro p e s m args below meth c s₁ B hml htab hP
    obtain ⟨rfl, hP, hK, hXF, hZ1, hZ2, hz, hn0⟩ := hP
    have hts := atoms_spec (ws := mWs M) B.pre
    have hent := lv_entry (As.map (mV z b)) (n := mMn M) (by rw [mPad_len]; exact hn)
    rw [lg_entry_eq]
    refine k z b G cA p l e s m _ below meth c s.heap [] _ ⟨B.exec, B.bytes, hml, B.returns, findClass_of_methodNamed B.named, fun x hx => hts x (List.mem_cons_of_mem _ hx), B.notSynchronized, htab, fun q => (name_of_methodNamed B.named B.method).1.trans (hi q), hK, hXF, hl, hZ1, hZ2, hz, hn0, fun Ls xs q => by rw [hs] at q; cases q⟩ ⟨hP, va_S.rf⟩ ?_
    refine ⟨hent.1, ?_, hent.2.1, fun i v hi hv => ?_⟩
    · rw [← hL0]
      simp only [List.length_append, List.length_replicate]
      omega
    · rw [← hL0] at hi
      by_cases hl2 : i < (mPad As).length
      · rw [List.getElem?_append_left hl2] at hi
        have h5 := mPad_at (z := z) (b := b) As i v hi hv
        rw [List.getElem?_toArray, List.getElem?_append_left (by rw [mPad_len]; exact hl2)]
        exact h5
      · rw [List.getElem?_append_right (by omega)] at hi
        exact absurd (List.eq_of_mem_replicate (List.mem_of_getElem? hi)) hv
  cases hh : mMh M with
  | nil =>
    refine vx_ofW (cc := mMc M) (maxL := mMn M) (ret := mMr M) hy (ws' := WA) (by unfold mWs mHd; rw [hh]) ?_
    intro p e s m args below meth c s₁ B hml ht hP
    refine body p e s m args below meth c s₁ B hml ?_ hP
    rw [hh]
    cases htl : c.exceptionTable.toList with
    | nil => rfl
    | cons x xs => exact absurd (ht x (by rw [htl]; exact List.mem_cons_self)) id
  | cons h hs2 =>
    refine vx_ofWH (cc := mMc M) (maxL := mMn M) (ret := mMr M) (hh := h :: hs2) hy (ws' := WA) (by unfold mWs mHd; rw [hh]) ?_
    intro p e s m args below meth c s₁ B hml hP
    refine body p e s m args below meth c s₁ B hml ?_ hP
    rw [hh]
    refine vx_table (x := mMy M) B (bytes := mMc M) (maxL' := mMn M) (ret' := mMr M) ?_
    have hts := atoms_spec (ws := mWs M) B.pre
    have h1 := hts (mHd M) List.mem_cons_self
    unfold mHd at h1
    rw [hh] at h1
    exact h1
end
section
/-! ENDS: returns, calls, throws, catches -/
section EN
variable {M : mM} {Qf : mQ} {pc : Nat} {L st : List Value} {kc ks : Nat} {w : mW}
theorem ev_vret (d : decode (mMc M) pc = .ok (.return_, 1)) (hr : mMr M = none) (hk : kc ≤ (mMR M).cells) (hs : ks ≤ (mMR M).slots) : EvF M (mQm M (.inl none) w) pc L [] kc ks w :=
  fun z b G cA p l e s m args below meth c H locs ls C hw hL => by
    have hlocks := C.2.2.2.2.2.2.1
    exact W.widen hk hs (vx_ret (W.vret C.1 C.2.1 (C.2.2.2.1.trans hr) (fun t ht hW => ⟨rfl, by rw [ht]; exact hw.1, hw.2.F ht⟩) hw.2.2.2 d))
theorem ev_iret {v : Int32} (d : decode (mMc M) pc = .ok (.ireturn, 1)) (hr : mMr M = some .int) (hk : kc ≤ (mMR M).cells) (hs : ks ≤ (mMR M).slots) : EvF M (mQm M (.inl (some (.int v))) w) pc L [.int v] kc ks w :=
  fun z b G cA p l e s m args below meth c H locs ls C hw hL => by
    have hlocks := C.2.2.2.2.2.2.1
    exact W.widen hk hs (vx_ret (W.iret C.1 C.2.1 (C.2.2.2.1.trans hr) (fun t ht hW => ⟨rfl, by rw [ht]; exact hw.1, hw.2.F ht⟩) hw.2.2.2 d))
theorem ev_zret {v : Int32} (d : decode (mMc M) pc = .ok (.ireturn, 1)) (hr : mMr M = some .boolean) (hv : v &&& 1 = v) (hk : kc ≤ (mMR M).cells) (hs : ks ≤ (mMR M).slots) : EvF M (mQm M (.inl (some (.int v))) w) pc L [.int v] kc ks w :=
  fun z b G cA p l e s m args below meth c H locs ls C hw hL => by
    have hlocks := C.2.2.2.2.2.2.1
    exact W.widen hk hs (vx_ret (W.zret (ty := .boolean) C.1 C.2.1 (C.2.2.2.1.trans hr) (by show Value.int (v &&& 1) = .int v; rw [hv]) (fun t ht hW => ⟨rfl, by rw [ht]; exact hw.1, hw.2.F ht⟩) hw.2.2.2 d))
theorem ev_lret {v : Int64} (d : decode (mMc M) pc = .ok (.lreturn, 1)) (hr : mMr M = some .long) (hk : kc ≤ (mMR M).cells) (hs : ks ≤ (mMR M).slots) : EvF M (mQm M (.inl (some (.long v))) w) pc L [.long v] kc ks w :=
  fun z b G cA p l e s m args below meth c H locs ls C hw hL => by
    have hlocks := C.2.2.2.2.2.2.1
    exact W.widen hk hs (vx_ret (W.lret C.1 C.2.1 (C.2.2.2.1.trans hr) (fun t ht hW => ⟨rfl, by rw [ht]; exact hw.1, hw.2.F ht⟩) hw.2.2.2 d))
theorem ev_aret {a : Nat} {Cn : String} (d : decode (mMc M) pc = .ok (.areturn, 1)) (hr : mMr M = some (.object Cn)) (hk : kc ≤ (mMR M).cells) (hs : ks ≤ (mMR M).slots) : EvF M (mQm M (.inl (some (.ref a))) w) pc L [.ref a] kc ks w :=
  fun z b G cA p l e s m args below meth c H locs ls C hw hL => by
    have hlocks := C.2.2.2.2.2.2.1
    exact W.widen hk hs (vx_ret (W.aret C.1 C.2.1 (C.2.2.2.1.trans hr) (Or.inl ⟨Cn, rfl⟩) (Or.inr ⟨z + a, rfl⟩) (fun t ht hW => ⟨rfl, by rw [ht]; exact hw.1, hw.2.F ht⟩) hw.2.2.2 d))
/-- Object.<init> -/
theorem ev_objInit {idx a : Nat} (d : decode (mMc M) pc = .ok (.invokespecial idx, 3)) (h1 : Jvm.Cond.methodLink (mMy M).cls idx objectInit ∈ WA) (h2 : Jvm.Cond.instanceMethod objectInit ∈ WA) (h3 : Jvm.Cond.code objectInit ⟨#[0xb1]⟩ 1 none ∈ WA) (hf : 1 ≤ (mMR M).frames) (hlo : (st.map fun v => v.category).sum + 12 ≤ (mMR M).locals) (k : EvF M Qf (pc + 3) L st kc ks w) : EvF M Qf pc L (.ref a :: st) kc ks w :=
  fun z b G cA p l e s m args below meth c H locs ls C hw hL => by
    refine W.objInit C.1 C.2.1 C.2.2.2.2.1 (C.2.2.2.2.2.1 _ h1) (C.2.2.2.2.2.1 _ h2) (C.2.2.2.2.2.1 _ h3) rfl (hL.1.trans C.2.2.1.symm) rfl d hf ?_ (k z b G cA p l e s m args below meth c H locs ls C hw hL)
    show 2 * 0 + _ + 12 ≤ _
    rw [mV_sum]
    omega
/-! calls: the tables' words -/
def mCv (own : String) (idx : Nat) (y : MethodName) (na : Nat) : Prop := Jvm.Cond.methodLink own idx y ∈ WA ∧ Jvm.Cond.instanceMethod y ∈ WA ∧ Jvm.Cond.selects y.cls y y ∈ WA ∧ Jvm.Cond.initialized y.cls ∈ WA ∧ y.cls ≠ "java/lang/invoke/MethodHandle" ∧ y.cls ≠ "java/lang/invoke/VarHandle" ∧ (parseMethodDescriptor y.desc).map (fun d => d.parameters.length) = some na
def mCs (own : String) (idx : Nat) (y : MethodName) (na : Nat) : Prop := Jvm.Cond.methodLink own idx y ∈ WA ∧ Jvm.Cond.static y ∈ WA ∧ Jvm.Cond.initialized y.cls ∈ WA ∧ y.cls ≠ "java/lang/invoke/MethodHandle" ∧ y.cls ≠ "java/lang/invoke/VarHandle" ∧ (parseMethodDescriptor y.desc).map (fun d => d.parameters.length) = some na
def mCi (own : String) (idx : Nat) (y : MethodName) (na : Nat) : Prop := Jvm.Cond.methodLink own idx y ∈ WA ∧ Jvm.Cond.instanceMethod y ∈ WA ∧ Jvm.Cond.initialized y.cls ∈ WA ∧ y.cls ≠ "java/lang/invoke/MethodHandle" ∧ y.cls ≠ "java/lang/invoke/VarHandle" ∧ (parseMethodDescriptor y.desc).map (fun d => d.parameters.length) = some na ∧ y.name = "<init>"
/-- the callee's own words: its code is among the tables' -/
abbrev mOk (K : mM) : Prop := mHd K ∈ WA
/-- the callee's room fits in the caller's -/
abbrev mFit (M K : mM) : Prop := (mMR K).frames + 1 ≤ (mMR M).frames ∧ 8 + (mMn K + 11) + (mMR K).locals ≤ (mMR M).locals
theorem wa_ws {K : mM} (hk : mOk K) : GoodIn WA (mWs K) := fun x hx => by
  rcases List.mem_cons.mp hx with h | h
  · rw [h]; exact ⟨hk, good_of_word (wa_good hk)⟩
  · exact ⟨h, good_of_word (wa_good h)⟩
theorem mB_blind {K : mM} {z b : Nat} {G : va_G} {cA : Nat → ClassId} {As : List Value} {w : mW} : FrameBlind (mPc K z b G cA As w) := fun a U g mk h => by
  obtain ⟨h0, hP, hK, hX, h1, h2, h3, h4⟩ := h
  exact ⟨h0, hP, va_K.moved (u := U) (U := U.calling g mk a) (Vm.Alike.refl U.vm) hK, mXF.warm (s := U) (U := U.calling g mk a) (State.WarmedH.refl U) hX, vx_Zq.moved (u := U) (U := U.calling g mk a) (Vm.Alike.refl U.vm) h1, vx_Zq.moved (u := U) (U := U.calling g mk a) (Vm.Alike.refl U.vm) h2, h3, h4⟩
theorem mB_at {M K : mM} {z b : Nat} {G : va_G} {cA : Nat → ClassId} {p : Program} {l : Launch} {s : State} {m : MethodId} {args : Array Value} {meth : Method} {c : Code} {H : Heap} {locs : List Loc} {w : mW} (C : mCX M z b G cA p l s m args meth c) (hw : mWR z b G cA w s H locs) (hn : ∀ n0 : Nat, mMz K = some n0 → H.size = z + n0) :
    ∀ U : State, U.heap = H → s.WarmedH U.vm → mB K z b G cA w U := fun U hU hW =>
  ⟨by rw [hU]; exact hw.1, va_K.moved hW.alike C.2.2.2.2.2.2.2.2.2.1, mXF.warm hW C.2.2.2.2.2.2.2.2.2.2.1, vx_Zq.moved hW.alike (by rw [hU]; exact C.2.2.2.2.2.2.2.2.2.2.2.2.1.kept hw.2.2.1), vx_Zq.moved hW.alike (by rw [hU]; exact C.2.2.2.2.2.2.2.2.2.2.2.2.2.1.kept hw.2.2.1), by rw [hU]; exact Nat.le_trans C.2.2.2.2.2.2.2.2.2.2.2.2.2.2.1 hw.2.1, fun n0 h => by rw [hU]; exact hn n0 h⟩
section RunEnds
variable {p : Program} {l : Launch} {e : Env} {R : Room} {s : State} {m : MethodId} {args : Array Value} {below : List Frame} {meth : Method} {c : Code} {H : Heap} {locs : List Loc} {Q : State → Prop} {z b : Nat} {G : va_G} {cA : Nat → ClassId} {ls : Array Slot} {st0 rest : List Value} {mc ms : Nat} {a : Array Value} {w1 : mW}
theorem run_keep {st₀ t T' : State} {Lc : List Loc} (h0 : st₀.heap = H) (e1 : T'.heap = t.heap) (hS : va_S (fun q => z ≤ q) s.heap H locs) (hL : ∀ q ∈ Lc, z ≤ q.base) (hF : va_F (fun q => z ≤ q) st₀ t) : va_S (fun q => z ≤ q) s.heap T'.heap (locs ++ Lc) :=
  (vx_keep (A1 := fun q => z ≤ q) (free := fun q => z ≤ q) h0 e1 hS (fun _ _ h => h) (fun _ h => h) hL hF).2.2
theorem run_ret {v : Option Value} (hr : vx_Run p l e R s m args below meth c H locs kc ks mc ms (F0 m pc ls st0) rest (mQr z b G cA (.inl v) w1 a) (mXr z b G cA (.inl v) w1) (fun q => z ≤ q)) (hw : mWR z b G cA w s H locs)
    (kk : ∀ (H1 : Heap) (locs1 : List Loc), mWR z b G cA w1 s H1 locs1 → W p l e R s m args below meth c H1 locs1 (kc + mc) (ks + ms) Q (F0 m (pc + 3) ls ((v.map (mV z b)).toList ++ rest))) : W p l e R s m args below meth c H locs kc ks Q (F0 m pc ls st0) := by
  intro T hT X
  rcases hr T hT X with ⟨v', st₀, t, T', Lc, h0, X', hL, e1, e2, ⟨hv, hp, hF⟩, go⟩ | ⟨q, st₀, t, T', Lc, E, ce, h0, X', hL, e1, e2, hx, -⟩
  · cases hv
    obtain ⟨t2, a1, b1⟩ := kk T'.heap (locs ++ Lc) ⟨by rw [e1]; exact hp, run_keep h0 e1 hw.2 hL hF⟩ T' rfl X'
    exact ⟨t2, go t2 a1, b1⟩
  · exact absurd hx id
theorem run_thr {E' : String} (hr : vx_Run p l e R s m args below meth c H locs kc ks mc ms (F0 m pc ls st0) rest (mQr z b G cA (.inr E') w1 a) (mXr z b G cA (.inr E') w1) (fun q => z ≤ q)) (hw : mWR z b G cA w s H locs)
    (kk : ∀ (H1 : Heap) (locs1 : List Loc) (ce : Cell) (q9 : Addr), mWR z b G cA w1 s H1 locs1 → H1[q9]? = some ce → ce.vm = .none → s.vm.findClass E' = some ce.cls → vx_W p l e R s m args below meth c H1 locs1 (kc + mc) (ks + ms) Q (F0 m pc ls rest) q9) : W p l e R s m args below meth c H locs kc ks Q (F0 m pc ls st0) := by
  intro T hT X
  rcases hr T hT X with ⟨v', st₀, t, T', Lc, h0, X', hL, e1, e2, hq, -⟩ | ⟨q, st₀, t, T', Lc, E, ce, h0, X', hL, e1, e2, ⟨hE, hp, hF⟩, hce, hcv, hcl, go⟩
  · exact absurd hq id
  · subst hE
    obtain ⟨t2, a1, b1⟩ := kk T'.heap (locs ++ Lc) ce q ⟨by rw [e1]; exact hp, run_keep h0 e1 hw.2 hL hF⟩ (by rw [e1]; exact hce) hcv hcl T' rfl X'
    exact ⟨t2, go.trans a1, b1⟩
end RunEnds
/-- the receiver lies in the world -/
theorem ev_recv {z b : Nat} {G : va_G} {cA : Nat → ClassId} {p : Program} {l : Launch} {s : State} {m : MethodId} {args : Array Value} {meth : Method} {c : Code} {H : Heap} {locs : List Loc} {q ci : Nat} {fs : List Value} {r : vw_C} (C : mCX M z b G cA p l s m args meth c) (hw : mWR z b G cA w s H locs) (he : w[q]? = some (.inr (ci, fs))) (hc : vwCl[ci]? = some r) : ∃ cell : Cell, H[z + q]? = some cell ∧ cell.vm.isStatics = false ∧ s.vm.findClass r.1 = some cell.cls :=
  va_recv C.2.2.2.2.2.2.2.2.2.1 hw.1 hc (mR_get he)
abbrev mRun (K : mM) (res : Option Value ⊕ String) (w1 : mW) (L : List Value) (rest : List Value) (kc ks : Nat) (M : mM) (pc : Nat) (w : mW) (stk : List Value) (aa : Nat → Nat → Array Value) : Prop :=
  ∀ (z b : Nat) (G : va_G) (cA : Nat → ClassId) (p : Program) (l : Launch) (e : Env) (s : State) (m : MethodId) (args : Array Value) (below : List Frame) (meth : Method) (c : Code) (H : Heap) (locs : List Loc) (ls : Array Slot),
    mCX M z b G cA p l s m args meth c → mWR z b G cA w s H locs → mLs z b (mMn M) ls L → vx_Run p l e (mMR M) s m args below meth c H locs kc ks (mMR K).cells (mMR K).slots (F0 m pc ls (stk.map (mV z b))) (rest.map (mV z b)) (mQr z b G cA res w1 (aa z b)) (mXr z b G cA res w1) (fun q => z ≤ q)
theorem mRunV {K : mM} {idx q ci na : Nat} {As rest : List Value} {res : Option Value ⊕ String} {w1 : mW} {fs : List Value} {r : vw_C} (d : decode (mMc M) pc = .ok (.invokevirtual idx, 3)) (hC : mCv (mMy M).cls idx (mMy K) na) (hO : mOk K) (hh : mMh K = []) (hz : mMz K = none) (hF : mFit M K) (he : w[q]? = some (.inr (ci, fs))) (hc : vwCl[ci]? = some r) (hrc : r.1 = (mMy K).cls) (hna : As.length = na) (hst : (rest.map fun v => v.category).sum ≤ 8) (hR : kc + (mMR K).cells ≤ (mMR M).cells ∧ ks + (mMR K).slots ≤ (mMR M).slots) (hS : EvS K (.ref q :: As) w res w1) :
    mRun K res w1 L rest kc ks M pc w (As.reverse ++ .ref q :: rest) (fun z b => (Value.ref (z + q) :: As.map (mV z b)).toArray) := by
  intro z b G cA p l e s m args below meth c H locs ls C hw hL
  obtain ⟨c1, c2, c3, c4, c5, c6, c7⟩ := hC
  have hts := C.2.2.2.2.2.1
  have hGd : GoodIn WA (wsV (mMy M).cls idx (mMy K).cls (mMy K) (mWs K)) := fun x hx => by
    rcases List.mem_append.mp hx with h | h
    · simp only [List.mem_cons, List.not_mem_nil, or_false] at h
      rcases h with h | h | h | h <;> rw [h]
      · exact ⟨c1, good_of_word (wa_good c1)⟩
      · exact ⟨c2, good_of_word (wa_good c2)⟩
      · exact ⟨c3, good_of_word (wa_good c3)⟩
      · exact ⟨c4, good_of_word (wa_good c4)⟩
    · exact wa_ws hO x h
  have hhd : mHd K = .code (mMy K) (mMc K) (mMn K) (mMr K) := by unfold mHd; rw [hh]
  have hrv := ev_recv C hw he hc
  rw [hrc] at hrv
  have h9 := vx_runV (As := As.map (mV z b)) (rest := rest.map (mV z b)) (g := F0 m pc ls ((As.reverse ++ .ref q :: rest).map (mV z b))) (cells := kc) (slots := ks) (locs := locs) (below := below) (meth := meth) (e := e) (R := mMR M) (bytes := mMc K) (maxL := mMn K) (ret := mMr K)
    (Ts := WA) ⟨C.1, C.2.1, C.2.2.1, C.2.2.2.2.1, hts⟩ (hS l z b G cA C.2.2.2.2.2.2.2.2.2.2.2.1) (cwV na hts hGd (by show mHd K :: WA = _; rw [hhd]) rfl rfl ⟨rfl, c5, c6, c7⟩ hF)
    (b := z + q) ⟨mB_blind, hrv, fun U hU hW => ⟨rfl, mB_at C hw (fun n0 h => by rw [hz] at h; cases h) U hU hW⟩⟩ rfl (by rw [List.length_map]; exact hna) hL.1 (by simp [List.map_append, List.map_reverse, mV]) (lv_room (by rw [mV_sum]; exact hst)) d hR
  exact h9
theorem mRunS {K : mM} {idx na : Nat} {As rest : List Value} {res : Option Value ⊕ String} {w1 : mW} (d : decode (mMc M) pc = .ok (.invokestatic idx, 3)) (hC : mCs (mMy M).cls idx (mMy K) na) (hO : mOk K) (hh : mMh K = []) (hz : mMz K = none) (hF : mFit M K) (hna : As.length = na) (hst : (rest.map fun v => v.category).sum ≤ 8) (hR : kc + (mMR K).cells ≤ (mMR M).cells ∧ ks + (mMR K).slots ≤ (mMR M).slots) (hS : EvS K As w res w1) :
    mRun K res w1 L rest kc ks M pc w (As.reverse ++ rest) (fun z b => (As.map (mV z b)).toArray) := by
  intro z b G cA p l e s m args below meth c H locs ls C hw hL
  obtain ⟨c1, c2, c4, c5, c6, c7⟩ := hC
  have hts := C.2.2.2.2.2.1
  have hGd : GoodIn WA (va_wsS (mMy M).cls idx (mMy K) (mWs K)) := fun x hx => by
    rcases List.mem_append.mp hx with h | h
    · simp only [List.mem_cons, List.not_mem_nil, or_false] at h
      rcases h with h | h | h <;> rw [h]
      · exact ⟨c1, good_of_word (wa_good c1)⟩
      · exact ⟨c2, good_of_word (wa_good c2)⟩
      · exact ⟨c4, good_of_word (wa_good c4)⟩
    · exact wa_ws hO x h
  have hhd : mHd K = .code (mMy K) (mMc K) (mMn K) (mMr K) := by unfold mHd; rw [hh]
  have h9 := vx_runS (As := As.map (mV z b)) (rest := rest.map (mV z b)) (g := F0 m pc ls ((As.reverse ++ rest).map (mV z b))) (cells := kc) (slots := ks) (locs := locs) (below := below) (meth := meth) (e := e) (R := mMR M) (bytes := mMc K) (maxL := mMn K) (ret := mMr K)
    (Ts := WA) ⟨C.1, C.2.1, C.2.2.1, C.2.2.2.2.1, hts⟩ (hS l z b G cA C.2.2.2.2.2.2.2.2.2.2.2.1) (va_cwS na hts hGd (by show mHd K :: WA = _; rw [hhd]) rfl rfl ⟨c5, c6, c7⟩ hF)
    ⟨mB_blind, fun U hU hW => ⟨rfl, mB_at C hw (fun n0 h => by rw [hz] at h; cases h) U hU hW⟩⟩ rfl (by rw [List.length_map]; exact hna) hL.1 (by simp [List.map_append, List.map_reverse]) (lv_room (by rw [mV_sum]; exact hst)) d hR
  exact h9
/-- a static method with handlers -/
theorem mRunSX {K : mM} {idx na : Nat} {As rest : List Value} {res : Option Value ⊕ String} {w1 : mW} {h0 : Nat × Nat × Nat × Nat} {hs0 : List (Nat × Nat × Nat × Nat)} (d : decode (mMc M) pc = .ok (.invokestatic idx, 3)) (hC : mCs (mMy M).cls idx (mMy K) na) (hO : mOk K) (hh : mMh K = h0 :: hs0) (hz : mMz K = none) (hF : mFit M K) (hna : As.length = na) (hst : (rest.map fun v => v.category).sum ≤ 8) (hR : kc + (mMR K).cells ≤ (mMR M).cells ∧ ks + (mMR K).slots ≤ (mMR M).slots) (hS : EvS K As w res w1) :
    mRun K res w1 L rest kc ks M pc w (As.reverse ++ rest) (fun z b => (As.map (mV z b)).toArray) := by
  intro z b G cA p l e s m args below meth c H locs ls C hw hL
  obtain ⟨c1, c2, c4, c5, c6, c7⟩ := hC
  have hts := C.2.2.2.2.2.1
  have hGd : GoodIn WA (va_wsS (mMy M).cls idx (mMy K) (mWs K)) := fun x hx => by
    rcases List.mem_append.mp hx with h | h
    · simp only [List.mem_cons, List.not_mem_nil, or_false] at h
      rcases h with h | h | h <;> rw [h]
      · exact ⟨c1, good_of_word (wa_good c1)⟩
      · exact ⟨c2, good_of_word (wa_good c2)⟩
      · exact ⟨c4, good_of_word (wa_good c4)⟩
    · exact wa_ws hO x h
  have hhd : mHd K = .codeWith (mMy K) (mMc K) (mMn K) (mMr K) (h0 :: hs0) := by unfold mHd; rw [hh]
  have h9 := vx_runSX (As := As.map (mV z b)) (rest := rest.map (mV z b)) (g := F0 m pc ls ((As.reverse ++ rest).map (mV z b))) (cells := kc) (slots := ks) (locs := locs) (below := below) (meth := meth) (e := e) (R := mMR M) (bytes := mMc K) (maxL := mMn K) (ret := mMr K)
    (Ts := WA) ⟨C.1, C.2.1, C.2.2.1, C.2.2.2.2.1, hts⟩ (hS l z b G cA C.2.2.2.2.2.2.2.2.2.2.2.1) (vx_cwSW na hts hGd (by show mHd K :: WA = _; rw [hhd]) rfl rfl ⟨c5, c6, c7⟩ hF)
    ⟨mB_blind, fun U hU hW => ⟨rfl, mB_at C hw (fun n0 h => by rw [hz] at h; cases h) U hU hW⟩⟩ rfl (by rw [List.length_map]; exact hna) hL.1 (by simp [List.map_append, List.map_reverse]) (lv_room (by rw [mV_sum]; exact hst)) d hR
  exact h9
/-- the call returns -/
theorem ev_call {K : mM} {v : Option Value} {w1 : mW} {rest stk : List Value} {aa : Nat → Nat → Array Value} (hr : mRun K (.inl v) w1 L rest kc ks M pc w stk aa) (k : EvF M Qf (pc + 3) L (v.toList ++ rest) (kc + (mMR K).cells) (ks + (mMR K).slots) w1) : EvF M Qf pc L stk kc ks w := by
  intro z b G cA p l e s m args below meth c H locs ls C hw hL
  refine run_ret (hr z b G cA p l e s m args below meth c H locs ls C hw hL) hw (fun H1 locs1 hw1 => ?_)
  have h9 := k z b G cA p l e s m args below meth c H1 locs1 ls C hw1 hL
  have e9 : (v.toList ++ rest).map (mV z b) = (v.map (mV z b)).toList ++ rest.map (mV z b) := by cases v <;> rfl
  rw [e9] at h9
  exact h9
/-- the call throws, and no handler is here -/
theorem ev_callT {K : mM} {E : String} {w1 : mW} {rest stk : List Value} {aa : Nat → Nat → Array Value} (hr : mRun K (.inr E) w1 L rest kc ks M pc w stk aa) (hh : mMh M = []) (hR : kc + (mMR K).cells ≤ (mMR M).cells ∧ ks + (mMR K).slots ≤ (mMR M).slots) : EvF M (mQm M (.inr E) w1) pc L stk kc ks w := by
  intro z b G cA p l e s m args below meth c H locs ls C hw hL
  refine run_thr (hr z b G cA p l e s m args below meth c H locs ls C hw hL) hw (fun H1 locs1 ce q9 hw1 hce hcv hcl => ?_)
  refine vx_out (fun x hx => ?_) C.2.2.2.2.2.2.1 hce hcv hcl (fun t ht hA => ⟨rfl, by rw [ht]; exact hw1.1, hw1.2.F ht⟩) hw1.2.2.2 hR.1 hR.2
  rw [C.2.2.2.2.2.2.2.1, hh] at hx
  cases hx
end EN
end
section
/-! throws, catches -/
section TH
variable {M : mM} {Qf : mQ} {pc : Nat} {L st : List Value} {kc ks : Nat} {w : mW}
abbrev mNm : List String := ["java/lang/RuntimeException", "java/lang/Exception"]
/-- a place that throws E with a text -/
def mTh (own : String) (ik is ic : Nat) (E text : String) : Prop := E ∈ mX ∧ (is, text) ∈ mSt ∧ own = "Copperleaf" ∧ Bundle.fit E = true ∧ Jvm.Cond.classLink own ik E ∈ WA ∧ Jvm.Cond.initialized E ∈ WA ∧ (∀ x ∈ vx_atS own ic E mNm, x ∈ WA ∨ x = .castable E E ∨ x ∈ mDe) ∧ ∀ x ∈ Jvm.Cond.classLink own ik E :: Jvm.Cond.initialized E :: vx_atS own ic E mNm, vx_ot x = true
theorem mDe_on : ∀ x ∈ mDe, x.onTables = true := by decide +kernel
theorem mNm_fit : ∀ n ∈ mNm, Bundle.fit n = true := by decide +kernel
theorem ev_throw {ik is ic : Nat} {E text : String} (hT : mTh (mMy M).cls ik is ic E text) (d0 : decode (mMc M) pc = .ok (.new ik, 3)) (d3 : decode (mMc M) (pc + 3) = .ok (.dup, 1)) (d4 : decode (mMc M) (pc + 4) = .ok (.ldc is, 2)) (d6 : decode (mMc M) (pc + 6) = .ok (.invokespecial ic, 3)) (d9 : decode (mMc M) (pc + 9) = .ok (.athrow, 1)) (hh : mMh M = []) (hf : 5 < (mMR M).frames) (hlo : (st.map fun v => v.category).sum + 82 ≤ (mMR M).locals) (hc : kc + 1 ≤ (mMR M).cells) (hs : ks + 6 ≤ (mMR M).slots) : EvF M (mQm M (.inr E) w) pc L st kc ks w := by
  intro z b G cA p l e s m args below meth c H locs ls C hw hL
  obtain ⟨h1, h2, h3, h4, h5, h6, h7, h8⟩ := hT
  obtain ⟨sa, hsa⟩ := C.2.2.2.2.2.2.2.2.2.2.1.2.2.2.2.2.1 _ h2
  refine vx_throwS (A := fun q => z ≤ q) (own := (mMy M).cls) (cls := E) (text := text) (names := mNm) (ik := ik) (is := is) (ic := ic) (sa := sa) C.1 C.2.1 C.2.2.2.2.2.2.2.2.2.2.2.1 C.2.2.2.2.1 h4 mNm_fit (C.2.2.2.2.2.1 _ h5) (C.2.2.2.2.2.1 _ h6) (by rw [h3]; exact hsa) (fun x hx => ?_) h8 C.2.2.2.2.2.2.2.2.2.2.2.2.1 C.2.2.2.2.2.2.2.2.2.2.2.2.2.1 hw.2 (hL.1.trans C.2.2.1.symm) d0 d3 d4 d6 d9 (fun x hx => ?_) hf ?_ hc hs C.2.2.2.2.2.2.1 (fun t hA hz hk => ⟨rfl, hw.1.kept (fun k q hq => hk q.1 (hw.1 k q hq).lt), Nat.le_trans hw.2.1 hz, fun q hq hn => (hk q (Nat.lt_of_lt_of_le hq hw.2.1)).trans (hw.2.2.1 q hq hn)⟩) hw.2.2.2 hc hs
  · rcases h7 x hx with h | h | h
    · exact C.2.2.2.2.2.1 _ h
    · rw [h]; exact va_Nw.use rfl (C.2.2.2.2.2.2.2.2.2.2.1.1 E h1)
    · exact va_Nw.use (mDe_on x h) (C.2.2.2.2.2.2.2.2.2.2.1.2.2.2.2.2.2 x h)
  · rw [C.2.2.2.2.2.2.2.1, hh] at hx
    cases hx
  · rw [mV_sum]
    exact hlo
theorem ev_throwW {ik is ic : Nat} {E text : String} (hT : mTh (mMy M).cls ik is ic E text) (d0 : decode (mMc M) pc = .ok (.new ik, 3)) (d3 : decode (mMc M) (pc + 3) = .ok (.dup, 1)) (d4 : decode (mMc M) (pc + 4) = .ok (.ldc_w is, 3)) (d6 : decode (mMc M) (pc + 7) = .ok (.invokespecial ic, 3)) (d9 : decode (mMc M) (pc + 10) = .ok (.athrow, 1)) (hh : mMh M = []) (hf : 5 < (mMR M).frames) (hlo : (st.map fun v => v.category).sum + 82 ≤ (mMR M).locals) (hc : kc + 1 ≤ (mMR M).cells) (hs : ks + 6 ≤ (mMR M).slots) : EvF M (mQm M (.inr E) w) pc L st kc ks w := by
  intro z b G cA p l e s m args below meth c H locs ls C hw hL
  obtain ⟨h1, h2, h3, h4, h5, h6, h7, h8⟩ := hT
  obtain ⟨sa, hsa⟩ := C.2.2.2.2.2.2.2.2.2.2.1.2.2.2.2.2.1 _ h2
  refine vx_throwSW (A := fun q => z ≤ q) (own := (mMy M).cls) (cls := E) (text := text) (names := mNm) (ik := ik) (is := is) (ic := ic) (sa := sa) C.1 C.2.1 C.2.2.2.2.2.2.2.2.2.2.2.1 C.2.2.2.2.1 h4 mNm_fit (C.2.2.2.2.2.1 _ h5) (C.2.2.2.2.2.1 _ h6) (by rw [h3]; exact hsa) (fun x hx => ?_) h8 C.2.2.2.2.2.2.2.2.2.2.2.2.1 C.2.2.2.2.2.2.2.2.2.2.2.2.2.1 hw.2 (hL.1.trans C.2.2.1.symm) d0 d3 d4 d6 d9 (fun x hx => ?_) hf ?_ hc hs C.2.2.2.2.2.2.1 (fun t hA hz hk => ⟨rfl, hw.1.kept (fun k q hq => hk q.1 (hw.1 k q hq).lt), Nat.le_trans hw.2.1 hz, fun q hq hn => (hk q (Nat.lt_of_lt_of_le hq hw.2.1)).trans (hw.2.2.1 q hq hn)⟩) hw.2.2.2 hc hs
  · rcases h7 x hx with h | h | h
    · exact C.2.2.2.2.2.1 _ h
    · rw [h]; exact va_Nw.use rfl (C.2.2.2.2.2.2.2.2.2.2.1.1 E h1)
    · exact va_Nw.use (mDe_on x h) (C.2.2.2.2.2.2.2.2.2.2.1.2.2.2.2.2.2 x h)
  · rw [C.2.2.2.2.2.2.2.1, hh] at hx
    cases hx
  · rw [mV_sum]
    exact hlo
theorem mLs_setH {z b nL : Nat} {ls' : Array Slot} {L : List Value} {i : Nat} {u : Value} (hL : L.length = nL) (hm : mc1 L i = true)
    (h : lv_has ls' nL ((i, u) :: (mLo z b L).filter (fun q => !(q.1 == i) && !(q.1 + 1 == i && q.2.category == 2)))) : mLs z b nL ls' (L.set i hole) := by
  refine ⟨h.1, by rw [List.length_set, hL], h.2.1, fun j x hj hx => ?_⟩
  by_cases hij : i = j
  · subst hij
    rw [List.getElem?_set] at hj
    by_cases hl : i < L.length
    · simp only [if_pos rfl, if_pos hl] at hj
      cases hj
      exact absurd rfl hx
    · simp only [if_pos rfl, if_neg hl] at hj
      cases hj
  · rw [List.getElem?_set_ne hij] at hj
    refine h.2.2 (j, mV z b x) (List.mem_cons_of_mem _ (List.mem_filter.mpr ⟨mLo_mem.mpr ⟨x, hj, hx, rfl⟩, ?_⟩))
    simp only [Bool.and_eq_true, Bool.not_eq_true', beq_eq_false_iff_ne, ne_eq, Bool.and_eq_false_iff]
    refine ⟨fun q => hij q.symm, ?_⟩
    by_cases hc : j + 1 = i
    · right
      have h1 := mc1_ok (z := z) (b := b) hm (q := (j, mV z b x)) (mLo_mem.mpr ⟨x, hj, hx, rfl⟩) hc
      dsimp only at h1 ⊢
      omega
    · exact Or.inl hc
/-- caught by the row x of the table; the rows ahead name other classes -/
theorem ev_catch {K : mM} {E : String} {w1 : mW} {rest stk : List Value} {aa : Nat → Nat → Array Value} {pre suf : List (Nat × Nat × Nat × Nat)} {sp ep hp ct : Nat} (hr : mRun K (.inr E) w1 L rest kc ks M pc w stk aa) (hsplit : mMh M = pre ++ (sp, ep, hp, ct) :: suf) (hE : E ∈ mX) (hpre : ∀ q ∈ pre, q.2.2.2 ≠ 0 ∧ ∃ F ∈ mX, E ≠ F ∧ Jvm.Cond.classLink (mMy M).cls q.2.2.2 F ∈ WA) (hx : (decide (sp ≤ pc) && decide (pc < ep)) = true) (h0 : ct ≠ 0) (hl : Jvm.Cond.classLink (mMy M).cls ct E ∈ WA)
    {len i : Nat} {L' : List Value} (hd : (∃ j : Fin 4, (j : Nat) = i ∧ len = 1 ∧ decode (mMc M) hp = .ok (.astore_n j, 1)) ∨ (len = 2 ∧ decode (mMc M) hp = .ok (.astore i, 2))) (hm : (decide (i < mMn M) && mc1 L i) = true) (hL' : L.set i hole = L')
    (k : EvF M Qf (hp + len) L' [] (kc + (mMR K).cells) (ks + (mMR K).slots) w1) : EvF M Qf pc L stk kc ks w := by
  intro z b G cA p l e s m args below meth c H locs ls C hw hL
  simp only [Bool.and_eq_true, decide_eq_true_eq] at hm
  refine run_thr (hr z b G cA p l e s m args below meth c H locs ls C hw hL) hw (fun H1 locs1 ce q9 hw1 hce hcv hcl => ?_)
  refine vx_catch (own := (mMy M).cls) (name := E) C.2.2.2.2.1 (tableOf pre) ⟨sp, ep, hp, ct⟩ (tableOf suf) (by rw [C.2.2.2.2.2.2.2.1, hsplit]; simp [tableOf]) (fun x hx => ?_) hx h0 (C.2.2.2.2.2.1 _ hl) (va_Nw.use rfl (C.2.2.2.2.2.2.2.2.2.2.1.1 E hE)) hce hcv hcl ?_
  · obtain ⟨q, hq, rfl⟩ := List.mem_map.mp hx
    obtain ⟨h1, F, hF, hn, hl9⟩ := hpre q hq
    exact Or.inr ⟨h1, F, C.2.2.2.2.2.1 _ hl9, C.2.2.2.2.2.2.2.2.2.2.1.2.1 E hE F hF hn⟩
  · rcases hd with ⟨j, hj, rfl, hd⟩ | ⟨rfl, hd⟩
    · exact lv_astore_n C.1 C.2.1 hd hj (mLs_has hL) hm.1 rfl (fun ls' h' => k z b G cA p l e s m args below meth c H1 locs1 ls' C hw1 (by rw [← hL']; exact mLs_setH hL.2.1 hm.2 h'))
    · exact lv_astore C.1 C.2.1 hd (mLs_has hL) hm.1 rfl (fun ls' h' => k z b G cA p l e s m args below meth c H1 locs1 ls' C hw1 (by rw [← hL']; exact mLs_setH hL.2.1 hm.2 h'))
end TH
end
section
/-! NoSuchElementException: its constructor's link is entry 13 of its pool, not 7 as with the others: a throw of it by a chain of its own (follows the library's ctorThrowS and the kit's vx_throwS) -/
def nX : String := "java/util/NoSuchElementException"
abbrev nRt : String := "java/lang/RuntimeException"
def nEx : List String := ["java/lang/Exception"]
abbrev nRx : ByteArray := prog_14_method_4_code
theorem nRx_0 : decode nRx 0 = .ok (.aload_n 0, 1) := by decide +kernel
theorem nRx_1 : decode nRx 1 = .ok (.aload_n 1, 1) := by decide +kernel
theorem nRx_2 : decode nRx 2 = .ok (.invokespecial 13, 3) := by decide +kernel
theorem nRx_5 : decode nRx 5 = .ok (.return_, 1) := by decide +kernel
def nCh : List Jvm.Cond := Bundle.passSAtoms nX nRt 13 nRx ++ Bundle.chainSAtoms nRt nEx
def nAll (own : String) (ic : Nat) : List Jvm.Cond := Bundle.throwableAtoms ++ Bundle.throwableSAtoms ++ nCh ++
  [.methodLink own ic (Bundle.initS nX), .instantiable nX 6, .castable nX nX, .selects nX Bundle.tFill0 Bundle.tFill0, .selects nX Bundle.tFill Bundle.tFill,
   .lays nX Bundle.tN "cause" "Ljava/lang/Throwable;", .lays nX Bundle.tN "stackTrace" Bundle.steD, .lays nX Bundle.tN "suppressedExceptions" Bundle.listD, .lays nX Bundle.tN "detailMessage" "Ljava/lang/String;",
   .isRef (.static Bundle.tN "UNASSIGNED_STACK" Bundle.steD), .isRef (.static Bundle.tN "SUPPRESSED_SENTINEL" Bundle.listD),
   .fieldLink Bundle.tN 198 Bundle.tN "backtrace" "Ljava/lang/Object;", .lays Bundle.tN Bundle.tN "backtrace" "Ljava/lang/Object;", .lays nX Bundle.tN "backtrace" "Ljava/lang/Object;"]
theorem nFit : Bundle.fit nX = true := by decide +kernel
theorem nFitR : Bundle.fit nRt = true := by decide +kernel
theorem nFitE : ∀ n ∈ nEx, Bundle.fit n = true := by decide +kernel
theorem nChain {args : Array Value} {s : State} {pl : Platform} (hpl : pl.magicAccessors = ({} : Platform).magicAccessors) {top : MethodId} (htop : s.methodNamed? (Bundle.initS Bundle.tN) = some top) (h : ∀ c ∈ nCh, c.before args s = true) :
    ∃ (P1 : PassC) (Ps : List PassC), Ps.length = 2 ∧ P1.LinksS pl s ∧ (∀ P, P ∈ Ps → P.LinksS pl s) ∧ s.methodNamed? (Bundle.initS nX) = some P1.m ∧ P1.sup = firstOf top (Ps.map (·.toPassT)) ∧ PassesOn top (Ps.map (·.toPassT)) := by
  obtain ⟨P, L, hm, hs⟩ := PassC.ofS_atoms (args := args) (s := s) hpl (X := nX) (Y := nRt) (Bundle.fit_spec nFit).1 (Bundle.fit_spec nFitR).2 nRx_0 nRx_1 nRx_2 nRx_5 (fun c hc => h c (List.mem_append_left _ hc))
  obtain ⟨P', Ps, hlen, L', hL, hm', hsup, hpass⟩ := Bundle.chainS (args := args) hpl htop nEx nRt nFitR nFitE (fun c hc => h c (List.mem_append_right _ hc))
  refine ⟨P, P' :: Ps, by simp [hlen, nEx], L, ?_, hm, Option.some.inj (hs.symm.trans hm'), hsup, hpass⟩
  intro Q hQ
  rcases List.mem_cons.mp hQ with rfl | hQ
  · exact L'
  · exact hL Q hQ
section NC
variable {p : Program} {l : Launch} {e : Env} {R : Room} {s : State} {m₀ : MethodId} {args : Array Value} {below : List Frame} {meth : Method} {c : Code} {W : State} {locs : List Loc} {cells slots : Nat}
set_option maxHeartbeats 1000000 in
theorem nCtor (X : Stand p l e R s m₀ args below meth c W locs cells slots) (hexec : p.tables.exec = Jvm.exec) (htr : e.platform.stackTraces = false) {own : String} {ic : Nat}
    (hown : s.vm.findClass own = some m₀.cls) (h : ∀ a ∈ nAll own ic, a.before args s = true)
    (hlocs : ∀ x ∈ locs, ∀ cell, s.heap[x.base]? = some cell → cell.vm.isStatics = false)
    {a : Addr} {cX : ClassId} {kX : Class} (hfoundX : s.vm.findClass nX = some cX) (hkX : s.vm.classes[cX]? = some kX) (hcell : W.heap[a]? = some (freshCell cX kX)) (hnew : s.heap.size ≤ a)
    {msg : Value} (hmsg : msg.isRef = true)
    {g : JFrame} (hg : g.method = m₀) (hsize : g.locals.size = c.maxLocals) (hlocked : g.locked = none) (hentered : g.entered = []) {rest : List Value} (hstack : g.stack = msg :: .ref a :: .ref a :: rest)
    (hd6 : decode c.code g.pc = .ok (.invokespecial ic, 3)) (hd9 : decode c.code (g.pc + 3) = .ok (.athrow, 1)) (hout : ∀ x ∈ c.exceptionTable.toList, covers x (g.pc + 3) = false)
    (hRframes : 5 < R.frames) (hRlocals : 2 * g.monitorRoom + ((Value.ref a :: rest).map fun v => v.category).sum + 81 ≤ R.locals) (hlocks : meth.locks = false) :
    ∃ U : State, Steps p.tables e below (W.setTop g) U ∧ U.status = .running ∧ Ended U below (.threw a) ∧ s.WarmedH U.vm ∧ s.sameButNew ({ U with vm := s.vm } : State) locs cells slots ∧
      ∃ ce, U.heap[a]? = some ce ∧ ce.vm = .none ∧ ce.cls = cX := by
  have howns : e.platform.frameOwnsMonitors = true := by rw [X.admits.platform]
  have hfin : e.platform.finalization = false := by rw [X.admits.platform]
  have hpl : e.platform.magicAccessors = ({} : Platform).magicAccessors := by rw [X.admits.platform]
  have a' : ∀ x, x ∈ nAll own ic → x.holds args s none s [] = true := fun x hx => h x hx
  obtain ⟨T, Z0, L, -, Y⟩ := ThrowableC.of_atoms (args := args) howns hfin hpl (fun x hx => h x (by simp [nAll, hx]))
  obtain ⟨Z, M, LZ, LM, hnZ⟩ := Init0T.ofS_atoms (args := args) hpl L Y (fun x hx => h x (by simp [nAll, hx]))
  obtain ⟨P1, Ps, hlen, L1, hL, hP1m, hlink1, hlink⟩ := nChain (args := args) hpl hnZ (fun x hx => h x (by simp [nAll, hx]))
  have hfound : s.vm.findClass nX = some P1.m.cls := findClass_of_methodNamed hP1m
  cases Option.some.inj (hfoundX.symm.trans hfound)
  obtain ⟨c1, kX', hc1, hk, hord, -, -, hn6⟩ := Cond.instantiable_spec (a' (.instantiable nX 6) (by simp [nAll]))
  cases Option.some.inj (hc1.symm.trans hfound)
  cases Option.some.inj (hkX.symm.trans hk)
  have hsel0 : selectMethod e.platform s.vm P1.m.cls T.fill0 = .method T.fill0 := by
    obtain ⟨c2, r2, m2, q1, q2, q3, q4, -⟩ := Cond.selects_spec (a' (.selects nX Bundle.tFill0 Bundle.tFill0) (by simp [nAll]))
    cases Option.some.inj (q1.symm.trans hfound)
    cases Option.some.inj (q2.symm.trans (State.methodFound?_of_named Y.fill0 (by decide)))
    cases Option.some.inj (q3.symm.trans Y.fill0)
    rw [Launch.admits_selectMethod X.admits]; exact q4
  have hselF : selectMethod e.platform s.vm P1.m.cls T.fill = .method T.fill := by
    obtain ⟨c2, r2, m2, q1, q2, q3, q4, -⟩ := Cond.selects_spec (a' (.selects nX Bundle.tFill Bundle.tFill) (by simp [nAll]))
    cases Option.some.inj (q1.symm.trans hfound)
    cases Option.some.inj (q2.symm.trans (State.methodFound?_of_named Y.fill (by decide)))
    cases Option.some.inj (q3.symm.trans Y.fill)
    rw [Launch.admits_selectMethod X.admits]; exact q4
  obtain ⟨cellS0, hcS0, hiss⟩ := Y.statics
  obtain ⟨u0, hu0⟩ := Cond.staticRefV Y.unassigned L.unassignedStatic L.statics hcS0 hiss (a' (.isRef (.static Bundle.tN "UNASSIGNED_STACK" Bundle.steD)) (by simp [nAll]))
  obtain ⟨sen, hsen⟩ := Cond.staticRefV Y.sentinel L.sentinelStatic L.statics hcS0 hiss (a' (.isRef (.static Bundle.tN "SUPPRESSED_SENTINEL" Bundle.listD)) (by simp [nAll]))
  obtain ⟨ci198, i198, fB, hk198, hg198, ha198, hsB, -, hnB, htB, hffB⟩ := Cond.ownField (t := .object "java/lang/Object") Y.found L.cls (by decide +kernel) (a' (.fieldLink Bundle.tN 198 Bundle.tN "backtrace" "Ljava/lang/Object;") (by simp [nAll])) (a' (.lays Bundle.tN Bundle.tN "backtrace" "Ljava/lang/Object;") (by simp [nAll])) e.platform hpl
  obtain ⟨cellS, hcS', heS, -, hkeep⟩ := X.same.2.2.2.2.2 T.aS cellS0 hcS0
  have hcellS : W.heap[T.aS]? = some cellS := hcS'
  have hout' : ∀ i, (⟨T.aS, i⟩ : Loc) ∉ locs := fun i hmem => by
    have := hlocs _ hmem cellS0 hcS0
    rw [hiss] at this; cases this
  have hknownS : cellS.vm ≠ .unknown := by
    rw [heS]; intro hu
    rw [show cellS0.vm = .unknown from hu] at hiss
    cases hiss
  have hneS : T.aS ≠ a := Nat.ne_of_lt (Nat.lt_of_lt_of_le (Array.getElem?_eq_some_iff.mp hcS0).1 hnew)
  obtain ⟨iM, hffM⟩ := Y.msg
  obtain ⟨tyC, dC, hdC, hdnC⟩ := Cond.laysAt hfound hk Y.cause (a' (.lays nX Bundle.tN "cause" "Ljava/lang/Throwable;") (by simp [nAll]))
  obtain ⟨tyS, dS, hdS, hdnS⟩ := Cond.laysAt hfound hk Y.stack (a' (.lays nX Bundle.tN "stackTrace" Bundle.steD) (by simp [nAll]))
  obtain ⟨tyP, dP, hdP, hdnP⟩ := Cond.laysAt hfound hk Y.supp (a' (.lays nX Bundle.tN "suppressedExceptions" Bundle.listD) (by simp [nAll]))
  obtain ⟨tyM, dM, hdM, hdnM⟩ := Cond.laysAt hfound hk hffM (a' (.lays nX Bundle.tN "detailMessage" "Ljava/lang/String;") (by simp [nAll]))
  obtain ⟨tyB, dB, hdB, hdnB⟩ := Cond.laysAt hfound hk hffB (a' (.lays nX Bundle.tN "backtrace" "Ljava/lang/Object;") (by simp [nAll]))
  have bC := Cond.laysApart hdB hdC hdnB hdnC (by rw [hnB, Y.causeName]; decide)
  have bS := Cond.laysApart hdB hdS hdnB hdnS (by rw [hnB, Y.stackName]; decide)
  have bP := Cond.laysApart hdB hdP hdnB hdnP (by rw [hnB, Y.suppName]; decide)
  have hskip : SkipFacts T e.platform s (fun u => u) u0 ((preparedCellV T.toThrowableT (freshCell P1.m.cls kX) a u0 sen).withEntry W.cur) :=
    ⟨{ ci198 := ci198, i198 := i198, fBack := fB }, ⟨hk198, hg198, ha198, hsB⟩, by
      have := fresh_default (c := P1.m.cls) tyB
      rw [htB] at this
      simpa [preparedCellV, Cell.setSlot, Cell.withEntry, Array.getElem?_setIfInBounds, bC, bS, bP, bC.symm, bS.symm, bP.symm, defaultValue] using this, fun _ _ => rfl⟩
  obtain ⟨tm, methC, cdC, kC, vm₁, hnC, -, -, -, -, -, -, -, hW₁, st1⟩ := Steps.initColdS (tb := p.tables) (e := e) (below := below) (s := s) (U := W) X.here hexec X.warmed hpl hown (t := Bundle.initS nX) rfl rfl (Bundle.fit_spec nFit).2
    (a' (.methodLink own ic (Bundle.initS nX)) (by simp [nAll])) (h (.instanceMethod (Bundle.initS nX)) (by simp [nAll, nCh, Bundle.passSAtoms])) (bytes := nRx) (maxL := 2) (h (.code (Bundle.initS nX) nRx 2 none) (by simp [nAll, nCh, Bundle.passSAtoms]))
    (f := g) hg (a := a) (msg := msg) (rest := .ref a :: rest) hstack hd6
  cases Option.some.inj (hnC.symm.trans hP1m)
  have X₁ := X.noted hW₁
  obtain ⟨vm₂, X₂, st2⟩ := X₁.ctorMessageOffV hexec (g := { g with stack := .ref a :: rest }) hg hsize T L Z LZ M LM (P1 :: Ps)
    (fun P hP => by rcases List.mem_cons.mp hP with rfl | hP; exact L1; exact hL P hP) ⟨hlink1, hlink⟩ (u0 := u0) (sen := sen) (self := a) hmsg (cell := freshCell P1.m.cls kX) (cellS := cellS)
    hcell (fun _ => by simp) (by simp) rfl rfl hsel0 hselF hcellS hneS hknownS (by rw [hkeep _ (hout' _)]; exact hu0) (by rw [hkeep _ (hout' _)]; exact hsen)
    (Takes.of_laid hk hord tyC (by rw [Y.causeType]; rfl)) (Takes.of_laid hk hord tyS (by rw [Y.stackType]; exact fits_refV_array _ u0)) (Takes.of_laid hk hord tyP (by rw [Y.suppType]; exact fits_refV_object _ sen))
    (Takes.of_laid hk hord tyM (by rw [Y.msgType]; exact fits_refV_object _ ⟨msg, hmsg⟩)) Y.objLocals hskip htr [] hd6
    (by simp only [List.length_cons, hlen]; omega) (by simp only [List.length_cons, hlen]; exact hRlocals)
  obtain ⟨hwalk, hrun, hended, hWU, hsame⟩ := X₂.athrowLeaves hexec (g := { g with stack := .ref a :: rest, pc := g.pc + 3 }) hg hlocked hentered hout (a := a) (rest := rest) rfl hd9
  have hlt : a < ((W.setVm vm₁).setVm vm₂).heap.size := (Array.getElem?_eq_some_iff.mp hcell).1
  have hU := heapAt_setCell_self (s := (W.setVm vm₁).setVm vm₂) (plainBareV T.toThrowableT (freshCell P1.m.cls kX) a u0 sen msg) hlt
  refine ⟨_, st1 _ (fun acts => ?_), hrun, hended, hWU, hsame.weaken (fun y hy hlt' => ?_) (Nat.le_refl _) (Nat.le_refl _), _, hU, rfl, rfl⟩
  · rw [doInvoke_state]
    exact st2 _ hwalk
  · rcases List.mem_append.mp hy with h1 | h1
    · exact h1
    · exfalso
      have hb : y.base = a := by
        simp only [List.mem_cons, List.not_mem_nil, or_false] at h1
        rcases h1 with rfl | rfl | rfl | rfl | rfl <;> rfl
      rw [hb] at hlt'
      exact Nat.not_lt.mpr hnew hlt'
end NC
section NR
variable {M : mM} {Qf : mQ} {pc : Nat} {L st : List Value} {kc ks : Nat} {w : mW}
/-- a place that throws NoSuchElementException with a text -/
def mTn (own : String) (ik is ic : Nat) (text : String) : Prop := (is, text) ∈ mSt ∧ own = "Copperleaf" ∧ Jvm.Cond.classLink own ik nX ∈ WA ∧ Jvm.Cond.initialized nX ∈ WA ∧ (∀ x ∈ (nAll own ic).filter vx_no, x ∈ WA ∨ x = .castable nX nX ∨ x ∈ mDe) ∧ ∀ x ∈ Jvm.Cond.classLink own ik nX :: Jvm.Cond.initialized nX :: (nAll own ic).filter vx_no, vx_ot x = true
theorem ev_throwN {ik is ic : Nat} {text : String} (hT : mTn (mMy M).cls ik is ic text) (d0 : decode (mMc M) pc = .ok (.new ik, 3)) (d3 : decode (mMc M) (pc + 3) = .ok (.dup, 1)) (d4 : decode (mMc M) (pc + 4) = .ok (.ldc is, 2)) (d6 : decode (mMc M) (pc + 6) = .ok (.invokespecial ic, 3)) (d9 : decode (mMc M) (pc + 9) = .ok (.athrow, 1)) (hh : mMh M = []) (hf : 5 < (mMR M).frames) (hlo : (st.map fun v => v.category).sum + 82 ≤ (mMR M).locals) (hc : kc + 1 ≤ (mMR M).cells) (hs : ks + 6 ≤ (mMR M).slots) : EvF M (mQm M (.inr nX) w) pc L st kc ks w := by
  intro z b G cA p l e s m args below meth c H locs ls C hw hL
  obtain ⟨h2, h3, h5, h6, h7, h8⟩ := hT
  obtain ⟨sa, hsa⟩ := C.2.2.2.2.2.2.2.2.2.2.1.2.2.2.2.2.1 _ h2
  have hX9 : nX ∈ mX := by decide +kernel
  have hat : ∀ x ∈ (nAll (mMy M).cls ic).filter vx_no, x.before args s = true := fun x hx => by
    rcases h7 x hx with h | h | h
    · exact C.2.2.2.2.2.1 _ h
    · rw [h]; exact va_Nw.use rfl (C.2.2.2.2.2.2.2.2.2.2.1.1 nX hX9)
    · exact va_Nw.use (mDe_on x h) (C.2.2.2.2.2.2.2.2.2.2.1.2.2.2.2.2.2 x h)
  have hstr : vk_R (mMy M).cls is text sa s := by rw [h3]; exact hsa
  have hlocks := C.2.2.2.2.2.2.1
  have hexec := C.1
  have hb := C.2.1
  have hown := C.2.2.2.2.1
  have hU := C.2.2.2.2.2.2.2.2.2.2.2.2.1
  have hN := C.2.2.2.2.2.2.2.2.2.2.2.2.2.1
  have hS := hw.2
  intro T hT X
  have htr : e.platform.stackTraces = false := (show e.platform.stackTraces = l.stackTraces by rw [X.admits.platform]).trans C.2.2.2.2.2.2.2.2.2.2.2.1
  have Y := vx_rebase X (R' := { frames := (mMR M).frames, locals := (mMR M).locals, cells := 1, slots := 6 }) (Nat.le_refl _) (Nat.le_refl _) (Nat.le_trans (Nat.le_refl _) hc) hs
  obtain ⟨s', hA⟩ : ∃ q, q = (T.setVm s.vm).setFrames (.invoking m args :: below) := ⟨_, rfl⟩
  rw [← hA] at Y
  have hvm : s'.vm = s.vm := by rw [hA]; rfl
  have hhp : s'.heap = H := by rw [hA]; exact hT
  have hW0 : s.WarmedH s'.vm := by rw [hvm]; exact State.WarmedH.refl s
  have hat' : ∀ x ∈ (nAll (mMy M).cls ic).filter vx_no, x.before args s' = true := fun x hx => vx_ot_at hW0 hvm.symm (h8 x (List.mem_cons_of_mem _ (List.mem_cons_of_mem _ hx))) (hat x hx)
  have hk' : (Jvm.Cond.classLink (mMy M).cls ik nX).before args s' = true := vx_ot_at hW0 hvm.symm (h8 _ List.mem_cons_self) (C.2.2.2.2.2.1 _ h5)
  have hini' : (Jvm.Cond.initialized nX).before args s' = true := vx_ot_at hW0 hvm.symm (h8 _ (List.mem_cons_of_mem _ List.mem_cons_self)) (C.2.2.2.2.2.1 _ h6)
  have hU' : mZ1 z s' s'.heap := by rw [hhp]; exact vx_Zq.moved hW0.alike (hU.kept hS.2.1)
  have hN' : mZ2 z s' s'.heap := by rw [hhp]; exact vx_Zq.moved hW0.alike (hN.kept hS.2.1)
  have h : ∀ x ∈ nAll (mMy M).cls ic, x.before args s' = true := vx_own hat' (vx_isRefq hU'.1) (vx_isRefq hN'.1) hU'.2.word hN'.2.word
  have hown' : s'.vm.findClass (mMy M).cls = some m.cls := by rw [hvm]; exact hown
  have hins : (Jvm.Cond.instantiable nX 6).before args s' = true := h _ (by simp [nAll])
  obtain ⟨vm₁, cX, kX, hfX, hkX, -, -, X₁, st1⟩ := Y.newCold hexec (own := (mMy M).cls) (C := nX) (index := ik) (n := 6) hown' hk' hins hini'
    (g := F0 m pc ls (st.map (mV z b))) rfl (by rw [hb]; exact d0) (Nat.le_refl _) (Nat.le_refl _)
  generalize hT1 : (T.setVm vm₁).pushCell { cls := cX, slots := kX.instanceTypes.map defaultValue, vm := .none } = T1 at X₁ st1
  have hcat : (Value.ref T.heap.size).category = 1 := rfl
  have hcellA : T1.heap[T.heap.size]? = some (freshCell cX kX) := by rw [← hT1]; exact State.heap_pushCell_size _ _
  have d3' : decode c.code (pc + 3) = .ok (.dup, 1) := by rw [hb]; exact d3
  have d4' : decode c.code (pc + 4) = .ok (.ldc is, 2) := by rw [hb]; exact d4
  have hstr' : vk_R (mMy M).cls is text sa s' := vk_R.warm hW0 hstr
  have hsize : ls.size = c.maxLocals := hL.1.trans C.2.2.1.symm
  have hout : ∀ x ∈ c.exceptionTable.toList, covers x (pc + 9) = false := fun x hx => by
    rw [C.2.2.2.2.2.2.2.1, hh] at hx
    cases hx
  obtain ⟨U, hsteps, hrun, hend, hW, hsame, ce, hce, hcv, hcc⟩ := nCtor X₁ hexec htr (own := (mMy M).cls) (ic := ic) hown' h (fun x hx => nomatch hx) hfX hkX hcellA (by rw [hhp, hT]; exact Nat.le_refl _) (msg := .ref sa) rfl
    (g := { method := m, pc := pc + 6, locals := ls, stack := .ref sa :: .ref T.heap.size :: .ref T.heap.size :: st.map (mV z b), locked := none }) rfl hsize rfl rfl (rest := st.map (mV z b)) rfl
    (by rw [hb]; exact d6) (by rw [hb]; exact d9) hout hf (by simp only [List.map_cons, List.sum_cons, hcat]; rw [mV_sum]; omega) hlocks
  obtain ⟨f1, f2⟩ := vx_frame hsame
  rw [hhp] at f1 f2
  have hWs : s.WarmedH U.vm := State.WarmedH.trans hW0 hW
  have hcl : s.vm.findClass nX = some ce.cls := by
    rw [hcc]
    rw [hvm] at hfX
    exact hfX
  have hall : s.sameButNew ({ U with vm := s.vm } : State) locs (mMR M).cells (mMR M).slots := by
    subst hA
    obtain ⟨e1, e2⟩ := hsame
    rw [State.setFrames_setFrames] at e1
    have h2 : (T.setVm s.vm).sameButNew ({ U with vm := s.vm } : State) [] (0 + 1) (0 + 6) := ⟨e1, e2⟩
    have h3 := X.same.trans h2
    rw [List.append_nil] at h3
    exact h3.mono hc hs
  refine ⟨U, ?_, .threw T.heap.size, hrun, hend, Or.inr ⟨T.heap.size, rfl, nX, ce, locs, ⟨rfl, hw.1.kept (fun k q hq => f2 q.1 (hw.1 k q hq).lt (fun z hz => nomatch hz)), Nat.le_trans hS.1 f1, fun q hq hn => (f2 q (Nat.lt_of_lt_of_le hq hS.1) (fun z hz => nomatch hz)).trans (hS.2.1 q hq hn)⟩, hce, hcv, hcl, hWs, hall, hS.2.2⟩⟩
  refine st1 _ ?_
  show Steps p.tables e below (T1.setTop { method := m, pc := pc + 3, locals := ls, stack := .ref T.heap.size :: st.map (mV z b), locked := none }) _
  jvm_step X₁.here [X₁.here.top, hexec, d3', Value.category]
  exact X₁.ldcString hexec (own := (mMy M).cls) (text := text) (index := is) (a := sa) hown' hstr'.1 hstr'.2
    (g := { method := m, pc := pc + 4, locals := ls, stack := .ref T.heap.size :: .ref T.heap.size :: st.map (mV z b), locked := none }) rfl d4' _ hsteps
end NR
end
section
/-! calls of constructors -/
section CI
variable {M : mM} {Qf : mQ} {pc : Nat} {L st : List Value} {kc ks : Nat} {w : mW}
theorem met_of {K : mM} {As : List Value} {v : Option Value} {w1 : mW} (hS : EvS K As w (.inl v) w1) {l : Launch} (z b : Nat) (G : va_G) (cA : Nat → ClassId) (hl : l.stackTraces = false) : Met l (mMy K) (mWs K) (mMR K) (mPc K z b G cA As w) (mQr z b G cA (.inl v) w1) (mMR K).cells (mMR K).slots (fun q => z ≤ q) := by
  have h := hS l z b G cA hl
  intro p e ha hc hk s m args below hf happ hP hKK
  obtain ⟨n, o, h1, h2, h3, hQ⟩ := h p e ha hc hk s m args below hf happ hP hKK
  refine ⟨n, o, h1, h2, h3, ?_⟩
  rcases hQ with hq | ⟨q, -, E, ce, Lc, hx, -⟩
  · exact hq
  · exact absurd hx id
/-- the heap's size, where the method counts its cells -/
theorem mR_size {z b : Nat} {G : va_G} {cA : Nat → ClassId} {p : Program} {l : Launch} {e : Env} {s : State} {m : MethodId} {args : Array Value} {below : List Frame} {meth : Method} {c : Code} {H : Heap} {locs : List Loc} {T : State} {n0 : Nat} (C : mCX M z b G cA p l s m args meth c) (hw : mWR z b G cA w s H locs) (hT : T.heap = H) (X : Stand p l e (mMR M) s m args below meth c T locs kc ks) (hz : mMz M = some n0) (hn : w.length = n0 + kc) : H.size = z + w.length := by
  have hsz := X.same.2.2.1
  have hs0 := C.2.2.2.2.2.2.2.2.2.2.2.2.2.2.2.1 n0 hz
  have hU1 : (T.setVm s.vm).heap.size = H.size := by rw [← hT]; rfl
  rw [hU1, hs0] at hsz
  have h1 := mR_low hw.1 (Nat.le_trans C.2.2.2.2.2.2.2.2.2.2.2.2.2.2.1 hw.2.1)
  omega
theorem run_ret9 {K : mM} {v : Option Value} {w1 : mW} {p : Program} {l : Launch} {e : Env} {R : Room} {s : State} {m : MethodId} {args : Array Value} {below : List Frame} {meth : Method} {c : Code} {H : Heap} {locs : List Loc} {Q : State → Prop} {z b : Nat} {G : va_G} {cA : Nat → ClassId} {ls : Array Slot} {st0 rest : List Value} {a : Array Value} {T : State} (hT : T.heap = H) (X : Stand p l e R s m args below meth c T locs kc ks)
    (hr : va_Run p l e R s m args below meth c H locs kc ks (mMR K).cells (mMR K).slots (F0 m pc ls st0) rest (mQr z b G cA (.inl v) w1 a) (fun q => z ≤ q)) (hw : mWR z b G cA w s H locs)
    (kk : ∀ (H1 : Heap) (locs1 : List Loc), mWR z b G cA w1 s H1 locs1 → W p l e R s m args below meth c H1 locs1 (kc + (mMR K).cells) (ks + (mMR K).slots) Q (F0 m (pc + 3) ls ((v.map (mV z b)).toList ++ rest))) : ∃ t, Steps p.tables e below (T.setTop (F0 m pc ls st0)) t ∧ Q t := by
  obtain ⟨v', st₀, t, T', Lc, h0, X', hL, e1, e2, ⟨hv, hp, hF⟩, go⟩ := hr T hT X
  cases hv
  obtain ⟨t2, a1, b1⟩ := kk T'.heap (locs ++ Lc) ⟨by rw [e1]; exact hp, run_keep h0 e1 hw.2 hL hF⟩ T' rfl X'
  exact ⟨t2, go t2 a1, b1⟩
theorem ev_callI {K : mM} {idx q na n0 : Nat} {As rest : List Value} {w1 : mW} (d : decode (mMc M) pc = .ok (.invokespecial idx, 3)) (hC : mCi (mMy M).cls idx (mMy K) na) (hO : mOk K) (hh : mMh K = []) (hre : mMr K = none) (hzM : mMz M = some n0) (hn : w.length = n0 + kc) (hz : ∀ n, mMz K = some n → n = w.length) (hF : mFit M K) (hna : As.length = na) (hst : (rest.map fun v => v.category).sum ≤ 8) (hR : kc + (mMR K).cells ≤ (mMR M).cells ∧ ks + (mMR K).slots ≤ (mMR M).slots) (hS : EvS K (.ref q :: As) w (.inl none) w1)
    (k : EvF M Qf (pc + 3) L rest (kc + (mMR K).cells) (ks + (mMR K).slots) w1) : EvF M Qf pc L (As.reverse ++ .ref q :: rest) kc ks w := by
  intro z b G cA p l e s m args below meth c H locs ls C hw hL
  intro T hT X
  have hsz := mR_size C hw hT X hzM hn
  obtain ⟨c1, c2, c4, c5, c6, c7, c8⟩ := hC
  have hts := C.2.2.2.2.2.1
  have hhd : mHd K = .code (mMy K) (mMc K) (mMn K) none := by unfold mHd; rw [hh, hre]
  refine run_ret9 (K := K) (v := none) (a := (Value.ref (z + q) :: As.map (mV z b)).toArray) (rest := rest.map (mV z b)) hT X ?_ hw (fun H1 locs1 hw1 => k z b G cA p l e s m args below meth c H1 locs1 ls C hw1 hL)
  exact va_runI (As := As.map (mV z b)) (rest := rest.map (mV z b)) (g := F0 m pc ls ((As.reverse ++ .ref q :: rest).map (mV z b))) (cells := kc) (slots := ks) (locs := locs) (below := below) (meth := meth) (e := e) (R := mMR M) (bytes := mMc K) (maxL := mMn K)
    (Ts := WA) ⟨C.1, C.2.1, C.2.2.1, C.2.2.2.2.1, hts⟩ (met_of hS z b G cA C.2.2.2.2.2.2.2.2.2.2.2.1) (cwI na hts (wa_ws hO) (by show mHd K :: WA = _; rw [hhd]) rfl rfl (hts _ c4) (hts _ c1) (hts _ c2) c8 ⟨c5, c6, c7⟩ hF)
    (b := z + q) ⟨mB_blind, fun U hU hW => ⟨rfl, mB_at C hw (fun n h => by rw [hz n h]; exact hsz) U hU hW⟩⟩ rfl (by rw [List.length_map]; exact hna) hL.1 (by simp [List.map_append, List.map_reverse, mV]) (lv_room (by rw [mV_sum]; exact hst)) d hR
/-- a nest mate's private constructor -/
theorem ev_callIN {K : mM} {idx q na n0 : Nat} {rest As : List Value} {w1 : mW} (d : decode (mMc M) pc = .ok (.invokespecial idx, 3)) (hl : ∀ U : State, mXF U → va_Nw (.methodLinkNest (mMy M).cls idx (mMy K) "Copperleaf") U) (hin : Jvm.Cond.instanceMethod (mMy K) ∈ WA) (hini : Jvm.Cond.initialized (mMy K).cls ∈ WA) (hd : (mMy K).cls ≠ "java/lang/invoke/MethodHandle" ∧ (mMy K).cls ≠ "java/lang/invoke/VarHandle" ∧ (parseMethodDescriptor (mMy K).desc).map (fun d => d.parameters.length) = some na) (hnm : (mMy K).name = "<init>") (hO : mOk K) (hh : mMh K = []) (hre : mMr K = none) (hzM : mMz M = some n0) (hn : w.length = n0 + kc) (hz : ∀ n, mMz K = some n → n = w.length) (hF : mFit M K) (hna : As.length = na) (hst : (rest.map fun v => v.category).sum ≤ 8) (hR : kc + (mMR K).cells ≤ (mMR M).cells ∧ ks + (mMR K).slots ≤ (mMR M).slots) (hS : EvS K (.ref q :: As) w (.inl none) w1)
    (k : EvF M Qf (pc + 3) L rest (kc + (mMR K).cells) (ks + (mMR K).slots) w1) : EvF M Qf pc L (As.reverse ++ .ref q :: rest) kc ks w := by
  intro z b G cA p l e s m args below meth c H locs ls C hw hL
  intro T hT X
  have hsz := mR_size C hw hT X hzM hn
  have hts := C.2.2.2.2.2.1
  have hhd : mHd K = .code (mMy K) (mMc K) (mMn K) none := by unfold mHd; rw [hh, hre]
  refine run_ret9 (K := K) (v := none) (a := (Value.ref (z + q) :: As.map (mV z b)).toArray) (rest := rest.map (mV z b)) hT X ?_ hw (fun H1 locs1 hw1 => k z b G cA p l e s m args below meth c H1 locs1 ls C hw1 hL)
  exact va_runIN (As := As.map (mV z b)) (rest := rest.map (mV z b)) (g := F0 m pc ls ((As.reverse ++ .ref q :: rest).map (mV z b))) (cells := kc) (slots := ks) (locs := locs) (below := below) (meth := meth) (e := e) (R := mMR M) (bytes := mMc K) (maxL := mMn K) (host := "Copperleaf")
    (Ts := WA) ⟨C.1, C.2.1, C.2.2.1, C.2.2.2.2.1, hts⟩ (met_of hS z b G cA C.2.2.2.2.2.2.2.2.2.2.2.1) ⟨va_cnB na hts (wa_ws hO) (by show mHd K :: WA = _; rw [hhd]) rfl rfl (hl s C.2.2.2.2.2.2.2.2.2.2.1) (hts _ hini) hd hF, hnm, hts _ hin⟩
    (b := z + q) ⟨mB_blind, fun U hU hW => ⟨rfl, mB_at C hw (fun n h => by rw [hz n h]; exact hsz) U hU hW⟩⟩ rfl (by rw [List.length_map]; exact hna) hL.1 (by simp [List.map_append, List.map_reverse, mV]) (lv_room (by rw [mV_sum]; exact hst)) d hR
end CI
end
section
/-! forms of the rules that the walks use -/
section FO
variable {M K : mM} {Qf : mQ} {pc : Nat} {L st rest : List Value} {kc ks : Nat} {w w1 w' : mW}
theorem ev_vretE (d : decode (mMc M) pc = .ok (.return_, 1)) (hr : mMr M = none) (hR : kc ≤ (mMR M).cells ∧ ks ≤ (mMR M).slots) (hw : w = w') : EvF M (mQm M (.inl none) w') pc L [] kc ks w := hw ▸ ev_vret d hr hR.1 hR.2
theorem ev_iretE {v r : Int32} (d : decode (mMc M) pc = .ok (.ireturn, 1)) (hr : mMr M = some .int) (hR : kc ≤ (mMR M).cells ∧ ks ≤ (mMR M).slots) (hv : v = r) (hw : w = w') : EvF M (mQm M (.inl (some (.int r))) w') pc L [.int v] kc ks w := hw ▸ hv ▸ ev_iret d hr hR.1 hR.2
theorem ev_zretE {v r : Int32} (d : decode (mMc M) pc = .ok (.ireturn, 1)) (hr : mMr M = some .boolean) (hR : kc ≤ (mMR M).cells ∧ ks ≤ (mMR M).slots) (h1 : v = 0 ∨ v = 1) (hv : v = r) (hw : w = w') : EvF M (mQm M (.inl (some (.int r))) w') pc L [.int v] kc ks w := hw ▸ hv ▸ ev_zret d hr (by rcases h1 with h | h <;> rw [h] <;> decide) hR.1 hR.2
theorem ev_lretE {v r : Int64} (d : decode (mMc M) pc = .ok (.lreturn, 1)) (hr : mMr M = some .long) (hR : kc ≤ (mMR M).cells ∧ ks ≤ (mMR M).slots) (hv : v = r) (hw : w = w') : EvF M (mQm M (.inl (some (.long r))) w') pc L [.long v] kc ks w := hw ▸ hv ▸ ev_lret d hr hR.1 hR.2
theorem ev_aretE {a r : Nat} {Cn : String} (d : decode (mMc M) pc = .ok (.areturn, 1)) (hr : mMr M = some (.object Cn)) (hR : kc ≤ (mMR M).cells ∧ ks ≤ (mMR M).slots) (hv : a = r) (hw : w = w') : EvF M (mQm M (.inl (some (.ref r))) w') pc L [.ref a] kc ks w := hw ▸ hv ▸ ev_aret d hr hR.1 hR.2
/-- the tables' side of a call of K at pc -/
def mLv (M K : mM) (pc na : Nat) : Prop := ∃ idx, decode (mMc M) pc = .ok (.invokevirtual idx, 3) ∧ mCv (mMy M).cls idx (mMy K) na ∧ mOk K ∧ mMh K = [] ∧ mMz K = none ∧ mFit M K
def mLt (M K : mM) (pc na : Nat) : Prop := ∃ idx, decode (mMc M) pc = .ok (.invokestatic idx, 3) ∧ mCs (mMy M).cls idx (mMy K) na ∧ mOk K ∧ mMh K = [] ∧ mMz K = none ∧ mFit M K
def mLx (M K : mM) (pc na : Nat) : Prop := ∃ idx h0 hs0, decode (mMc M) pc = .ok (.invokestatic idx, 3) ∧ mCs (mMy M).cls idx (mMy K) na ∧ mOk K ∧ mMh K = h0 :: hs0 ∧ mMz K = none ∧ mFit M K
abbrev mRm (M K : mM) (kc ks : Nat) : Prop := kc + (mMR K).cells ≤ (mMR M).cells ∧ ks + (mMR K).slots ≤ (mMR M).slots
theorem rV {q ci na : Nat} {As : List Value} {res : Option Value ⊕ String} {fs : List Value} {r : vw_C} (hl : mLv M K pc na) (hna : As.length = na) (he : w[q]? = some (.inr (ci, fs))) (hc : vwCl[ci]? = some r) (hrc : r.1 = (mMy K).cls) (hst : (rest.map fun v => v.category).sum ≤ 8) (hR : mRm M K kc ks) (hS : EvS K (.ref q :: As) w res w1) :
    mRun K res w1 L rest kc ks M pc w (As.reverse ++ .ref q :: rest) (fun z b => (Value.ref (z + q) :: As.map (mV z b)).toArray) := by
  obtain ⟨idx, d, c1, c2, c3, c4, c5⟩ := hl
  exact mRunV d c1 c2 c3 c4 c5 he hc hrc hna hst hR hS
theorem rS {na : Nat} {As : List Value} {res : Option Value ⊕ String} (hl : mLt M K pc na) (hna : As.length = na) (hst : (rest.map fun v => v.category).sum ≤ 8) (hR : mRm M K kc ks) (hS : EvS K As w res w1) :
    mRun K res w1 L rest kc ks M pc w (As.reverse ++ rest) (fun z b => (As.map (mV z b)).toArray) := by
  obtain ⟨idx, d, c1, c2, c3, c4, c5⟩ := hl
  exact mRunS d c1 c2 c3 c4 c5 hna hst hR hS
theorem rX {na : Nat} {As : List Value} {res : Option Value ⊕ String} (hl : mLx M K pc na) (hna : As.length = na) (hst : (rest.map fun v => v.category).sum ≤ 8) (hR : mRm M K kc ks) (hS : EvS K As w res w1) :
    mRun K res w1 L rest kc ks M pc w (As.reverse ++ rest) (fun z b => (As.map (mV z b)).toArray) := by
  obtain ⟨idx, h0, hs0, d, c1, c2, c3, c4, c5⟩ := hl
  exact mRunSX d c1 c2 c3 c4 c5 hna hst hR hS
theorem cV0 {q ci : Nat} {x : Option Value} {fs : List Value} {r : vw_C} (hl : mLv M K pc 0) (he : w[q]? = some (.inr (ci, fs))) (hc : vwCl[ci]? = some r) (hrc : r.1 = (mMy K).cls) (hst : (rest.map fun v => v.category).sum ≤ 8) (hR : mRm M K kc ks) (hS : EvS K (.ref q :: []) w (.inl x) w1) (k : EvF M Qf (pc + 3) L (x.toList ++ rest) (kc + (mMR K).cells) (ks + (mMR K).slots) w1) : EvF M Qf pc L (.ref q :: rest) kc ks w := ev_call (rV (As := []) hl rfl he hc hrc hst hR hS) k
theorem tV0 {q ci : Nat} {E : String} {fs : List Value} {r : vw_C} (hl : mLv M K pc 0) (hh : mMh M = []) (he : w[q]? = some (.inr (ci, fs))) (hc : vwCl[ci]? = some r) (hrc : r.1 = (mMy K).cls) (hst : (rest.map fun v => v.category).sum ≤ 8) (hR : mRm M K kc ks) (hS : EvS K (.ref q :: []) w (.inr E) w1) : EvF M (mQm M (.inr E) w1) pc L (.ref q :: rest) kc ks w := ev_callT (rV (As := []) hl rfl he hc hrc hst hR hS) hh hR
theorem cS0 {x : Option Value} (hl : mLt M K pc 0) (hst : (rest.map fun v => v.category).sum ≤ 8) (hR : mRm M K kc ks) (hS : EvS K [] w (.inl x) w1) (k : EvF M Qf (pc + 3) L (x.toList ++ rest) (kc + (mMR K).cells) (ks + (mMR K).slots) w1) : EvF M Qf pc L (rest) kc ks w := ev_call (rS (As := []) hl rfl hst hR hS) k
theorem tS0 {E : String} (hl : mLt M K pc 0) (hh : mMh M = []) (hst : (rest.map fun v => v.category).sum ≤ 8) (hR : mRm M K kc ks) (hS : EvS K [] w (.inr E) w1) : EvF M (mQm M (.inr E) w1) pc L (rest) kc ks w := ev_callT (rS (As := []) hl rfl hst hR hS) hh hR
theorem cX0 {x : Option Value} (hl : mLx M K pc 0) (hst : (rest.map fun v => v.category).sum ≤ 8) (hR : mRm M K kc ks) (hS : EvS K [] w (.inl x) w1) (k : EvF M Qf (pc + 3) L (x.toList ++ rest) (kc + (mMR K).cells) (ks + (mMR K).slots) w1) : EvF M Qf pc L (rest) kc ks w := ev_call (rX (As := []) hl rfl hst hR hS) k
theorem cV1 {q ci : Nat} {x : Option Value} {v1 : Value} {fs : List Value} {r : vw_C} (hl : mLv M K pc 1) (he : w[q]? = some (.inr (ci, fs))) (hc : vwCl[ci]? = some r) (hrc : r.1 = (mMy K).cls) (hst : (rest.map fun v => v.category).sum ≤ 8) (hR : mRm M K kc ks) (hS : EvS K (.ref q :: [v1]) w (.inl x) w1) (k : EvF M Qf (pc + 3) L (x.toList ++ rest) (kc + (mMR K).cells) (ks + (mMR K).slots) w1) : EvF M Qf pc L (v1 :: .ref q :: rest) kc ks w := ev_call (rV (As := [v1]) hl rfl he hc hrc hst hR hS) k
theorem tV1 {q ci : Nat} {E : String} {v1 : Value} {fs : List Value} {r : vw_C} (hl : mLv M K pc 1) (hh : mMh M = []) (he : w[q]? = some (.inr (ci, fs))) (hc : vwCl[ci]? = some r) (hrc : r.1 = (mMy K).cls) (hst : (rest.map fun v => v.category).sum ≤ 8) (hR : mRm M K kc ks) (hS : EvS K (.ref q :: [v1]) w (.inr E) w1) : EvF M (mQm M (.inr E) w1) pc L (v1 :: .ref q :: rest) kc ks w := ev_callT (rV (As := [v1]) hl rfl he hc hrc hst hR hS) hh hR
theorem cS1 {x : Option Value} {v1 : Value} (hl : mLt M K pc 1) (hst : (rest.map fun v => v.category).sum ≤ 8) (hR : mRm M K kc ks) (hS : EvS K [v1] w (.inl x) w1) (k : EvF M Qf (pc + 3) L (x.toList ++ rest) (kc + (mMR K).cells) (ks + (mMR K).slots) w1) : EvF M Qf pc L (v1 :: rest) kc ks w := ev_call (rS (As := [v1]) hl rfl hst hR hS) k
theorem tS1 {E : String} {v1 : Value} (hl : mLt M K pc 1) (hh : mMh M = []) (hst : (rest.map fun v => v.category).sum ≤ 8) (hR : mRm M K kc ks) (hS : EvS K [v1] w (.inr E) w1) : EvF M (mQm M (.inr E) w1) pc L (v1 :: rest) kc ks w := ev_callT (rS (As := [v1]) hl rfl hst hR hS) hh hR
theorem cX1 {x : Option Value} {v1 : Value} (hl : mLx M K pc 1) (hst : (rest.map fun v => v.category).sum ≤ 8) (hR : mRm M K kc ks) (hS : EvS K [v1] w (.inl x) w1) (k : EvF M Qf (pc + 3) L (x.toList ++ rest) (kc + (mMR K).cells) (ks + (mMR K).slots) w1) : EvF M Qf pc L (v1 :: rest) kc ks w := ev_call (rX (As := [v1]) hl rfl hst hR hS) k
theorem cV2 {q ci : Nat} {x : Option Value} {v1 v2 : Value} {fs : List Value} {r : vw_C} (hl : mLv M K pc 2) (he : w[q]? = some (.inr (ci, fs))) (hc : vwCl[ci]? = some r) (hrc : r.1 = (mMy K).cls) (hst : (rest.map fun v => v.category).sum ≤ 8) (hR : mRm M K kc ks) (hS : EvS K (.ref q :: [v1, v2]) w (.inl x) w1) (k : EvF M Qf (pc + 3) L (x.toList ++ rest) (kc + (mMR K).cells) (ks + (mMR K).slots) w1) : EvF M Qf pc L (v2 :: v1 :: .ref q :: rest) kc ks w := ev_call (rV (As := [v1, v2]) hl rfl he hc hrc hst hR hS) k
theorem tV2 {q ci : Nat} {E : String} {v1 v2 : Value} {fs : List Value} {r : vw_C} (hl : mLv M K pc 2) (hh : mMh M = []) (he : w[q]? = some (.inr (ci, fs))) (hc : vwCl[ci]? = some r) (hrc : r.1 = (mMy K).cls) (hst : (rest.map fun v => v.category).sum ≤ 8) (hR : mRm M K kc ks) (hS : EvS K (.ref q :: [v1, v2]) w (.inr E) w1) : EvF M (mQm M (.inr E) w1) pc L (v2 :: v1 :: .ref q :: rest) kc ks w := ev_callT (rV (As := [v1, v2]) hl rfl he hc hrc hst hR hS) hh hR
theorem cS2 {x : Option Value} {v1 v2 : Value} (hl : mLt M K pc 2) (hst : (rest.map fun v => v.category).sum ≤ 8) (hR : mRm M K kc ks) (hS : EvS K [v1, v2] w (.inl x) w1) (k : EvF M Qf (pc + 3) L (x.toList ++ rest) (kc + (mMR K).cells) (ks + (mMR K).slots) w1) : EvF M Qf pc L (v2 :: v1 :: rest) kc ks w := ev_call (rS (As := [v1, v2]) hl rfl hst hR hS) k
theorem tS2 {E : String} {v1 v2 : Value} (hl : mLt M K pc 2) (hh : mMh M = []) (hst : (rest.map fun v => v.category).sum ≤ 8) (hR : mRm M K kc ks) (hS : EvS K [v1, v2] w (.inr E) w1) : EvF M (mQm M (.inr E) w1) pc L (v2 :: v1 :: rest) kc ks w := ev_callT (rS (As := [v1, v2]) hl rfl hst hR hS) hh hR
theorem cX2 {x : Option Value} {v1 v2 : Value} (hl : mLx M K pc 2) (hst : (rest.map fun v => v.category).sum ≤ 8) (hR : mRm M K kc ks) (hS : EvS K [v1, v2] w (.inl x) w1) (k : EvF M Qf (pc + 3) L (x.toList ++ rest) (kc + (mMR K).cells) (ks + (mMR K).slots) w1) : EvF M Qf pc L (v2 :: v1 :: rest) kc ks w := ev_call (rX (As := [v1, v2]) hl rfl hst hR hS) k
theorem cV3 {q ci : Nat} {x : Option Value} {v1 v2 v3 : Value} {fs : List Value} {r : vw_C} (hl : mLv M K pc 3) (he : w[q]? = some (.inr (ci, fs))) (hc : vwCl[ci]? = some r) (hrc : r.1 = (mMy K).cls) (hst : (rest.map fun v => v.category).sum ≤ 8) (hR : mRm M K kc ks) (hS : EvS K (.ref q :: [v1, v2, v3]) w (.inl x) w1) (k : EvF M Qf (pc + 3) L (x.toList ++ rest) (kc + (mMR K).cells) (ks + (mMR K).slots) w1) : EvF M Qf pc L (v3 :: v2 :: v1 :: .ref q :: rest) kc ks w := ev_call (rV (As := [v1, v2, v3]) hl rfl he hc hrc hst hR hS) k
theorem tV3 {q ci : Nat} {E : String} {v1 v2 v3 : Value} {fs : List Value} {r : vw_C} (hl : mLv M K pc 3) (hh : mMh M = []) (he : w[q]? = some (.inr (ci, fs))) (hc : vwCl[ci]? = some r) (hrc : r.1 = (mMy K).cls) (hst : (rest.map fun v => v.category).sum ≤ 8) (hR : mRm M K kc ks) (hS : EvS K (.ref q :: [v1, v2, v3]) w (.inr E) w1) : EvF M (mQm M (.inr E) w1) pc L (v3 :: v2 :: v1 :: .ref q :: rest) kc ks w := ev_callT (rV (As := [v1, v2, v3]) hl rfl he hc hrc hst hR hS) hh hR
theorem cS3 {x : Option Value} {v1 v2 v3 : Value} (hl : mLt M K pc 3) (hst : (rest.map fun v => v.category).sum ≤ 8) (hR : mRm M K kc ks) (hS : EvS K [v1, v2, v3] w (.inl x) w1) (k : EvF M Qf (pc + 3) L (x.toList ++ rest) (kc + (mMR K).cells) (ks + (mMR K).slots) w1) : EvF M Qf pc L (v3 :: v2 :: v1 :: rest) kc ks w := ev_call (rS (As := [v1, v2, v3]) hl rfl hst hR hS) k
theorem tS3 {E : String} {v1 v2 v3 : Value} (hl : mLt M K pc 3) (hh : mMh M = []) (hst : (rest.map fun v => v.category).sum ≤ 8) (hR : mRm M K kc ks) (hS : EvS K [v1, v2, v3] w (.inr E) w1) : EvF M (mQm M (.inr E) w1) pc L (v3 :: v2 :: v1 :: rest) kc ks w := ev_callT (rS (As := [v1, v2, v3]) hl rfl hst hR hS) hh hR
theorem cX3 {x : Option Value} {v1 v2 v3 : Value} (hl : mLx M K pc 3) (hst : (rest.map fun v => v.category).sum ≤ 8) (hR : mRm M K kc ks) (hS : EvS K [v1, v2, v3] w (.inl x) w1) (k : EvF M Qf (pc + 3) L (x.toList ++ rest) (kc + (mMR K).cells) (ks + (mMR K).slots) w1) : EvF M Qf pc L (v3 :: v2 :: v1 :: rest) kc ks w := ev_call (rX (As := [v1, v2, v3]) hl rfl hst hR hS) k
theorem cV4 {q ci : Nat} {x : Option Value} {v1 v2 v3 v4 : Value} {fs : List Value} {r : vw_C} (hl : mLv M K pc 4) (he : w[q]? = some (.inr (ci, fs))) (hc : vwCl[ci]? = some r) (hrc : r.1 = (mMy K).cls) (hst : (rest.map fun v => v.category).sum ≤ 8) (hR : mRm M K kc ks) (hS : EvS K (.ref q :: [v1, v2, v3, v4]) w (.inl x) w1) (k : EvF M Qf (pc + 3) L (x.toList ++ rest) (kc + (mMR K).cells) (ks + (mMR K).slots) w1) : EvF M Qf pc L (v4 :: v3 :: v2 :: v1 :: .ref q :: rest) kc ks w := ev_call (rV (As := [v1, v2, v3, v4]) hl rfl he hc hrc hst hR hS) k
theorem tV4 {q ci : Nat} {E : String} {v1 v2 v3 v4 : Value} {fs : List Value} {r : vw_C} (hl : mLv M K pc 4) (hh : mMh M = []) (he : w[q]? = some (.inr (ci, fs))) (hc : vwCl[ci]? = some r) (hrc : r.1 = (mMy K).cls) (hst : (rest.map fun v => v.category).sum ≤ 8) (hR : mRm M K kc ks) (hS : EvS K (.ref q :: [v1, v2, v3, v4]) w (.inr E) w1) : EvF M (mQm M (.inr E) w1) pc L (v4 :: v3 :: v2 :: v1 :: .ref q :: rest) kc ks w := ev_callT (rV (As := [v1, v2, v3, v4]) hl rfl he hc hrc hst hR hS) hh hR
theorem cS4 {x : Option Value} {v1 v2 v3 v4 : Value} (hl : mLt M K pc 4) (hst : (rest.map fun v => v.category).sum ≤ 8) (hR : mRm M K kc ks) (hS : EvS K [v1, v2, v3, v4] w (.inl x) w1) (k : EvF M Qf (pc + 3) L (x.toList ++ rest) (kc + (mMR K).cells) (ks + (mMR K).slots) w1) : EvF M Qf pc L (v4 :: v3 :: v2 :: v1 :: rest) kc ks w := ev_call (rS (As := [v1, v2, v3, v4]) hl rfl hst hR hS) k
theorem tS4 {E : String} {v1 v2 v3 v4 : Value} (hl : mLt M K pc 4) (hh : mMh M = []) (hst : (rest.map fun v => v.category).sum ≤ 8) (hR : mRm M K kc ks) (hS : EvS K [v1, v2, v3, v4] w (.inr E) w1) : EvF M (mQm M (.inr E) w1) pc L (v4 :: v3 :: v2 :: v1 :: rest) kc ks w := ev_callT (rS (As := [v1, v2, v3, v4]) hl rfl hst hR hS) hh hR
theorem cX4 {x : Option Value} {v1 v2 v3 v4 : Value} (hl : mLx M K pc 4) (hst : (rest.map fun v => v.category).sum ≤ 8) (hR : mRm M K kc ks) (hS : EvS K [v1, v2, v3, v4] w (.inl x) w1) (k : EvF M Qf (pc + 3) L (x.toList ++ rest) (kc + (mMR K).cells) (ks + (mMR K).slots) w1) : EvF M Qf pc L (v4 :: v3 :: v2 :: v1 :: rest) kc ks w := ev_call (rX (As := [v1, v2, v3, v4]) hl rfl hst hR hS) k
end FO
/-- a call seen with another name for what comes back -/
theorem evs_cast {K : mM} {As As' : List Value} {w w2 w1 w3 : mW} {r r' : Option Value ⊕ String} (h : EvS K As w r w1) (e1 : As = As') (e2 : w = w2) (e3 : r = r') (e4 : w1 = w3) : EvS K As' w2 r' w3 := by subst e1; subst e2; subst e3; subst e4; exact h
theorem i10_0 {P : Prop} [Decidable P] : ((if P then (1 : Int32) else 0) = 0) ↔ ¬ P := by by_cases h : P <;> simp [h]
theorem i10_1 {P : Prop} [Decidable P] : ¬ ((if P then (1 : Int32) else 0) = 0) ↔ P := by by_cases h : P <;> simp [h]
theorem i10_o {P : Prop} [Decidable P] : (if P then (1 : Int32) else 0) = 0 ∨ (if P then (1 : Int32) else 0) = 1 := by by_cases h : P <;> simp [h]
end
section
/-! the tables' facts, by program (wip/whole/gen2.py) -/
theorem wa_all {l : List Jvm.Cond} (h : l.all (fun w => decide (w ∈ lw_tbl) && goodWord w) = true) : ∀ x ∈ l, x ∈ WA := fun x hx => by
  have h1 := List.all_eq_true.mp h x hx
  simp only [Bool.and_eq_true, decide_eq_true_eq] at h1
  exact List.mem_filter.mpr h1
theorem inX0 : ∀ x ∈ u_ws RX0 TX0 8, x ∈ WA := wa_all (by decide +kernel)
theorem inX1 : ∀ x ∈ u_ws RX1 TX1 4, x ∈ WA := wa_all (by decide +kernel)
theorem inX2 : ∀ x ∈ u_ws RX2 TX2 5, x ∈ WA := wa_all (by decide +kernel)
theorem inX3 : ∀ x ∈ u_ws RX3 TX3 7, x ∈ WA := wa_all (by decide +kernel)
theorem inX4 : ∀ x ∈ u_ws RX4 TX4 18, x ∈ WA := wa_all (by decide +kernel)
theorem fd_X3_12 : mFd RX3 12 3 0 := ⟨RX3, TX3, 7, rfl, inX3, by decide, wa_m 175 (by decide +kernel) rfl⟩
theorem fp_X3_12 : mFp RX3 12 3 0 (.object "Copperleaf$Pages") true := ⟨RX3, TX3, 7, tyX3, rfl, inX3, by decide, wa_m 175 (by decide +kernel) rfl, tyX3_ok, nmX3, rfl, by decide +kernel, fun h => by first | rfl | cases h⟩
theorem fd_X3_19 : mFd RX3 19 3 1 := ⟨RX3, TX3, 7, rfl, inX3, by decide, wa_m 176 (by decide +kernel) rfl⟩
theorem fp_X3_19 : mFp RX3 19 3 1 (.object "Copperleaf$State") true := ⟨RX3, TX3, 7, tyX3, rfl, inX3, by decide, wa_m 176 (by decide +kernel) rfl, tyX3_ok, nmX3, rfl, by decide +kernel, fun h => by first | rfl | cases h⟩
theorem fd_X3_23 : mFd RX3 23 3 2 := ⟨RX3, TX3, 7, rfl, inX3, by decide, wa_m 177 (by decide +kernel) rfl⟩
theorem fp_X3_23 : mFp RX3 23 3 2 (.object "Copperleaf$State") true := ⟨RX3, TX3, 7, tyX3, rfl, inX3, by decide, wa_m 177 (by decide +kernel) rfl, tyX3_ok, nmX3, rfl, by decide +kernel, fun h => by first | rfl | cases h⟩
theorem fd_X3_31 : mFd RX3 31 3 3 := ⟨RX3, TX3, 7, rfl, inX3, by decide, wa_m 178 (by decide +kernel) rfl⟩
theorem fp_X3_31 : mFp RX3 31 3 3 (.object "Copperleaf$Writer") true := ⟨RX3, TX3, 7, tyX3, rfl, inX3, by decide, wa_m 178 (by decide +kernel) rfl, tyX3_ok, nmX3, rfl, by decide +kernel, fun h => by first | rfl | cases h⟩
theorem fd_X3_35 : mFd RX3 35 3 4 := ⟨RX3, TX3, 7, rfl, inX3, by decide, wa_m 179 (by decide +kernel) rfl⟩
theorem fp_X3_35 : mFp RX3 35 3 4 (.array (.object "Copperleaf$State")) true := ⟨RX3, TX3, 7, tyX3, rfl, inX3, by decide, wa_m 179 (by decide +kernel) rfl, tyX3_ok, nmX3, rfl, by decide +kernel, fun h => by first | rfl | cases h⟩
theorem fd_X3_39 : mFd RX3 39 3 5 := ⟨RX3, TX3, 7, rfl, inX3, by decide, wa_m 180 (by decide +kernel) rfl⟩
theorem fp_X3_39 : mFp RX3 39 3 5 (.array .long) true := ⟨RX3, TX3, 7, tyX3, rfl, inX3, by decide, wa_m 180 (by decide +kernel) rfl, tyX3_ok, nmX3, rfl, by decide +kernel, fun h => by first | rfl | cases h⟩
theorem fd_X3_43 : mFd RX3 43 3 6 := ⟨RX3, TX3, 7, rfl, inX3, by decide, wa_m 181 (by decide +kernel) rfl⟩
theorem fp_X3_43 : mFp RX3 43 3 6 .int false := ⟨RX3, TX3, 7, tyX3, rfl, inX3, by decide, wa_m 181 (by decide +kernel) rfl, tyX3_ok, nmX3, rfl, by decide +kernel, fun h => by first | rfl | cases h⟩
theorem fd_X3_47 : mFd RX3 47 0 4 := ⟨RX0, TX0, 8, rfl, inX0, by decide, wa_m 82 (by decide +kernel) rfl⟩
theorem fd_X3_51 : mFd RX3 51 1 1 := ⟨RX1, TX1, 4, rfl, inX1, by decide, wa_m 115 (by decide +kernel) rfl⟩
theorem fp_X3_51 : mFp RX3 51 1 1 .int false := ⟨RX1, TX1, 4, tyX1, rfl, inX1, by decide, wa_m 115 (by decide +kernel) rfl, tyX1_ok, nmX1, rfl, by decide +kernel, fun h => by first | rfl | cases h⟩
theorem fd_X3_58 : mFd RX3 58 1 3 := ⟨RX1, TX1, 4, rfl, inX1, by decide, wa_m 121 (by decide +kernel) rfl⟩
theorem fp_X3_58 : mFp RX3 58 1 3 .boolean false := ⟨RX1, TX1, 4, tyX1, rfl, inX1, by decide, wa_m 121 (by decide +kernel) rfl, tyX1_ok, nmX1, rfl, by decide +kernel, fun h => by first | rfl | cases h⟩
theorem fd_X3_73 : mFd RX3 73 1 0 := ⟨RX1, TX1, 4, rfl, inX1, by decide, wa_m 114 (by decide +kernel) rfl⟩
theorem fp_X3_73 : mFp RX3 73 1 0 .int false := ⟨RX1, TX1, 4, tyX1, rfl, inX1, by decide, wa_m 114 (by decide +kernel) rfl, tyX1_ok, nmX1, rfl, by decide +kernel, fun h => by first | rfl | cases h⟩
theorem fd_X3_121 : mFd RX3 121 0 6 := ⟨RX0, TX0, 8, rfl, inX0, by decide, wa_m 86 (by decide +kernel) rfl⟩
theorem fd_X3_135 : mFd RX3 135 1 2 := ⟨RX1, TX1, 4, rfl, inX1, by decide, wa_m 120 (by decide +kernel) rfl⟩
theorem fp_X3_135 : mFp RX3 135 1 2 .int false := ⟨RX1, TX1, 4, tyX1, rfl, inX1, by decide, wa_m 120 (by decide +kernel) rfl, tyX1_ok, nmX1, rfl, by decide +kernel, fun h => by first | rfl | cases h⟩
theorem fd_X3_233 : mFd RX3 233 0 5 := ⟨RX0, TX0, 8, rfl, inX0, by decide, wa_m 84 (by decide +kernel) rfl⟩
theorem fd_X0_9 : mFd RX0 9 0 0 := ⟨RX0, TX0, 8, rfl, inX0, by decide, wa_m 77 (by decide +kernel) rfl⟩
theorem fp_X0_9 : mFp RX0 9 0 0 (.array .int) true := ⟨RX0, TX0, 8, tyX0, rfl, inX0, by decide, wa_m 77 (by decide +kernel) rfl, tyX0_ok, nmX0, rfl, by decide +kernel, fun h => by first | rfl | cases h⟩
theorem fd_X0_15 : mFd RX0 15 0 1 := ⟨RX0, TX0, 8, rfl, inX0, by decide, wa_m 78 (by decide +kernel) rfl⟩
theorem fp_X0_15 : mFp RX0 15 0 1 (.array .boolean) true := ⟨RX0, TX0, 8, tyX0, rfl, inX0, by decide, wa_m 78 (by decide +kernel) rfl, tyX0_ok, nmX0, rfl, by decide +kernel, fun h => by first | rfl | cases h⟩
theorem fd_X0_19 : mFd RX0 19 0 2 := ⟨RX0, TX0, 8, rfl, inX0, by decide, wa_m 79 (by decide +kernel) rfl⟩
theorem fp_X0_19 : mFp RX0 19 0 2 (.array .int) true := ⟨RX0, TX0, 8, tyX0, rfl, inX0, by decide, wa_m 79 (by decide +kernel) rfl, tyX0_ok, nmX0, rfl, by decide +kernel, fun h => by first | rfl | cases h⟩
theorem fd_X0_22 : mFd RX0 22 0 3 := ⟨RX0, TX0, 8, rfl, inX0, by decide, wa_m 80 (by decide +kernel) rfl⟩
theorem fp_X0_22 : mFp RX0 22 0 3 (.array .int) true := ⟨RX0, TX0, 8, tyX0, rfl, inX0, by decide, wa_m 80 (by decide +kernel) rfl, tyX0_ok, nmX0, rfl, by decide +kernel, fun h => by first | rfl | cases h⟩
theorem fd_X0_25 : mFd RX0 25 0 4 := ⟨RX0, TX0, 8, rfl, inX0, by decide, wa_m 81 (by decide +kernel) rfl⟩
theorem fp_X0_25 : mFp RX0 25 0 4 (.array .boolean) true := ⟨RX0, TX0, 8, tyX0, rfl, inX0, by decide, wa_m 81 (by decide +kernel) rfl, tyX0_ok, nmX0, rfl, by decide +kernel, fun h => by first | rfl | cases h⟩
theorem fd_X0_28 : mFd RX0 28 0 5 := ⟨RX0, TX0, 8, rfl, inX0, by decide, wa_m 83 (by decide +kernel) rfl⟩
theorem fp_X0_28 : mFp RX0 28 0 5 (.array .boolean) true := ⟨RX0, TX0, 8, tyX0, rfl, inX0, by decide, wa_m 83 (by decide +kernel) rfl, tyX0_ok, nmX0, rfl, by decide +kernel, fun h => by first | rfl | cases h⟩
theorem fd_X0_31 : mFd RX0 31 0 6 := ⟨RX0, TX0, 8, rfl, inX0, by decide, wa_m 85 (by decide +kernel) rfl⟩
theorem fp_X0_31 : mFp RX0 31 0 6 (.array .boolean) true := ⟨RX0, TX0, 8, tyX0, rfl, inX0, by decide, wa_m 85 (by decide +kernel) rfl, tyX0_ok, nmX0, rfl, by decide +kernel, fun h => by first | rfl | cases h⟩
theorem fd_X0_34 : mFd RX0 34 0 7 := ⟨RX0, TX0, 8, rfl, inX0, by decide, wa_m 87 (by decide +kernel) rfl⟩
theorem fp_X0_34 : mFp RX0 34 0 7 (.array .int) true := ⟨RX0, TX0, 8, tyX0, rfl, inX0, by decide, wa_m 87 (by decide +kernel) rfl, tyX0_ok, nmX0, rfl, by decide +kernel, fun h => by first | rfl | cases h⟩
theorem fd_X1_7 : mFd RX1 7 1 0 := ⟨RX1, TX1, 4, rfl, inX1, by decide, wa_m 113 (by decide +kernel) rfl⟩
theorem fp_X1_7 : mFp RX1 7 1 0 .int false := ⟨RX1, TX1, 4, tyX1, rfl, inX1, by decide, wa_m 113 (by decide +kernel) rfl, tyX1_ok, nmX1, rfl, by decide +kernel, fun h => by first | rfl | cases h⟩
theorem fd_X1_13 : mFd RX1 13 1 1 := ⟨RX1, TX1, 4, rfl, inX1, by decide, wa_m 116 (by decide +kernel) rfl⟩
theorem fp_X1_13 : mFp RX1 13 1 1 .int false := ⟨RX1, TX1, 4, tyX1, rfl, inX1, by decide, wa_m 116 (by decide +kernel) rfl, tyX1_ok, nmX1, rfl, by decide +kernel, fun h => by first | rfl | cases h⟩
theorem fd_X1_16 : mFd RX1 16 1 2 := ⟨RX1, TX1, 4, rfl, inX1, by decide, wa_m 118 (by decide +kernel) rfl⟩
theorem fp_X1_16 : mFp RX1 16 1 2 .int false := ⟨RX1, TX1, 4, tyX1, rfl, inX1, by decide, wa_m 118 (by decide +kernel) rfl, tyX1_ok, nmX1, rfl, by decide +kernel, fun h => by first | rfl | cases h⟩
theorem fp_X1_19 : mFp RX1 19 1 3 .boolean false := ⟨RX1, TX1, 4, tyX1, rfl, inX1, by decide, wa_m 122 (by decide +kernel) rfl, tyX1_ok, nmX1, rfl, by decide +kernel, fun h => by first | rfl | cases h⟩
theorem fd_X2_9 : mFd RX2 9 2 2 := ⟨RX2, TX2, 5, rfl, inX2, by decide, wa_m 140 (by decide +kernel) rfl⟩
theorem fp_X2_9 : mFp RX2 9 2 2 (.array .int) true := ⟨RX2, TX2, 5, tyX2, rfl, inX2, by decide, wa_m 140 (by decide +kernel) rfl, tyX2_ok, nmX2, rfl, by decide +kernel, fun h => by first | rfl | cases h⟩
theorem fd_X2_15 : mFd RX2 15 2 3 := ⟨RX2, TX2, 5, rfl, inX2, by decide, wa_m 141 (by decide +kernel) rfl⟩
theorem fp_X2_15 : mFp RX2 15 2 3 (.array .int) true := ⟨RX2, TX2, 5, tyX2, rfl, inX2, by decide, wa_m 141 (by decide +kernel) rfl, tyX2_ok, nmX2, rfl, by decide +kernel, fun h => by first | rfl | cases h⟩
theorem fd_X2_18 : mFd RX2 18 2 0 := ⟨RX2, TX2, 5, rfl, inX2, by decide, wa_m 138 (by decide +kernel) rfl⟩
theorem fp_X2_18 : mFp RX2 18 2 0 (.object "Copperleaf$Pages") true := ⟨RX2, TX2, 5, tyX2, rfl, inX2, by decide, wa_m 138 (by decide +kernel) rfl, tyX2_ok, nmX2, rfl, by decide +kernel, fun h => by first | rfl | cases h⟩
theorem fd_X2_22 : mFd RX2 22 2 1 := ⟨RX2, TX2, 5, rfl, inX2, by decide, wa_m 139 (by decide +kernel) rfl⟩
theorem fp_X2_22 : mFp RX2 22 2 1 (.object "Copperleaf$State") true := ⟨RX2, TX2, 5, tyX2, rfl, inX2, by decide, wa_m 139 (by decide +kernel) rfl, tyX2_ok, nmX2, rfl, by decide +kernel, fun h => by first | rfl | cases h⟩
theorem fd_X2_48 : mFd RX2 48 1 2 := ⟨RX1, TX1, 4, rfl, inX1, by decide, wa_m 119 (by decide +kernel) rfl⟩
theorem fp_X2_48 : mFp RX2 48 1 2 .int false := ⟨RX1, TX1, 4, tyX1, rfl, inX1, by decide, wa_m 119 (by decide +kernel) rfl, tyX1_ok, nmX1, rfl, by decide +kernel, fun h => by first | rfl | cases h⟩
theorem fd_X2_61 : mFd RX2 61 2 4 := ⟨RX2, TX2, 5, rfl, inX2, by decide, wa_m 142 (by decide +kernel) rfl⟩
theorem fp_X2_61 : mFp RX2 61 2 4 .int false := ⟨RX2, TX2, 5, tyX2, rfl, inX2, by decide, wa_m 142 (by decide +kernel) rfl, tyX2_ok, nmX2, rfl, by decide +kernel, fun h => by first | rfl | cases h⟩
theorem fd_X2_73 : mFd RX2 73 1 1 := ⟨RX1, TX1, 4, rfl, inX1, by decide, wa_m 117 (by decide +kernel) rfl⟩
theorem fp_X2_73 : mFp RX2 73 1 1 .int false := ⟨RX1, TX1, 4, tyX1, rfl, inX1, by decide, wa_m 117 (by decide +kernel) rfl, tyX1_ok, nmX1, rfl, by decide +kernel, fun h => by first | rfl | cases h⟩
theorem fd_X4_7 : mFd RX4 7 4 0 := ⟨RX4, TX4, 18, rfl, inX4, by decide, wa_m 750 (by decide +kernel) rfl⟩
theorem fp_X4_7 : mFp RX4 7 4 0 (.array .int) true := ⟨RX4, TX4, 18, tyX4, rfl, inX4, by decide, wa_m 750 (by decide +kernel) rfl, tyX4_ok, nmX4, rfl, by decide +kernel, fun h => by first | rfl | cases h⟩
theorem fd_X4_13 : mFd RX4 13 4 1 := ⟨RX4, TX4, 18, rfl, inX4, by decide, wa_m 751 (by decide +kernel) rfl⟩
theorem fp_X4_13 : mFp RX4 13 4 1 (.array .boolean) true := ⟨RX4, TX4, 18, tyX4, rfl, inX4, by decide, wa_m 751 (by decide +kernel) rfl, tyX4_ok, nmX4, rfl, by decide +kernel, fun h => by first | rfl | cases h⟩
theorem fd_X4_17 : mFd RX4 17 4 2 := ⟨RX4, TX4, 18, rfl, inX4, by decide, wa_m 752 (by decide +kernel) rfl⟩
theorem fp_X4_17 : mFp RX4 17 4 2 (.array .int) true := ⟨RX4, TX4, 18, tyX4, rfl, inX4, by decide, wa_m 752 (by decide +kernel) rfl, tyX4_ok, nmX4, rfl, by decide +kernel, fun h => by first | rfl | cases h⟩
theorem fd_X4_20 : mFd RX4 20 4 3 := ⟨RX4, TX4, 18, rfl, inX4, by decide, wa_m 753 (by decide +kernel) rfl⟩
theorem fp_X4_20 : mFp RX4 20 4 3 (.array .int) true := ⟨RX4, TX4, 18, tyX4, rfl, inX4, by decide, wa_m 753 (by decide +kernel) rfl, tyX4_ok, nmX4, rfl, by decide +kernel, fun h => by first | rfl | cases h⟩
theorem fd_X4_23 : mFd RX4 23 4 4 := ⟨RX4, TX4, 18, rfl, inX4, by decide, wa_m 754 (by decide +kernel) rfl⟩
theorem fp_X4_23 : mFp RX4 23 4 4 (.array .boolean) true := ⟨RX4, TX4, 18, tyX4, rfl, inX4, by decide, wa_m 754 (by decide +kernel) rfl, tyX4_ok, nmX4, rfl, by decide +kernel, fun h => by first | rfl | cases h⟩
theorem fd_X4_26 : mFd RX4 26 4 5 := ⟨RX4, TX4, 18, rfl, inX4, by decide, wa_m 755 (by decide +kernel) rfl⟩
theorem fp_X4_26 : mFp RX4 26 4 5 (.array .boolean) true := ⟨RX4, TX4, 18, tyX4, rfl, inX4, by decide, wa_m 755 (by decide +kernel) rfl, tyX4_ok, nmX4, rfl, by decide +kernel, fun h => by first | rfl | cases h⟩
theorem fd_X4_29 : mFd RX4 29 4 6 := ⟨RX4, TX4, 18, rfl, inX4, by decide, wa_m 756 (by decide +kernel) rfl⟩
theorem fp_X4_29 : mFp RX4 29 4 6 (.array .int) true := ⟨RX4, TX4, 18, tyX4, rfl, inX4, by decide, wa_m 756 (by decide +kernel) rfl, tyX4_ok, nmX4, rfl, by decide +kernel, fun h => by first | rfl | cases h⟩
theorem fd_X4_32 : mFd RX4 32 4 9 := ⟨RX4, TX4, 18, rfl, inX4, by decide, wa_m 759 (by decide +kernel) rfl⟩
theorem fp_X4_32 : mFp RX4 32 4 9 .int false := ⟨RX4, TX4, 18, tyX4, rfl, inX4, by decide, wa_m 759 (by decide +kernel) rfl, tyX4_ok, nmX4, rfl, by decide +kernel, fun h => by first | rfl | cases h⟩
theorem fd_X4_36 : mFd RX4 36 4 11 := ⟨RX4, TX4, 18, rfl, inX4, by decide, wa_m 761 (by decide +kernel) rfl⟩
theorem fp_X4_36 : mFp RX4 36 4 11 (.array .long) true := ⟨RX4, TX4, 18, tyX4, rfl, inX4, by decide, wa_m 761 (by decide +kernel) rfl, tyX4_ok, nmX4, rfl, by decide +kernel, fun h => by first | rfl | cases h⟩
theorem fd_X4_40 : mFd RX4 40 4 12 := ⟨RX4, TX4, 18, rfl, inX4, by decide, wa_m 762 (by decide +kernel) rfl⟩
theorem fp_X4_40 : mFp RX4 40 4 12 (.array .int) true := ⟨RX4, TX4, 18, tyX4, rfl, inX4, by decide, wa_m 762 (by decide +kernel) rfl, tyX4_ok, nmX4, rfl, by decide +kernel, fun h => by first | rfl | cases h⟩
theorem fd_X4_43 : mFd RX4 43 4 13 := ⟨RX4, TX4, 18, rfl, inX4, by decide, wa_m 763 (by decide +kernel) rfl⟩
theorem fp_X4_43 : mFp RX4 43 4 13 (.array .int) true := ⟨RX4, TX4, 18, tyX4, rfl, inX4, by decide, wa_m 763 (by decide +kernel) rfl, tyX4_ok, nmX4, rfl, by decide +kernel, fun h => by first | rfl | cases h⟩
theorem fd_X4_46 : mFd RX4 46 4 15 := ⟨RX4, TX4, 18, rfl, inX4, by decide, wa_m 765 (by decide +kernel) rfl⟩
theorem fp_X4_46 : mFp RX4 46 4 15 (.array .int) true := ⟨RX4, TX4, 18, tyX4, rfl, inX4, by decide, wa_m 765 (by decide +kernel) rfl, tyX4_ok, nmX4, rfl, by decide +kernel, fun h => by first | rfl | cases h⟩
theorem fd_X4_49 : mFd RX4 49 4 16 := ⟨RX4, TX4, 18, rfl, inX4, by decide, wa_m 766 (by decide +kernel) rfl⟩
theorem fp_X4_49 : mFp RX4 49 4 16 (.array .int) true := ⟨RX4, TX4, 18, tyX4, rfl, inX4, by decide, wa_m 766 (by decide +kernel) rfl, tyX4_ok, nmX4, rfl, by decide +kernel, fun h => by first | rfl | cases h⟩
theorem fd_X4_55 : mFd RX4 55 4 14 := ⟨RX4, TX4, 18, rfl, inX4, by decide, wa_m 764 (by decide +kernel) rfl⟩
theorem fp_X4_55 : mFp RX4 55 4 14 .int false := ⟨RX4, TX4, 18, tyX4, rfl, inX4, by decide, wa_m 764 (by decide +kernel) rfl, tyX4_ok, nmX4, rfl, by decide +kernel, fun h => by first | rfl | cases h⟩
theorem fd_X4_61 : mFd RX4 61 4 8 := ⟨RX4, TX4, 18, rfl, inX4, by decide, wa_m 758 (by decide +kernel) rfl⟩
theorem fp_X4_61 : mFp RX4 61 4 8 .int false := ⟨RX4, TX4, 18, tyX4, rfl, inX4, by decide, wa_m 758 (by decide +kernel) rfl, tyX4_ok, nmX4, rfl, by decide +kernel, fun h => by first | rfl | cases h⟩
theorem fd_X4_91 : mFd RX4 91 4 17 := ⟨RX4, TX4, 18, rfl, inX4, by decide, wa_m 767 (by decide +kernel) rfl⟩
theorem fp_X4_91 : mFp RX4 91 4 17 .int false := ⟨RX4, TX4, 18, tyX4, rfl, inX4, by decide, wa_m 767 (by decide +kernel) rfl, tyX4_ok, nmX4, rfl, by decide +kernel, fun h => by first | rfl | cases h⟩
theorem fd_X4_122 : mFd RX4 122 4 7 := ⟨RX4, TX4, 18, rfl, inX4, by decide, wa_m 757 (by decide +kernel) rfl⟩
theorem fp_X4_122 : mFp RX4 122 4 7 .int false := ⟨RX4, TX4, 18, tyX4, rfl, inX4, by decide, wa_m 757 (by decide +kernel) rfl, tyX4_ok, nmX4, rfl, by decide +kernel, fun h => by first | rfl | cases h⟩
theorem fd_X4_150 : mFd RX4 150 4 10 := ⟨RX4, TX4, 18, rfl, inX4, by decide, wa_m 760 (by decide +kernel) rfl⟩
theorem fp_X4_150 : mFp RX4 150 4 10 .int false := ⟨RX4, TX4, 18, tyX4, rfl, inX4, by decide, wa_m 760 (by decide +kernel) rfl, tyX4_ok, nmX4, rfl, by decide +kernel, fun h => by first | rfl | cases h⟩
def m_X0_init : mM := (yX0_init, cX0_init, 1, none, { frames := 1, cells := 8, slots := 12800, locals := 12 }, [], true, some 2, none)
theorem ok_X0_init : mOk m_X0_init := wa_m 75 (by decide +kernel) rfl
def m_X0_isCell : mM := (yX0_isCell, cX0_isCell, 2, (some .boolean), { frames := 0, cells := 0, slots := 0, locals := 0 }, [], false, none, none)
theorem ok_X0_isCell : mOk m_X0_isCell := wa_m 398 (by decide +kernel) rfl
def m_X0_isVacant : mM := (yX0_isVacant, cX0_isVacant, 2, (some .boolean), { frames := 0, cells := 0, slots := 0, locals := 0 }, [], false, none, none)
theorem ok_X0_isVacant : mOk m_X0_isVacant := wa_m 217 (by decide +kernel) rfl
def m_X0_leastVacant : mM := (yX0_leastVacant, cX0_leastVacant, 2, (some .int), { frames := 0, cells := 0, slots := 0, locals := 0 }, [], false, none, none)
theorem ok_X0_leastVacant : mOk m_X0_leastVacant := wa_m 225 (by decide +kernel) rfl
def m_X0_countOf : mM := (yX0_countOf, cX0_countOf, 2, (some .int), { frames := 0, cells := 0, slots := 0, locals := 0 }, [], false, none, none)
theorem ok_X0_countOf : mOk m_X0_countOf := wa_m 170 (by decide +kernel) rfl
def m_X0_isLeaf : mM := (yX0_isLeaf, cX0_isLeaf, 2, (some .boolean), { frames := 0, cells := 0, slots := 0, locals := 0 }, [], false, none, none)
theorem ok_X0_isLeaf : mOk m_X0_isLeaf := wa_m 166 (by decide +kernel) rfl
def m_X0_wordOf : mM := (yX0_wordOf, cX0_wordOf, 4, (some .int), { frames := 0, cells := 0, slots := 0, locals := 0 }, [], false, none, none)
theorem ok_X0_wordOf : mOk m_X0_wordOf := wa_m 174 (by decide +kernel) rfl
def m_X0_setWord : mM := (yX0_setWord, cX0_setWord, 4, none, { frames := 1, cells := 0, slots := 0, locals := 21 }, [], false, none, none)
theorem ok_X0_setWord : mOk m_X0_setWord := wa_m 416 (by decide +kernel) rfl
def m_X0_keyOf : mM := (yX0_keyOf, cX0_keyOf, 6, (some .int), { frames := 1, cells := 0, slots := 0, locals := 23 }, [], false, none, none)
theorem ok_X0_keyOf : mOk m_X0_keyOf := wa_m 407 (by decide +kernel) rfl
def m_X0_placeOf : mM := (yX0_placeOf, cX0_placeOf, 4, (some .int), { frames := 2, cells := 0, slots := 0, locals := 48 }, [], false, none, none)
theorem ok_X0_placeOf : mOk m_X0_placeOf := wa_m 420 (by decide +kernel) rfl
def m_X0_holds : mM := (yX0_holds, cX0_holds, 4, (some .boolean), { frames := 2, cells := 0, slots := 0, locals := 48 }, [], false, none, none)
theorem ok_X0_holds : mOk m_X0_holds := wa_m 424 (by decide +kernel) rfl
def m_X0_entryFor : mM := (yX0_entryFor, cX0_entryFor, 4, (some .int), { frames := 2, cells := 0, slots := 0, locals := 48 }, [], false, none, none)
theorem ok_X0_entryFor : mOk m_X0_entryFor := wa_m 403 (by decide +kernel) rfl
def m_X0_leafFor : mM := (yX0_leafFor, cX0_leafFor, 5, (some .int), { frames := 3, cells := 0, slots := 0, locals := 71 }, [], false, none, none)
theorem ok_X0_leafFor : mOk m_X0_leafFor := wa_m 467 (by decide +kernel) rfl
def m_X0_levelsFrom : mM := (yX0_levelsFrom, cX0_levelsFrom, 4, (some .int), { frames := 1, cells := 0, slots := 0, locals := 23 }, [], false, none, none)
theorem ok_X0_levelsFrom : mOk m_X0_levelsFrom := wa_m 641 (by decide +kernel) rfl
def m_X0_listTree : mM := (yX0_listTree, cX0_listTree, 7, (some .int), { frames := 1, cells := 0, slots := 0, locals := 23 }, [], false, none, none)
theorem ok_X0_listTree : mOk m_X0_listTree := wa_m 162 (by decide +kernel) rfl
def m_X0_unmark : mM := (yX0_unmark, cX0_unmark, 2, none, { frames := 0, cells := 0, slots := 0, locals := 0 }, [], false, none, none)
theorem ok_X0_unmark : mOk m_X0_unmark := wa_m 257 (by decide +kernel) rfl
def m_X0_markTree : mM := (yX0_markTree, cX0_markTree, 6, none, { frames := 2, cells := 0, slots := 0, locals := 49 }, [], false, none, none)
theorem ok_X0_markTree : mOk m_X0_markTree := wa_m 158 (by decide +kernel) rfl
def m_X0_countMarked : mM := (yX0_countMarked, cX0_countMarked, 6, (some .int), { frames := 2, cells := 0, slots := 0, locals := 49 }, [], false, none, none)
theorem ok_X0_countMarked : mOk m_X0_countMarked := wa_m 659 (by decide +kernel) rfl
def m_X0_leastKeyFrom : mM := (yX0_leastKeyFrom, cX0_leastKeyFrom, 7, (some .int), { frames := 3, cells := 0, slots := 0, locals := 71 }, [], false, none, none)
theorem ok_X0_leastKeyFrom : mOk m_X0_leastKeyFrom := wa_m 611 (by decide +kernel) rfl
def m_X0_keysBelow : mM := (yX0_keysBelow, cX0_keysBelow, 6, (some .int), { frames := 3, cells := 0, slots := 0, locals := 71 }, [], false, none, none)
theorem ok_X0_keysBelow : mOk m_X0_keysBelow := wa_m 623 (by decide +kernel) rfl
def m_X0_take : mM := (yX0_take, cX0_take, 3, (some .int), { frames := 1, cells := 0, slots := 0, locals := 21 }, [], false, none, none)
theorem ok_X0_take : mOk m_X0_take := wa_m 390 (by decide +kernel) rfl
def m_X0_leave : mM := (yX0_leave, cX0_leave, 2, none, { frames := 0, cells := 0, slots := 0, locals := 0 }, [], false, none, none)
theorem ok_X0_leave : mOk m_X0_leave := wa_m 509 (by decide +kernel) rfl
def m_X0_writeAnew : mM := (yX0_writeAnew, cX0_writeAnew, 3, (some .int), { frames := 2, cells := 0, slots := 0, locals := 46 }, [], false, none, none)
theorem ok_X0_writeAnew : mOk m_X0_writeAnew := wa_m 386 (by decide +kernel) rfl
def m_X0_insert : mM := (yX0_insert, cX0_insert, 8, none, { frames := 1, cells := 0, slots := 0, locals := 21 }, [], false, none, none)
theorem ok_X0_insert : mOk m_X0_insert := wa_m 428 (by decide +kernel) rfl
def m_X0_remove : mM := (yX0_remove, cX0_remove, 6, none, { frames := 1, cells := 0, slots := 0, locals := 21 }, [], false, none, none)
theorem ok_X0_remove : mOk m_X0_remove := wa_m 447 (by decide +kernel) rfl
def m_X0_append : mM := (yX0_append, cX0_append, 6, none, { frames := 1, cells := 0, slots := 0, locals := 21 }, [], false, none, none)
theorem ok_X0_append : mOk m_X0_append := wa_m 395 (by decide +kernel) rfl
def m_X0_move : mM := (yX0_move, cX0_move, 5, none, { frames := 2, cells := 0, slots := 0, locals := 48 }, [], false, none, none)
theorem ok_X0_move : mOk m_X0_move := wa_m 442 (by decide +kernel) rfl
def m_X1_init : mM := (yX1_init, cX1_init, 1, none, { frames := 1, cells := 0, slots := 0, locals := 12 }, [], true, none, none)
theorem ok_X1_init : mOk m_X1_init := wa_m 111 (by decide +kernel) rfl
def m_X1_become : mM := (yX1_become, cX1_become, 2, none, { frames := 0, cells := 0, slots := 0, locals := 0 }, [], false, none, none)
theorem ok_X1_become : mOk m_X1_become := wa_m 342 (by decide +kernel) rfl
def m_X2_init : mM := (yX2_init, cX2_init, 3, none, { frames := 1, cells := 2, slots := 16, locals := 12 }, [], true, some 13, none)
theorem ok_X2_init : mOk m_X2_init := wa_m 136 (by decide +kernel) rfl
def m_X2_store : mM := (yX2_store, cX2_store, 5, (some .boolean), { frames := 5, cells := 0, slots := 0, locals := 118 }, [], false, none, none)
theorem ok_X2_store : mOk m_X2_store := wa_m 378 (by decide +kernel) rfl
def m_X2_drop : mM := (yX2_drop, cX2_drop, 4, none, { frames := 5, cells := 0, slots := 0, locals := 121 }, [], false, none, none)
theorem ok_X2_drop : mOk m_X2_drop := wa_m 491 (by decide +kernel) rfl
def m_X2_writePath : mM := (yX2_writePath, cX2_writePath, 5, (some .int), { frames := 4, cells := 0, slots := 0, locals := 90 }, [], false, none, none)
theorem ok_X2_writePath : mOk m_X2_writePath := wa_m 382 (by decide +kernel) rfl
def m_X2_splitUpwards : mM := (yX2_splitUpwards, cX2_splitUpwards, 4, none, { frames := 4, cells := 0, slots := 0, locals := 95 }, [], false, none, none)
theorem ok_X2_splitUpwards : mOk m_X2_splitUpwards := wa_m 432 (by decide +kernel) rfl
def m_X2_splitOff : mM := (yX2_splitOff, cX2_splitOff, 4, (some .int), { frames := 3, cells := 0, slots := 0, locals := 72 }, [], false, none, none)
theorem ok_X2_splitOff : mOk m_X2_splitOff := wa_m 437 (by decide +kernel) rfl
def m_X2_growRoot : mM := (yX2_growRoot, cX2_growRoot, 4, none, { frames := 2, cells := 0, slots := 0, locals := 48 }, [], false, none, none)
theorem ok_X2_growRoot : mOk m_X2_growRoot := wa_m 451 (by decide +kernel) rfl
def m_X2_mend : mM := (yX2_mend, cX2_mend, 5, none, { frames := 4, cells := 0, slots := 0, locals := 97 }, [], false, none, none)
theorem ok_X2_mend : mOk m_X2_mend := wa_m 496 (by decide +kernel) rfl
def m_X2_writeBelow : mM := (yX2_writeBelow, cX2_writeBelow, 3, none, { frames := 3, cells := 0, slots := 0, locals := 68 }, [], false, none, none)
theorem ok_X2_writeBelow : mOk m_X2_writeBelow := wa_m 411 (by decide +kernel) rfl
def m_X2_lend : mM := (yX2_lend, cX2_lend, 6, none, { frames := 3, cells := 0, slots := 0, locals := 72 }, [], false, none, none)
theorem ok_X2_lend : mOk m_X2_lend := wa_m 500 (by decide +kernel) rfl
def m_X2_join : mM := (yX2_join, cX2_join, 4, none, { frames := 2, cells := 0, slots := 0, locals := 46 }, [], false, none, none)
theorem ok_X2_join : mOk m_X2_join := wa_m 504 (by decide +kernel) rfl
def m_X2_shrinkRoot : mM := (yX2_shrinkRoot, cX2_shrinkRoot, 2, none, { frames := 1, cells := 0, slots := 0, locals := 23 }, [], false, none, none)
theorem ok_X2_shrinkRoot : mOk m_X2_shrinkRoot := wa_m 513 (by decide +kernel) rfl
def m_X3_init : mM := (yX3_init, cX3_init, 2, none, { frames := 3, cells := 20, slots := 12865, locals := 74 }, [], true, some 1, none)
theorem ok_X3_init : mOk m_X3_init := wa_m 67 (by decide +kernel) rfl
def m_X3_beginBatch : mM := (yX3_beginBatch, cX3_beginBatch, 1, (some .int), { frames := 6, cells := 1, slots := 6, locals := 82 }, [], false, none, none)
theorem ok_X3_beginBatch : mOk m_X3_beginBatch := wa_m 269 (by decide +kernel) rfl
def m_X3_hasBatch : mM := (yX3_hasBatch, cX3_hasBatch, 1, (some .boolean), { frames := 0, cells := 0, slots := 0, locals := 0 }, [], false, none, none)
theorem ok_X3_hasBatch : mOk m_X3_hasBatch := wa_m 201 (by decide +kernel) rfl
def m_X3_put : mM := (yX3_put, cX3_put, 3, (some .boolean), { frames := 7, cells := 2, slots := 12, locals := 142 }, [], false, none, none)
theorem ok_X3_put : mOk m_X3_put := wa_m 350 (by decide +kernel) rfl
def m_X3_delete : mM := (yX3_delete, cX3_delete, 3, (some .int), { frames := 7, cells := 3, slots := 18, locals := 144 }, [], false, none, none)
theorem ok_X3_delete : mOk m_X3_delete := wa_m 459 (by decide +kernel) rfl
def m_X3_commit : mM := (yX3_commit, cX3_commit, 2, (some .int), { frames := 7, cells := 1, slots := 6, locals := 117 }, [], false, none, none)
theorem ok_X3_commit : mOk m_X3_commit := wa_m 520 (by decide +kernel) rfl
def m_X3_abandon : mM := (yX3_abandon, cX3_abandon, 2, (some .int), { frames := 7, cells := 1, slots := 6, locals := 117 }, [], false, none, none)
theorem ok_X3_abandon : mOk m_X3_abandon := wa_m 538 (by decide +kernel) rfl
def m_X3_openReader : mM := (yX3_openReader, cX3_openReader, 2, (some .int), { frames := 6, cells := 1, slots := 6, locals := 82 }, [], false, none, none)
theorem ok_X3_openReader : mOk m_X3_openReader := wa_m 546 (by decide +kernel) rfl
def m_X3_closeReader : mM := (yX3_closeReader, cX3_closeReader, 3, (some .int), { frames := 7, cells := 1, slots := 6, locals := 103 }, [], false, none, none)
theorem ok_X3_closeReader : mOk m_X3_closeReader := wa_m 555 (by decide +kernel) rfl
def m_X3_readers : mM := (yX3_readers, cX3_readers, 3, (some .int), { frames := 1, cells := 0, slots := 0, locals := 21 }, [], false, none, none)
theorem ok_X3_readers : mOk m_X3_readers := wa_m 205 (by decide +kernel) rfl
def m_X3_heldBy : mM := (yX3_heldBy, cX3_heldBy, 4, (some .int), { frames := 7, cells := 1, slots := 6, locals := 103 }, [], false, none, none)
theorem ok_X3_heldBy : mOk m_X3_heldBy := wa_m 582 (by decide +kernel) rfl
def m_X3_epochOf : mM := (yX3_epochOf, cX3_epochOf, 2, (some .int), { frames := 8, cells := 1, slots := 6, locals := 124 }, [], false, none, none)
theorem ok_X3_epochOf : mOk m_X3_epochOf := wa_m 589 (by decide +kernel) rfl
def m_X3_get : mM := (yX3_get, cX3_get, 4, (some .int), { frames := 8, cells := 3, slots := 18, locals := 124 }, [], false, none, none)
theorem ok_X3_get : mOk m_X3_get := wa_m 600 (by decide +kernel) rfl
def m_X3_next : mM := (yX3_next, cX3_next, 3, (some .int), { frames := 8, cells := 1, slots := 6, locals := 124 }, [], false, none, none)
theorem ok_X3_next : mOk m_X3_next := wa_m 607 (by decide +kernel) rfl
def m_X3_rank : mM := (yX3_rank, cX3_rank, 3, (some .int), { frames := 8, cells := 1, slots := 6, locals := 124 }, [], false, none, none)
theorem ok_X3_rank : mOk m_X3_rank := wa_m 619 (by decide +kernel) rfl
def m_X3_size : mM := (yX3_size, cX3_size, 2, (some .int), { frames := 8, cells := 1, slots := 6, locals := 124 }, [], false, none, none)
theorem ok_X3_size : mOk m_X3_size := wa_m 630 (by decide +kernel) rfl
def m_X3_depth : mM := (yX3_depth, cX3_depth, 2, (some .int), { frames := 8, cells := 1, slots := 6, locals := 124 }, [], false, none, none)
theorem ok_X3_depth : mOk m_X3_depth := wa_m 637 (by decide +kernel) rfl
def m_X3_rootOf : mM := (yX3_rootOf, cX3_rootOf, 2, (some .int), { frames := 8, cells := 1, slots := 6, locals := 124 }, [], false, none, none)
theorem ok_X3_rootOf : mOk m_X3_rootOf := wa_m 648 (by decide +kernel) rfl
def m_X3_sharedPages : mM := (yX3_sharedPages, cX3_sharedPages, 5, (some .int), { frames := 8, cells := 2, slots := 12, locals := 124 }, [], false, none, none)
theorem ok_X3_sharedPages : mOk m_X3_sharedPages := wa_m 655 (by decide +kernel) rfl
def m_X3_isFree : mM := (yX3_isFree, cX3_isFree, 2, (some .boolean), { frames := 6, cells := 1, slots := 6, locals := 82 }, [], false, none, none)
theorem ok_X3_isFree : mOk m_X3_isFree := wa_m 666 (by decide +kernel) rfl
def m_X3_pagesInUse : mM := (yX3_pagesInUse, cX3_pagesInUse, 3, (some .int), { frames := 1, cells := 0, slots := 0, locals := 21 }, [], false, none, none)
theorem ok_X3_pagesInUse : mOk m_X3_pagesInUse := wa_m 213 (by decide +kernel) rfl
def m_X3_leastFree : mM := (yX3_leastFree, cX3_leastFree, 1, (some .int), { frames := 1, cells := 0, slots := 0, locals := 21 }, [], false, none, none)
theorem ok_X3_leastFree : mOk m_X3_leastFree := wa_m 221 (by decide +kernel) rfl
def m_X3_entries : mM := (yX3_entries, cX3_entries, 2, (some .int), { frames := 7, cells := 1, slots := 6, locals := 103 }, [], false, none, none)
theorem ok_X3_entries : mOk m_X3_entries := wa_m 674 (by decide +kernel) rfl
def m_X3_keyAt : mM := (yX3_keyAt, cX3_keyAt, 3, (some .int), { frames := 8, cells := 2, slots := 12, locals := 125 }, [], false, none, none)
theorem ok_X3_keyAt : mOk m_X3_keyAt := wa_m 687 (by decide +kernel) rfl
def m_X3_pageAt : mM := (yX3_pageAt, cX3_pageAt, 3, (some .int), { frames := 8, cells := 2, slots := 12, locals := 125 }, [], false, none, none)
theorem ok_X3_pageAt : mOk m_X3_pageAt := wa_m 700 (by decide +kernel) rfl
def m_X3_currentSlot : mM := (yX3_currentSlot, cX3_currentSlot, 1, (some .int), { frames := 0, cells := 0, slots := 0, locals := 0 }, [], false, none, none)
theorem ok_X3_currentSlot : mOk m_X3_currentSlot := wa_m 229 (by decide +kernel) rfl
def m_X3_slotWord : mM := (yX3_slotWord, cX3_slotWord, 3, (some .long), { frames := 7, cells := 2, slots := 12, locals := 102 }, [], false, none, none)
theorem ok_X3_slotWord : mOk m_X3_slotWord := wa_m 708 (by decide +kernel) rfl
def m_X3_isWhole : mM := (yX3_isWhole, cX3_isWhole, 2, (some .boolean), { frames := 7, cells := 1, slots := 6, locals := 102 }, [], false, none, none)
theorem ok_X3_isWhole : mOk m_X3_isWhole := wa_m 720 (by decide +kernel) rfl
def m_X3_tear : mM := (yX3_tear, cX3_tear, 3, (some .int), { frames := 7, cells := 2, slots := 12, locals := 102 }, [], false, none, none)
theorem ok_X3_tear : mOk m_X3_tear := wa_m 727 (by decide +kernel) rfl
def m_X3_crash : mM := (yX3_crash, cX3_crash, 2, (some .int), { frames := 5, cells := 0, slots := 0, locals := 117 }, [], false, none, none)
theorem ok_X3_crash : mOk m_X3_crash := wa_m 233 (by decide +kernel) rfl
def m_X3_crashInCommit : mM := (yX3_crashInCommit, cX3_crashInCommit, 2, (some .int), { frames := 7, cells := 3, slots := 18, locals := 138 }, [], false, none, none)
theorem ok_X3_crashInCommit : mOk m_X3_crashInCommit := wa_m 736 (by decide +kernel) rfl
def m_X3_requireKey : mM := (yX3_requireKey, cX3_requireKey, 1, none, { frames := 6, cells := 1, slots := 6, locals := 82 }, [], false, none, none)
theorem ok_X3_requireKey : mOk m_X3_requireKey := wa_m 353 (by decide +kernel) rfl
def m_X3_requireBatch : mM := (yX3_requireBatch, cX3_requireBatch, 1, none, { frames := 6, cells := 1, slots := 6, locals := 82 }, [], false, none, none)
theorem ok_X3_requireBatch : mOk m_X3_requireBatch := wa_m 373 (by decide +kernel) rfl
def m_X3_requireReader : mM := (yX3_requireReader, cX3_requireReader, 2, none, { frames := 6, cells := 1, slots := 6, locals := 82 }, [], false, none, none)
theorem ok_X3_requireReader : mOk m_X3_requireReader := wa_m 559 (by decide +kernel) rfl
def m_X3_requirePage : mM := (yX3_requirePage, cX3_requirePage, 2, none, { frames := 6, cells := 1, slots := 6, locals := 82 }, [], false, none, none)
theorem ok_X3_requirePage : mOk m_X3_requirePage := wa_m 678 (by decide +kernel) rfl
def m_X3_requireEntry : mM := (yX3_requireEntry, cX3_requireEntry, 3, none, { frames := 7, cells := 2, slots := 12, locals := 103 }, [], false, none, none)
theorem ok_X3_requireEntry : mOk m_X3_requireEntry := wa_m 691 (by decide +kernel) rfl
def m_X3_requireSlot : mM := (yX3_requireSlot, cX3_requireSlot, 1, none, { frames := 6, cells := 1, slots := 6, locals := 82 }, [], false, none, none)
theorem ok_X3_requireSlot : mOk m_X3_requireSlot := wa_m 711 (by decide +kernel) rfl
def m_X3_viewed : mM := (yX3_viewed, cX3_viewed, 2, (some (.object "Copperleaf$State")), { frames := 7, cells := 1, slots := 6, locals := 103 }, [], false, none, none)
theorem ok_X3_viewed : mOk m_X3_viewed := wa_m 593 (by decide +kernel) rfl
def m_X3_valueIn : mM := (yX3_valueIn, cX3_valueIn, 5, (some .int), { frames := 6, cells := 1, slots := 6, locals := 95 }, [], false, none, none)
theorem ok_X3_valueIn : mOk m_X3_valueIn := wa_m 463 (by decide +kernel) rfl
def m_X3_isOpen : mM := (yX3_isOpen, cX3_isOpen, 2, (some .boolean), { frames := 0, cells := 0, slots := 0, locals := 0 }, [], false, none, none)
theorem ok_X3_isOpen : mOk m_X3_isOpen := wa_m 209 (by decide +kernel) rfl
def m_X3_endBatch : mM := (yX3_endBatch, cX3_endBatch, 1, none, { frames := 4, cells := 0, slots := 0, locals := 97 }, [], false, none, none)
theorem ok_X3_endBatch : mOk m_X3_endBatch := wa_m 254 (by decide +kernel) rfl
def m_X3_keepStates : mM := (yX3_keepStates, cX3_keepStates, 4, none, { frames := 3, cells := 0, slots := 0, locals := 74 }, [], false, none, none)
theorem ok_X3_keepStates : mOk m_X3_keepStates := wa_m 261 (by decide +kernel) rfl
def m_X3_otherSlot : mM := (yX3_otherSlot, cX3_otherSlot, 1, (some .int), { frames := 0, cells := 0, slots := 0, locals := 0 }, [], false, none, none)
theorem ok_X3_otherSlot : mOk m_X3_otherSlot := wa_m 523 (by decide +kernel) rfl
def m_X3_wordIn : mM := (yX3_wordIn, cX3_wordIn, 4, (some .long), { frames := 0, cells := 0, slots := 0, locals := 0 }, [], false, none, none)
theorem ok_X3_wordIn : mOk m_X3_wordIn := wa_m 245 (by decide +kernel) rfl
def m_X3_sumsUp : mM := (yX3_sumsUp, cX3_sumsUp, 4, (some .boolean), { frames := 1, cells := 0, slots := 0, locals := 25 }, [], false, none, none)
theorem ok_X3_sumsUp : mOk m_X3_sumsUp := wa_m 241 (by decide +kernel) rfl
def m_X3_sumOf : mM := (yX3_sumOf, cX3_sumOf, 6, (some .long), { frames := 0, cells := 0, slots := 0, locals := 0 }, [], false, none, none)
theorem ok_X3_sumOf : mOk m_X3_sumOf := wa_m 248 (by decide +kernel) rfl
def m_X3_writeSlot : mM := (yX3_writeSlot, cX3_writeSlot, 5, none, { frames := 2, cells := 0, slots := 0, locals := 46 }, [], false, none, none)
theorem ok_X3_writeSlot : mOk m_X3_writeSlot := wa_m 527 (by decide +kernel) rfl
def m_X3_wordOfBatch : mM := (yX3_wordOfBatch, cX3_wordOfBatch, 2, (some .long), { frames := 1, cells := 0, slots := 0, locals := 25 }, [], false, none, none)
theorem ok_X3_wordOfBatch : mOk m_X3_wordOfBatch := wa_m 531 (by decide +kernel) rfl
def m_X3_latestWholeSlot : mM := (yX3_latestWholeSlot, cX3_latestWholeSlot, 1, (some .int), { frames := 2, cells := 0, slots := 0, locals := 48 }, [], false, none, none)
theorem ok_X3_latestWholeSlot : mOk m_X3_latestWholeSlot := wa_m 237 (by decide +kernel) rfl
def m_X4_init : mM := (yX4_init, cX4_init, 1, none, { frames := 1, cells := 12, slots := 10840, locals := 21 }, [], true, some 22, none)
theorem ok_X4_init : mOk m_X4_init := wa_m 744 (by decide +kernel) rfl
def m_X4_thrown : mM := (yX4_thrown, cX4_thrown, 1, (some .int), { frames := 0, cells := 0, slots := 0, locals := 0 }, [], false, none, none)
theorem ok_X4_thrown : mOk m_X4_thrown := wa_m 808 (by decide +kernel) rfl
def m_X4_in : mM := (yX4_in, cX4_in, 3, (some .boolean), { frames := 0, cells := 0, slots := 0, locals := 0 }, [], false, none, none)
theorem ok_X4_in : mOk m_X4_in := wa_m 827 (by decide +kernel) rfl
def m_X4_goes : mM := (yX4_goes, cX4_goes, 4, (some .boolean), { frames := 0, cells := 0, slots := 0, locals := 0 }, [], false, none, none)
theorem ok_X4_goes : mOk m_X4_goes := wa_m 816 (by decide +kernel) rfl
def m_X4_closesAll : mM := (yX4_closesAll, cX4_closesAll, 2, none, { frames := 0, cells := 0, slots := 0, locals := 0 }, [], false, none, none)
theorem ok_X4_closesAll : mOk m_X4_closesAll := wa_m 749 (by decide +kernel) rfl
def m_X4_meets : mM := (yX4_meets, cX4_meets, 6, none, { frames := 0, cells := 0, slots := 0, locals := 0 }, [], false, none, none)
theorem ok_X4_meets : mOk m_X4_meets := wa_m 859 (by decide +kernel) rfl
def m_X4_forgets : mM := (yX4_forgets, cX4_forgets, 2, none, { frames := 0, cells := 0, slots := 0, locals := 0 }, [], false, none, none)
theorem ok_X4_forgets : mOk m_X4_forgets := wa_m 855 (by decide +kernel) rfl
def m_X4_meetsAll : mM := (yX4_meetsAll, cX4_meetsAll, 4, (some .int), { frames := 1, cells := 0, slots := 0, locals := 25 }, [], false, none, none)
theorem ok_X4_meetsAll : mOk m_X4_meetsAll := wa_m 851 (by decide +kernel) rfl
def m_X4_leastNotMet : mM := (yX4_leastNotMet, cX4_leastNotMet, 2, (some .int), { frames := 0, cells := 0, slots := 0, locals := 0 }, [], false, none, none)
theorem ok_X4_leastNotMet : mOk m_X4_leastNotMet := wa_m 869 (by decide +kernel) rfl
def m_X4_inUse : mM := (yX4_inUse, cX4_inUse, 2, (some .boolean), { frames := 2, cells := 0, slots := 0, locals := 48 }, [], false, none, none)
theorem ok_X4_inUse : mOk m_X4_inUse := wa_m 1017 (by decide +kernel) rfl
def m_X4_takes : mM := (yX4_takes, cX4_takes, 3, (some .int), { frames := 2, cells := 0, slots := 0, locals := 48 }, [], false, none, none)
theorem ok_X4_takes : mOk m_X4_takes := wa_m 847 (by decide +kernel) rfl
def m_X4_copies : mM := (yX4_copies, cX4_copies, 4, none, { frames := 0, cells := 0, slots := 0, locals := 0 }, [], false, none, none)
theorem ok_X4_copies : mOk m_X4_copies := wa_m 873 (by decide +kernel) rfl
def m_X4_lays : mM := (yX4_lays, cX4_lays, 6, none, { frames := 0, cells := 0, slots := 0, locals := 0 }, [], false, none, none)
theorem ok_X4_lays : mOk m_X4_lays := wa_m 889 (by decide +kernel) rfl
def m_X4_drops : mM := (yX4_drops, cX4_drops, 4, none, { frames := 0, cells := 0, slots := 0, locals := 0 }, [], false, none, none)
theorem ok_X4_drops : mOk m_X4_drops := wa_m 905 (by decide +kernel) rfl
def m_X4_moves : mM := (yX4_moves, cX4_moves, 5, none, { frames := 1, cells := 0, slots := 0, locals := 25 }, [], false, none, none)
theorem ok_X4_moves : mOk m_X4_moves := wa_m 897 (by decide +kernel) rfl
def m_X4_leastKey : mM := (yX4_leastKey, cX4_leastKey, 3, (some .int), { frames := 0, cells := 0, slots := 0, locals := 0 }, [], false, none, none)
theorem ok_X4_leastKey : mOk m_X4_leastKey := wa_m 839 (by decide +kernel) rfl
def m_X4_keyOf : mM := (yX4_keyOf, cX4_keyOf, 3, (some .int), { frames := 1, cells := 0, slots := 0, locals := 22 }, [], false, none, none)
theorem ok_X4_keyOf : mOk m_X4_keyOf := wa_m 835 (by decide +kernel) rfl
def m_X4_finds : mM := (yX4_finds, cX4_finds, 5, none, { frames := 2, cells := 0, slots := 0, locals := 44 }, [], false, none, none)
theorem ok_X4_finds : mOk m_X4_finds := wa_m 831 (by decide +kernel) rfl
def m_X4_place : mM := (yX4_place, cX4_place, 4, (some .int), { frames := 0, cells := 0, slots := 0, locals := 0 }, [], false, none, none)
theorem ok_X4_place : mOk m_X4_place := wa_m 881 (by decide +kernel) rfl
def m_X4_has : mM := (yX4_has, cX4_has, 4, (some .boolean), { frames := 0, cells := 0, slots := 0, locals := 0 }, [], false, none, none)
theorem ok_X4_has : mOk m_X4_has := wa_m 885 (by decide +kernel) rfl
def m_X4_own : mM := (yX4_own, cX4_own, 5, (some .int), { frames := 3, cells := 0, slots := 0, locals := 70 }, [], false, none, none)
theorem ok_X4_own : mOk m_X4_own := wa_m 877 (by decide +kernel) rfl
def m_X4_writesWay : mM := (yX4_writesWay, cX4_writesWay, 2, none, { frames := 4, cells := 0, slots := 0, locals := 94 }, [], false, none, none)
theorem ok_X4_writesWay : mOk m_X4_writesWay := wa_m 843 (by decide +kernel) rfl
def m_X4_splits : mM := (yX4_splits, cX4_splits, 5, none, { frames := 3, cells := 0, slots := 0, locals := 70 }, [], false, none, none)
theorem ok_X4_splits : mOk m_X4_splits := wa_m 893 (by decide +kernel) rfl
def m_X4_mends : mM := (yX4_mends, cX4_mends, 8, none, { frames := 4, cells := 0, slots := 0, locals := 94 }, [], false, none, none)
theorem ok_X4_mends : mOk m_X4_mends := wa_m 913 (by decide +kernel) rfl
def m_X4_joins : mM := (yX4_joins, cX4_joins, 2, none, { frames := 5, cells := 0, slots := 0, locals := 121 }, [], false, none, none)
theorem ok_X4_joins : mOk m_X4_joins := wa_m 909 (by decide +kernel) rfl
def m_X4_beginBatch : mM := (yX4_beginBatch, cX4_beginBatch, 2, (some .int), { frames := 1, cells := 0, slots := 0, locals := 23 }, [], false, none, none)
theorem ok_X4_beginBatch : mOk m_X4_beginBatch := wa_m 812 (by decide +kernel) rfl
def m_X4_hasBatch : mM := (yX4_hasBatch, cX4_hasBatch, 1, (some .boolean), { frames := 0, cells := 0, slots := 0, locals := 0 }, [], false, none, none)
theorem ok_X4_hasBatch : mOk m_X4_hasBatch := wa_m 820 (by decide +kernel) rfl
def m_X4_put : mM := (yX4_put, cX4_put, 5, (some .boolean), { frames := 5, cells := 0, slots := 0, locals := 115 }, [], false, none, none)
theorem ok_X4_put : mOk m_X4_put := wa_m 824 (by decide +kernel) rfl
def m_X4_delete : mM := (yX4_delete, cX4_delete, 5, (some .int), { frames := 6, cells := 0, slots := 0, locals := 142 }, [], false, none, none)
theorem ok_X4_delete : mOk m_X4_delete := wa_m 901 (by decide +kernel) rfl
def m_X4_word : mM := (yX4_word, cX4_word, 6, (some .long), { frames := 2, cells := 0, slots := 0, locals := 48 }, [], false, none, none)
theorem ok_X4_word : mOk m_X4_word := wa_m 925 (by decide +kernel) rfl
def m_X4_writes : mM := (yX4_writes, cX4_writes, 3, none, { frames := 3, cells := 0, slots := 0, locals := 73 }, [], false, none, none)
theorem ok_X4_writes : mOk m_X4_writes := wa_m 921 (by decide +kernel) rfl
def m_X4_reads : mM := (yX4_reads, cX4_reads, 2, (some .int), { frames := 0, cells := 0, slots := 0, locals := 0 }, [], false, none, none)
theorem ok_X4_reads : mOk m_X4_reads := wa_m 937 (by decide +kernel) rfl
def m_X4_commit : mM := (yX4_commit, cX4_commit, 1, (some .int), { frames := 4, cells := 0, slots := 0, locals := 95 }, [], false, none, none)
theorem ok_X4_commit : mOk m_X4_commit := wa_m 917 (by decide +kernel) rfl
def m_X4_abandon : mM := (yX4_abandon, cX4_abandon, 2, (some .int), { frames := 2, cells := 0, slots := 0, locals := 48 }, [], false, none, none)
theorem ok_X4_abandon : mOk m_X4_abandon := wa_m 941 (by decide +kernel) rfl
def m_X4_isReader : mM := (yX4_isReader, cX4_isReader, 2, (some .boolean), { frames := 1, cells := 0, slots := 0, locals := 22 }, [], false, none, none)
theorem ok_X4_isReader : mOk m_X4_isReader := wa_m 953 (by decide +kernel) rfl
def m_X4_openReader : mM := (yX4_openReader, cX4_openReader, 2, (some .int), { frames := 1, cells := 0, slots := 0, locals := 23 }, [], false, none, none)
theorem ok_X4_openReader : mOk m_X4_openReader := wa_m 945 (by decide +kernel) rfl
def m_X4_held : mM := (yX4_held, cX4_held, 3, (some .int), { frames := 2, cells := 0, slots := 0, locals := 48 }, [], false, none, none)
theorem ok_X4_held : mOk m_X4_held := wa_m 957 (by decide +kernel) rfl
def m_X4_closeReader : mM := (yX4_closeReader, cX4_closeReader, 3, (some .int), { frames := 3, cells := 0, slots := 0, locals := 70 }, [], false, none, none)
theorem ok_X4_closeReader : mOk m_X4_closeReader := wa_m 949 (by decide +kernel) rfl
def m_X4_readers : mM := (yX4_readers, cX4_readers, 3, (some .int), { frames := 0, cells := 0, slots := 0, locals := 0 }, [], false, none, none)
theorem ok_X4_readers : mOk m_X4_readers := wa_m 961 (by decide +kernel) rfl
def m_X4_heldBy : mM := (yX4_heldBy, cX4_heldBy, 2, (some .int), { frames := 3, cells := 0, slots := 0, locals := 70 }, [], false, none, none)
theorem ok_X4_heldBy : mOk m_X4_heldBy := wa_m 965 (by decide +kernel) rfl
def m_X4_isView : mM := (yX4_isView, cX4_isView, 2, (some .boolean), { frames := 2, cells := 0, slots := 0, locals := 43 }, [], false, none, none)
theorem ok_X4_isView : mOk m_X4_isView := wa_m 973 (by decide +kernel) rfl
def m_X4_top : mM := (yX4_top, cX4_top, 2, (some .int), { frames := 0, cells := 0, slots := 0, locals := 0 }, [], false, none, none)
theorem ok_X4_top : mOk m_X4_top := wa_m 981 (by decide +kernel) rfl
def m_X4_below : mM := (yX4_below, cX4_below, 8, (some .int), { frames := 0, cells := 0, slots := 0, locals := 0 }, [], false, none, none)
theorem ok_X4_below : mOk m_X4_below := wa_m 933 (by decide +kernel) rfl
def m_X4_keys : mM := (yX4_keys, cX4_keys, 2, (some .int), { frames := 1, cells := 0, slots := 0, locals := 27 }, [], false, none, none)
theorem ok_X4_keys : mOk m_X4_keys := wa_m 929 (by decide +kernel) rfl
def m_X4_epochOf : mM := (yX4_epochOf, cX4_epochOf, 2, (some .int), { frames := 3, cells := 0, slots := 0, locals := 64 }, [], false, none, none)
theorem ok_X4_epochOf : mOk m_X4_epochOf := wa_m 969 (by decide +kernel) rfl
def m_X4_get : mM := (yX4_get, cX4_get, 6, (some .int), { frames := 3, cells := 0, slots := 0, locals := 68 }, [], false, none, none)
theorem ok_X4_get : mOk m_X4_get := wa_m 977 (by decide +kernel) rfl
def m_X4_next : mM := (yX4_next, cX4_next, 4, (some .int), { frames := 3, cells := 0, slots := 0, locals := 68 }, [], false, none, none)
theorem ok_X4_next : mOk m_X4_next := wa_m 985 (by decide +kernel) rfl
def m_X4_rank : mM := (yX4_rank, cX4_rank, 3, (some .int), { frames := 3, cells := 0, slots := 0, locals := 64 }, [], false, none, none)
theorem ok_X4_rank : mOk m_X4_rank := wa_m 989 (by decide +kernel) rfl
def m_X4_size : mM := (yX4_size, cX4_size, 2, (some .int), { frames := 3, cells := 0, slots := 0, locals := 64 }, [], false, none, none)
theorem ok_X4_size : mOk m_X4_size := wa_m 993 (by decide +kernel) rfl
def m_X4_depth : mM := (yX4_depth, cX4_depth, 2, (some .int), { frames := 3, cells := 0, slots := 0, locals := 68 }, [], false, none, none)
theorem ok_X4_depth : mOk m_X4_depth := wa_m 997 (by decide +kernel) rfl
def m_X4_rootOf : mM := (yX4_rootOf, cX4_rootOf, 2, (some .int), { frames := 3, cells := 0, slots := 0, locals := 64 }, [], false, none, none)
theorem ok_X4_rootOf : mOk m_X4_rootOf := wa_m 1001 (by decide +kernel) rfl
def m_X4_shared : mM := (yX4_shared, cX4_shared, 6, (some .int), { frames := 0, cells := 0, slots := 0, locals := 0 }, [], false, none, none)
theorem ok_X4_shared : mOk m_X4_shared := wa_m 1009 (by decide +kernel) rfl
def m_X4_sharedPages : mM := (yX4_sharedPages, cX4_sharedPages, 3, (some .int), { frames := 3, cells := 0, slots := 0, locals := 64 }, [], false, none, none)
theorem ok_X4_sharedPages : mOk m_X4_sharedPages := wa_m 1005 (by decide +kernel) rfl
def m_X4_isFree : mM := (yX4_isFree, cX4_isFree, 2, (some .boolean), { frames := 3, cells := 0, slots := 0, locals := 69 }, [], false, none, none)
theorem ok_X4_isFree : mOk m_X4_isFree := wa_m 1013 (by decide +kernel) rfl
def m_X4_pagesInUse : mM := (yX4_pagesInUse, cX4_pagesInUse, 1, (some .int), { frames := 2, cells := 0, slots := 0, locals := 48 }, [], false, none, none)
theorem ok_X4_pagesInUse : mOk m_X4_pagesInUse := wa_m 1021 (by decide +kernel) rfl
def m_X4_leastFree : mM := (yX4_leastFree, cX4_leastFree, 1, (some .int), { frames := 2, cells := 0, slots := 0, locals := 48 }, [], false, none, none)
theorem ok_X4_leastFree : mOk m_X4_leastFree := wa_m 1025 (by decide +kernel) rfl
def m_X4_entries : mM := (yX4_entries, cX4_entries, 2, (some .int), { frames := 3, cells := 0, slots := 0, locals := 69 }, [], false, none, none)
theorem ok_X4_entries : mOk m_X4_entries := wa_m 1029 (by decide +kernel) rfl
def m_X4_isEntry : mM := (yX4_isEntry, cX4_isEntry, 3, (some .boolean), { frames := 3, cells := 0, slots := 0, locals := 69 }, [], false, none, none)
theorem ok_X4_isEntry : mOk m_X4_isEntry := wa_m 1037 (by decide +kernel) rfl
def m_X4_keyAt : mM := (yX4_keyAt, cX4_keyAt, 3, (some .int), { frames := 4, cells := 0, slots := 0, locals := 91 }, [], false, none, none)
theorem ok_X4_keyAt : mOk m_X4_keyAt := wa_m 1033 (by decide +kernel) rfl
def m_X4_pageAt : mM := (yX4_pageAt, cX4_pageAt, 3, (some .int), { frames := 4, cells := 0, slots := 0, locals := 91 }, [], false, none, none)
theorem ok_X4_pageAt : mOk m_X4_pageAt := wa_m 1041 (by decide +kernel) rfl
def m_X4_whole : mM := (yX4_whole, cX4_whole, 3, (some .boolean), { frames := 0, cells := 0, slots := 0, locals := 0 }, [], false, none, none)
theorem ok_X4_whole : mOk m_X4_whole := wa_m 863 (by decide +kernel) rfl
def m_X4_currentSlot : mM := (yX4_currentSlot, cX4_currentSlot, 1, (some .int), { frames := 0, cells := 0, slots := 0, locals := 0 }, [], false, none, none)
theorem ok_X4_currentSlot : mOk m_X4_currentSlot := wa_m 1045 (by decide +kernel) rfl
def m_X4_slotWord : mM := (yX4_slotWord, cX4_slotWord, 3, (some .long), { frames := 1, cells := 0, slots := 0, locals := 23 }, [], false, none, none)
theorem ok_X4_slotWord : mOk m_X4_slotWord := wa_m 1049 (by decide +kernel) rfl
def m_X4_isWhole : mM := (yX4_isWhole, cX4_isWhole, 2, (some .boolean), { frames := 1, cells := 0, slots := 0, locals := 23 }, [], false, none, none)
theorem ok_X4_isWhole : mOk m_X4_isWhole := wa_m 1053 (by decide +kernel) rfl
def m_X4_tear : mM := (yX4_tear, cX4_tear, 4, (some .int), { frames := 2, cells := 0, slots := 0, locals := 48 }, [], false, none, none)
theorem ok_X4_tear : mOk m_X4_tear := wa_m 1057 (by decide +kernel) rfl
def m_X4_restarts : mM := (yX4_restarts, cX4_restarts, 2, (some .int), { frames := 1, cells := 0, slots := 0, locals := 22 }, [], false, none, none)
theorem ok_X4_restarts : mOk m_X4_restarts := wa_m 1066 (by decide +kernel) rfl
def m_X4_crash : mM := (yX4_crash, cX4_crash, 1, (some .int), { frames := 2, cells := 0, slots := 0, locals := 43 }, [], false, none, none)
theorem ok_X4_crash : mOk m_X4_crash := wa_m 1062 (by decide +kernel) rfl
def m_X4_crashInCommit : mM := (yX4_crashInCommit, cX4_crashInCommit, 3, (some .int), { frames := 4, cells := 0, slots := 0, locals := 95 }, [], false, none, none)
theorem ok_X4_crashInCommit : mOk m_X4_crashInCommit := wa_m 1070 (by decide +kernel) rfl
def m_L_beginBatch : mM := (yL_beginBatch, cL_beginBatch, 3, (some .int), { frames := 7, cells := 1, slots := 6, locals := 102 }, [(0, 8, 11, 13)], false, none, none)
theorem ok_L_beginBatch : mOk m_L_beginBatch := wa_m 264 (by decide +kernel) rfl
def m_L_put : mM := (yL_put, cL_put, 5, (some .int), { frames := 8, cells := 2, slots := 12, locals := 164 }, [(0, 17, 20, 19), (0, 17, 24, 13)], false, none, none)
theorem ok_L_put : mOk m_L_put := wa_m 345 (by decide +kernel) rfl
def m_L_delete : mM := (yL_delete, cL_delete, 4, (some .int), { frames := 8, cells := 3, slots := 18, locals := 166 }, [(0, 9, 12, 19), (0, 9, 15, 13), (0, 9, 18, 25)], false, none, none)
theorem ok_L_delete : mOk m_L_delete := wa_m 454 (by decide +kernel) rfl
def m_L_commit : mM := (yL_commit, cL_commit, 3, (some .int), { frames := 8, cells := 1, slots := 6, locals := 138 }, [(0, 8, 11, 13)], false, none, none)
theorem ok_L_commit : mOk m_L_commit := wa_m 516 (by decide +kernel) rfl
def m_L_abandon : mM := (yL_abandon, cL_abandon, 3, (some .int), { frames := 8, cells := 1, slots := 6, locals := 138 }, [(0, 8, 11, 13)], false, none, none)
theorem ok_L_abandon : mOk m_L_abandon := wa_m 534 (by decide +kernel) rfl
def m_L_openReader : mM := (yL_openReader, cL_openReader, 3, (some .int), { frames := 7, cells := 1, slots := 6, locals := 103 }, [(0, 8, 11, 13)], false, none, none)
theorem ok_L_openReader : mOk m_L_openReader := wa_m 542 (by decide +kernel) rfl
def m_L_closeReader : mM := (yL_closeReader, cL_closeReader, 4, (some .int), { frames := 8, cells := 1, slots := 6, locals := 125 }, [(0, 9, 12, 39)], false, none, none)
theorem ok_L_closeReader : mOk m_L_closeReader := wa_m 550 (by decide +kernel) rfl
def m_L_heldBy : mM := (yL_heldBy, cL_heldBy, 4, (some .int), { frames := 8, cells := 1, slots := 6, locals := 126 }, [(0, 9, 12, 39)], false, none, none)
theorem ok_L_heldBy : mOk m_L_heldBy := wa_m 578 (by decide +kernel) rfl
def m_L_epochOf : mM := (yL_epochOf, cL_epochOf, 4, (some .int), { frames := 9, cells := 1, slots := 6, locals := 145 }, [(0, 9, 12, 39)], false, none, none)
theorem ok_L_epochOf : mOk m_L_epochOf := wa_m 585 (by decide +kernel) rfl
def m_L_get : mM := (yL_get, cL_get, 5, (some .int), { frames := 9, cells := 3, slots := 18, locals := 147 }, [(0, 10, 13, 39), (0, 10, 17, 19), (0, 10, 21, 25)], false, none, none)
theorem ok_L_get : mOk m_L_get := wa_m 596 (by decide +kernel) rfl
def m_L_next : mM := (yL_next, cL_next, 5, (some .int), { frames := 9, cells := 1, slots := 6, locals := 146 }, [(0, 10, 13, 39)], false, none, none)
theorem ok_L_next : mOk m_L_next := wa_m 603 (by decide +kernel) rfl
def m_L_rank : mM := (yL_rank, cL_rank, 5, (some .int), { frames := 9, cells := 1, slots := 6, locals := 146 }, [(0, 10, 13, 39)], false, none, none)
theorem ok_L_rank : mOk m_L_rank := wa_m 615 (by decide +kernel) rfl
def m_L_size : mM := (yL_size, cL_size, 4, (some .int), { frames := 9, cells := 1, slots := 6, locals := 145 }, [(0, 9, 12, 39)], false, none, none)
theorem ok_L_size : mOk m_L_size := wa_m 626 (by decide +kernel) rfl
def m_L_depth : mM := (yL_depth, cL_depth, 4, (some .int), { frames := 9, cells := 1, slots := 6, locals := 145 }, [(0, 9, 12, 39)], false, none, none)
theorem ok_L_depth : mOk m_L_depth := wa_m 633 (by decide +kernel) rfl
def m_L_rootOf : mM := (yL_rootOf, cL_rootOf, 4, (some .int), { frames := 9, cells := 1, slots := 6, locals := 145 }, [(0, 9, 12, 39)], false, none, none)
theorem ok_L_rootOf : mOk m_L_rootOf := wa_m 644 (by decide +kernel) rfl
def m_L_sharedPages : mM := (yL_sharedPages, cL_sharedPages, 5, (some .int), { frames := 9, cells := 2, slots := 12, locals := 148 }, [(0, 10, 13, 39)], false, none, none)
theorem ok_L_sharedPages : mOk m_L_sharedPages := wa_m 651 (by decide +kernel) rfl
def m_L_isFree : mM := (yL_isFree, cL_isFree, 4, (some .int), { frames := 7, cells := 1, slots := 6, locals := 103 }, [(0, 16, 19, 39)], false, none, none)
theorem ok_L_isFree : mOk m_L_isFree := wa_m 662 (by decide +kernel) rfl
def m_L_entries : mM := (yL_entries, cL_entries, 4, (some .int), { frames := 8, cells := 1, slots := 6, locals := 124 }, [(0, 9, 12, 39)], false, none, none)
theorem ok_L_entries : mOk m_L_entries := wa_m 670 (by decide +kernel) rfl
def m_L_keyAt : mM := (yL_keyAt, cL_keyAt, 5, (some .int), { frames := 9, cells := 2, slots := 12, locals := 147 }, [(0, 10, 13, 39)], false, none, none)
theorem ok_L_keyAt : mOk m_L_keyAt := wa_m 683 (by decide +kernel) rfl
def m_L_pageAt : mM := (yL_pageAt, cL_pageAt, 5, (some .int), { frames := 9, cells := 2, slots := 12, locals := 147 }, [(0, 10, 13, 39)], false, none, none)
theorem ok_L_pageAt : mOk m_L_pageAt := wa_m 696 (by decide +kernel) rfl
def m_L_slotWord : mM := (yL_slotWord, cL_slotWord, 5, (some .int), { frames := 8, cells := 2, slots := 12, locals := 124 }, [(0, 9, 12, 39)], false, none, none)
theorem ok_L_slotWord : mOk m_L_slotWord := wa_m 704 (by decide +kernel) rfl
def m_L_isWhole : mM := (yL_isWhole, cL_isWhole, 4, (some .int), { frames := 8, cells := 1, slots := 6, locals := 123 }, [(0, 16, 19, 39)], false, none, none)
theorem ok_L_isWhole : mOk m_L_isWhole := wa_m 716 (by decide +kernel) rfl
def m_L_tear : mM := (yL_tear, cL_tear, 4, (some .int), { frames := 8, cells := 2, slots := 12, locals := 124 }, [(0, 9, 12, 39), (0, 9, 15, 13)], false, none, none)
theorem ok_L_tear : mOk m_L_tear := wa_m 723 (by decide +kernel) rfl
def m_L_crashInCommit : mM := (yL_crashInCommit, cL_crashInCommit, 4, (some .int), { frames := 8, cells := 3, slots := 18, locals := 159 }, [(0, 9, 12, 19), (0, 9, 15, 13)], false, none, none)
theorem ok_L_crashInCommit : mOk m_L_crashInCommit := wa_m 732 (by decide +kernel) rfl
def m_L_law (q : Nat × (Nat → Int32)) : mM := (yL_law, cL_law, 8, some .boolean, room_1, [], false, some 0, some q)
theorem ci_X3_28 : mCi RX3 28 yX2_init 2 := ⟨wa_m 134 (by decide +kernel) rfl, wa_m 135 (by decide +kernel) rfl, wa_m 54 (by decide +kernel) rfl, by decide +kernel, by decide +kernel, by decide +kernel, by decide +kernel⟩
theorem cv_X3_54 : mCv RX3 54 yX0_markTree 2 := ⟨wa_m 155 (by decide +kernel) rfl, wa_m 156 (by decide +kernel) rfl, wa_m 157 (by decide +kernel) rfl, wa_m 52 (by decide +kernel) rfl, by decide +kernel, by decide +kernel, by decide +kernel⟩
theorem cv_X3_69 : mCv RX3 69 yX1_become 1 := ⟨wa_m 339 (by decide +kernel) rfl, wa_m 340 (by decide +kernel) rfl, wa_m 341 (by decide +kernel) rfl, wa_m 53 (by decide +kernel) rfl, by decide +kernel, by decide +kernel, by decide +kernel⟩
theorem cs_X3_76 : mCs RX3 76 yX3_requireKey 1 := ⟨wa_m 351 (by decide +kernel) rfl, wa_m 352 (by decide +kernel) rfl, wa_m 51 (by decide +kernel) rfl, by decide +kernel, by decide +kernel, by decide +kernel⟩
theorem cv_X3_80 : mCv RX3 80 yX3_requireBatch 0 := ⟨wa_m 370 (by decide +kernel) rfl, wa_m 372 (by decide +kernel) rfl, wa_m 7 (by decide +kernel) rfl, wa_m 51 (by decide +kernel) rfl, by decide +kernel, by decide +kernel, by decide +kernel⟩
theorem cv_X3_83 : mCv RX3 83 yX2_store 2 := ⟨wa_m 375 (by decide +kernel) rfl, wa_m 376 (by decide +kernel) rfl, wa_m 377 (by decide +kernel) rfl, wa_m 54 (by decide +kernel) rfl, by decide +kernel, by decide +kernel, by decide +kernel⟩
theorem cv_X3_87 : mCv RX3 87 yX3_valueIn 2 := ⟨wa_m 460 (by decide +kernel) rfl, wa_m 462 (by decide +kernel) rfl, wa_m 8 (by decide +kernel) rfl, wa_m 51 (by decide +kernel) rfl, by decide +kernel, by decide +kernel, by decide +kernel⟩
theorem cv_X3_91 : mCv RX3 91 yX2_drop 1 := ⟨wa_m 488 (by decide +kernel) rfl, wa_m 489 (by decide +kernel) rfl, wa_m 490 (by decide +kernel) rfl, wa_m 54 (by decide +kernel) rfl, by decide +kernel, by decide +kernel, by decide +kernel⟩
theorem cs_X3_94 : mCs RX3 94 yX3_otherSlot 1 := ⟨wa_m 521 (by decide +kernel) rfl, wa_m 522 (by decide +kernel) rfl, wa_m 51 (by decide +kernel) rfl, by decide +kernel, by decide +kernel, by decide +kernel⟩
theorem cv_X3_98 : mCv RX3 98 yX3_writeSlot 2 := ⟨wa_m 524 (by decide +kernel) rfl, wa_m 526 (by decide +kernel) rfl, wa_m 9 (by decide +kernel) rfl, wa_m 51 (by decide +kernel) rfl, by decide +kernel, by decide +kernel, by decide +kernel⟩
theorem cv_X3_102 : mCv RX3 102 yX3_endBatch 0 := ⟨wa_m 251 (by decide +kernel) rfl, wa_m 253 (by decide +kernel) rfl, wa_m 4 (by decide +kernel) rfl, wa_m 51 (by decide +kernel) rfl, by decide +kernel, by decide +kernel, by decide +kernel⟩
theorem cv_X3_105 : mCv RX3 105 yX3_pagesInUse 0 := ⟨wa_m 539 (by decide +kernel) rfl, wa_m 211 (by decide +kernel) rfl, wa_m 212 (by decide +kernel) rfl, wa_m 51 (by decide +kernel) rfl, by decide +kernel, by decide +kernel, by decide +kernel⟩
theorem cv_X3_109 : mCv RX3 109 yX3_isOpen 1 := ⟨wa_m 206 (by decide +kernel) rfl, wa_m 208 (by decide +kernel) rfl, wa_m 0 (by decide +kernel) rfl, wa_m 51 (by decide +kernel) rfl, by decide +kernel, by decide +kernel, by decide +kernel⟩
theorem cv_X3_115 : mCv RX3 115 yX3_requireReader 1 := ⟨wa_m 556 (by decide +kernel) rfl, wa_m 558 (by decide +kernel) rfl, wa_m 11 (by decide +kernel) rfl, wa_m 51 (by decide +kernel) rfl, by decide +kernel, by decide +kernel, by decide +kernel⟩
theorem cv_X3_118 : mCv RX3 118 yX3_keepStates 2 := ⟨wa_m 258 (by decide +kernel) rfl, wa_m 260 (by decide +kernel) rfl, wa_m 5 (by decide +kernel) rfl, wa_m 51 (by decide +kernel) rfl, by decide +kernel, by decide +kernel, by decide +kernel⟩
theorem cv_X3_124 : mCv RX3 124 yX3_viewed 1 := ⟨wa_m 590 (by decide +kernel) rfl, wa_m 592 (by decide +kernel) rfl, wa_m 12 (by decide +kernel) rfl, wa_m 51 (by decide +kernel) rfl, by decide +kernel, by decide +kernel, by decide +kernel⟩
theorem cv_X3_128 : mCv RX3 128 yX0_leastKeyFrom 2 := ⟨wa_m 608 (by decide +kernel) rfl, wa_m 609 (by decide +kernel) rfl, wa_m 610 (by decide +kernel) rfl, wa_m 52 (by decide +kernel) rfl, by decide +kernel, by decide +kernel, by decide +kernel⟩
theorem cv_X3_132 : mCv RX3 132 yX0_keysBelow 2 := ⟨wa_m 620 (by decide +kernel) rfl, wa_m 621 (by decide +kernel) rfl, wa_m 622 (by decide +kernel) rfl, wa_m 52 (by decide +kernel) rfl, by decide +kernel, by decide +kernel, by decide +kernel⟩
theorem cv_X3_138 : mCv RX3 138 yX0_levelsFrom 1 := ⟨wa_m 638 (by decide +kernel) rfl, wa_m 639 (by decide +kernel) rfl, wa_m 640 (by decide +kernel) rfl, wa_m 52 (by decide +kernel) rfl, by decide +kernel, by decide +kernel, by decide +kernel⟩
theorem cs_X3_141 : mCs RX3 141 yX0_unmark 1 := ⟨wa_m 255 (by decide +kernel) rfl, wa_m 256 (by decide +kernel) rfl, wa_m 52 (by decide +kernel) rfl, by decide +kernel, by decide +kernel, by decide +kernel⟩
theorem cv_X3_145 : mCv RX3 145 yX0_countMarked 1 := ⟨wa_m 656 (by decide +kernel) rfl, wa_m 657 (by decide +kernel) rfl, wa_m 658 (by decide +kernel) rfl, wa_m 52 (by decide +kernel) rfl, by decide +kernel, by decide +kernel, by decide +kernel⟩
theorem cv_X3_153 : mCv RX3 153 yX0_isVacant 1 := ⟨wa_m 214 (by decide +kernel) rfl, wa_m 215 (by decide +kernel) rfl, wa_m 216 (by decide +kernel) rfl, wa_m 52 (by decide +kernel) rfl, by decide +kernel, by decide +kernel, by decide +kernel⟩
theorem cv_X3_156 : mCv RX3 156 yX0_leastVacant 0 := ⟨wa_m 222 (by decide +kernel) rfl, wa_m 223 (by decide +kernel) rfl, wa_m 224 (by decide +kernel) rfl, wa_m 52 (by decide +kernel) rfl, by decide +kernel, by decide +kernel, by decide +kernel⟩
theorem cv_X3_159 : mCv RX3 159 yX3_requirePage 1 := ⟨wa_m 675 (by decide +kernel) rfl, wa_m 677 (by decide +kernel) rfl, wa_m 13 (by decide +kernel) rfl, wa_m 51 (by decide +kernel) rfl, by decide +kernel, by decide +kernel, by decide +kernel⟩
theorem cv_X3_162 : mCv RX3 162 yX0_countOf 1 := ⟨wa_m 680 (by decide +kernel) rfl, wa_m 168 (by decide +kernel) rfl, wa_m 169 (by decide +kernel) rfl, wa_m 52 (by decide +kernel) rfl, by decide +kernel, by decide +kernel, by decide +kernel⟩
theorem cv_X3_165 : mCv RX3 165 yX3_requireEntry 2 := ⟨wa_m 688 (by decide +kernel) rfl, wa_m 690 (by decide +kernel) rfl, wa_m 14 (by decide +kernel) rfl, wa_m 51 (by decide +kernel) rfl, by decide +kernel, by decide +kernel, by decide +kernel⟩
theorem cv_X3_168 : mCv RX3 168 yX0_keyOf 2 := ⟨wa_m 693 (by decide +kernel) rfl, wa_m 405 (by decide +kernel) rfl, wa_m 406 (by decide +kernel) rfl, wa_m 52 (by decide +kernel) rfl, by decide +kernel, by decide +kernel, by decide +kernel⟩
theorem cv_X3_171 : mCv RX3 171 yX0_isLeaf 1 := ⟨wa_m 701 (by decide +kernel) rfl, wa_m 164 (by decide +kernel) rfl, wa_m 165 (by decide +kernel) rfl, wa_m 52 (by decide +kernel) rfl, by decide +kernel, by decide +kernel, by decide +kernel⟩
theorem cv_X3_174 : mCv RX3 174 yX0_wordOf 2 := ⟨wa_m 487 (by decide +kernel) rfl, wa_m 172 (by decide +kernel) rfl, wa_m 173 (by decide +kernel) rfl, wa_m 52 (by decide +kernel) rfl, by decide +kernel, by decide +kernel, by decide +kernel⟩
theorem cs_X3_177 : mCs RX3 177 yX3_requireSlot 1 := ⟨wa_m 709 (by decide +kernel) rfl, wa_m 710 (by decide +kernel) rfl, wa_m 51 (by decide +kernel) rfl, by decide +kernel, by decide +kernel, by decide +kernel⟩
theorem cv_X3_182 : mCv RX3 182 yX3_wordIn 2 := ⟨wa_m 242 (by decide +kernel) rfl, wa_m 244 (by decide +kernel) rfl, wa_m 3 (by decide +kernel) rfl, wa_m 51 (by decide +kernel) rfl, by decide +kernel, by decide +kernel, by decide +kernel⟩
theorem cv_X3_186 : mCv RX3 186 yX3_sumsUp 1 := ⟨wa_m 238 (by decide +kernel) rfl, wa_m 240 (by decide +kernel) rfl, wa_m 2 (by decide +kernel) rfl, wa_m 51 (by decide +kernel) rfl, by decide +kernel, by decide +kernel, by decide +kernel⟩
theorem cv_X3_193 : mCv RX3 193 yX3_latestWholeSlot 0 := ⟨wa_m 234 (by decide +kernel) rfl, wa_m 236 (by decide +kernel) rfl, wa_m 1 (by decide +kernel) rfl, wa_m 51 (by decide +kernel) rfl, by decide +kernel, by decide +kernel, by decide +kernel⟩
theorem cv_X3_203 : mCv RX3 203 yX3_crash 0 := ⟨wa_m 739 (by decide +kernel) rfl, wa_m 231 (by decide +kernel) rfl, wa_m 232 (by decide +kernel) rfl, wa_m 51 (by decide +kernel) rfl, by decide +kernel, by decide +kernel, by decide +kernel⟩
theorem cv_X3_218 : mCv RX3 218 yX0_leafFor 2 := ⟨wa_m 464 (by decide +kernel) rfl, wa_m 465 (by decide +kernel) rfl, wa_m 466 (by decide +kernel) rfl, wa_m 52 (by decide +kernel) rfl, by decide +kernel, by decide +kernel, by decide +kernel⟩
theorem cv_X3_221 : mCv RX3 221 yX0_placeOf 2 := ⟨wa_m 469 (by decide +kernel) rfl, wa_m 418 (by decide +kernel) rfl, wa_m 419 (by decide +kernel) rfl, wa_m 52 (by decide +kernel) rfl, by decide +kernel, by decide +kernel, by decide +kernel⟩
theorem cv_X3_224 : mCv RX3 224 yX0_holds 3 := ⟨wa_m 470 (by decide +kernel) rfl, wa_m 422 (by decide +kernel) rfl, wa_m 423 (by decide +kernel) rfl, wa_m 52 (by decide +kernel) rfl, by decide +kernel, by decide +kernel, by decide +kernel⟩
theorem cs_X3_236 : mCs RX3 236 yX3_sumOf 3 := ⟨wa_m 246 (by decide +kernel) rfl, wa_m 247 (by decide +kernel) rfl, wa_m 51 (by decide +kernel) rfl, by decide +kernel, by decide +kernel, by decide +kernel⟩
theorem cv_X3_244 : mCv RX3 244 yX3_wordOfBatch 1 := ⟨wa_m 528 (by decide +kernel) rfl, wa_m 530 (by decide +kernel) rfl, wa_m 10 (by decide +kernel) rfl, wa_m 51 (by decide +kernel) rfl, by decide +kernel, by decide +kernel, by decide +kernel⟩
theorem cs_X0_37 : mCs RX0 37 yX0_isCell 2 := ⟨wa_m 396 (by decide +kernel) rfl, wa_m 397 (by decide +kernel) rfl, wa_m 52 (by decide +kernel) rfl, by decide +kernel, by decide +kernel, by decide +kernel⟩
theorem cv_X0_41 : mCv RX0 41 yX0_isLeaf 1 := ⟨wa_m 163 (by decide +kernel) rfl, wa_m 164 (by decide +kernel) rfl, wa_m 165 (by decide +kernel) rfl, wa_m 52 (by decide +kernel) rfl, by decide +kernel, by decide +kernel, by decide +kernel⟩
theorem cv_X0_45 : mCv RX0 45 yX0_wordOf 2 := ⟨wa_m 171 (by decide +kernel) rfl, wa_m 172 (by decide +kernel) rfl, wa_m 173 (by decide +kernel) rfl, wa_m 52 (by decide +kernel) rfl, by decide +kernel, by decide +kernel, by decide +kernel⟩
theorem cv_X0_49 : mCv RX0 49 yX0_countOf 1 := ⟨wa_m 167 (by decide +kernel) rfl, wa_m 168 (by decide +kernel) rfl, wa_m 169 (by decide +kernel) rfl, wa_m 52 (by decide +kernel) rfl, by decide +kernel, by decide +kernel, by decide +kernel⟩
theorem cv_X0_53 : mCv RX0 53 yX0_keyOf 2 := ⟨wa_m 404 (by decide +kernel) rfl, wa_m 405 (by decide +kernel) rfl, wa_m 406 (by decide +kernel) rfl, wa_m 52 (by decide +kernel) rfl, by decide +kernel, by decide +kernel, by decide +kernel⟩
theorem cv_X0_56 : mCv RX0 56 yX0_entryFor 2 := ⟨wa_m 468 (by decide +kernel) rfl, wa_m 401 (by decide +kernel) rfl, wa_m 402 (by decide +kernel) rfl, wa_m 52 (by decide +kernel) rfl, by decide +kernel, by decide +kernel, by decide +kernel⟩
theorem cv_X0_59 : mCv RX0 59 yX0_listTree 1 := ⟨wa_m 159 (by decide +kernel) rfl, wa_m 160 (by decide +kernel) rfl, wa_m 161 (by decide +kernel) rfl, wa_m 52 (by decide +kernel) rfl, by decide +kernel, by decide +kernel, by decide +kernel⟩
theorem cv_X0_62 : mCv RX0 62 yX0_placeOf 2 := ⟨wa_m 612 (by decide +kernel) rfl, wa_m 418 (by decide +kernel) rfl, wa_m 419 (by decide +kernel) rfl, wa_m 52 (by decide +kernel) rfl, by decide +kernel, by decide +kernel, by decide +kernel⟩
theorem cv_X0_65 : mCv RX0 65 yX0_leastVacant 0 := ⟨wa_m 391 (by decide +kernel) rfl, wa_m 223 (by decide +kernel) rfl, wa_m 224 (by decide +kernel) rfl, wa_m 52 (by decide +kernel) rfl, by decide +kernel, by decide +kernel, by decide +kernel⟩
theorem cv_X0_69 : mCv RX0 69 yX0_take 1 := ⟨wa_m 387 (by decide +kernel) rfl, wa_m 388 (by decide +kernel) rfl, wa_m 389 (by decide +kernel) rfl, wa_m 52 (by decide +kernel) rfl, by decide +kernel, by decide +kernel, by decide +kernel⟩
theorem cv_X0_73 : mCv RX0 73 yX0_append 2 := ⟨wa_m 392 (by decide +kernel) rfl, wa_m 393 (by decide +kernel) rfl, wa_m 394 (by decide +kernel) rfl, wa_m 52 (by decide +kernel) rfl, by decide +kernel, by decide +kernel, by decide +kernel⟩
theorem cv_X0_77 : mCv RX0 77 yX0_insert 4 := ⟨wa_m 443 (by decide +kernel) rfl, wa_m 426 (by decide +kernel) rfl, wa_m 427 (by decide +kernel) rfl, wa_m 52 (by decide +kernel) rfl, by decide +kernel, by decide +kernel, by decide +kernel⟩
theorem cv_X0_81 : mCv RX0 81 yX0_remove 2 := ⟨wa_m 444 (by decide +kernel) rfl, wa_m 445 (by decide +kernel) rfl, wa_m 446 (by decide +kernel) rfl, wa_m 52 (by decide +kernel) rfl, by decide +kernel, by decide +kernel, by decide +kernel⟩
theorem cv_X2_26 : mCv RX2 26 yX2_writePath 1 := ⟨wa_m 379 (by decide +kernel) rfl, wa_m 380 (by decide +kernel) rfl, wa_m 381 (by decide +kernel) rfl, wa_m 54 (by decide +kernel) rfl, by decide +kernel, by decide +kernel, by decide +kernel⟩
theorem cv_X2_30 : mCv RX2 30 yX0_placeOf 2 := ⟨wa_m 417 (by decide +kernel) rfl, wa_m 418 (by decide +kernel) rfl, wa_m 419 (by decide +kernel) rfl, wa_m 52 (by decide +kernel) rfl, by decide +kernel, by decide +kernel, by decide +kernel⟩
theorem cv_X2_36 : mCv RX2 36 yX0_holds 3 := ⟨wa_m 421 (by decide +kernel) rfl, wa_m 422 (by decide +kernel) rfl, wa_m 423 (by decide +kernel) rfl, wa_m 52 (by decide +kernel) rfl, by decide +kernel, by decide +kernel, by decide +kernel⟩
theorem cv_X2_40 : mCv RX2 40 yX0_setWord 3 := ⟨wa_m 413 (by decide +kernel) rfl, wa_m 414 (by decide +kernel) rfl, wa_m 415 (by decide +kernel) rfl, wa_m 52 (by decide +kernel) rfl, by decide +kernel, by decide +kernel, by decide +kernel⟩
theorem cv_X2_44 : mCv RX2 44 yX0_insert 4 := ⟨wa_m 425 (by decide +kernel) rfl, wa_m 426 (by decide +kernel) rfl, wa_m 427 (by decide +kernel) rfl, wa_m 52 (by decide +kernel) rfl, by decide +kernel, by decide +kernel, by decide +kernel⟩
theorem cv_X2_54 : mCv RX2 54 yX2_splitUpwards 0 := ⟨wa_m 429 (by decide +kernel) rfl, wa_m 430 (by decide +kernel) rfl, wa_m 431 (by decide +kernel) rfl, wa_m 54 (by decide +kernel) rfl, by decide +kernel, by decide +kernel, by decide +kernel⟩
theorem cv_X2_57 : mCv RX2 57 yX0_remove 2 := ⟨wa_m 492 (by decide +kernel) rfl, wa_m 445 (by decide +kernel) rfl, wa_m 446 (by decide +kernel) rfl, wa_m 52 (by decide +kernel) rfl, by decide +kernel, by decide +kernel, by decide +kernel⟩
theorem cv_X2_64 : mCv RX2 64 yX0_countOf 1 := ⟨wa_m 433 (by decide +kernel) rfl, wa_m 168 (by decide +kernel) rfl, wa_m 169 (by decide +kernel) rfl, wa_m 52 (by decide +kernel) rfl, by decide +kernel, by decide +kernel, by decide +kernel⟩
theorem cv_X2_67 : mCv RX2 67 yX2_mend 2 := ⟨wa_m 493 (by decide +kernel) rfl, wa_m 494 (by decide +kernel) rfl, wa_m 495 (by decide +kernel) rfl, wa_m 54 (by decide +kernel) rfl, by decide +kernel, by decide +kernel, by decide +kernel⟩
theorem cv_X2_70 : mCv RX2 70 yX2_shrinkRoot 0 := ⟨wa_m 510 (by decide +kernel) rfl, wa_m 511 (by decide +kernel) rfl, wa_m 512 (by decide +kernel) rfl, wa_m 54 (by decide +kernel) rfl, by decide +kernel, by decide +kernel, by decide +kernel⟩
theorem cv_X2_76 : mCv RX2 76 yX0_writeAnew 1 := ⟨wa_m 383 (by decide +kernel) rfl, wa_m 384 (by decide +kernel) rfl, wa_m 385 (by decide +kernel) rfl, wa_m 52 (by decide +kernel) rfl, by decide +kernel, by decide +kernel, by decide +kernel⟩
theorem cv_X2_79 : mCv RX2 79 yX0_isLeaf 1 := ⟨wa_m 399 (by decide +kernel) rfl, wa_m 164 (by decide +kernel) rfl, wa_m 165 (by decide +kernel) rfl, wa_m 52 (by decide +kernel) rfl, by decide +kernel, by decide +kernel, by decide +kernel⟩
theorem cv_X2_83 : mCv RX2 83 yX0_entryFor 2 := ⟨wa_m 400 (by decide +kernel) rfl, wa_m 401 (by decide +kernel) rfl, wa_m 402 (by decide +kernel) rfl, wa_m 52 (by decide +kernel) rfl, by decide +kernel, by decide +kernel, by decide +kernel⟩
theorem cv_X2_86 : mCv RX2 86 yX2_writeBelow 2 := ⟨wa_m 408 (by decide +kernel) rfl, wa_m 409 (by decide +kernel) rfl, wa_m 410 (by decide +kernel) rfl, wa_m 54 (by decide +kernel) rfl, by decide +kernel, by decide +kernel, by decide +kernel⟩
theorem cv_X2_89 : mCv RX2 89 yX0_wordOf 2 := ⟨wa_m 412 (by decide +kernel) rfl, wa_m 172 (by decide +kernel) rfl, wa_m 173 (by decide +kernel) rfl, wa_m 52 (by decide +kernel) rfl, by decide +kernel, by decide +kernel, by decide +kernel⟩
theorem cv_X2_92 : mCv RX2 92 yX2_splitOff 1 := ⟨wa_m 434 (by decide +kernel) rfl, wa_m 435 (by decide +kernel) rfl, wa_m 436 (by decide +kernel) rfl, wa_m 54 (by decide +kernel) rfl, by decide +kernel, by decide +kernel, by decide +kernel⟩
theorem cv_X2_95 : mCv RX2 95 yX2_growRoot 2 := ⟨wa_m 448 (by decide +kernel) rfl, wa_m 449 (by decide +kernel) rfl, wa_m 450 (by decide +kernel) rfl, wa_m 54 (by decide +kernel) rfl, by decide +kernel, by decide +kernel, by decide +kernel⟩
theorem cv_X2_98 : mCv RX2 98 yX0_take 1 := ⟨wa_m 438 (by decide +kernel) rfl, wa_m 388 (by decide +kernel) rfl, wa_m 389 (by decide +kernel) rfl, wa_m 52 (by decide +kernel) rfl, by decide +kernel, by decide +kernel, by decide +kernel⟩
theorem cv_X2_102 : mCv RX2 102 yX0_move 4 := ⟨wa_m 439 (by decide +kernel) rfl, wa_m 440 (by decide +kernel) rfl, wa_m 441 (by decide +kernel) rfl, wa_m 52 (by decide +kernel) rfl, by decide +kernel, by decide +kernel, by decide +kernel⟩
theorem cv_X2_105 : mCv RX2 105 yX2_lend 3 := ⟨wa_m 497 (by decide +kernel) rfl, wa_m 498 (by decide +kernel) rfl, wa_m 499 (by decide +kernel) rfl, wa_m 54 (by decide +kernel) rfl, by decide +kernel, by decide +kernel, by decide +kernel⟩
theorem cv_X2_108 : mCv RX2 108 yX2_join 2 := ⟨wa_m 501 (by decide +kernel) rfl, wa_m 502 (by decide +kernel) rfl, wa_m 503 (by decide +kernel) rfl, wa_m 54 (by decide +kernel) rfl, by decide +kernel, by decide +kernel, by decide +kernel⟩
theorem cv_X2_111 : mCv RX2 111 yX0_append 2 := ⟨wa_m 505 (by decide +kernel) rfl, wa_m 393 (by decide +kernel) rfl, wa_m 394 (by decide +kernel) rfl, wa_m 52 (by decide +kernel) rfl, by decide +kernel, by decide +kernel, by decide +kernel⟩
theorem cv_X2_114 : mCv RX2 114 yX0_leave 1 := ⟨wa_m 506 (by decide +kernel) rfl, wa_m 507 (by decide +kernel) rfl, wa_m 508 (by decide +kernel) rfl, wa_m 52 (by decide +kernel) rfl, by decide +kernel, by decide +kernel, by decide +kernel⟩
theorem cv_L_7 : mCv RL 7 yX3_beginBatch 0 := ⟨wa_m 266 (by decide +kernel) rfl, wa_m 267 (by decide +kernel) rfl, wa_m 268 (by decide +kernel) rfl, wa_m 51 (by decide +kernel) rfl, by decide +kernel, by decide +kernel, by decide +kernel⟩
theorem cv_L_15 : mCv RL 15 yX3_put 2 := ⟨wa_m 347 (by decide +kernel) rfl, wa_m 348 (by decide +kernel) rfl, wa_m 349 (by decide +kernel) rfl, wa_m 51 (by decide +kernel) rfl, by decide +kernel, by decide +kernel, by decide +kernel⟩
theorem cv_L_21 : mCv RL 21 yX3_delete 1 := ⟨wa_m 456 (by decide +kernel) rfl, wa_m 457 (by decide +kernel) rfl, wa_m 458 (by decide +kernel) rfl, wa_m 51 (by decide +kernel) rfl, by decide +kernel, by decide +kernel, by decide +kernel⟩
theorem cv_L_27 : mCv RL 27 yX3_commit 0 := ⟨wa_m 517 (by decide +kernel) rfl, wa_m 518 (by decide +kernel) rfl, wa_m 519 (by decide +kernel) rfl, wa_m 51 (by decide +kernel) rfl, by decide +kernel, by decide +kernel, by decide +kernel⟩
theorem cv_L_30 : mCv RL 30 yX3_abandon 0 := ⟨wa_m 535 (by decide +kernel) rfl, wa_m 536 (by decide +kernel) rfl, wa_m 537 (by decide +kernel) rfl, wa_m 51 (by decide +kernel) rfl, by decide +kernel, by decide +kernel, by decide +kernel⟩
theorem cv_L_33 : mCv RL 33 yX3_openReader 0 := ⟨wa_m 543 (by decide +kernel) rfl, wa_m 544 (by decide +kernel) rfl, wa_m 545 (by decide +kernel) rfl, wa_m 51 (by decide +kernel) rfl, by decide +kernel, by decide +kernel, by decide +kernel⟩
theorem cv_L_36 : mCv RL 36 yX3_closeReader 1 := ⟨wa_m 552 (by decide +kernel) rfl, wa_m 553 (by decide +kernel) rfl, wa_m 554 (by decide +kernel) rfl, wa_m 51 (by decide +kernel) rfl, by decide +kernel, by decide +kernel, by decide +kernel⟩
theorem cv_L_41 : mCv RL 41 yX3_heldBy 1 := ⟨wa_m 579 (by decide +kernel) rfl, wa_m 580 (by decide +kernel) rfl, wa_m 581 (by decide +kernel) rfl, wa_m 51 (by decide +kernel) rfl, by decide +kernel, by decide +kernel, by decide +kernel⟩
theorem cv_L_44 : mCv RL 44 yX3_epochOf 1 := ⟨wa_m 586 (by decide +kernel) rfl, wa_m 587 (by decide +kernel) rfl, wa_m 588 (by decide +kernel) rfl, wa_m 51 (by decide +kernel) rfl, by decide +kernel, by decide +kernel, by decide +kernel⟩
theorem cv_L_47 : mCv RL 47 yX3_get 2 := ⟨wa_m 597 (by decide +kernel) rfl, wa_m 598 (by decide +kernel) rfl, wa_m 599 (by decide +kernel) rfl, wa_m 51 (by decide +kernel) rfl, by decide +kernel, by decide +kernel, by decide +kernel⟩
theorem cv_L_51 : mCv RL 51 yX3_next 2 := ⟨wa_m 604 (by decide +kernel) rfl, wa_m 605 (by decide +kernel) rfl, wa_m 606 (by decide +kernel) rfl, wa_m 51 (by decide +kernel) rfl, by decide +kernel, by decide +kernel, by decide +kernel⟩
theorem cv_L_54 : mCv RL 54 yX3_rank 2 := ⟨wa_m 616 (by decide +kernel) rfl, wa_m 617 (by decide +kernel) rfl, wa_m 618 (by decide +kernel) rfl, wa_m 51 (by decide +kernel) rfl, by decide +kernel, by decide +kernel, by decide +kernel⟩
theorem cv_L_57 : mCv RL 57 yX3_size 1 := ⟨wa_m 627 (by decide +kernel) rfl, wa_m 628 (by decide +kernel) rfl, wa_m 629 (by decide +kernel) rfl, wa_m 51 (by decide +kernel) rfl, by decide +kernel, by decide +kernel, by decide +kernel⟩
theorem cv_L_60 : mCv RL 60 yX3_depth 1 := ⟨wa_m 634 (by decide +kernel) rfl, wa_m 635 (by decide +kernel) rfl, wa_m 636 (by decide +kernel) rfl, wa_m 51 (by decide +kernel) rfl, by decide +kernel, by decide +kernel, by decide +kernel⟩
theorem cv_L_63 : mCv RL 63 yX3_rootOf 1 := ⟨wa_m 645 (by decide +kernel) rfl, wa_m 646 (by decide +kernel) rfl, wa_m 647 (by decide +kernel) rfl, wa_m 51 (by decide +kernel) rfl, by decide +kernel, by decide +kernel, by decide +kernel⟩
theorem cv_L_66 : mCv RL 66 yX3_sharedPages 2 := ⟨wa_m 652 (by decide +kernel) rfl, wa_m 653 (by decide +kernel) rfl, wa_m 654 (by decide +kernel) rfl, wa_m 51 (by decide +kernel) rfl, by decide +kernel, by decide +kernel, by decide +kernel⟩
theorem cv_L_69 : mCv RL 69 yX3_isFree 1 := ⟨wa_m 663 (by decide +kernel) rfl, wa_m 664 (by decide +kernel) rfl, wa_m 665 (by decide +kernel) rfl, wa_m 51 (by decide +kernel) rfl, by decide +kernel, by decide +kernel, by decide +kernel⟩
theorem cv_L_73 : mCv RL 73 yX3_entries 1 := ⟨wa_m 671 (by decide +kernel) rfl, wa_m 672 (by decide +kernel) rfl, wa_m 673 (by decide +kernel) rfl, wa_m 51 (by decide +kernel) rfl, by decide +kernel, by decide +kernel, by decide +kernel⟩
theorem cv_L_76 : mCv RL 76 yX3_keyAt 2 := ⟨wa_m 684 (by decide +kernel) rfl, wa_m 685 (by decide +kernel) rfl, wa_m 686 (by decide +kernel) rfl, wa_m 51 (by decide +kernel) rfl, by decide +kernel, by decide +kernel, by decide +kernel⟩
theorem cv_L_79 : mCv RL 79 yX3_pageAt 2 := ⟨wa_m 697 (by decide +kernel) rfl, wa_m 698 (by decide +kernel) rfl, wa_m 699 (by decide +kernel) rfl, wa_m 51 (by decide +kernel) rfl, by decide +kernel, by decide +kernel, by decide +kernel⟩
theorem cv_L_82 : mCv RL 82 yX3_slotWord 2 := ⟨wa_m 705 (by decide +kernel) rfl, wa_m 706 (by decide +kernel) rfl, wa_m 707 (by decide +kernel) rfl, wa_m 51 (by decide +kernel) rfl, by decide +kernel, by decide +kernel, by decide +kernel⟩
theorem cv_L_86 : mCv RL 86 yX3_isWhole 1 := ⟨wa_m 717 (by decide +kernel) rfl, wa_m 718 (by decide +kernel) rfl, wa_m 719 (by decide +kernel) rfl, wa_m 51 (by decide +kernel) rfl, by decide +kernel, by decide +kernel, by decide +kernel⟩
theorem cv_L_89 : mCv RL 89 yX3_tear 1 := ⟨wa_m 724 (by decide +kernel) rfl, wa_m 725 (by decide +kernel) rfl, wa_m 726 (by decide +kernel) rfl, wa_m 51 (by decide +kernel) rfl, by decide +kernel, by decide +kernel, by decide +kernel⟩
theorem cv_L_92 : mCv RL 92 yX3_crashInCommit 1 := ⟨wa_m 733 (by decide +kernel) rfl, wa_m 734 (by decide +kernel) rfl, wa_m 735 (by decide +kernel) rfl, wa_m 51 (by decide +kernel) rfl, by decide +kernel, by decide +kernel, by decide +kernel⟩
theorem ci_L_95 : mCi RL 95 yX3_init 0 := ⟨wa_m 65 (by decide +kernel) rfl, wa_m 66 (by decide +kernel) rfl, wa_m 51 (by decide +kernel) rfl, by decide +kernel, by decide +kernel, by decide +kernel, by decide +kernel⟩
theorem ci_L_98 : mCi RL 98 yX4_init 0 := ⟨wa_m 742 (by decide +kernel) rfl, wa_m 743 (by decide +kernel) rfl, wa_m 55 (by decide +kernel) rfl, by decide +kernel, by decide +kernel, by decide +kernel, by decide +kernel⟩
theorem cs_L_99 : mCs RL 99 yL_beginBatch 2 := ⟨wa_m 262 (by decide +kernel) rfl, wa_m 263 (by decide +kernel) rfl, wa_m 50 (by decide +kernel) rfl, by decide +kernel, by decide +kernel, by decide +kernel⟩
theorem cv_L_104 : mCv RL 104 yX4_beginBatch 0 := ⟨wa_m 809 (by decide +kernel) rfl, wa_m 810 (by decide +kernel) rfl, wa_m 811 (by decide +kernel) rfl, wa_m 55 (by decide +kernel) rfl, by decide +kernel, by decide +kernel, by decide +kernel⟩
theorem cv_L_105 : mCv RL 105 yX4_thrown 0 := ⟨wa_m 805 (by decide +kernel) rfl, wa_m 806 (by decide +kernel) rfl, wa_m 807 (by decide +kernel) rfl, wa_m 55 (by decide +kernel) rfl, by decide +kernel, by decide +kernel, by decide +kernel⟩
theorem cv_L_108 : mCv RL 108 yX3_hasBatch 0 := ⟨wa_m 198 (by decide +kernel) rfl, wa_m 199 (by decide +kernel) rfl, wa_m 200 (by decide +kernel) rfl, wa_m 51 (by decide +kernel) rfl, by decide +kernel, by decide +kernel, by decide +kernel⟩
theorem cv_L_112 : mCv RL 112 yX4_hasBatch 0 := ⟨wa_m 817 (by decide +kernel) rfl, wa_m 818 (by decide +kernel) rfl, wa_m 819 (by decide +kernel) rfl, wa_m 55 (by decide +kernel) rfl, by decide +kernel, by decide +kernel, by decide +kernel⟩
theorem cs_L_113 : mCs RL 113 yL_put 4 := ⟨wa_m 343 (by decide +kernel) rfl, wa_m 344 (by decide +kernel) rfl, wa_m 50 (by decide +kernel) rfl, by decide +kernel, by decide +kernel, by decide +kernel⟩
theorem cv_L_116 : mCv RL 116 yX4_put 2 := ⟨wa_m 821 (by decide +kernel) rfl, wa_m 822 (by decide +kernel) rfl, wa_m 823 (by decide +kernel) rfl, wa_m 55 (by decide +kernel) rfl, by decide +kernel, by decide +kernel, by decide +kernel⟩
theorem cs_L_117 : mCs RL 117 yL_delete 3 := ⟨wa_m 452 (by decide +kernel) rfl, wa_m 453 (by decide +kernel) rfl, wa_m 50 (by decide +kernel) rfl, by decide +kernel, by decide +kernel, by decide +kernel⟩
theorem cv_L_120 : mCv RL 120 yX4_delete 1 := ⟨wa_m 898 (by decide +kernel) rfl, wa_m 899 (by decide +kernel) rfl, wa_m 900 (by decide +kernel) rfl, wa_m 55 (by decide +kernel) rfl, by decide +kernel, by decide +kernel, by decide +kernel⟩
theorem cs_L_121 : mCs RL 121 yL_commit 2 := ⟨wa_m 514 (by decide +kernel) rfl, wa_m 515 (by decide +kernel) rfl, wa_m 50 (by decide +kernel) rfl, by decide +kernel, by decide +kernel, by decide +kernel⟩
theorem cv_L_123 : mCv RL 123 yX4_commit 0 := ⟨wa_m 914 (by decide +kernel) rfl, wa_m 915 (by decide +kernel) rfl, wa_m 916 (by decide +kernel) rfl, wa_m 55 (by decide +kernel) rfl, by decide +kernel, by decide +kernel, by decide +kernel⟩
theorem cs_L_124 : mCs RL 124 yL_abandon 2 := ⟨wa_m 532 (by decide +kernel) rfl, wa_m 533 (by decide +kernel) rfl, wa_m 50 (by decide +kernel) rfl, by decide +kernel, by decide +kernel, by decide +kernel⟩
theorem cv_L_126 : mCv RL 126 yX4_abandon 0 := ⟨wa_m 938 (by decide +kernel) rfl, wa_m 939 (by decide +kernel) rfl, wa_m 940 (by decide +kernel) rfl, wa_m 55 (by decide +kernel) rfl, by decide +kernel, by decide +kernel, by decide +kernel⟩
theorem cs_L_127 : mCs RL 127 yL_openReader 2 := ⟨wa_m 540 (by decide +kernel) rfl, wa_m 541 (by decide +kernel) rfl, wa_m 50 (by decide +kernel) rfl, by decide +kernel, by decide +kernel, by decide +kernel⟩
theorem cv_L_129 : mCv RL 129 yX4_openReader 0 := ⟨wa_m 942 (by decide +kernel) rfl, wa_m 943 (by decide +kernel) rfl, wa_m 944 (by decide +kernel) rfl, wa_m 55 (by decide +kernel) rfl, by decide +kernel, by decide +kernel, by decide +kernel⟩
theorem cs_L_130 : mCs RL 130 yL_closeReader 3 := ⟨wa_m 548 (by decide +kernel) rfl, wa_m 549 (by decide +kernel) rfl, wa_m 50 (by decide +kernel) rfl, by decide +kernel, by decide +kernel, by decide +kernel⟩
theorem cv_L_132 : mCv RL 132 yX4_closeReader 1 := ⟨wa_m 946 (by decide +kernel) rfl, wa_m 947 (by decide +kernel) rfl, wa_m 948 (by decide +kernel) rfl, wa_m 55 (by decide +kernel) rfl, by decide +kernel, by decide +kernel, by decide +kernel⟩
theorem cv_L_133 : mCv RL 133 yX3_readers 0 := ⟨wa_m 202 (by decide +kernel) rfl, wa_m 203 (by decide +kernel) rfl, wa_m 204 (by decide +kernel) rfl, wa_m 51 (by decide +kernel) rfl, by decide +kernel, by decide +kernel, by decide +kernel⟩
theorem cv_L_136 : mCv RL 136 yX4_readers 0 := ⟨wa_m 958 (by decide +kernel) rfl, wa_m 959 (by decide +kernel) rfl, wa_m 960 (by decide +kernel) rfl, wa_m 55 (by decide +kernel) rfl, by decide +kernel, by decide +kernel, by decide +kernel⟩
theorem cs_L_137 : mCs RL 137 yL_heldBy 3 := ⟨wa_m 576 (by decide +kernel) rfl, wa_m 577 (by decide +kernel) rfl, wa_m 50 (by decide +kernel) rfl, by decide +kernel, by decide +kernel, by decide +kernel⟩
theorem cv_L_139 : mCv RL 139 yX4_heldBy 1 := ⟨wa_m 962 (by decide +kernel) rfl, wa_m 963 (by decide +kernel) rfl, wa_m 964 (by decide +kernel) rfl, wa_m 55 (by decide +kernel) rfl, by decide +kernel, by decide +kernel, by decide +kernel⟩
theorem cs_L_140 : mCs RL 140 yL_epochOf 3 := ⟨wa_m 583 (by decide +kernel) rfl, wa_m 584 (by decide +kernel) rfl, wa_m 50 (by decide +kernel) rfl, by decide +kernel, by decide +kernel, by decide +kernel⟩
theorem cv_L_142 : mCv RL 142 yX4_epochOf 1 := ⟨wa_m 966 (by decide +kernel) rfl, wa_m 967 (by decide +kernel) rfl, wa_m 968 (by decide +kernel) rfl, wa_m 55 (by decide +kernel) rfl, by decide +kernel, by decide +kernel, by decide +kernel⟩
theorem cs_L_143 : mCs RL 143 yL_get 4 := ⟨wa_m 594 (by decide +kernel) rfl, wa_m 595 (by decide +kernel) rfl, wa_m 50 (by decide +kernel) rfl, by decide +kernel, by decide +kernel, by decide +kernel⟩
theorem cv_L_145 : mCv RL 145 yX4_get 2 := ⟨wa_m 974 (by decide +kernel) rfl, wa_m 975 (by decide +kernel) rfl, wa_m 976 (by decide +kernel) rfl, wa_m 55 (by decide +kernel) rfl, by decide +kernel, by decide +kernel, by decide +kernel⟩
theorem cs_L_146 : mCs RL 146 yL_next 4 := ⟨wa_m 601 (by decide +kernel) rfl, wa_m 602 (by decide +kernel) rfl, wa_m 50 (by decide +kernel) rfl, by decide +kernel, by decide +kernel, by decide +kernel⟩
theorem cv_L_148 : mCv RL 148 yX4_next 2 := ⟨wa_m 982 (by decide +kernel) rfl, wa_m 983 (by decide +kernel) rfl, wa_m 984 (by decide +kernel) rfl, wa_m 55 (by decide +kernel) rfl, by decide +kernel, by decide +kernel, by decide +kernel⟩
theorem cs_L_149 : mCs RL 149 yL_rank 4 := ⟨wa_m 613 (by decide +kernel) rfl, wa_m 614 (by decide +kernel) rfl, wa_m 50 (by decide +kernel) rfl, by decide +kernel, by decide +kernel, by decide +kernel⟩
theorem cv_L_151 : mCv RL 151 yX4_rank 2 := ⟨wa_m 986 (by decide +kernel) rfl, wa_m 987 (by decide +kernel) rfl, wa_m 988 (by decide +kernel) rfl, wa_m 55 (by decide +kernel) rfl, by decide +kernel, by decide +kernel, by decide +kernel⟩
theorem cs_L_152 : mCs RL 152 yL_size 3 := ⟨wa_m 624 (by decide +kernel) rfl, wa_m 625 (by decide +kernel) rfl, wa_m 50 (by decide +kernel) rfl, by decide +kernel, by decide +kernel, by decide +kernel⟩
theorem cv_L_154 : mCv RL 154 yX4_size 1 := ⟨wa_m 990 (by decide +kernel) rfl, wa_m 991 (by decide +kernel) rfl, wa_m 992 (by decide +kernel) rfl, wa_m 55 (by decide +kernel) rfl, by decide +kernel, by decide +kernel, by decide +kernel⟩
theorem cs_L_155 : mCs RL 155 yL_depth 3 := ⟨wa_m 631 (by decide +kernel) rfl, wa_m 632 (by decide +kernel) rfl, wa_m 50 (by decide +kernel) rfl, by decide +kernel, by decide +kernel, by decide +kernel⟩
theorem cv_L_157 : mCv RL 157 yX4_depth 1 := ⟨wa_m 994 (by decide +kernel) rfl, wa_m 995 (by decide +kernel) rfl, wa_m 996 (by decide +kernel) rfl, wa_m 55 (by decide +kernel) rfl, by decide +kernel, by decide +kernel, by decide +kernel⟩
theorem cs_L_158 : mCs RL 158 yL_rootOf 3 := ⟨wa_m 642 (by decide +kernel) rfl, wa_m 643 (by decide +kernel) rfl, wa_m 50 (by decide +kernel) rfl, by decide +kernel, by decide +kernel, by decide +kernel⟩
theorem cv_L_160 : mCv RL 160 yX4_rootOf 1 := ⟨wa_m 998 (by decide +kernel) rfl, wa_m 999 (by decide +kernel) rfl, wa_m 1000 (by decide +kernel) rfl, wa_m 55 (by decide +kernel) rfl, by decide +kernel, by decide +kernel, by decide +kernel⟩
theorem cs_L_161 : mCs RL 161 yL_sharedPages 4 := ⟨wa_m 649 (by decide +kernel) rfl, wa_m 650 (by decide +kernel) rfl, wa_m 50 (by decide +kernel) rfl, by decide +kernel, by decide +kernel, by decide +kernel⟩
theorem cv_L_163 : mCv RL 163 yX4_sharedPages 2 := ⟨wa_m 1002 (by decide +kernel) rfl, wa_m 1003 (by decide +kernel) rfl, wa_m 1004 (by decide +kernel) rfl, wa_m 55 (by decide +kernel) rfl, by decide +kernel, by decide +kernel, by decide +kernel⟩
theorem cs_L_164 : mCs RL 164 yL_isFree 3 := ⟨wa_m 660 (by decide +kernel) rfl, wa_m 661 (by decide +kernel) rfl, wa_m 50 (by decide +kernel) rfl, by decide +kernel, by decide +kernel, by decide +kernel⟩
theorem cv_L_166 : mCv RL 166 yX4_isFree 1 := ⟨wa_m 1010 (by decide +kernel) rfl, wa_m 1011 (by decide +kernel) rfl, wa_m 1012 (by decide +kernel) rfl, wa_m 55 (by decide +kernel) rfl, by decide +kernel, by decide +kernel, by decide +kernel⟩
theorem cv_L_167 : mCv RL 167 yX3_pagesInUse 0 := ⟨wa_m 210 (by decide +kernel) rfl, wa_m 211 (by decide +kernel) rfl, wa_m 212 (by decide +kernel) rfl, wa_m 51 (by decide +kernel) rfl, by decide +kernel, by decide +kernel, by decide +kernel⟩
theorem cv_L_170 : mCv RL 170 yX4_pagesInUse 0 := ⟨wa_m 1018 (by decide +kernel) rfl, wa_m 1019 (by decide +kernel) rfl, wa_m 1020 (by decide +kernel) rfl, wa_m 55 (by decide +kernel) rfl, by decide +kernel, by decide +kernel, by decide +kernel⟩
theorem cv_L_171 : mCv RL 171 yX3_leastFree 0 := ⟨wa_m 218 (by decide +kernel) rfl, wa_m 219 (by decide +kernel) rfl, wa_m 220 (by decide +kernel) rfl, wa_m 51 (by decide +kernel) rfl, by decide +kernel, by decide +kernel, by decide +kernel⟩
theorem cv_L_174 : mCv RL 174 yX4_leastFree 0 := ⟨wa_m 1022 (by decide +kernel) rfl, wa_m 1023 (by decide +kernel) rfl, wa_m 1024 (by decide +kernel) rfl, wa_m 55 (by decide +kernel) rfl, by decide +kernel, by decide +kernel, by decide +kernel⟩
theorem cs_L_175 : mCs RL 175 yL_entries 3 := ⟨wa_m 668 (by decide +kernel) rfl, wa_m 669 (by decide +kernel) rfl, wa_m 50 (by decide +kernel) rfl, by decide +kernel, by decide +kernel, by decide +kernel⟩
theorem cv_L_177 : mCv RL 177 yX4_entries 1 := ⟨wa_m 1026 (by decide +kernel) rfl, wa_m 1027 (by decide +kernel) rfl, wa_m 1028 (by decide +kernel) rfl, wa_m 55 (by decide +kernel) rfl, by decide +kernel, by decide +kernel, by decide +kernel⟩
theorem cs_L_178 : mCs RL 178 yL_keyAt 4 := ⟨wa_m 681 (by decide +kernel) rfl, wa_m 682 (by decide +kernel) rfl, wa_m 50 (by decide +kernel) rfl, by decide +kernel, by decide +kernel, by decide +kernel⟩
theorem cv_L_180 : mCv RL 180 yX4_keyAt 2 := ⟨wa_m 1030 (by decide +kernel) rfl, wa_m 1031 (by decide +kernel) rfl, wa_m 1032 (by decide +kernel) rfl, wa_m 55 (by decide +kernel) rfl, by decide +kernel, by decide +kernel, by decide +kernel⟩
theorem cs_L_181 : mCs RL 181 yL_pageAt 4 := ⟨wa_m 694 (by decide +kernel) rfl, wa_m 695 (by decide +kernel) rfl, wa_m 50 (by decide +kernel) rfl, by decide +kernel, by decide +kernel, by decide +kernel⟩
theorem cv_L_183 : mCv RL 183 yX4_pageAt 2 := ⟨wa_m 1038 (by decide +kernel) rfl, wa_m 1039 (by decide +kernel) rfl, wa_m 1040 (by decide +kernel) rfl, wa_m 55 (by decide +kernel) rfl, by decide +kernel, by decide +kernel, by decide +kernel⟩
theorem cv_L_184 : mCv RL 184 yX3_currentSlot 0 := ⟨wa_m 226 (by decide +kernel) rfl, wa_m 227 (by decide +kernel) rfl, wa_m 228 (by decide +kernel) rfl, wa_m 51 (by decide +kernel) rfl, by decide +kernel, by decide +kernel, by decide +kernel⟩
theorem cv_L_187 : mCv RL 187 yX4_currentSlot 0 := ⟨wa_m 1042 (by decide +kernel) rfl, wa_m 1043 (by decide +kernel) rfl, wa_m 1044 (by decide +kernel) rfl, wa_m 55 (by decide +kernel) rfl, by decide +kernel, by decide +kernel, by decide +kernel⟩
theorem cs_L_188 : mCs RL 188 yL_slotWord 4 := ⟨wa_m 702 (by decide +kernel) rfl, wa_m 703 (by decide +kernel) rfl, wa_m 50 (by decide +kernel) rfl, by decide +kernel, by decide +kernel, by decide +kernel⟩
theorem cv_L_190 : mCv RL 190 yX4_slotWord 2 := ⟨wa_m 1046 (by decide +kernel) rfl, wa_m 1047 (by decide +kernel) rfl, wa_m 1048 (by decide +kernel) rfl, wa_m 55 (by decide +kernel) rfl, by decide +kernel, by decide +kernel, by decide +kernel⟩
theorem cs_L_191 : mCs RL 191 yL_isWhole 3 := ⟨wa_m 714 (by decide +kernel) rfl, wa_m 715 (by decide +kernel) rfl, wa_m 50 (by decide +kernel) rfl, by decide +kernel, by decide +kernel, by decide +kernel⟩
theorem cv_L_193 : mCv RL 193 yX4_isWhole 1 := ⟨wa_m 1050 (by decide +kernel) rfl, wa_m 1051 (by decide +kernel) rfl, wa_m 1052 (by decide +kernel) rfl, wa_m 55 (by decide +kernel) rfl, by decide +kernel, by decide +kernel, by decide +kernel⟩
theorem cs_L_194 : mCs RL 194 yL_tear 3 := ⟨wa_m 721 (by decide +kernel) rfl, wa_m 722 (by decide +kernel) rfl, wa_m 50 (by decide +kernel) rfl, by decide +kernel, by decide +kernel, by decide +kernel⟩
theorem cv_L_196 : mCv RL 196 yX4_tear 1 := ⟨wa_m 1054 (by decide +kernel) rfl, wa_m 1055 (by decide +kernel) rfl, wa_m 1056 (by decide +kernel) rfl, wa_m 55 (by decide +kernel) rfl, by decide +kernel, by decide +kernel, by decide +kernel⟩
theorem cv_L_197 : mCv RL 197 yX3_crash 0 := ⟨wa_m 230 (by decide +kernel) rfl, wa_m 231 (by decide +kernel) rfl, wa_m 232 (by decide +kernel) rfl, wa_m 51 (by decide +kernel) rfl, by decide +kernel, by decide +kernel, by decide +kernel⟩
theorem cv_L_200 : mCv RL 200 yX4_crash 0 := ⟨wa_m 1059 (by decide +kernel) rfl, wa_m 1060 (by decide +kernel) rfl, wa_m 1061 (by decide +kernel) rfl, wa_m 55 (by decide +kernel) rfl, by decide +kernel, by decide +kernel, by decide +kernel⟩
theorem cs_L_201 : mCs RL 201 yL_crashInCommit 3 := ⟨wa_m 730 (by decide +kernel) rfl, wa_m 731 (by decide +kernel) rfl, wa_m 50 (by decide +kernel) rfl, by decide +kernel, by decide +kernel, by decide +kernel⟩
theorem cv_L_203 : mCv RL 203 yX4_crashInCommit 1 := ⟨wa_m 1067 (by decide +kernel) rfl, wa_m 1068 (by decide +kernel) rfl, wa_m 1069 (by decide +kernel) rfl, wa_m 55 (by decide +kernel) rfl, by decide +kernel, by decide +kernel, by decide +kernel⟩
theorem cv_X4_52 : mCv RX4 52 yX4_closesAll 0 := ⟨wa_m 746 (by decide +kernel) rfl, wa_m 748 (by decide +kernel) rfl, wa_m 15 (by decide +kernel) rfl, wa_m 55 (by decide +kernel) rfl, by decide +kernel, by decide +kernel, by decide +kernel⟩
theorem cv_X4_58 : mCv RX4 58 yX4_forgets 0 := ⟨wa_m 852 (by decide +kernel) rfl, wa_m 854 (by decide +kernel) rfl, wa_m 23 (by decide +kernel) rfl, wa_m 55 (by decide +kernel) rfl, by decide +kernel, by decide +kernel, by decide +kernel⟩
theorem cv_X4_64 : mCv RX4 64 yX4_meets 1 := ⟨wa_m 856 (by decide +kernel) rfl, wa_m 858 (by decide +kernel) rfl, wa_m 24 (by decide +kernel) rfl, wa_m 55 (by decide +kernel) rfl, by decide +kernel, by decide +kernel, by decide +kernel⟩
theorem cv_X4_68 : mCv RX4 68 yX4_whole 1 := ⟨wa_m 860 (by decide +kernel) rfl, wa_m 862 (by decide +kernel) rfl, wa_m 25 (by decide +kernel) rfl, wa_m 55 (by decide +kernel) rfl, by decide +kernel, by decide +kernel, by decide +kernel⟩
theorem cv_X4_72 : mCv RX4 72 yX4_meetsAll 1 := ⟨wa_m 848 (by decide +kernel) rfl, wa_m 850 (by decide +kernel) rfl, wa_m 22 (by decide +kernel) rfl, wa_m 55 (by decide +kernel) rfl, by decide +kernel, by decide +kernel, by decide +kernel⟩
theorem cs_X4_76 : mCs RX4 76 yX4_in 3 := ⟨wa_m 825 (by decide +kernel) rfl, wa_m 826 (by decide +kernel) rfl, wa_m 55 (by decide +kernel) rfl, by decide +kernel, by decide +kernel, by decide +kernel⟩
theorem cv_X4_80 : mCv RX4 80 yX4_leastNotMet 0 := ⟨wa_m 866 (by decide +kernel) rfl, wa_m 868 (by decide +kernel) rfl, wa_m 26 (by decide +kernel) rfl, wa_m 55 (by decide +kernel) rfl, by decide +kernel, by decide +kernel, by decide +kernel⟩
theorem cv_X4_84 : mCv RX4 84 yX4_lays 4 := ⟨wa_m 886 (by decide +kernel) rfl, wa_m 888 (by decide +kernel) rfl, wa_m 31 (by decide +kernel) rfl, wa_m 55 (by decide +kernel) rfl, by decide +kernel, by decide +kernel, by decide +kernel⟩
theorem cv_X4_88 : mCv RX4 88 yX4_leastKey 1 := ⟨wa_m 836 (by decide +kernel) rfl, wa_m 838 (by decide +kernel) rfl, wa_m 19 (by decide +kernel) rfl, wa_m 55 (by decide +kernel) rfl, by decide +kernel, by decide +kernel, by decide +kernel⟩
theorem cv_X4_94 : mCv RX4 94 yX4_keyOf 2 := ⟨wa_m 832 (by decide +kernel) rfl, wa_m 834 (by decide +kernel) rfl, wa_m 18 (by decide +kernel) rfl, wa_m 55 (by decide +kernel) rfl, by decide +kernel, by decide +kernel, by decide +kernel⟩
theorem cv_X4_98 : mCv RX4 98 yX4_takes 1 := ⟨wa_m 844 (by decide +kernel) rfl, wa_m 846 (by decide +kernel) rfl, wa_m 21 (by decide +kernel) rfl, wa_m 55 (by decide +kernel) rfl, by decide +kernel, by decide +kernel, by decide +kernel⟩
theorem cv_X4_101 : mCv RX4 101 yX4_copies 2 := ⟨wa_m 870 (by decide +kernel) rfl, wa_m 872 (by decide +kernel) rfl, wa_m 27 (by decide +kernel) rfl, wa_m 55 (by decide +kernel) rfl, by decide +kernel, by decide +kernel, by decide +kernel⟩
theorem cv_X4_105 : mCv RX4 105 yX4_own 2 := ⟨wa_m 874 (by decide +kernel) rfl, wa_m 876 (by decide +kernel) rfl, wa_m 28 (by decide +kernel) rfl, wa_m 55 (by decide +kernel) rfl, by decide +kernel, by decide +kernel, by decide +kernel⟩
theorem cv_X4_108 : mCv RX4 108 yX4_moves 3 := ⟨wa_m 894 (by decide +kernel) rfl, wa_m 896 (by decide +kernel) rfl, wa_m 33 (by decide +kernel) rfl, wa_m 55 (by decide +kernel) rfl, by decide +kernel, by decide +kernel, by decide +kernel⟩
theorem cv_X4_112 : mCv RX4 112 yX4_drops 2 := ⟨wa_m 902 (by decide +kernel) rfl, wa_m 904 (by decide +kernel) rfl, wa_m 34 (by decide +kernel) rfl, wa_m 55 (by decide +kernel) rfl, by decide +kernel, by decide +kernel, by decide +kernel⟩
theorem cv_X4_115 : mCv RX4 115 yX4_mends 1 := ⟨wa_m 910 (by decide +kernel) rfl, wa_m 912 (by decide +kernel) rfl, wa_m 36 (by decide +kernel) rfl, wa_m 55 (by decide +kernel) rfl, by decide +kernel, by decide +kernel, by decide +kernel⟩
theorem cv_X4_118 : mCv RX4 118 yX4_goes 3 := ⟨wa_m 813 (by decide +kernel) rfl, wa_m 815 (by decide +kernel) rfl, wa_m 16 (by decide +kernel) rfl, wa_m 55 (by decide +kernel) rfl, by decide +kernel, by decide +kernel, by decide +kernel⟩
theorem cv_X4_125 : mCv RX4 125 yX4_finds 2 := ⟨wa_m 828 (by decide +kernel) rfl, wa_m 830 (by decide +kernel) rfl, wa_m 17 (by decide +kernel) rfl, wa_m 55 (by decide +kernel) rfl, by decide +kernel, by decide +kernel, by decide +kernel⟩
theorem cv_X4_128 : mCv RX4 128 yX4_writesWay 0 := ⟨wa_m 840 (by decide +kernel) rfl, wa_m 842 (by decide +kernel) rfl, wa_m 20 (by decide +kernel) rfl, wa_m 55 (by decide +kernel) rfl, by decide +kernel, by decide +kernel, by decide +kernel⟩
theorem cv_X4_131 : mCv RX4 131 yX4_place 2 := ⟨wa_m 878 (by decide +kernel) rfl, wa_m 880 (by decide +kernel) rfl, wa_m 29 (by decide +kernel) rfl, wa_m 55 (by decide +kernel) rfl, by decide +kernel, by decide +kernel, by decide +kernel⟩
theorem cv_X4_134 : mCv RX4 134 yX4_has 3 := ⟨wa_m 882 (by decide +kernel) rfl, wa_m 884 (by decide +kernel) rfl, wa_m 30 (by decide +kernel) rfl, wa_m 55 (by decide +kernel) rfl, by decide +kernel, by decide +kernel, by decide +kernel⟩
theorem cv_X4_137 : mCv RX4 137 yX4_splits 0 := ⟨wa_m 890 (by decide +kernel) rfl, wa_m 892 (by decide +kernel) rfl, wa_m 32 (by decide +kernel) rfl, wa_m 55 (by decide +kernel) rfl, by decide +kernel, by decide +kernel, by decide +kernel⟩
theorem cv_X4_140 : mCv RX4 140 yX4_joins 0 := ⟨wa_m 906 (by decide +kernel) rfl, wa_m 908 (by decide +kernel) rfl, wa_m 35 (by decide +kernel) rfl, wa_m 55 (by decide +kernel) rfl, by decide +kernel, by decide +kernel, by decide +kernel⟩
theorem cv_X4_147 : mCv RX4 147 yX4_keys 1 := ⟨wa_m 926 (by decide +kernel) rfl, wa_m 928 (by decide +kernel) rfl, wa_m 39 (by decide +kernel) rfl, wa_m 55 (by decide +kernel) rfl, by decide +kernel, by decide +kernel, by decide +kernel⟩
theorem cv_X4_153 : mCv RX4 153 yX4_word 1 := ⟨wa_m 922 (by decide +kernel) rfl, wa_m 924 (by decide +kernel) rfl, wa_m 38 (by decide +kernel) rfl, wa_m 55 (by decide +kernel) rfl, by decide +kernel, by decide +kernel, by decide +kernel⟩
theorem cv_X4_157 : mCv RX4 157 yX4_writes 1 := ⟨wa_m 918 (by decide +kernel) rfl, wa_m 920 (by decide +kernel) rfl, wa_m 37 (by decide +kernel) rfl, wa_m 55 (by decide +kernel) rfl, by decide +kernel, by decide +kernel, by decide +kernel⟩
theorem cv_X4_160 : mCv RX4 160 yX4_reads 1 := ⟨wa_m 934 (by decide +kernel) rfl, wa_m 936 (by decide +kernel) rfl, wa_m 41 (by decide +kernel) rfl, wa_m 55 (by decide +kernel) rfl, by decide +kernel, by decide +kernel, by decide +kernel⟩
theorem cv_X4_163 : mCv RX4 163 yX4_isReader 1 := ⟨wa_m 950 (by decide +kernel) rfl, wa_m 952 (by decide +kernel) rfl, wa_m 42 (by decide +kernel) rfl, wa_m 55 (by decide +kernel) rfl, by decide +kernel, by decide +kernel, by decide +kernel⟩
theorem cv_X4_166 : mCv RX4 166 yX4_held 1 := ⟨wa_m 954 (by decide +kernel) rfl, wa_m 956 (by decide +kernel) rfl, wa_m 43 (by decide +kernel) rfl, wa_m 55 (by decide +kernel) rfl, by decide +kernel, by decide +kernel, by decide +kernel⟩
theorem cv_X4_169 : mCv RX4 169 yX4_below 2 := ⟨wa_m 930 (by decide +kernel) rfl, wa_m 932 (by decide +kernel) rfl, wa_m 40 (by decide +kernel) rfl, wa_m 55 (by decide +kernel) rfl, by decide +kernel, by decide +kernel, by decide +kernel⟩
theorem cv_X4_172 : mCv RX4 172 yX4_isView 1 := ⟨wa_m 970 (by decide +kernel) rfl, wa_m 972 (by decide +kernel) rfl, wa_m 44 (by decide +kernel) rfl, wa_m 55 (by decide +kernel) rfl, by decide +kernel, by decide +kernel, by decide +kernel⟩
theorem cv_X4_175 : mCv RX4 175 yX4_top 1 := ⟨wa_m 978 (by decide +kernel) rfl, wa_m 980 (by decide +kernel) rfl, wa_m 45 (by decide +kernel) rfl, wa_m 55 (by decide +kernel) rfl, by decide +kernel, by decide +kernel, by decide +kernel⟩
theorem cv_X4_178 : mCv RX4 178 yX4_shared 1 := ⟨wa_m 1006 (by decide +kernel) rfl, wa_m 1008 (by decide +kernel) rfl, wa_m 46 (by decide +kernel) rfl, wa_m 55 (by decide +kernel) rfl, by decide +kernel, by decide +kernel, by decide +kernel⟩
theorem cv_X4_181 : mCv RX4 181 yX4_inUse 1 := ⟨wa_m 1014 (by decide +kernel) rfl, wa_m 1016 (by decide +kernel) rfl, wa_m 47 (by decide +kernel) rfl, wa_m 55 (by decide +kernel) rfl, by decide +kernel, by decide +kernel, by decide +kernel⟩
theorem cv_X4_184 : mCv RX4 184 yX4_isEntry 2 := ⟨wa_m 1034 (by decide +kernel) rfl, wa_m 1036 (by decide +kernel) rfl, wa_m 48 (by decide +kernel) rfl, wa_m 55 (by decide +kernel) rfl, by decide +kernel, by decide +kernel, by decide +kernel⟩
theorem cv_X4_190 : mCv RX4 190 yX4_restarts 0 := ⟨wa_m 1063 (by decide +kernel) rfl, wa_m 1065 (by decide +kernel) rfl, wa_m 49 (by decide +kernel) rfl, wa_m 55 (by decide +kernel) rfl, by decide +kernel, by decide +kernel, by decide +kernel⟩
theorem ta_of {l : List Jvm.Cond} {u : Jvm.Cond} (h : l.all (fun w => (decide (w = u) || decide (w ∈ mDe)) || (decide (w ∈ lw_tbl) && goodWord w)) = true) : ∀ x ∈ l, x ∈ WA ∨ x = u ∨ x ∈ mDe := fun x hx => by
  have h1 := List.all_eq_true.mp h x hx
  simp only [Bool.or_eq_true, Bool.and_eq_true, decide_eq_true_eq] at h1
  rcases h1 with (h1 | h1) | h1
  · exact Or.inr (Or.inl h1)
  · exact Or.inr (Or.inr h1)
  · exact Or.inl (List.mem_filter.mpr h1)
theorem ta_66 : ∀ x ∈ vx_atS RX3 66 "java/lang/IllegalStateException" mNm, x ∈ WA ∨ x = .castable "java/lang/IllegalStateException" "java/lang/IllegalStateException" ∨ x ∈ mDe := ta_of (by decide +kernel)
theorem ta_152 : ∀ x ∈ vx_atS RX3 152 "java/lang/IndexOutOfBoundsException" mNm, x ∈ WA ∨ x = .castable "java/lang/IndexOutOfBoundsException" "java/lang/IndexOutOfBoundsException" ∨ x ∈ mDe := ta_of (by decide +kernel)
theorem ta_200 : ∀ x ∈ vx_atS RX3 200 "java/lang/IllegalArgumentException" mNm, x ∈ WA ∨ x = .castable "java/lang/IllegalArgumentException" "java/lang/IllegalArgumentException" ∨ x ∈ mDe := ta_of (by decide +kernel)
theorem ta_232 : ∀ x ∈ (nAll RX3 232).filter vx_no, x ∈ WA ∨ x = .castable nX nX ∨ x ∈ mDe := ta_of (by decide +kernel)
theorem th_X3_64 : mTh RX3 62 64 66 "java/lang/IllegalStateException" "there is a batch" := ⟨by decide +kernel, by decide +kernel, rfl, by decide +kernel, wa_m 270 (by decide +kernel) rfl, wa_m 59 (by decide +kernel) rfl, ta_66, by decide +kernel⟩
theorem th_X3_113 : mTh RX3 62 113 66 "java/lang/IllegalStateException" "all readers are open" := ⟨by decide +kernel, by decide +kernel, rfl, by decide +kernel, wa_m 270 (by decide +kernel) rfl, wa_m 59 (by decide +kernel) rfl, ta_66, by decide +kernel⟩
theorem th_X3_189 : mTh RX3 62 189 66 "java/lang/IllegalStateException" "the other slot is torn" := ⟨by decide +kernel, by decide +kernel, rfl, by decide +kernel, wa_m 270 (by decide +kernel) rfl, wa_m 59 (by decide +kernel) rfl, ta_66, by decide +kernel⟩
theorem th_X3_201 : mTh RX3 62 201 66 "java/lang/IllegalStateException" "no slot would be whole" := ⟨by decide +kernel, by decide +kernel, rfl, by decide +kernel, wa_m 270 (by decide +kernel) rfl, wa_m 59 (by decide +kernel) rfl, ta_66, by decide +kernel⟩
theorem th_X3_208 : mTh RX3 62 208 66 "java/lang/IllegalStateException" "there is no batch" := ⟨by decide +kernel, by decide +kernel, rfl, by decide +kernel, wa_m 270 (by decide +kernel) rfl, wa_m 59 (by decide +kernel) rfl, ta_66, by decide +kernel⟩
theorem th_X3_150 : mTh RX3 148 150 152 "java/lang/IndexOutOfBoundsException" "no such page" := ⟨by decide +kernel, by decide +kernel, rfl, by decide +kernel, wa_m 560 (by decide +kernel) rfl, wa_m 62 (by decide +kernel) rfl, ta_152, by decide +kernel⟩
theorem th_X3_180 : mTh RX3 148 180 152 "java/lang/IndexOutOfBoundsException" "no such word" := ⟨by decide +kernel, by decide +kernel, rfl, by decide +kernel, wa_m 560 (by decide +kernel) rfl, wa_m 62 (by decide +kernel) rfl, ta_152, by decide +kernel⟩
theorem th_X3_210 : mTh RX3 148 210 152 "java/lang/IndexOutOfBoundsException" "no open reader has this number" := ⟨by decide +kernel, by decide +kernel, rfl, by decide +kernel, wa_m 560 (by decide +kernel) rfl, wa_m 62 (by decide +kernel) rfl, ta_152, by decide +kernel⟩
theorem th_X3_212 : mTh RX3 148 212 152 "java/lang/IndexOutOfBoundsException" "no such page in use" := ⟨by decide +kernel, by decide +kernel, rfl, by decide +kernel, wa_m 560 (by decide +kernel) rfl, wa_m 62 (by decide +kernel) rfl, ta_152, by decide +kernel⟩
theorem th_X3_214 : mTh RX3 148 214 152 "java/lang/IndexOutOfBoundsException" "no such entry" := ⟨by decide +kernel, by decide +kernel, rfl, by decide +kernel, wa_m 560 (by decide +kernel) rfl, wa_m 62 (by decide +kernel) rfl, ta_152, by decide +kernel⟩
theorem th_X3_216 : mTh RX3 148 216 152 "java/lang/IndexOutOfBoundsException" "no such slot" := ⟨by decide +kernel, by decide +kernel, rfl, by decide +kernel, wa_m 560 (by decide +kernel) rfl, wa_m 62 (by decide +kernel) rfl, ta_152, by decide +kernel⟩
theorem th_X3_198 : mTh RX3 196 198 200 "java/lang/IllegalArgumentException" "words is out of range" := ⟨by decide +kernel, by decide +kernel, rfl, by decide +kernel, wa_m 354 (by decide +kernel) rfl, wa_m 60 (by decide +kernel) rfl, ta_200, by decide +kernel⟩
theorem th_X3_206 : mTh RX3 196 206 200 "java/lang/IllegalArgumentException" "key is not 0 to 99" := ⟨by decide +kernel, by decide +kernel, rfl, by decide +kernel, wa_m 354 (by decide +kernel) rfl, wa_m 60 (by decide +kernel) rfl, ta_200, by decide +kernel⟩
theorem tn_X3_230 : mTn RX3 228 230 232 "the tree does not have the key" := ⟨by decide +kernel, rfl, wa_m 471 (by decide +kernel) rfl, wa_m 61 (by decide +kernel) rfl, ta_232, by decide +kernel⟩
theorem ka_boolean : Jvm.Cond.arrayClass .boolean ∈ WA := wa_m 106 (by decide +kernel) rfl
theorem ka_byte : Jvm.Cond.arrayClass .byte ∈ WA := wa_m 338 (by decide +kernel) rfl
theorem ka_int : Jvm.Cond.arrayClass .int ∈ WA := wa_m 105 (by decide +kernel) rfl
theorem ka_long : Jvm.Cond.arrayClass .long ∈ WA := wa_m 197 (by decide +kernel) rfl
theorem kc_X3_148 : Jvm.Cond.classLink RX3 148 "java/lang/IndexOutOfBoundsException" ∈ WA := wa_m 560 (by decide +kernel) rfl
theorem kc_X3_16 : Jvm.Cond.classLink RX3 16 "Copperleaf$State" ∈ WA := wa_m 107 (by decide +kernel) rfl
theorem kc_X3_196 : Jvm.Cond.classLink RX3 196 "java/lang/IllegalArgumentException" ∈ WA := wa_m 354 (by decide +kernel) rfl
theorem kc_X3_228 : Jvm.Cond.classLink RX3 228 "java/util/NoSuchElementException" ∈ WA := wa_m 471 (by decide +kernel) rfl
theorem kc_X3_26 : Jvm.Cond.classLink RX3 26 "Copperleaf$Writer" ∈ WA := wa_m 132 (by decide +kernel) rfl
theorem kc_X3_62 : Jvm.Cond.classLink RX3 62 "java/lang/IllegalStateException" ∈ WA := wa_m 270 (by decide +kernel) rfl
theorem kc_X3_9 : Jvm.Cond.classLink RX3 9 "Copperleaf$Pages" ∈ WA := wa_m 71 (by decide +kernel) rfl
theorem kc_L_13 : Jvm.Cond.classLink RL 13 "java/lang/IllegalStateException" ∈ WA := wa_m 265 (by decide +kernel) rfl
theorem kc_L_19 : Jvm.Cond.classLink RL 19 "java/lang/IllegalArgumentException" ∈ WA := wa_m 346 (by decide +kernel) rfl
theorem kc_L_25 : Jvm.Cond.classLink RL 25 "java/util/NoSuchElementException" ∈ WA := wa_m 455 (by decide +kernel) rfl
theorem kc_L_39 : Jvm.Cond.classLink RL 39 "java/lang/IndexOutOfBoundsException" ∈ WA := wa_m 551 (by decide +kernel) rfl
theorem kc_L_8 : Jvm.Cond.classLink RL 8 "Copperleaf" ∈ WA := wa_m 63 (by decide +kernel) rfl
theorem kc_L_96 : Jvm.Cond.classLink RL 96 "CopperleafModel" ∈ WA := wa_m 740 (by decide +kernel) rfl
theorem kl_X3_191 : Jvm.Cond.constantLong RX3 191 (-1 : Int64) ∈ WA := wa_m 729 (by decide +kernel) rfl
theorem kl_X3_240 : Jvm.Cond.constantLong RX3 240 (1000003 : Int64) ∈ WA := wa_m 249 (by decide +kernel) rfl
theorem kl_X3_242 : Jvm.Cond.constantLong RX3 242 (1009 : Int64) ∈ WA := wa_m 250 (by decide +kernel) rfl
theorem kl_X4_143 : Jvm.Cond.constantLong RX4 143 (1000003 : Int64) ∈ WA := wa_m 864 (by decide +kernel) rfl
theorem kl_X4_145 : Jvm.Cond.constantLong RX4 145 (1009 : Int64) ∈ WA := wa_m 865 (by decide +kernel) rfl
theorem kl_X4_188 : Jvm.Cond.constantLong RX4 188 (-1 : Int64) ∈ WA := wa_m 1058 (by decide +kernel) rfl
theorem kj_X0 : Jvm.Cond.initialized RX0 ∈ WA := wa_m 52 (by decide +kernel) rfl
theorem kj_X1 : Jvm.Cond.initialized RX1 ∈ WA := wa_m 53 (by decide +kernel) rfl
theorem kj_X2 : Jvm.Cond.initialized RX2 ∈ WA := wa_m 54 (by decide +kernel) rfl
theorem kj_X3 : Jvm.Cond.initialized RX3 ∈ WA := wa_m 51 (by decide +kernel) rfl
theorem kj_L : Jvm.Cond.initialized RL ∈ WA := wa_m 50 (by decide +kernel) rfl
theorem kj_X4 : Jvm.Cond.initialized RX4 ∈ WA := wa_m 55 (by decide +kernel) rfl
theorem kn_X0 : Jvm.Cond.instantiable RX0 8 ∈ WA := wa_m 72 (by decide +kernel) rfl
theorem kn_X1 : Jvm.Cond.instantiable RX1 4 ∈ WA := wa_m 108 (by decide +kernel) rfl
theorem kn_X2 : Jvm.Cond.instantiable RX2 5 ∈ WA := wa_m 133 (by decide +kernel) rfl
theorem kn_X3 : Jvm.Cond.instantiable RX3 7 ∈ WA := wa_m 64 (by decide +kernel) rfl
theorem kn_X4 : Jvm.Cond.instantiable RX4 18 ∈ WA := wa_m 741 (by decide +kernel) rfl
theorem ko_X0 : Jvm.Cond.methodLink RX0 3 objectInit ∈ WA := wa_m 76 (by decide +kernel) rfl
theorem ko_X1 : Jvm.Cond.methodLink RX1 1 objectInit ∈ WA := wa_m 112 (by decide +kernel) rfl
theorem ko_X2 : Jvm.Cond.methodLink RX2 3 objectInit ∈ WA := wa_m 137 (by decide +kernel) rfl
theorem ko_X3 : Jvm.Cond.methodLink RX3 3 objectInit ∈ WA := wa_m 68 (by decide +kernel) rfl
theorem ko_X4 : Jvm.Cond.methodLink RX4 1 objectInit ∈ WA := wa_m 745 (by decide +kernel) rfl
theorem ko_i : Jvm.Cond.instanceMethod objectInit ∈ WA := wa_m 69 (by decide +kernel) rfl
theorem ko_c : Jvm.Cond.code objectInit ⟨#[0xb1]⟩ 1 none ∈ WA := wa_m 70 (by decide +kernel) rfl
end
section
/-! the call sites, by program (wip/whole/gen2.py) -/
theorem lk_X0_setWord_2 : mLt m_X0_setWord m_X0_isCell 2 2 := ⟨37, dX0_setWord_2, cs_X0_37, ok_X0_isCell, rfl, rfl, ⟨Nat.le_of_ble_eq_true rfl, Nat.le_of_ble_eq_true rfl⟩⟩
theorem lk_X0_keyOf_17 : mLv m_X0_keyOf m_X0_isLeaf 17 1 := ⟨41, dX0_keyOf_17, cv_X0_41, ok_X0_isLeaf, rfl, rfl, ⟨Nat.le_of_ble_eq_true rfl, Nat.le_of_ble_eq_true rfl⟩⟩
theorem lk_X0_keyOf_27 : mLv m_X0_keyOf m_X0_wordOf 27 2 := ⟨45, dX0_keyOf_27, cv_X0_45, ok_X0_wordOf, rfl, rfl, ⟨Nat.le_of_ble_eq_true rfl, Nat.le_of_ble_eq_true rfl⟩⟩
theorem lk_X0_keyOf_43 : mLt m_X0_keyOf m_X0_isCell 43 2 := ⟨37, dX0_keyOf_43, cs_X0_37, ok_X0_isCell, rfl, rfl, ⟨Nat.le_of_ble_eq_true rfl, Nat.le_of_ble_eq_true rfl⟩⟩
theorem lk_X0_placeOf_10 : mLv m_X0_placeOf m_X0_countOf 10 1 := ⟨49, dX0_placeOf_10, cv_X0_49, ok_X0_countOf, rfl, rfl, ⟨Nat.le_of_ble_eq_true rfl, Nat.le_of_ble_eq_true rfl⟩⟩
theorem lk_X0_placeOf_19 : mLv m_X0_placeOf m_X0_keyOf 19 2 := ⟨53, dX0_placeOf_19, cv_X0_53, ok_X0_keyOf, rfl, rfl, ⟨Nat.le_of_ble_eq_true rfl, Nat.le_of_ble_eq_true rfl⟩⟩
theorem lk_X0_holds_3 : mLv m_X0_holds m_X0_countOf 3 1 := ⟨49, dX0_holds_3, cv_X0_49, ok_X0_countOf, rfl, rfl, ⟨Nat.le_of_ble_eq_true rfl, Nat.le_of_ble_eq_true rfl⟩⟩
theorem lk_X0_holds_12 : mLv m_X0_holds m_X0_keyOf 12 2 := ⟨53, dX0_holds_12, cv_X0_53, ok_X0_keyOf, rfl, rfl, ⟨Nat.le_of_ble_eq_true rfl, Nat.le_of_ble_eq_true rfl⟩⟩
theorem lk_X0_entryFor_14 : mLv m_X0_entryFor m_X0_countOf 14 1 := ⟨49, dX0_entryFor_14, cv_X0_49, ok_X0_countOf, rfl, rfl, ⟨Nat.le_of_ble_eq_true rfl, Nat.le_of_ble_eq_true rfl⟩⟩
theorem lk_X0_entryFor_25 : mLv m_X0_entryFor m_X0_keyOf 25 2 := ⟨53, dX0_entryFor_25, cv_X0_53, ok_X0_keyOf, rfl, rfl, ⟨Nat.le_of_ble_eq_true rfl, Nat.le_of_ble_eq_true rfl⟩⟩
theorem lk_X0_leafFor_14 : mLv m_X0_leafFor m_X0_isLeaf 14 1 := ⟨41, dX0_leafFor_14, cv_X0_41, ok_X0_isLeaf, rfl, rfl, ⟨Nat.le_of_ble_eq_true rfl, Nat.le_of_ble_eq_true rfl⟩⟩
theorem lk_X0_leafFor_25 : mLv m_X0_leafFor m_X0_entryFor 25 2 := ⟨56, dX0_leafFor_25, cv_X0_56, ok_X0_entryFor, rfl, rfl, ⟨Nat.le_of_ble_eq_true rfl, Nat.le_of_ble_eq_true rfl⟩⟩
theorem lk_X0_leafFor_28 : mLv m_X0_leafFor m_X0_wordOf 28 2 := ⟨45, dX0_leafFor_28, cv_X0_45, ok_X0_wordOf, rfl, rfl, ⟨Nat.le_of_ble_eq_true rfl, Nat.le_of_ble_eq_true rfl⟩⟩
theorem lk_X0_levelsFrom_12 : mLv m_X0_levelsFrom m_X0_isLeaf 12 1 := ⟨41, dX0_levelsFrom_12, cv_X0_41, ok_X0_isLeaf, rfl, rfl, ⟨Nat.le_of_ble_eq_true rfl, Nat.le_of_ble_eq_true rfl⟩⟩
theorem lk_X0_levelsFrom_21 : mLv m_X0_levelsFrom m_X0_wordOf 21 2 := ⟨45, dX0_levelsFrom_21, cv_X0_45, ok_X0_wordOf, rfl, rfl, ⟨Nat.le_of_ble_eq_true rfl, Nat.le_of_ble_eq_true rfl⟩⟩
theorem lk_X0_listTree_34 : mLv m_X0_listTree m_X0_isLeaf 34 1 := ⟨41, dX0_listTree_34, cv_X0_41, ok_X0_isLeaf, rfl, rfl, ⟨Nat.le_of_ble_eq_true rfl, Nat.le_of_ble_eq_true rfl⟩⟩
theorem lk_X0_listTree_47 : mLv m_X0_listTree m_X0_countOf 47 1 := ⟨49, dX0_listTree_47, cv_X0_49, ok_X0_countOf, rfl, rfl, ⟨Nat.le_of_ble_eq_true rfl, Nat.le_of_ble_eq_true rfl⟩⟩
theorem lk_X0_listTree_79 : mLv m_X0_listTree m_X0_wordOf 79 2 := ⟨45, dX0_listTree_79, cv_X0_45, ok_X0_wordOf, rfl, rfl, ⟨Nat.le_of_ble_eq_true rfl, Nat.le_of_ble_eq_true rfl⟩⟩
theorem lk_X0_markTree_2 : mLv m_X0_markTree m_X0_listTree 2 1 := ⟨59, dX0_markTree_2, cv_X0_59, ok_X0_listTree, rfl, rfl, ⟨Nat.le_of_ble_eq_true rfl, Nat.le_of_ble_eq_true rfl⟩⟩
theorem lk_X0_countMarked_2 : mLv m_X0_countMarked m_X0_listTree 2 1 := ⟨59, dX0_countMarked_2, cv_X0_59, ok_X0_listTree, rfl, rfl, ⟨Nat.le_of_ble_eq_true rfl, Nat.le_of_ble_eq_true rfl⟩⟩
theorem lk_X0_leastKeyFrom_2 : mLv m_X0_leastKeyFrom m_X0_listTree 2 1 := ⟨59, dX0_leastKeyFrom_2, cv_X0_59, ok_X0_listTree, rfl, rfl, ⟨Nat.le_of_ble_eq_true rfl, Nat.le_of_ble_eq_true rfl⟩⟩
theorem lk_X0_leastKeyFrom_35 : mLv m_X0_leastKeyFrom m_X0_isLeaf 35 1 := ⟨41, dX0_leastKeyFrom_35, cv_X0_41, ok_X0_isLeaf, rfl, rfl, ⟨Nat.le_of_ble_eq_true rfl, Nat.le_of_ble_eq_true rfl⟩⟩
theorem lk_X0_leastKeyFrom_45 : mLv m_X0_leastKeyFrom m_X0_placeOf 45 2 := ⟨62, dX0_leastKeyFrom_45, cv_X0_62, ok_X0_placeOf, rfl, rfl, ⟨Nat.le_of_ble_eq_true rfl, Nat.le_of_ble_eq_true rfl⟩⟩
theorem lk_X0_leastKeyFrom_59 : mLv m_X0_leastKeyFrom m_X0_countOf 59 1 := ⟨49, dX0_leastKeyFrom_59, cv_X0_49, ok_X0_countOf, rfl, rfl, ⟨Nat.le_of_ble_eq_true rfl, Nat.le_of_ble_eq_true rfl⟩⟩
theorem lk_X0_leastKeyFrom_70 : mLv m_X0_leastKeyFrom m_X0_keyOf 70 2 := ⟨53, dX0_leastKeyFrom_70, cv_X0_53, ok_X0_keyOf, rfl, rfl, ⟨Nat.le_of_ble_eq_true rfl, Nat.le_of_ble_eq_true rfl⟩⟩
theorem lk_X0_keysBelow_2 : mLv m_X0_keysBelow m_X0_listTree 2 1 := ⟨59, dX0_keysBelow_2, cv_X0_59, ok_X0_listTree, rfl, rfl, ⟨Nat.le_of_ble_eq_true rfl, Nat.le_of_ble_eq_true rfl⟩⟩
theorem lk_X0_keysBelow_34 : mLv m_X0_keysBelow m_X0_isLeaf 34 1 := ⟨41, dX0_keysBelow_34, cv_X0_41, ok_X0_isLeaf, rfl, rfl, ⟨Nat.le_of_ble_eq_true rfl, Nat.le_of_ble_eq_true rfl⟩⟩
theorem lk_X0_keysBelow_51 : mLv m_X0_keysBelow m_X0_placeOf 51 2 := ⟨62, dX0_keysBelow_51, cv_X0_62, ok_X0_placeOf, rfl, rfl, ⟨Nat.le_of_ble_eq_true rfl, Nat.le_of_ble_eq_true rfl⟩⟩
theorem lk_X0_take_1 : mLv m_X0_take m_X0_leastVacant 1 0 := ⟨65, dX0_take_1, cv_X0_65, ok_X0_leastVacant, rfl, rfl, ⟨Nat.le_of_ble_eq_true rfl, Nat.le_of_ble_eq_true rfl⟩⟩
theorem lk_X0_writeAnew_25 : mLv m_X0_writeAnew m_X0_isLeaf 25 1 := ⟨41, dX0_writeAnew_25, cv_X0_41, ok_X0_isLeaf, rfl, rfl, ⟨Nat.le_of_ble_eq_true rfl, Nat.le_of_ble_eq_true rfl⟩⟩
theorem lk_X0_writeAnew_28 : mLv m_X0_writeAnew m_X0_take 28 1 := ⟨69, dX0_writeAnew_28, cv_X0_69, ok_X0_take, rfl, rfl, ⟨Nat.le_of_ble_eq_true rfl, Nat.le_of_ble_eq_true rfl⟩⟩
theorem lk_X0_writeAnew_35 : mLv m_X0_writeAnew m_X0_append 35 2 := ⟨73, dX0_writeAnew_35, cv_X0_73, ok_X0_append, rfl, rfl, ⟨Nat.le_of_ble_eq_true rfl, Nat.le_of_ble_eq_true rfl⟩⟩
theorem lk_X0_insert_2 : mLv m_X0_insert m_X0_countOf 2 1 := ⟨49, dX0_insert_2, cv_X0_49, ok_X0_countOf, rfl, rfl, ⟨Nat.le_of_ble_eq_true rfl, Nat.le_of_ble_eq_true rfl⟩⟩
theorem lk_X0_insert_9 : mLt m_X0_insert m_X0_isCell 9 2 := ⟨37, dX0_insert_9, cs_X0_37, ok_X0_isCell, rfl, rfl, ⟨Nat.le_of_ble_eq_true rfl, Nat.le_of_ble_eq_true rfl⟩⟩
theorem lk_X0_remove_2 : mLv m_X0_remove m_X0_countOf 2 1 := ⟨49, dX0_remove_2, cv_X0_49, ok_X0_countOf, rfl, rfl, ⟨Nat.le_of_ble_eq_true rfl, Nat.le_of_ble_eq_true rfl⟩⟩
theorem lk_X0_remove_8 : mLt m_X0_remove m_X0_isCell 8 2 := ⟨37, dX0_remove_8, cs_X0_37, ok_X0_isCell, rfl, rfl, ⟨Nat.le_of_ble_eq_true rfl, Nat.le_of_ble_eq_true rfl⟩⟩
theorem lk_X0_append_2 : mLv m_X0_append m_X0_countOf 2 1 := ⟨49, dX0_append_2, cv_X0_49, ok_X0_countOf, rfl, rfl, ⟨Nat.le_of_ble_eq_true rfl, Nat.le_of_ble_eq_true rfl⟩⟩
theorem lk_X0_append_8 : mLv m_X0_append m_X0_countOf 8 1 := ⟨49, dX0_append_8, cv_X0_49, ok_X0_countOf, rfl, rfl, ⟨Nat.le_of_ble_eq_true rfl, Nat.le_of_ble_eq_true rfl⟩⟩
theorem lk_X0_append_18 : mLt m_X0_append m_X0_isCell 18 2 := ⟨37, dX0_append_18, cs_X0_37, ok_X0_isCell, rfl, rfl, ⟨Nat.le_of_ble_eq_true rfl, Nat.le_of_ble_eq_true rfl⟩⟩
theorem lk_X0_append_31 : mLt m_X0_append m_X0_isCell 31 2 := ⟨37, dX0_append_31, cs_X0_37, ok_X0_isCell, rfl, rfl, ⟨Nat.le_of_ble_eq_true rfl, Nat.le_of_ble_eq_true rfl⟩⟩
theorem lk_X0_move_7 : mLv m_X0_move m_X0_keyOf 7 2 := ⟨53, dX0_move_7, cv_X0_53, ok_X0_keyOf, rfl, rfl, ⟨Nat.le_of_ble_eq_true rfl, Nat.le_of_ble_eq_true rfl⟩⟩
theorem lk_X0_move_13 : mLv m_X0_move m_X0_wordOf 13 2 := ⟨45, dX0_move_13, cv_X0_45, ok_X0_wordOf, rfl, rfl, ⟨Nat.le_of_ble_eq_true rfl, Nat.le_of_ble_eq_true rfl⟩⟩
theorem lk_X0_move_16 : mLv m_X0_move m_X0_insert 16 4 := ⟨77, dX0_move_16, cv_X0_77, ok_X0_insert, rfl, rfl, ⟨Nat.le_of_ble_eq_true rfl, Nat.le_of_ble_eq_true rfl⟩⟩
theorem lk_X0_move_22 : mLv m_X0_move m_X0_remove 22 2 := ⟨81, dX0_move_22, cv_X0_81, ok_X0_remove, rfl, rfl, ⟨Nat.le_of_ble_eq_true rfl, Nat.le_of_ble_eq_true rfl⟩⟩
theorem lk_X2_store_2 : mLv m_X2_store m_X2_writePath 2 1 := ⟨26, dX2_store_2, cv_X2_26, ok_X2_writePath, rfl, rfl, ⟨Nat.le_of_ble_eq_true rfl, Nat.le_of_ble_eq_true rfl⟩⟩
theorem lk_X2_store_12 : mLv m_X2_store m_X0_placeOf 12 2 := ⟨30, dX2_store_12, cv_X2_30, ok_X0_placeOf, rfl, rfl, ⟨Nat.le_of_ble_eq_true rfl, Nat.le_of_ble_eq_true rfl⟩⟩
theorem lk_X2_store_25 : mLv m_X2_store m_X0_holds 25 3 := ⟨36, dX2_store_25, cv_X2_36, ok_X0_holds, rfl, rfl, ⟨Nat.le_of_ble_eq_true rfl, Nat.le_of_ble_eq_true rfl⟩⟩
theorem lk_X2_store_39 : mLv m_X2_store m_X0_setWord 39 3 := ⟨40, dX2_store_39, cv_X2_40, ok_X0_setWord, rfl, rfl, ⟨Nat.le_of_ble_eq_true rfl, Nat.le_of_ble_eq_true rfl⟩⟩
theorem lk_X2_store_53 : mLv m_X2_store m_X0_insert 53 4 := ⟨44, dX2_store_53, cv_X2_44, ok_X0_insert, rfl, rfl, ⟨Nat.le_of_ble_eq_true rfl, Nat.le_of_ble_eq_true rfl⟩⟩
theorem lk_X2_store_70 : mLv m_X2_store m_X2_splitUpwards 70 0 := ⟨54, dX2_store_70, cv_X2_54, ok_X2_splitUpwards, rfl, rfl, ⟨Nat.le_of_ble_eq_true rfl, Nat.le_of_ble_eq_true rfl⟩⟩
theorem lk_X2_drop_2 : mLv m_X2_drop m_X2_writePath 2 1 := ⟨26, dX2_drop_2, cv_X2_26, ok_X2_writePath, rfl, rfl, ⟨Nat.le_of_ble_eq_true rfl, Nat.le_of_ble_eq_true rfl⟩⟩
theorem lk_X2_drop_17 : mLv m_X2_drop m_X0_placeOf 17 2 := ⟨30, dX2_drop_17, cv_X2_30, ok_X0_placeOf, rfl, rfl, ⟨Nat.le_of_ble_eq_true rfl, Nat.le_of_ble_eq_true rfl⟩⟩
theorem lk_X2_drop_20 : mLv m_X2_drop m_X0_remove 20 2 := ⟨57, dX2_drop_20, cv_X2_57, ok_X0_remove, rfl, rfl, ⟨Nat.le_of_ble_eq_true rfl, Nat.le_of_ble_eq_true rfl⟩⟩
theorem lk_X2_drop_61 : mLv m_X2_drop m_X0_countOf 61 1 := ⟨64, dX2_drop_61, cv_X2_64, ok_X0_countOf, rfl, rfl, ⟨Nat.le_of_ble_eq_true rfl, Nat.le_of_ble_eq_true rfl⟩⟩
theorem lk_X2_drop_85 : mLv m_X2_drop m_X2_mend 85 2 := ⟨67, dX2_drop_85, cv_X2_67, ok_X2_mend, rfl, rfl, ⟨Nat.le_of_ble_eq_true rfl, Nat.le_of_ble_eq_true rfl⟩⟩
theorem lk_X2_drop_95 : mLv m_X2_drop m_X2_shrinkRoot 95 0 := ⟨70, dX2_drop_95, cv_X2_70, ok_X2_shrinkRoot, rfl, rfl, ⟨Nat.le_of_ble_eq_true rfl, Nat.le_of_ble_eq_true rfl⟩⟩
theorem lk_X2_writePath_15 : mLv m_X2_writePath m_X0_writeAnew 15 1 := ⟨76, dX2_writePath_15, cv_X2_76, ok_X0_writeAnew, rfl, rfl, ⟨Nat.le_of_ble_eq_true rfl, Nat.le_of_ble_eq_true rfl⟩⟩
theorem lk_X2_writePath_51 : mLv m_X2_writePath m_X0_isLeaf 51 1 := ⟨79, dX2_writePath_51, cv_X2_79, ok_X0_isLeaf, rfl, rfl, ⟨Nat.le_of_ble_eq_true rfl, Nat.le_of_ble_eq_true rfl⟩⟩
theorem lk_X2_writePath_63 : mLv m_X2_writePath m_X0_entryFor 63 2 := ⟨83, dX2_writePath_63, cv_X2_83, ok_X0_entryFor, rfl, rfl, ⟨Nat.le_of_ble_eq_true rfl, Nat.le_of_ble_eq_true rfl⟩⟩
theorem lk_X2_writePath_72 : mLv m_X2_writePath m_X2_writeBelow 72 2 := ⟨86, dX2_writePath_72, cv_X2_86, ok_X2_writeBelow, rfl, rfl, ⟨Nat.le_of_ble_eq_true rfl, Nat.le_of_ble_eq_true rfl⟩⟩
theorem lk_X2_writePath_82 : mLv m_X2_writePath m_X0_wordOf 82 2 := ⟨89, dX2_writePath_82, cv_X2_89, ok_X0_wordOf, rfl, rfl, ⟨Nat.le_of_ble_eq_true rfl, Nat.le_of_ble_eq_true rfl⟩⟩
theorem lk_X2_splitUpwards_27 : mLv m_X2_splitUpwards m_X0_countOf 27 1 := ⟨64, dX2_splitUpwards_27, cv_X2_64, ok_X0_countOf, rfl, rfl, ⟨Nat.le_of_ble_eq_true rfl, Nat.le_of_ble_eq_true rfl⟩⟩
theorem lk_X2_splitUpwards_37 : mLv m_X2_splitUpwards m_X2_splitOff 37 1 := ⟨92, dX2_splitUpwards_37, cv_X2_92, ok_X2_splitOff, rfl, rfl, ⟨Nat.le_of_ble_eq_true rfl, Nat.le_of_ble_eq_true rfl⟩⟩
theorem lk_X2_splitUpwards_69 : mLv m_X2_splitUpwards m_X0_insert 69 4 := ⟨44, dX2_splitUpwards_69, cv_X2_44, ok_X0_insert, rfl, rfl, ⟨Nat.le_of_ble_eq_true rfl, Nat.le_of_ble_eq_true rfl⟩⟩
theorem lk_X2_splitUpwards_78 : mLv m_X2_splitUpwards m_X2_growRoot 78 2 := ⟨95, dX2_splitUpwards_78, cv_X2_95, ok_X2_growRoot, rfl, rfl, ⟨Nat.le_of_ble_eq_true rfl, Nat.le_of_ble_eq_true rfl⟩⟩
theorem lk_X2_splitOff_9 : mLv m_X2_splitOff m_X0_isLeaf 9 1 := ⟨79, dX2_splitOff_9, cv_X2_79, ok_X0_isLeaf, rfl, rfl, ⟨Nat.le_of_ble_eq_true rfl, Nat.le_of_ble_eq_true rfl⟩⟩
theorem lk_X2_splitOff_12 : mLv m_X2_splitOff m_X0_take 12 1 := ⟨98, dX2_splitOff_12, cv_X2_98, ok_X0_take, rfl, rfl, ⟨Nat.le_of_ble_eq_true rfl, Nat.le_of_ble_eq_true rfl⟩⟩
theorem lk_X2_splitOff_31 : mLv m_X2_splitOff m_X0_move 31 4 := ⟨102, dX2_splitOff_31, cv_X2_102, ok_X0_move, rfl, rfl, ⟨Nat.le_of_ble_eq_true rfl, Nat.le_of_ble_eq_true rfl⟩⟩
theorem lk_X2_growRoot_5 : mLv m_X2_growRoot m_X0_take 5 1 := ⟨98, dX2_growRoot_5, cv_X2_98, ok_X0_take, rfl, rfl, ⟨Nat.le_of_ble_eq_true rfl, Nat.le_of_ble_eq_true rfl⟩⟩
theorem lk_X2_growRoot_17 : mLv m_X2_growRoot m_X0_insert 17 4 := ⟨44, dX2_growRoot_17, cv_X2_44, ok_X0_insert, rfl, rfl, ⟨Nat.le_of_ble_eq_true rfl, Nat.le_of_ble_eq_true rfl⟩⟩
theorem lk_X2_growRoot_28 : mLv m_X2_growRoot m_X0_insert 28 4 := ⟨44, dX2_growRoot_28, cv_X2_44, ok_X0_insert, rfl, rfl, ⟨Nat.le_of_ble_eq_true rfl, Nat.le_of_ble_eq_true rfl⟩⟩
theorem lk_X2_mend_35 : mLv m_X2_mend m_X0_wordOf 35 2 := ⟨89, dX2_mend_35, cv_X2_89, ok_X0_wordOf, rfl, rfl, ⟨Nat.le_of_ble_eq_true rfl, Nat.le_of_ble_eq_true rfl⟩⟩
theorem lk_X2_mend_38 : mLv m_X2_mend m_X0_countOf 38 1 := ⟨64, dX2_mend_38, cv_X2_64, ok_X0_countOf, rfl, rfl, ⟨Nat.le_of_ble_eq_true rfl, Nat.le_of_ble_eq_true rfl⟩⟩
theorem lk_X2_mend_48 : mLv m_X2_mend m_X2_writeBelow 48 2 := ⟨86, dX2_mend_48, cv_X2_86, ok_X2_writeBelow, rfl, rfl, ⟨Nat.le_of_ble_eq_true rfl, Nat.le_of_ble_eq_true rfl⟩⟩
theorem lk_X2_mend_55 : mLv m_X2_mend m_X2_lend 55 3 := ⟨105, dX2_mend_55, cv_X2_105, ok_X2_lend, rfl, rfl, ⟨Nat.le_of_ble_eq_true rfl, Nat.le_of_ble_eq_true rfl⟩⟩
theorem lk_X2_mend_65 : mLv m_X2_mend m_X2_writeBelow 65 2 := ⟨86, dX2_mend_65, cv_X2_86, ok_X2_writeBelow, rfl, rfl, ⟨Nat.le_of_ble_eq_true rfl, Nat.le_of_ble_eq_true rfl⟩⟩
theorem lk_X2_mend_72 : mLv m_X2_mend m_X2_join 72 2 := ⟨108, dX2_mend_72, cv_X2_108, ok_X2_join, rfl, rfl, ⟨Nat.le_of_ble_eq_true rfl, Nat.le_of_ble_eq_true rfl⟩⟩
theorem lk_X2_writeBelow_16 : mLv m_X2_writeBelow m_X0_wordOf 16 2 := ⟨89, dX2_writeBelow_16, cv_X2_89, ok_X0_wordOf, rfl, rfl, ⟨Nat.le_of_ble_eq_true rfl, Nat.le_of_ble_eq_true rfl⟩⟩
theorem lk_X2_writeBelow_19 : mLv m_X2_writeBelow m_X0_writeAnew 19 1 := ⟨76, dX2_writeBelow_19, cv_X2_76, ok_X0_writeAnew, rfl, rfl, ⟨Nat.le_of_ble_eq_true rfl, Nat.le_of_ble_eq_true rfl⟩⟩
theorem lk_X2_writeBelow_22 : mLv m_X2_writeBelow m_X0_setWord 22 3 := ⟨40, dX2_writeBelow_22, cv_X2_40, ok_X0_setWord, rfl, rfl, ⟨Nat.le_of_ble_eq_true rfl, Nat.le_of_ble_eq_true rfl⟩⟩
theorem lk_X2_lend_6 : mLv m_X2_lend m_X0_wordOf 6 2 := ⟨89, dX2_lend_6, cv_X2_89, ok_X0_wordOf, rfl, rfl, ⟨Nat.le_of_ble_eq_true rfl, Nat.le_of_ble_eq_true rfl⟩⟩
theorem lk_X2_lend_17 : mLv m_X2_lend m_X0_wordOf 17 2 := ⟨89, dX2_lend_17, cv_X2_89, ok_X0_wordOf, rfl, rfl, ⟨Nat.le_of_ble_eq_true rfl, Nat.le_of_ble_eq_true rfl⟩⟩
theorem lk_X2_lend_39 : mLv m_X2_lend m_X0_countOf 39 1 := ⟨64, dX2_lend_39, cv_X2_64, ok_X0_countOf, rfl, rfl, ⟨Nat.le_of_ble_eq_true rfl, Nat.le_of_ble_eq_true rfl⟩⟩
theorem lk_X2_lend_47 : mLv m_X2_lend m_X0_move 47 4 := ⟨102, dX2_lend_47, cv_X2_102, ok_X0_move, rfl, rfl, ⟨Nat.le_of_ble_eq_true rfl, Nat.le_of_ble_eq_true rfl⟩⟩
theorem lk_X2_lend_68 : mLv m_X2_lend m_X0_countOf 68 1 := ⟨64, dX2_lend_68, cv_X2_64, ok_X0_countOf, rfl, rfl, ⟨Nat.le_of_ble_eq_true rfl, Nat.le_of_ble_eq_true rfl⟩⟩
theorem lk_X2_lend_71 : mLv m_X2_lend m_X0_move 71 4 := ⟨102, dX2_lend_71, cv_X2_102, ok_X0_move, rfl, rfl, ⟨Nat.le_of_ble_eq_true rfl, Nat.le_of_ble_eq_true rfl⟩⟩
theorem lk_X2_join_8 : mLv m_X2_join m_X0_wordOf 8 2 := ⟨89, dX2_join_8, cv_X2_89, ok_X0_wordOf, rfl, rfl, ⟨Nat.le_of_ble_eq_true rfl, Nat.le_of_ble_eq_true rfl⟩⟩
theorem lk_X2_join_23 : mLv m_X2_join m_X0_wordOf 23 2 := ⟨89, dX2_join_23, cv_X2_89, ok_X0_wordOf, rfl, rfl, ⟨Nat.le_of_ble_eq_true rfl, Nat.le_of_ble_eq_true rfl⟩⟩
theorem lk_X2_join_26 : mLv m_X2_join m_X0_append 26 2 := ⟨111, dX2_join_26, cv_X2_111, ok_X0_append, rfl, rfl, ⟨Nat.le_of_ble_eq_true rfl, Nat.le_of_ble_eq_true rfl⟩⟩
theorem lk_X2_join_37 : mLv m_X2_join m_X0_remove 37 2 := ⟨57, dX2_join_37, cv_X2_57, ok_X0_remove, rfl, rfl, ⟨Nat.le_of_ble_eq_true rfl, Nat.le_of_ble_eq_true rfl⟩⟩
theorem lk_X2_join_45 : mLv m_X2_join m_X0_leave 45 1 := ⟨114, dX2_join_45, cv_X2_114, ok_X0_leave, rfl, rfl, ⟨Nat.le_of_ble_eq_true rfl, Nat.le_of_ble_eq_true rfl⟩⟩
theorem lk_X2_shrinkRoot_13 : mLv m_X2_shrinkRoot m_X0_isLeaf 13 1 := ⟨79, dX2_shrinkRoot_13, cv_X2_79, ok_X0_isLeaf, rfl, rfl, ⟨Nat.le_of_ble_eq_true rfl, Nat.le_of_ble_eq_true rfl⟩⟩
theorem lk_X2_shrinkRoot_24 : mLv m_X2_shrinkRoot m_X0_countOf 24 1 := ⟨64, dX2_shrinkRoot_24, cv_X2_64, ok_X0_countOf, rfl, rfl, ⟨Nat.le_of_ble_eq_true rfl, Nat.le_of_ble_eq_true rfl⟩⟩
theorem lk_X2_shrinkRoot_41 : mLv m_X2_shrinkRoot m_X0_wordOf 41 2 := ⟨89, dX2_shrinkRoot_41, cv_X2_89, ok_X0_wordOf, rfl, rfl, ⟨Nat.le_of_ble_eq_true rfl, Nat.le_of_ble_eq_true rfl⟩⟩
theorem lk_X2_shrinkRoot_52 : mLv m_X2_shrinkRoot m_X0_leave 52 1 := ⟨114, dX2_shrinkRoot_52, cv_X2_114, ok_X0_leave, rfl, rfl, ⟨Nat.le_of_ble_eq_true rfl, Nat.le_of_ble_eq_true rfl⟩⟩
theorem lk_X3_init_121 : mLv m_X3_init m_X0_markTree 121 2 := ⟨54, dX3_init_121, cv_X3_54, ok_X0_markTree, rfl, rfl, ⟨Nat.le_of_ble_eq_true rfl, Nat.le_of_ble_eq_true rfl⟩⟩
theorem lk_X3_beginBatch_28 : mLv m_X3_beginBatch m_X1_become 28 1 := ⟨69, dX3_beginBatch_28, cv_X3_69, ok_X1_become, rfl, rfl, ⟨Nat.le_of_ble_eq_true rfl, Nat.le_of_ble_eq_true rfl⟩⟩
theorem lk_X3_put_1 : mLt m_X3_put m_X3_requireKey 1 1 := ⟨76, dX3_put_1, cs_X3_76, ok_X3_requireKey, rfl, rfl, ⟨Nat.le_of_ble_eq_true rfl, Nat.le_of_ble_eq_true rfl⟩⟩
theorem lk_X3_put_5 : mLv m_X3_put m_X3_requireBatch 5 0 := ⟨80, dX3_put_5, cv_X3_80, ok_X3_requireBatch, rfl, rfl, ⟨Nat.le_of_ble_eq_true rfl, Nat.le_of_ble_eq_true rfl⟩⟩
theorem lk_X3_put_14 : mLv m_X3_put m_X2_store 14 2 := ⟨83, dX3_put_14, cv_X3_83, ok_X2_store, rfl, rfl, ⟨Nat.le_of_ble_eq_true rfl, Nat.le_of_ble_eq_true rfl⟩⟩
theorem lk_X3_delete_1 : mLt m_X3_delete m_X3_requireKey 1 1 := ⟨76, dX3_delete_1, cs_X3_76, ok_X3_requireKey, rfl, rfl, ⟨Nat.le_of_ble_eq_true rfl, Nat.le_of_ble_eq_true rfl⟩⟩
theorem lk_X3_delete_5 : mLv m_X3_delete m_X3_requireBatch 5 0 := ⟨80, dX3_delete_5, cv_X3_80, ok_X3_requireBatch, rfl, rfl, ⟨Nat.le_of_ble_eq_true rfl, Nat.le_of_ble_eq_true rfl⟩⟩
theorem lk_X3_delete_14 : mLv m_X3_delete m_X3_valueIn 14 2 := ⟨87, dX3_delete_14, cv_X3_87, ok_X3_valueIn, rfl, rfl, ⟨Nat.le_of_ble_eq_true rfl, Nat.le_of_ble_eq_true rfl⟩⟩
theorem lk_X3_delete_23 : mLv m_X3_delete m_X2_drop 23 1 := ⟨91, dX3_delete_23, cv_X3_91, ok_X2_drop, rfl, rfl, ⟨Nat.le_of_ble_eq_true rfl, Nat.le_of_ble_eq_true rfl⟩⟩
theorem lk_X3_commit_1 : mLv m_X3_commit m_X3_requireBatch 1 0 := ⟨80, dX3_commit_1, cv_X3_80, ok_X3_requireBatch, rfl, rfl, ⟨Nat.le_of_ble_eq_true rfl, Nat.le_of_ble_eq_true rfl⟩⟩
theorem lk_X3_commit_8 : mLt m_X3_commit m_X3_otherSlot 8 1 := ⟨94, dX3_commit_8, cs_X3_94, ok_X3_otherSlot, rfl, rfl, ⟨Nat.le_of_ble_eq_true rfl, Nat.le_of_ble_eq_true rfl⟩⟩
theorem lk_X3_commit_15 : mLv m_X3_commit m_X3_writeSlot 15 2 := ⟨98, dX3_commit_15, cv_X3_98, ok_X3_writeSlot, rfl, rfl, ⟨Nat.le_of_ble_eq_true rfl, Nat.le_of_ble_eq_true rfl⟩⟩
theorem lk_X3_commit_31 : mLv m_X3_commit m_X1_become 31 1 := ⟨69, dX3_commit_31, cv_X3_69, ok_X1_become, rfl, rfl, ⟨Nat.le_of_ble_eq_true rfl, Nat.le_of_ble_eq_true rfl⟩⟩
theorem lk_X3_commit_35 : mLv m_X3_commit m_X3_endBatch 35 0 := ⟨102, dX3_commit_35, cv_X3_102, ok_X3_endBatch, rfl, rfl, ⟨Nat.le_of_ble_eq_true rfl, Nat.le_of_ble_eq_true rfl⟩⟩
theorem lk_X3_abandon_1 : mLv m_X3_abandon m_X3_requireBatch 1 0 := ⟨80, dX3_abandon_1, cv_X3_80, ok_X3_requireBatch, rfl, rfl, ⟨Nat.le_of_ble_eq_true rfl, Nat.le_of_ble_eq_true rfl⟩⟩
theorem lk_X3_abandon_5 : mLv m_X3_abandon m_X3_pagesInUse 5 0 := ⟨105, dX3_abandon_5, cv_X3_105, ok_X3_pagesInUse, rfl, rfl, ⟨Nat.le_of_ble_eq_true rfl, Nat.le_of_ble_eq_true rfl⟩⟩
theorem lk_X3_abandon_10 : mLv m_X3_abandon m_X3_endBatch 10 0 := ⟨102, dX3_abandon_10, cv_X3_102, ok_X3_endBatch, rfl, rfl, ⟨Nat.le_of_ble_eq_true rfl, Nat.le_of_ble_eq_true rfl⟩⟩
theorem lk_X3_abandon_15 : mLv m_X3_abandon m_X3_pagesInUse 15 0 := ⟨105, dX3_abandon_15, cv_X3_105, ok_X3_pagesInUse, rfl, rfl, ⟨Nat.le_of_ble_eq_true rfl, Nat.le_of_ble_eq_true rfl⟩⟩
theorem lk_X3_openReader_9 : mLv m_X3_openReader m_X3_isOpen 9 1 := ⟨109, dX3_openReader_9, cv_X3_109, ok_X3_isOpen, rfl, rfl, ⟨Nat.le_of_ble_eq_true rfl, Nat.le_of_ble_eq_true rfl⟩⟩
theorem lk_X3_openReader_25 : mLv m_X3_openReader m_X1_become 25 1 := ⟨69, dX3_openReader_25, cv_X3_69, ok_X1_become, rfl, rfl, ⟨Nat.le_of_ble_eq_true rfl, Nat.le_of_ble_eq_true rfl⟩⟩
theorem lk_X3_closeReader_2 : mLv m_X3_closeReader m_X3_requireReader 2 1 := ⟨115, dX3_closeReader_2, cv_X3_115, ok_X3_requireReader, rfl, rfl, ⟨Nat.le_of_ble_eq_true rfl, Nat.le_of_ble_eq_true rfl⟩⟩
theorem lk_X3_closeReader_6 : mLv m_X3_closeReader m_X3_pagesInUse 6 0 := ⟨105, dX3_closeReader_6, cv_X3_105, ok_X3_pagesInUse, rfl, rfl, ⟨Nat.le_of_ble_eq_true rfl, Nat.le_of_ble_eq_true rfl⟩⟩
theorem lk_X3_closeReader_29 : mLv m_X3_closeReader m_X3_keepStates 29 2 := ⟨118, dX3_closeReader_29, cv_X3_118, ok_X3_keepStates, rfl, rfl, ⟨Nat.le_of_ble_eq_true rfl, Nat.le_of_ble_eq_true rfl⟩⟩
theorem lk_X3_closeReader_34 : mLv m_X3_closeReader m_X3_pagesInUse 34 0 := ⟨105, dX3_closeReader_34, cv_X3_105, ok_X3_pagesInUse, rfl, rfl, ⟨Nat.le_of_ble_eq_true rfl, Nat.le_of_ble_eq_true rfl⟩⟩
theorem lk_X3_readers_11 : mLv m_X3_readers m_X3_isOpen 11 1 := ⟨109, dX3_readers_11, cv_X3_109, ok_X3_isOpen, rfl, rfl, ⟨Nat.le_of_ble_eq_true rfl, Nat.le_of_ble_eq_true rfl⟩⟩
theorem lk_X3_heldBy_2 : mLv m_X3_heldBy m_X3_requireReader 2 1 := ⟨115, dX3_heldBy_2, cv_X3_115, ok_X3_requireReader, rfl, rfl, ⟨Nat.le_of_ble_eq_true rfl, Nat.le_of_ble_eq_true rfl⟩⟩
theorem lk_X3_heldBy_14 : mLv m_X3_heldBy m_X3_keepStates 14 2 := ⟨118, dX3_heldBy_14, cv_X3_118, ok_X3_keepStates, rfl, rfl, ⟨Nat.le_of_ble_eq_true rfl, Nat.le_of_ble_eq_true rfl⟩⟩
theorem lk_X3_epochOf_2 : mLv m_X3_epochOf m_X3_viewed 2 1 := ⟨124, dX3_epochOf_2, cv_X3_124, ok_X3_viewed, rfl, rfl, ⟨Nat.le_of_ble_eq_true rfl, Nat.le_of_ble_eq_true rfl⟩⟩
theorem lk_X3_get_2 : mLv m_X3_get m_X3_viewed 2 1 := ⟨124, dX3_get_2, cv_X3_124, ok_X3_viewed, rfl, rfl, ⟨Nat.le_of_ble_eq_true rfl, Nat.le_of_ble_eq_true rfl⟩⟩
theorem lk_X3_get_7 : mLt m_X3_get m_X3_requireKey 7 1 := ⟨76, dX3_get_7, cs_X3_76, ok_X3_requireKey, rfl, rfl, ⟨Nat.le_of_ble_eq_true rfl, Nat.le_of_ble_eq_true rfl⟩⟩
theorem lk_X3_get_13 : mLv m_X3_get m_X3_valueIn 13 2 := ⟨87, dX3_get_13, cv_X3_87, ok_X3_valueIn, rfl, rfl, ⟨Nat.le_of_ble_eq_true rfl, Nat.le_of_ble_eq_true rfl⟩⟩
theorem lk_X3_next_6 : mLv m_X3_next m_X3_viewed 6 1 := ⟨124, dX3_next_6, cv_X3_124, ok_X3_viewed, rfl, rfl, ⟨Nat.le_of_ble_eq_true rfl, Nat.le_of_ble_eq_true rfl⟩⟩
theorem lk_X3_next_13 : mLv m_X3_next m_X0_leastKeyFrom 13 2 := ⟨128, dX3_next_13, cv_X3_128, ok_X0_leastKeyFrom, rfl, rfl, ⟨Nat.le_of_ble_eq_true rfl, Nat.le_of_ble_eq_true rfl⟩⟩
theorem lk_X3_rank_6 : mLv m_X3_rank m_X3_viewed 6 1 := ⟨124, dX3_rank_6, cv_X3_124, ok_X3_viewed, rfl, rfl, ⟨Nat.le_of_ble_eq_true rfl, Nat.le_of_ble_eq_true rfl⟩⟩
theorem lk_X3_rank_13 : mLv m_X3_rank m_X0_keysBelow 13 2 := ⟨132, dX3_rank_13, cv_X3_132, ok_X0_keysBelow, rfl, rfl, ⟨Nat.le_of_ble_eq_true rfl, Nat.le_of_ble_eq_true rfl⟩⟩
theorem lk_X3_size_2 : mLv m_X3_size m_X3_viewed 2 1 := ⟨124, dX3_size_2, cv_X3_124, ok_X3_viewed, rfl, rfl, ⟨Nat.le_of_ble_eq_true rfl, Nat.le_of_ble_eq_true rfl⟩⟩
theorem lk_X3_depth_6 : mLv m_X3_depth m_X3_viewed 6 1 := ⟨124, dX3_depth_6, cv_X3_124, ok_X3_viewed, rfl, rfl, ⟨Nat.le_of_ble_eq_true rfl, Nat.le_of_ble_eq_true rfl⟩⟩
theorem lk_X3_depth_12 : mLv m_X3_depth m_X0_levelsFrom 12 1 := ⟨138, dX3_depth_12, cv_X3_138, ok_X0_levelsFrom, rfl, rfl, ⟨Nat.le_of_ble_eq_true rfl, Nat.le_of_ble_eq_true rfl⟩⟩
theorem lk_X3_rootOf_2 : mLv m_X3_rootOf m_X3_viewed 2 1 := ⟨124, dX3_rootOf_2, cv_X3_124, ok_X3_viewed, rfl, rfl, ⟨Nat.le_of_ble_eq_true rfl, Nat.le_of_ble_eq_true rfl⟩⟩
theorem lk_X3_sharedPages_2 : mLv m_X3_sharedPages m_X3_viewed 2 1 := ⟨124, dX3_sharedPages_2, cv_X3_124, ok_X3_viewed, rfl, rfl, ⟨Nat.le_of_ble_eq_true rfl, Nat.le_of_ble_eq_true rfl⟩⟩
theorem lk_X3_sharedPages_11 : mLv m_X3_sharedPages m_X3_viewed 11 1 := ⟨124, dX3_sharedPages_11, cv_X3_124, ok_X3_viewed, rfl, rfl, ⟨Nat.le_of_ble_eq_true rfl, Nat.le_of_ble_eq_true rfl⟩⟩
theorem lk_X3_sharedPages_26 : mLt m_X3_sharedPages m_X0_unmark 26 1 := ⟨141, dX3_sharedPages_26, cs_X3_141, ok_X0_unmark, rfl, rfl, ⟨Nat.le_of_ble_eq_true rfl, Nat.le_of_ble_eq_true rfl⟩⟩
theorem lk_X3_sharedPages_41 : mLv m_X3_sharedPages m_X0_markTree 41 2 := ⟨54, dX3_sharedPages_41, cv_X3_54, ok_X0_markTree, rfl, rfl, ⟨Nat.le_of_ble_eq_true rfl, Nat.le_of_ble_eq_true rfl⟩⟩
theorem lk_X3_sharedPages_50 : mLv m_X3_sharedPages m_X0_countMarked 50 1 := ⟨145, dX3_sharedPages_50, cv_X3_145, ok_X0_countMarked, rfl, rfl, ⟨Nat.le_of_ble_eq_true rfl, Nat.le_of_ble_eq_true rfl⟩⟩
theorem lk_X3_isFree_19 : mLv m_X3_isFree m_X0_isVacant 19 1 := ⟨153, dX3_isFree_19, cv_X3_153, ok_X0_isVacant, rfl, rfl, ⟨Nat.le_of_ble_eq_true rfl, Nat.le_of_ble_eq_true rfl⟩⟩
theorem lk_X3_pagesInUse_16 : mLv m_X3_pagesInUse m_X0_isVacant 16 1 := ⟨153, dX3_pagesInUse_16, cv_X3_153, ok_X0_isVacant, rfl, rfl, ⟨Nat.le_of_ble_eq_true rfl, Nat.le_of_ble_eq_true rfl⟩⟩
theorem lk_X3_leastFree_4 : mLv m_X3_leastFree m_X0_leastVacant 4 0 := ⟨156, dX3_leastFree_4, cv_X3_156, ok_X0_leastVacant, rfl, rfl, ⟨Nat.le_of_ble_eq_true rfl, Nat.le_of_ble_eq_true rfl⟩⟩
theorem lk_X3_entries_2 : mLv m_X3_entries m_X3_requirePage 2 1 := ⟨159, dX3_entries_2, cv_X3_159, ok_X3_requirePage, rfl, rfl, ⟨Nat.le_of_ble_eq_true rfl, Nat.le_of_ble_eq_true rfl⟩⟩
theorem lk_X3_entries_10 : mLv m_X3_entries m_X0_countOf 10 1 := ⟨162, dX3_entries_10, cv_X3_162, ok_X0_countOf, rfl, rfl, ⟨Nat.le_of_ble_eq_true rfl, Nat.le_of_ble_eq_true rfl⟩⟩
theorem lk_X3_keyAt_3 : mLv m_X3_keyAt m_X3_requireEntry 3 2 := ⟨165, dX3_keyAt_3, cv_X3_165, ok_X3_requireEntry, rfl, rfl, ⟨Nat.le_of_ble_eq_true rfl, Nat.le_of_ble_eq_true rfl⟩⟩
theorem lk_X3_keyAt_12 : mLv m_X3_keyAt m_X0_keyOf 12 2 := ⟨168, dX3_keyAt_12, cv_X3_168, ok_X0_keyOf, rfl, rfl, ⟨Nat.le_of_ble_eq_true rfl, Nat.le_of_ble_eq_true rfl⟩⟩
theorem lk_X3_pageAt_3 : mLv m_X3_pageAt m_X3_requireEntry 3 2 := ⟨165, dX3_pageAt_3, cv_X3_165, ok_X3_requireEntry, rfl, rfl, ⟨Nat.le_of_ble_eq_true rfl, Nat.le_of_ble_eq_true rfl⟩⟩
theorem lk_X3_pageAt_11 : mLv m_X3_pageAt m_X0_isLeaf 11 1 := ⟨171, dX3_pageAt_11, cv_X3_171, ok_X0_isLeaf, rfl, rfl, ⟨Nat.le_of_ble_eq_true rfl, Nat.le_of_ble_eq_true rfl⟩⟩
theorem lk_X3_pageAt_27 : mLv m_X3_pageAt m_X0_wordOf 27 2 := ⟨174, dX3_pageAt_27, cv_X3_174, ok_X0_wordOf, rfl, rfl, ⟨Nat.le_of_ble_eq_true rfl, Nat.le_of_ble_eq_true rfl⟩⟩
theorem lk_X3_slotWord_1 : mLt m_X3_slotWord m_X3_requireSlot 1 1 := ⟨177, dX3_slotWord_1, cs_X3_177, ok_X3_requireSlot, rfl, rfl, ⟨Nat.le_of_ble_eq_true rfl, Nat.le_of_ble_eq_true rfl⟩⟩
theorem lk_X3_slotWord_26 : mLv m_X3_slotWord m_X3_wordIn 26 2 := ⟨182, dX3_slotWord_26, cv_X3_182, ok_X3_wordIn, rfl, rfl, ⟨Nat.le_of_ble_eq_true rfl, Nat.le_of_ble_eq_true rfl⟩⟩
theorem lk_X3_isWhole_1 : mLt m_X3_isWhole m_X3_requireSlot 1 1 := ⟨177, dX3_isWhole_1, cs_X3_177, ok_X3_requireSlot, rfl, rfl, ⟨Nat.le_of_ble_eq_true rfl, Nat.le_of_ble_eq_true rfl⟩⟩
theorem lk_X3_isWhole_6 : mLv m_X3_isWhole m_X3_sumsUp 6 1 := ⟨186, dX3_isWhole_6, cv_X3_186, ok_X3_sumsUp, rfl, rfl, ⟨Nat.le_of_ble_eq_true rfl, Nat.le_of_ble_eq_true rfl⟩⟩
theorem lk_X3_tear_1 : mLt m_X3_tear m_X3_requireSlot 1 1 := ⟨177, dX3_tear_1, cs_X3_177, ok_X3_requireSlot, rfl, rfl, ⟨Nat.le_of_ble_eq_true rfl, Nat.le_of_ble_eq_true rfl⟩⟩
theorem lk_X3_tear_6 : mLt m_X3_tear m_X3_otherSlot 6 1 := ⟨94, dX3_tear_6, cs_X3_94, ok_X3_otherSlot, rfl, rfl, ⟨Nat.le_of_ble_eq_true rfl, Nat.le_of_ble_eq_true rfl⟩⟩
theorem lk_X3_tear_9 : mLv m_X3_tear m_X3_sumsUp 9 1 := ⟨186, dX3_tear_9, cv_X3_186, ok_X3_sumsUp, rfl, rfl, ⟨Nat.le_of_ble_eq_true rfl, Nat.le_of_ble_eq_true rfl⟩⟩
theorem lk_X3_tear_26 : mLv m_X3_tear m_X3_pagesInUse 26 0 := ⟨105, dX3_tear_26, cv_X3_105, ok_X3_pagesInUse, rfl, rfl, ⟨Nat.le_of_ble_eq_true rfl, Nat.le_of_ble_eq_true rfl⟩⟩
theorem lk_X3_tear_52 : mLv m_X3_tear m_X3_keepStates 52 2 := ⟨118, dX3_tear_52, cv_X3_118, ok_X3_keepStates, rfl, rfl, ⟨Nat.le_of_ble_eq_true rfl, Nat.le_of_ble_eq_true rfl⟩⟩
theorem lk_X3_tear_57 : mLv m_X3_tear m_X3_pagesInUse 57 0 := ⟨105, dX3_tear_57, cv_X3_105, ok_X3_pagesInUse, rfl, rfl, ⟨Nat.le_of_ble_eq_true rfl, Nat.le_of_ble_eq_true rfl⟩⟩
theorem lk_X3_crash_25 : mLv m_X3_crash m_X3_latestWholeSlot 25 0 := ⟨193, dX3_crash_25, cv_X3_193, ok_X3_latestWholeSlot, rfl, rfl, ⟨Nat.le_of_ble_eq_true rfl, Nat.le_of_ble_eq_true rfl⟩⟩
theorem lk_X3_crash_41 : mLv m_X3_crash m_X3_wordIn 41 2 := ⟨182, dX3_crash_41, cv_X3_182, ok_X3_wordIn, rfl, rfl, ⟨Nat.le_of_ble_eq_true rfl, Nat.le_of_ble_eq_true rfl⟩⟩
theorem lk_X3_crash_58 : mLv m_X3_crash m_X3_wordIn 58 2 := ⟨182, dX3_crash_58, cv_X3_182, ok_X3_wordIn, rfl, rfl, ⟨Nat.le_of_ble_eq_true rfl, Nat.le_of_ble_eq_true rfl⟩⟩
theorem lk_X3_crash_75 : mLv m_X3_crash m_X3_wordIn 75 2 := ⟨182, dX3_crash_75, cv_X3_182, ok_X3_wordIn, rfl, rfl, ⟨Nat.le_of_ble_eq_true rfl, Nat.le_of_ble_eq_true rfl⟩⟩
theorem lk_X3_crash_83 : mLv m_X3_crash m_X3_endBatch 83 0 := ⟨102, dX3_crash_83, cv_X3_102, ok_X3_endBatch, rfl, rfl, ⟨Nat.le_of_ble_eq_true rfl, Nat.le_of_ble_eq_true rfl⟩⟩
theorem lk_X3_crashInCommit_20 : mLv m_X3_crashInCommit m_X3_requireBatch 20 0 := ⟨80, dX3_crashInCommit_20, cv_X3_80, ok_X3_requireBatch, rfl, rfl, ⟨Nat.le_of_ble_eq_true rfl, Nat.le_of_ble_eq_true rfl⟩⟩
theorem lk_X3_crashInCommit_37 : mLv m_X3_crashInCommit m_X3_sumsUp 37 1 := ⟨186, dX3_crashInCommit_37, cv_X3_186, ok_X3_sumsUp, rfl, rfl, ⟨Nat.le_of_ble_eq_true rfl, Nat.le_of_ble_eq_true rfl⟩⟩
theorem lk_X3_crashInCommit_58 : mLt m_X3_crashInCommit m_X3_otherSlot 58 1 := ⟨94, dX3_crashInCommit_58, cs_X3_94, ok_X3_otherSlot, rfl, rfl, ⟨Nat.le_of_ble_eq_true rfl, Nat.le_of_ble_eq_true rfl⟩⟩
theorem lk_X3_crashInCommit_62 : mLv m_X3_crashInCommit m_X3_writeSlot 62 2 := ⟨98, dX3_crashInCommit_62, cv_X3_98, ok_X3_writeSlot, rfl, rfl, ⟨Nat.le_of_ble_eq_true rfl, Nat.le_of_ble_eq_true rfl⟩⟩
theorem lk_X3_crashInCommit_66 : mLv m_X3_crashInCommit m_X3_crash 66 0 := ⟨203, dX3_crashInCommit_66, cv_X3_203, ok_X3_crash, rfl, rfl, ⟨Nat.le_of_ble_eq_true rfl, Nat.le_of_ble_eq_true rfl⟩⟩
theorem lk_X3_requireReader_2 : mLv m_X3_requireReader m_X3_isOpen 2 1 := ⟨109, dX3_requireReader_2, cv_X3_109, ok_X3_isOpen, rfl, rfl, ⟨Nat.le_of_ble_eq_true rfl, Nat.le_of_ble_eq_true rfl⟩⟩
theorem lk_X3_requirePage_9 : mLv m_X3_requirePage m_X0_isVacant 9 1 := ⟨153, dX3_requirePage_9, cv_X3_153, ok_X0_isVacant, rfl, rfl, ⟨Nat.le_of_ble_eq_true rfl, Nat.le_of_ble_eq_true rfl⟩⟩
theorem lk_X3_requireEntry_2 : mLv m_X3_requireEntry m_X3_requirePage 2 1 := ⟨159, dX3_requireEntry_2, cv_X3_159, ok_X3_requirePage, rfl, rfl, ⟨Nat.le_of_ble_eq_true rfl, Nat.le_of_ble_eq_true rfl⟩⟩
theorem lk_X3_requireEntry_15 : mLv m_X3_requireEntry m_X0_countOf 15 1 := ⟨162, dX3_requireEntry_15, cv_X3_162, ok_X0_countOf, rfl, rfl, ⟨Nat.le_of_ble_eq_true rfl, Nat.le_of_ble_eq_true rfl⟩⟩
theorem lk_X3_viewed_29 : mLv m_X3_viewed m_X3_requireReader 29 1 := ⟨115, dX3_viewed_29, cv_X3_115, ok_X3_requireReader, rfl, rfl, ⟨Nat.le_of_ble_eq_true rfl, Nat.le_of_ble_eq_true rfl⟩⟩
theorem lk_X3_valueIn_9 : mLv m_X3_valueIn m_X0_leafFor 9 2 := ⟨218, dX3_valueIn_9, cv_X3_218, ok_X0_leafFor, rfl, rfl, ⟨Nat.le_of_ble_eq_true rfl, Nat.le_of_ble_eq_true rfl⟩⟩
theorem lk_X3_valueIn_19 : mLv m_X3_valueIn m_X0_placeOf 19 2 := ⟨221, dX3_valueIn_19, cv_X3_221, ok_X0_placeOf, rfl, rfl, ⟨Nat.le_of_ble_eq_true rfl, Nat.le_of_ble_eq_true rfl⟩⟩
theorem lk_X3_valueIn_32 : mLv m_X3_valueIn m_X0_holds 32 3 := ⟨224, dX3_valueIn_32, cv_X3_224, ok_X0_holds, rfl, rfl, ⟨Nat.le_of_ble_eq_true rfl, Nat.le_of_ble_eq_true rfl⟩⟩
theorem lk_X3_valueIn_55 : mLv m_X3_valueIn m_X0_wordOf 55 2 := ⟨174, dX3_valueIn_55, cv_X3_174, ok_X0_wordOf, rfl, rfl, ⟨Nat.le_of_ble_eq_true rfl, Nat.le_of_ble_eq_true rfl⟩⟩
theorem lk_X3_endBatch_15 : mLt m_X3_endBatch m_X0_unmark 15 1 := ⟨141, dX3_endBatch_15, cs_X3_141, ok_X0_unmark, rfl, rfl, ⟨Nat.le_of_ble_eq_true rfl, Nat.le_of_ble_eq_true rfl⟩⟩
theorem lk_X3_endBatch_27 : mLv m_X3_endBatch m_X3_keepStates 27 2 := ⟨118, dX3_endBatch_27, cv_X3_118, ok_X3_keepStates, rfl, rfl, ⟨Nat.le_of_ble_eq_true rfl, Nat.le_of_ble_eq_true rfl⟩⟩
theorem lk_X3_keepStates_1 : mLt m_X3_keepStates m_X0_unmark 1 1 := ⟨141, dX3_keepStates_1, cs_X3_141, ok_X0_unmark, rfl, rfl, ⟨Nat.le_of_ble_eq_true rfl, Nat.le_of_ble_eq_true rfl⟩⟩
theorem lk_X3_keepStates_16 : mLv m_X3_keepStates m_X0_markTree 16 2 := ⟨54, dX3_keepStates_16, cv_X3_54, ok_X0_markTree, rfl, rfl, ⟨Nat.le_of_ble_eq_true rfl, Nat.le_of_ble_eq_true rfl⟩⟩
theorem lk_X3_keepStates_28 : mLv m_X3_keepStates m_X3_sumsUp 28 1 := ⟨186, dX3_keepStates_28, cv_X3_186, ok_X3_sumsUp, rfl, rfl, ⟨Nat.le_of_ble_eq_true rfl, Nat.le_of_ble_eq_true rfl⟩⟩
theorem lk_X3_keepStates_42 : mLv m_X3_keepStates m_X3_wordIn 42 2 := ⟨182, dX3_keepStates_42, cv_X3_182, ok_X3_wordIn, rfl, rfl, ⟨Nat.le_of_ble_eq_true rfl, Nat.le_of_ble_eq_true rfl⟩⟩
theorem lk_X3_keepStates_46 : mLv m_X3_keepStates m_X0_markTree 46 2 := ⟨54, dX3_keepStates_46, cv_X3_54, ok_X0_markTree, rfl, rfl, ⟨Nat.le_of_ble_eq_true rfl, Nat.le_of_ble_eq_true rfl⟩⟩
theorem lk_X3_keepStates_64 : mLv m_X3_keepStates m_X3_isOpen 64 1 := ⟨109, dX3_keepStates_64, cv_X3_109, ok_X3_isOpen, rfl, rfl, ⟨Nat.le_of_ble_eq_true rfl, Nat.le_of_ble_eq_true rfl⟩⟩
theorem lk_X3_keepStates_89 : mLv m_X3_keepStates m_X0_markTree 89 2 := ⟨54, dX3_keepStates_89, cv_X3_54, ok_X0_markTree, rfl, rfl, ⟨Nat.le_of_ble_eq_true rfl, Nat.le_of_ble_eq_true rfl⟩⟩
theorem lk_X3_sumsUp_3 : mLv m_X3_sumsUp m_X3_wordIn 3 2 := ⟨182, dX3_sumsUp_3, cv_X3_182, ok_X3_wordIn, rfl, rfl, ⟨Nat.le_of_ble_eq_true rfl, Nat.le_of_ble_eq_true rfl⟩⟩
theorem lk_X3_sumsUp_9 : mLv m_X3_sumsUp m_X3_wordIn 9 2 := ⟨182, dX3_sumsUp_9, cv_X3_182, ok_X3_wordIn, rfl, rfl, ⟨Nat.le_of_ble_eq_true rfl, Nat.le_of_ble_eq_true rfl⟩⟩
theorem lk_X3_sumsUp_15 : mLv m_X3_sumsUp m_X3_wordIn 15 2 := ⟨182, dX3_sumsUp_15, cv_X3_182, ok_X3_wordIn, rfl, rfl, ⟨Nat.le_of_ble_eq_true rfl, Nat.le_of_ble_eq_true rfl⟩⟩
theorem lk_X3_sumsUp_18 : mLt m_X3_sumsUp m_X3_sumOf 18 3 := ⟨236, dX3_sumsUp_18, cs_X3_236, ok_X3_sumOf, rfl, rfl, ⟨Nat.le_of_ble_eq_true rfl, Nat.le_of_ble_eq_true rfl⟩⟩
theorem lk_X3_sumsUp_25 : mLv m_X3_sumsUp m_X3_wordIn 25 2 := ⟨182, dX3_sumsUp_25, cv_X3_182, ok_X3_wordIn, rfl, rfl, ⟨Nat.le_of_ble_eq_true rfl, Nat.le_of_ble_eq_true rfl⟩⟩
theorem lk_X3_writeSlot_39 : mLv m_X3_writeSlot m_X3_wordOfBatch 39 1 := ⟨244, dX3_writeSlot_39, cv_X3_244, ok_X3_wordOfBatch, rfl, rfl, ⟨Nat.le_of_ble_eq_true rfl, Nat.le_of_ble_eq_true rfl⟩⟩
theorem lk_X3_wordOfBatch_79 : mLt m_X3_wordOfBatch m_X3_sumOf 79 3 := ⟨236, dX3_wordOfBatch_79, cs_X3_236, ok_X3_sumOf, rfl, rfl, ⟨Nat.le_of_ble_eq_true rfl, Nat.le_of_ble_eq_true rfl⟩⟩
theorem lk_X3_latestWholeSlot_2 : mLv m_X3_latestWholeSlot m_X3_sumsUp 2 1 := ⟨186, dX3_latestWholeSlot_2, cv_X3_186, ok_X3_sumsUp, rfl, rfl, ⟨Nat.le_of_ble_eq_true rfl, Nat.le_of_ble_eq_true rfl⟩⟩
theorem lk_X3_latestWholeSlot_12 : mLv m_X3_latestWholeSlot m_X3_sumsUp 12 1 := ⟨186, dX3_latestWholeSlot_12, cv_X3_186, ok_X3_sumsUp, rfl, rfl, ⟨Nat.le_of_ble_eq_true rfl, Nat.le_of_ble_eq_true rfl⟩⟩
theorem lk_X3_latestWholeSlot_21 : mLv m_X3_latestWholeSlot m_X3_wordIn 21 2 := ⟨182, dX3_latestWholeSlot_21, cv_X3_182, ok_X3_wordIn, rfl, rfl, ⟨Nat.le_of_ble_eq_true rfl, Nat.le_of_ble_eq_true rfl⟩⟩
theorem lk_X3_latestWholeSlot_27 : mLv m_X3_latestWholeSlot m_X3_wordIn 27 2 := ⟨182, dX3_latestWholeSlot_27, cv_X3_182, ok_X3_wordIn, rfl, rfl, ⟨Nat.le_of_ble_eq_true rfl, Nat.le_of_ble_eq_true rfl⟩⟩
theorem lk_X4_init_111 : mLv m_X4_init m_X4_closesAll 111 0 := ⟨52, dX4_init_111, cv_X4_52, ok_X4_closesAll, rfl, rfl, ⟨Nat.le_of_ble_eq_true rfl, Nat.le_of_ble_eq_true rfl⟩⟩
theorem lk_X4_meetsAll_1 : mLv m_X4_meetsAll m_X4_forgets 1 0 := ⟨58, dX4_meetsAll_1, cv_X4_58, ok_X4_forgets, rfl, rfl, ⟨Nat.le_of_ble_eq_true rfl, Nat.le_of_ble_eq_true rfl⟩⟩
theorem lk_X4_meetsAll_9 : mLv m_X4_meetsAll m_X4_meets 9 1 := ⟨64, dX4_meetsAll_9, cv_X4_64, ok_X4_meets, rfl, rfl, ⟨Nat.le_of_ble_eq_true rfl, Nat.le_of_ble_eq_true rfl⟩⟩
theorem lk_X4_meetsAll_25 : mLv m_X4_meetsAll m_X4_meets 25 1 := ⟨64, dX4_meetsAll_25, cv_X4_64, ok_X4_meets, rfl, rfl, ⟨Nat.le_of_ble_eq_true rfl, Nat.le_of_ble_eq_true rfl⟩⟩
theorem lk_X4_meetsAll_37 : mLv m_X4_meetsAll m_X4_whole 37 1 := ⟨68, dX4_meetsAll_37, cv_X4_68, ok_X4_whole, rfl, rfl, ⟨Nat.le_of_ble_eq_true rfl, Nat.le_of_ble_eq_true rfl⟩⟩
theorem lk_X4_meetsAll_55 : mLv m_X4_meetsAll m_X4_meets 55 1 := ⟨64, dX4_meetsAll_55, cv_X4_64, ok_X4_meets, rfl, rfl, ⟨Nat.le_of_ble_eq_true rfl, Nat.le_of_ble_eq_true rfl⟩⟩
theorem lk_X4_meetsAll_93 : mLv m_X4_meetsAll m_X4_meets 93 1 := ⟨64, dX4_meetsAll_93, cv_X4_64, ok_X4_meets, rfl, rfl, ⟨Nat.le_of_ble_eq_true rfl, Nat.le_of_ble_eq_true rfl⟩⟩
theorem lk_X4_inUse_2 : mLv m_X4_inUse m_X4_meetsAll 2 1 := ⟨72, dX4_inUse_2, cv_X4_72, ok_X4_meetsAll, rfl, rfl, ⟨Nat.le_of_ble_eq_true rfl, Nat.le_of_ble_eq_true rfl⟩⟩
theorem lk_X4_inUse_11 : mLt m_X4_inUse m_X4_in 11 3 := ⟨76, dX4_inUse_11, cs_X4_76, ok_X4_in, rfl, rfl, ⟨Nat.le_of_ble_eq_true rfl, Nat.le_of_ble_eq_true rfl⟩⟩
theorem lk_X4_takes_2 : mLv m_X4_takes m_X4_meetsAll 2 1 := ⟨72, dX4_takes_2, cv_X4_72, ok_X4_meetsAll, rfl, rfl, ⟨Nat.le_of_ble_eq_true rfl, Nat.le_of_ble_eq_true rfl⟩⟩
theorem lk_X4_takes_13 : mLv m_X4_takes m_X4_meets 13 1 := ⟨64, dX4_takes_13, cv_X4_64, ok_X4_meets, rfl, rfl, ⟨Nat.le_of_ble_eq_true rfl, Nat.le_of_ble_eq_true rfl⟩⟩
theorem lk_X4_takes_17 : mLv m_X4_takes m_X4_leastNotMet 17 0 := ⟨80, dX4_takes_17, cv_X4_80, ok_X4_leastNotMet, rfl, rfl, ⟨Nat.le_of_ble_eq_true rfl, Nat.le_of_ble_eq_true rfl⟩⟩
theorem lk_X4_moves_44 : mLv m_X4_moves m_X4_lays 44 4 := ⟨84, dX4_moves_44, cv_X4_84, ok_X4_lays, rfl, rfl, ⟨Nat.le_of_ble_eq_true rfl, Nat.le_of_ble_eq_true rfl⟩⟩
theorem lk_X4_keyOf_20 : mLv m_X4_keyOf m_X4_leastKey 20 1 := ⟨88, dX4_keyOf_20, cv_X4_88, ok_X4_leastKey, rfl, rfl, ⟨Nat.le_of_ble_eq_true rfl, Nat.le_of_ble_eq_true rfl⟩⟩
theorem lk_X4_finds_58 : mLv m_X4_finds m_X4_keyOf 58 2 := ⟨94, dX4_finds_58, cv_X4_94, ok_X4_keyOf, rfl, rfl, ⟨Nat.le_of_ble_eq_true rfl, Nat.le_of_ble_eq_true rfl⟩⟩
theorem lk_X4_own_24 : mLv m_X4_own m_X4_takes 24 1 := ⟨98, dX4_own_24, cv_X4_98, ok_X4_takes, rfl, rfl, ⟨Nat.le_of_ble_eq_true rfl, Nat.le_of_ble_eq_true rfl⟩⟩
theorem lk_X4_own_33 : mLv m_X4_own m_X4_copies 33 2 := ⟨101, dX4_own_33, cv_X4_101, ok_X4_copies, rfl, rfl, ⟨Nat.le_of_ble_eq_true rfl, Nat.le_of_ble_eq_true rfl⟩⟩
theorem lk_X4_writesWay_14 : mLv m_X4_writesWay m_X4_takes 14 1 := ⟨98, dX4_writesWay_14, cv_X4_98, ok_X4_takes, rfl, rfl, ⟨Nat.le_of_ble_eq_true rfl, Nat.le_of_ble_eq_true rfl⟩⟩
theorem lk_X4_writesWay_24 : mLv m_X4_writesWay m_X4_copies 24 2 := ⟨101, dX4_writesWay_24, cv_X4_101, ok_X4_copies, rfl, rfl, ⟨Nat.le_of_ble_eq_true rfl, Nat.le_of_ble_eq_true rfl⟩⟩
theorem lk_X4_writesWay_72 : mLv m_X4_writesWay m_X4_own 72 2 := ⟨105, dX4_writesWay_72, cv_X4_105, ok_X4_own, rfl, rfl, ⟨Nat.le_of_ble_eq_true rfl, Nat.le_of_ble_eq_true rfl⟩⟩
theorem lk_X4_splits_33 : mLv m_X4_splits m_X4_takes 33 1 := ⟨98, dX4_splits_33, cv_X4_98, ok_X4_takes, rfl, rfl, ⟨Nat.le_of_ble_eq_true rfl, Nat.le_of_ble_eq_true rfl⟩⟩
theorem lk_X4_splits_53 : mLv m_X4_splits m_X4_moves 53 3 := ⟨108, dX4_splits_53, cv_X4_108, ok_X4_moves, rfl, rfl, ⟨Nat.le_of_ble_eq_true rfl, Nat.le_of_ble_eq_true rfl⟩⟩
theorem lk_X4_splits_81 : mLv m_X4_splits m_X4_lays 81 4 := ⟨84, dX4_splits_81, cv_X4_84, ok_X4_lays, rfl, rfl, ⟨Nat.le_of_ble_eq_true rfl, Nat.le_of_ble_eq_true rfl⟩⟩
theorem lk_X4_splits_89 : mLv m_X4_splits m_X4_takes 89 1 := ⟨98, dX4_splits_89, cv_X4_98, ok_X4_takes, rfl, rfl, ⟨Nat.le_of_ble_eq_true rfl, Nat.le_of_ble_eq_true rfl⟩⟩
theorem lk_X4_splits_108 : mLv m_X4_splits m_X4_lays 108 4 := ⟨84, dX4_splits_108, cv_X4_84, ok_X4_lays, rfl, rfl, ⟨Nat.le_of_ble_eq_true rfl, Nat.le_of_ble_eq_true rfl⟩⟩
theorem lk_X4_splits_117 : mLv m_X4_splits m_X4_lays 117 4 := ⟨84, dX4_splits_117, cv_X4_84, ok_X4_lays, rfl, rfl, ⟨Nat.le_of_ble_eq_true rfl, Nat.le_of_ble_eq_true rfl⟩⟩
theorem lk_X4_mends_65 : mLv m_X4_mends m_X4_own 65 2 := ⟨105, dX4_mends_65, cv_X4_105, ok_X4_own, rfl, rfl, ⟨Nat.le_of_ble_eq_true rfl, Nat.le_of_ble_eq_true rfl⟩⟩
theorem lk_X4_mends_126 : mLv m_X4_mends m_X4_lays 126 4 := ⟨84, dX4_mends_126, cv_X4_84, ok_X4_lays, rfl, rfl, ⟨Nat.le_of_ble_eq_true rfl, Nat.le_of_ble_eq_true rfl⟩⟩
theorem lk_X4_mends_134 : mLv m_X4_mends m_X4_drops 134 2 := ⟨112, dX4_mends_134, cv_X4_112, ok_X4_drops, rfl, rfl, ⟨Nat.le_of_ble_eq_true rfl, Nat.le_of_ble_eq_true rfl⟩⟩
theorem lk_X4_mends_149 : mLv m_X4_mends m_X4_own 149 2 := ⟨105, dX4_mends_149, cv_X4_105, ok_X4_own, rfl, rfl, ⟨Nat.le_of_ble_eq_true rfl, Nat.le_of_ble_eq_true rfl⟩⟩
theorem lk_X4_mends_159 : mLv m_X4_mends m_X4_moves 159 3 := ⟨108, dX4_mends_159, cv_X4_108, ok_X4_moves, rfl, rfl, ⟨Nat.le_of_ble_eq_true rfl, Nat.le_of_ble_eq_true rfl⟩⟩
theorem lk_X4_mends_166 : mLv m_X4_mends m_X4_drops 166 2 := ⟨112, dX4_mends_166, cv_X4_112, ok_X4_drops, rfl, rfl, ⟨Nat.le_of_ble_eq_true rfl, Nat.le_of_ble_eq_true rfl⟩⟩
theorem lk_X4_mends_231 : mLv m_X4_mends m_X4_lays 231 4 := ⟨84, dX4_mends_231, cv_X4_84, ok_X4_lays, rfl, rfl, ⟨Nat.le_of_ble_eq_true rfl, Nat.le_of_ble_eq_true rfl⟩⟩
theorem lk_X4_mends_243 : mLv m_X4_mends m_X4_drops 243 2 := ⟨112, dX4_mends_243, cv_X4_112, ok_X4_drops, rfl, rfl, ⟨Nat.le_of_ble_eq_true rfl, Nat.le_of_ble_eq_true rfl⟩⟩
theorem lk_X4_joins_26 : mLv m_X4_joins m_X4_mends 26 1 := ⟨115, dX4_joins_26, cv_X4_115, ok_X4_mends, rfl, rfl, ⟨Nat.le_of_ble_eq_true rfl, Nat.le_of_ble_eq_true rfl⟩⟩
theorem lk_X4_beginBatch_16 : mLv m_X4_beginBatch m_X4_goes 16 3 := ⟨118, dX4_beginBatch_16, cv_X4_118, ok_X4_goes, rfl, rfl, ⟨Nat.le_of_ble_eq_true rfl, Nat.le_of_ble_eq_true rfl⟩⟩
theorem lk_X4_put_5 : mLt m_X4_put m_X4_in 5 3 := ⟨76, dX4_put_5, cs_X4_76, ok_X4_in, rfl, rfl, ⟨Nat.le_of_ble_eq_true rfl, Nat.le_of_ble_eq_true rfl⟩⟩
theorem lk_X4_put_22 : mLv m_X4_put m_X4_goes 22 3 := ⟨118, dX4_put_22, cv_X4_118, ok_X4_goes, rfl, rfl, ⟨Nat.le_of_ble_eq_true rfl, Nat.le_of_ble_eq_true rfl⟩⟩
theorem lk_X4_put_36 : mLv m_X4_put m_X4_finds 36 2 := ⟨125, dX4_put_36, cv_X4_125, ok_X4_finds, rfl, rfl, ⟨Nat.le_of_ble_eq_true rfl, Nat.le_of_ble_eq_true rfl⟩⟩
theorem lk_X4_put_40 : mLv m_X4_put m_X4_writesWay 40 0 := ⟨128, dX4_put_40, cv_X4_128, ok_X4_writesWay, rfl, rfl, ⟨Nat.le_of_ble_eq_true rfl, Nat.le_of_ble_eq_true rfl⟩⟩
theorem lk_X4_put_56 : mLv m_X4_put m_X4_place 56 2 := ⟨131, dX4_put_56, cv_X4_131, ok_X4_place, rfl, rfl, ⟨Nat.le_of_ble_eq_true rfl, Nat.le_of_ble_eq_true rfl⟩⟩
theorem lk_X4_put_66 : mLv m_X4_put m_X4_has 66 3 := ⟨134, dX4_put_66, cv_X4_134, ok_X4_has, rfl, rfl, ⟨Nat.le_of_ble_eq_true rfl, Nat.le_of_ble_eq_true rfl⟩⟩
theorem lk_X4_put_92 : mLv m_X4_put m_X4_lays 92 4 := ⟨84, dX4_put_92, cv_X4_84, ok_X4_lays, rfl, rfl, ⟨Nat.le_of_ble_eq_true rfl, Nat.le_of_ble_eq_true rfl⟩⟩
theorem lk_X4_put_96 : mLv m_X4_put m_X4_splits 96 0 := ⟨137, dX4_put_96, cv_X4_137, ok_X4_splits, rfl, rfl, ⟨Nat.le_of_ble_eq_true rfl, Nat.le_of_ble_eq_true rfl⟩⟩
theorem lk_X4_delete_4 : mLt m_X4_delete m_X4_in 4 3 := ⟨76, dX4_delete_4, cs_X4_76, ok_X4_in, rfl, rfl, ⟨Nat.le_of_ble_eq_true rfl, Nat.le_of_ble_eq_true rfl⟩⟩
theorem lk_X4_delete_36 : mLv m_X4_delete m_X4_finds 36 2 := ⟨125, dX4_delete_36, cv_X4_125, ok_X4_finds, rfl, rfl, ⟨Nat.le_of_ble_eq_true rfl, Nat.le_of_ble_eq_true rfl⟩⟩
theorem lk_X4_delete_50 : mLv m_X4_delete m_X4_place 50 2 := ⟨131, dX4_delete_50, cv_X4_131, ok_X4_place, rfl, rfl, ⟨Nat.le_of_ble_eq_true rfl, Nat.le_of_ble_eq_true rfl⟩⟩
theorem lk_X4_delete_59 : mLt m_X4_delete m_X4_in 59 3 := ⟨76, dX4_delete_59, cs_X4_76, ok_X4_in, rfl, rfl, ⟨Nat.le_of_ble_eq_true rfl, Nat.le_of_ble_eq_true rfl⟩⟩
theorem lk_X4_delete_91 : mLv m_X4_delete m_X4_has 91 3 := ⟨134, dX4_delete_91, cv_X4_134, ok_X4_has, rfl, rfl, ⟨Nat.le_of_ble_eq_true rfl, Nat.le_of_ble_eq_true rfl⟩⟩
theorem lk_X4_delete_102 : mLv m_X4_delete m_X4_goes 102 3 := ⟨118, dX4_delete_102, cv_X4_118, ok_X4_goes, rfl, rfl, ⟨Nat.le_of_ble_eq_true rfl, Nat.le_of_ble_eq_true rfl⟩⟩
theorem lk_X4_delete_111 : mLv m_X4_delete m_X4_writesWay 111 0 := ⟨128, dX4_delete_111, cv_X4_128, ok_X4_writesWay, rfl, rfl, ⟨Nat.le_of_ble_eq_true rfl, Nat.le_of_ble_eq_true rfl⟩⟩
theorem lk_X4_delete_145 : mLv m_X4_delete m_X4_drops 145 2 := ⟨112, dX4_delete_145, cv_X4_112, ok_X4_drops, rfl, rfl, ⟨Nat.le_of_ble_eq_true rfl, Nat.le_of_ble_eq_true rfl⟩⟩
theorem lk_X4_delete_149 : mLv m_X4_delete m_X4_joins 149 0 := ⟨140, dX4_delete_149, cv_X4_140, ok_X4_joins, rfl, rfl, ⟨Nat.le_of_ble_eq_true rfl, Nat.le_of_ble_eq_true rfl⟩⟩
theorem lk_X4_word_28 : mLv m_X4_word m_X4_keys 28 1 := ⟨147, dX4_word_28, cv_X4_147, ok_X4_keys, rfl, rfl, ⟨Nat.le_of_ble_eq_true rfl, Nat.le_of_ble_eq_true rfl⟩⟩
theorem lk_X4_word_68 : mLv m_X4_word m_X4_keys 68 1 := ⟨147, dX4_word_68, cv_X4_147, ok_X4_keys, rfl, rfl, ⟨Nat.le_of_ble_eq_true rfl, Nat.le_of_ble_eq_true rfl⟩⟩
theorem lk_X4_writes_23 : mLv m_X4_writes m_X4_word 23 1 := ⟨153, dX4_writes_23, cv_X4_153, ok_X4_word, rfl, rfl, ⟨Nat.le_of_ble_eq_true rfl, Nat.le_of_ble_eq_true rfl⟩⟩
theorem lk_X4_commit_16 : mLv m_X4_commit m_X4_goes 16 3 := ⟨118, dX4_commit_16, cv_X4_118, ok_X4_goes, rfl, rfl, ⟨Nat.le_of_ble_eq_true rfl, Nat.le_of_ble_eq_true rfl⟩⟩
theorem lk_X4_commit_26 : mLv m_X4_commit m_X4_writes 26 1 := ⟨157, dX4_commit_26, cv_X4_157, ok_X4_writes, rfl, rfl, ⟨Nat.le_of_ble_eq_true rfl, Nat.le_of_ble_eq_true rfl⟩⟩
theorem lk_X4_commit_41 : mLv m_X4_commit m_X4_reads 41 1 := ⟨160, dX4_commit_41, cv_X4_160, ok_X4_reads, rfl, rfl, ⟨Nat.le_of_ble_eq_true rfl, Nat.le_of_ble_eq_true rfl⟩⟩
theorem lk_X4_abandon_16 : mLv m_X4_abandon m_X4_goes 16 3 := ⟨118, dX4_abandon_16, cv_X4_118, ok_X4_goes, rfl, rfl, ⟨Nat.le_of_ble_eq_true rfl, Nat.le_of_ble_eq_true rfl⟩⟩
theorem lk_X4_abandon_26 : mLv m_X4_abandon m_X4_meetsAll 26 1 := ⟨72, dX4_abandon_26, cv_X4_72, ok_X4_meetsAll, rfl, rfl, ⟨Nat.le_of_ble_eq_true rfl, Nat.le_of_ble_eq_true rfl⟩⟩
theorem lk_X4_abandon_38 : mLv m_X4_abandon m_X4_meetsAll 38 1 := ⟨72, dX4_abandon_38, cv_X4_72, ok_X4_meetsAll, rfl, rfl, ⟨Nat.le_of_ble_eq_true rfl, Nat.le_of_ble_eq_true rfl⟩⟩
theorem lk_X4_isReader_3 : mLt m_X4_isReader m_X4_in 3 3 := ⟨76, dX4_isReader_3, cs_X4_76, ok_X4_in, rfl, rfl, ⟨Nat.le_of_ble_eq_true rfl, Nat.le_of_ble_eq_true rfl⟩⟩
theorem lk_X4_openReader_36 : mLv m_X4_openReader m_X4_goes 36 3 := ⟨118, dX4_openReader_36, cv_X4_118, ok_X4_goes, rfl, rfl, ⟨Nat.le_of_ble_eq_true rfl, Nat.le_of_ble_eq_true rfl⟩⟩
theorem lk_X4_held_2 : mLv m_X4_held m_X4_meetsAll 2 1 := ⟨72, dX4_held_2, cv_X4_72, ok_X4_meetsAll, rfl, rfl, ⟨Nat.le_of_ble_eq_true rfl, Nat.le_of_ble_eq_true rfl⟩⟩
theorem lk_X4_held_9 : mLv m_X4_held m_X4_meetsAll 9 1 := ⟨72, dX4_held_9, cv_X4_72, ok_X4_meetsAll, rfl, rfl, ⟨Nat.le_of_ble_eq_true rfl, Nat.le_of_ble_eq_true rfl⟩⟩
theorem lk_X4_closeReader_3 : mLv m_X4_closeReader m_X4_isReader 3 1 := ⟨163, dX4_closeReader_3, cv_X4_163, ok_X4_isReader, rfl, rfl, ⟨Nat.le_of_ble_eq_true rfl, Nat.le_of_ble_eq_true rfl⟩⟩
theorem lk_X4_closeReader_8 : mLv m_X4_closeReader m_X4_goes 8 3 := ⟨118, dX4_closeReader_8, cv_X4_118, ok_X4_goes, rfl, rfl, ⟨Nat.le_of_ble_eq_true rfl, Nat.le_of_ble_eq_true rfl⟩⟩
theorem lk_X4_closeReader_18 : mLv m_X4_closeReader m_X4_held 18 1 := ⟨166, dX4_closeReader_18, cv_X4_166, ok_X4_held, rfl, rfl, ⟨Nat.le_of_ble_eq_true rfl, Nat.le_of_ble_eq_true rfl⟩⟩
theorem lk_X4_heldBy_3 : mLv m_X4_heldBy m_X4_isReader 3 1 := ⟨163, dX4_heldBy_3, cv_X4_163, ok_X4_isReader, rfl, rfl, ⟨Nat.le_of_ble_eq_true rfl, Nat.le_of_ble_eq_true rfl⟩⟩
theorem lk_X4_heldBy_8 : mLv m_X4_heldBy m_X4_goes 8 3 := ⟨118, dX4_heldBy_8, cv_X4_118, ok_X4_goes, rfl, rfl, ⟨Nat.le_of_ble_eq_true rfl, Nat.le_of_ble_eq_true rfl⟩⟩
theorem lk_X4_heldBy_16 : mLv m_X4_heldBy m_X4_held 16 1 := ⟨166, dX4_heldBy_16, cv_X4_166, ok_X4_held, rfl, rfl, ⟨Nat.le_of_ble_eq_true rfl, Nat.le_of_ble_eq_true rfl⟩⟩
theorem lk_X4_isView_7 : mLv m_X4_isView m_X4_isReader 7 1 := ⟨163, dX4_isView_7, cv_X4_163, ok_X4_isReader, rfl, rfl, ⟨Nat.le_of_ble_eq_true rfl, Nat.le_of_ble_eq_true rfl⟩⟩
theorem lk_X4_keys_4 : mLv m_X4_keys m_X4_below 4 2 := ⟨169, dX4_keys_4, cv_X4_169, ok_X4_below, rfl, rfl, ⟨Nat.le_of_ble_eq_true rfl, Nat.le_of_ble_eq_true rfl⟩⟩
theorem lk_X4_epochOf_3 : mLv m_X4_epochOf m_X4_isView 3 1 := ⟨172, dX4_epochOf_3, cv_X4_172, ok_X4_isView, rfl, rfl, ⟨Nat.le_of_ble_eq_true rfl, Nat.le_of_ble_eq_true rfl⟩⟩
theorem lk_X4_epochOf_8 : mLv m_X4_epochOf m_X4_goes 8 3 := ⟨118, dX4_epochOf_8, cv_X4_118, ok_X4_goes, rfl, rfl, ⟨Nat.le_of_ble_eq_true rfl, Nat.le_of_ble_eq_true rfl⟩⟩
theorem lk_X4_get_2 : mLv m_X4_get m_X4_isView 2 1 := ⟨172, dX4_get_2, cv_X4_172, ok_X4_isView, rfl, rfl, ⟨Nat.le_of_ble_eq_true rfl, Nat.le_of_ble_eq_true rfl⟩⟩
theorem lk_X4_get_12 : mLt m_X4_get m_X4_in 12 3 := ⟨76, dX4_get_12, cs_X4_76, ok_X4_in, rfl, rfl, ⟨Nat.le_of_ble_eq_true rfl, Nat.le_of_ble_eq_true rfl⟩⟩
theorem lk_X4_get_34 : mLv m_X4_get m_X4_top 34 1 := ⟨175, dX4_get_34, cv_X4_175, ok_X4_top, rfl, rfl, ⟨Nat.le_of_ble_eq_true rfl, Nat.le_of_ble_eq_true rfl⟩⟩
theorem lk_X4_get_38 : mLv m_X4_get m_X4_finds 38 2 := ⟨125, dX4_get_38, cv_X4_125, ok_X4_finds, rfl, rfl, ⟨Nat.le_of_ble_eq_true rfl, Nat.le_of_ble_eq_true rfl⟩⟩
theorem lk_X4_get_52 : mLv m_X4_get m_X4_place 52 2 := ⟨131, dX4_get_52, cv_X4_131, ok_X4_place, rfl, rfl, ⟨Nat.le_of_ble_eq_true rfl, Nat.le_of_ble_eq_true rfl⟩⟩
theorem lk_X4_get_60 : mLv m_X4_get m_X4_isView 60 1 := ⟨172, dX4_get_60, cv_X4_172, ok_X4_isView, rfl, rfl, ⟨Nat.le_of_ble_eq_true rfl, Nat.le_of_ble_eq_true rfl⟩⟩
theorem lk_X4_get_67 : mLt m_X4_get m_X4_in 67 3 := ⟨76, dX4_get_67, cs_X4_76, ok_X4_in, rfl, rfl, ⟨Nat.le_of_ble_eq_true rfl, Nat.le_of_ble_eq_true rfl⟩⟩
theorem lk_X4_get_87 : mLv m_X4_get m_X4_has 87 3 := ⟨134, dX4_get_87, cv_X4_134, ok_X4_has, rfl, rfl, ⟨Nat.le_of_ble_eq_true rfl, Nat.le_of_ble_eq_true rfl⟩⟩
theorem lk_X4_get_98 : mLv m_X4_get m_X4_goes 98 3 := ⟨118, dX4_get_98, cv_X4_118, ok_X4_goes, rfl, rfl, ⟨Nat.le_of_ble_eq_true rfl, Nat.le_of_ble_eq_true rfl⟩⟩
theorem lk_X4_next_3 : mLv m_X4_next m_X4_isView 3 1 := ⟨172, dX4_next_3, cv_X4_172, ok_X4_isView, rfl, rfl, ⟨Nat.le_of_ble_eq_true rfl, Nat.le_of_ble_eq_true rfl⟩⟩
theorem lk_X4_next_8 : mLv m_X4_next m_X4_goes 8 3 := ⟨118, dX4_next_8, cv_X4_118, ok_X4_goes, rfl, rfl, ⟨Nat.le_of_ble_eq_true rfl, Nat.le_of_ble_eq_true rfl⟩⟩
theorem lk_X4_next_35 : mLv m_X4_next m_X4_top 35 1 := ⟨175, dX4_next_35, cv_X4_175, ok_X4_top, rfl, rfl, ⟨Nat.le_of_ble_eq_true rfl, Nat.le_of_ble_eq_true rfl⟩⟩
theorem lk_X4_next_39 : mLv m_X4_next m_X4_finds 39 2 := ⟨125, dX4_next_39, cv_X4_125, ok_X4_finds, rfl, rfl, ⟨Nat.le_of_ble_eq_true rfl, Nat.le_of_ble_eq_true rfl⟩⟩
theorem lk_X4_next_63 : mLv m_X4_next m_X4_place 63 2 := ⟨131, dX4_next_63, cv_X4_131, ok_X4_place, rfl, rfl, ⟨Nat.le_of_ble_eq_true rfl, Nat.le_of_ble_eq_true rfl⟩⟩
theorem lk_X4_next_67 : mLv m_X4_next m_X4_has 67 3 := ⟨134, dX4_next_67, cv_X4_134, ok_X4_has, rfl, rfl, ⟨Nat.le_of_ble_eq_true rfl, Nat.le_of_ble_eq_true rfl⟩⟩
theorem lk_X4_rank_3 : mLv m_X4_rank m_X4_isView 3 1 := ⟨172, dX4_rank_3, cv_X4_172, ok_X4_isView, rfl, rfl, ⟨Nat.le_of_ble_eq_true rfl, Nat.le_of_ble_eq_true rfl⟩⟩
theorem lk_X4_rank_8 : mLv m_X4_rank m_X4_goes 8 3 := ⟨118, dX4_rank_8, cv_X4_118, ok_X4_goes, rfl, rfl, ⟨Nat.le_of_ble_eq_true rfl, Nat.le_of_ble_eq_true rfl⟩⟩
theorem lk_X4_rank_17 : mLv m_X4_rank m_X4_top 17 1 := ⟨175, dX4_rank_17, cv_X4_175, ok_X4_top, rfl, rfl, ⟨Nat.le_of_ble_eq_true rfl, Nat.le_of_ble_eq_true rfl⟩⟩
theorem lk_X4_rank_21 : mLv m_X4_rank m_X4_below 21 2 := ⟨169, dX4_rank_21, cv_X4_169, ok_X4_below, rfl, rfl, ⟨Nat.le_of_ble_eq_true rfl, Nat.le_of_ble_eq_true rfl⟩⟩
theorem lk_X4_size_3 : mLv m_X4_size m_X4_isView 3 1 := ⟨172, dX4_size_3, cv_X4_172, ok_X4_isView, rfl, rfl, ⟨Nat.le_of_ble_eq_true rfl, Nat.le_of_ble_eq_true rfl⟩⟩
theorem lk_X4_size_8 : mLv m_X4_size m_X4_goes 8 3 := ⟨118, dX4_size_8, cv_X4_118, ok_X4_goes, rfl, rfl, ⟨Nat.le_of_ble_eq_true rfl, Nat.le_of_ble_eq_true rfl⟩⟩
theorem lk_X4_size_17 : mLv m_X4_size m_X4_top 17 1 := ⟨175, dX4_size_17, cv_X4_175, ok_X4_top, rfl, rfl, ⟨Nat.le_of_ble_eq_true rfl, Nat.le_of_ble_eq_true rfl⟩⟩
theorem lk_X4_size_20 : mLv m_X4_size m_X4_keys 20 1 := ⟨147, dX4_size_20, cv_X4_147, ok_X4_keys, rfl, rfl, ⟨Nat.le_of_ble_eq_true rfl, Nat.le_of_ble_eq_true rfl⟩⟩
theorem lk_X4_depth_3 : mLv m_X4_depth m_X4_isView 3 1 := ⟨172, dX4_depth_3, cv_X4_172, ok_X4_isView, rfl, rfl, ⟨Nat.le_of_ble_eq_true rfl, Nat.le_of_ble_eq_true rfl⟩⟩
theorem lk_X4_depth_8 : mLv m_X4_depth m_X4_goes 8 3 := ⟨118, dX4_depth_8, cv_X4_118, ok_X4_goes, rfl, rfl, ⟨Nat.le_of_ble_eq_true rfl, Nat.le_of_ble_eq_true rfl⟩⟩
theorem lk_X4_depth_19 : mLv m_X4_depth m_X4_top 19 1 := ⟨175, dX4_depth_19, cv_X4_175, ok_X4_top, rfl, rfl, ⟨Nat.le_of_ble_eq_true rfl, Nat.le_of_ble_eq_true rfl⟩⟩
theorem lk_X4_depth_23 : mLv m_X4_depth m_X4_finds 23 2 := ⟨125, dX4_depth_23, cv_X4_125, ok_X4_finds, rfl, rfl, ⟨Nat.le_of_ble_eq_true rfl, Nat.le_of_ble_eq_true rfl⟩⟩
theorem lk_X4_rootOf_3 : mLv m_X4_rootOf m_X4_isView 3 1 := ⟨172, dX4_rootOf_3, cv_X4_172, ok_X4_isView, rfl, rfl, ⟨Nat.le_of_ble_eq_true rfl, Nat.le_of_ble_eq_true rfl⟩⟩
theorem lk_X4_rootOf_8 : mLv m_X4_rootOf m_X4_goes 8 3 := ⟨118, dX4_rootOf_8, cv_X4_118, ok_X4_goes, rfl, rfl, ⟨Nat.le_of_ble_eq_true rfl, Nat.le_of_ble_eq_true rfl⟩⟩
theorem lk_X4_rootOf_16 : mLv m_X4_rootOf m_X4_top 16 1 := ⟨175, dX4_rootOf_16, cv_X4_175, ok_X4_top, rfl, rfl, ⟨Nat.le_of_ble_eq_true rfl, Nat.le_of_ble_eq_true rfl⟩⟩
theorem lk_X4_sharedPages_3 : mLv m_X4_sharedPages m_X4_isView 3 1 := ⟨172, dX4_sharedPages_3, cv_X4_172, ok_X4_isView, rfl, rfl, ⟨Nat.le_of_ble_eq_true rfl, Nat.le_of_ble_eq_true rfl⟩⟩
theorem lk_X4_sharedPages_11 : mLv m_X4_sharedPages m_X4_isView 11 1 := ⟨172, dX4_sharedPages_11, cv_X4_172, ok_X4_isView, rfl, rfl, ⟨Nat.le_of_ble_eq_true rfl, Nat.le_of_ble_eq_true rfl⟩⟩
theorem lk_X4_sharedPages_24 : mLv m_X4_sharedPages m_X4_goes 24 3 := ⟨118, dX4_sharedPages_24, cv_X4_118, ok_X4_goes, rfl, rfl, ⟨Nat.le_of_ble_eq_true rfl, Nat.le_of_ble_eq_true rfl⟩⟩
theorem lk_X4_sharedPages_33 : mLv m_X4_sharedPages m_X4_forgets 33 0 := ⟨58, dX4_sharedPages_33, cv_X4_58, ok_X4_forgets, rfl, rfl, ⟨Nat.le_of_ble_eq_true rfl, Nat.le_of_ble_eq_true rfl⟩⟩
theorem lk_X4_sharedPages_39 : mLv m_X4_sharedPages m_X4_top 39 1 := ⟨175, dX4_sharedPages_39, cv_X4_175, ok_X4_top, rfl, rfl, ⟨Nat.le_of_ble_eq_true rfl, Nat.le_of_ble_eq_true rfl⟩⟩
theorem lk_X4_sharedPages_42 : mLv m_X4_sharedPages m_X4_meets 42 1 := ⟨64, dX4_sharedPages_42, cv_X4_64, ok_X4_meets, rfl, rfl, ⟨Nat.le_of_ble_eq_true rfl, Nat.le_of_ble_eq_true rfl⟩⟩
theorem lk_X4_sharedPages_48 : mLv m_X4_sharedPages m_X4_top 48 1 := ⟨175, dX4_sharedPages_48, cv_X4_175, ok_X4_top, rfl, rfl, ⟨Nat.le_of_ble_eq_true rfl, Nat.le_of_ble_eq_true rfl⟩⟩
theorem lk_X4_sharedPages_51 : mLv m_X4_sharedPages m_X4_shared 51 1 := ⟨178, dX4_sharedPages_51, cv_X4_178, ok_X4_shared, rfl, rfl, ⟨Nat.le_of_ble_eq_true rfl, Nat.le_of_ble_eq_true rfl⟩⟩
theorem lk_X4_isFree_12 : mLv m_X4_isFree m_X4_goes 12 3 := ⟨118, dX4_isFree_12, cv_X4_118, ok_X4_goes, rfl, rfl, ⟨Nat.le_of_ble_eq_true rfl, Nat.le_of_ble_eq_true rfl⟩⟩
theorem lk_X4_isFree_20 : mLv m_X4_isFree m_X4_inUse 20 1 := ⟨181, dX4_isFree_20, cv_X4_181, ok_X4_inUse, rfl, rfl, ⟨Nat.le_of_ble_eq_true rfl, Nat.le_of_ble_eq_true rfl⟩⟩
theorem lk_X4_pagesInUse_7 : mLv m_X4_pagesInUse m_X4_meetsAll 7 1 := ⟨72, dX4_pagesInUse_7, cv_X4_72, ok_X4_meetsAll, rfl, rfl, ⟨Nat.le_of_ble_eq_true rfl, Nat.le_of_ble_eq_true rfl⟩⟩
theorem lk_X4_leastFree_7 : mLv m_X4_leastFree m_X4_meetsAll 7 1 := ⟨72, dX4_leastFree_7, cv_X4_72, ok_X4_meetsAll, rfl, rfl, ⟨Nat.le_of_ble_eq_true rfl, Nat.le_of_ble_eq_true rfl⟩⟩
theorem lk_X4_leastFree_12 : mLv m_X4_leastFree m_X4_leastNotMet 12 0 := ⟨80, dX4_leastFree_12, cv_X4_80, ok_X4_leastNotMet, rfl, rfl, ⟨Nat.le_of_ble_eq_true rfl, Nat.le_of_ble_eq_true rfl⟩⟩
theorem lk_X4_entries_3 : mLv m_X4_entries m_X4_inUse 3 1 := ⟨181, dX4_entries_3, cv_X4_181, ok_X4_inUse, rfl, rfl, ⟨Nat.le_of_ble_eq_true rfl, Nat.le_of_ble_eq_true rfl⟩⟩
theorem lk_X4_entries_8 : mLv m_X4_entries m_X4_goes 8 3 := ⟨118, dX4_entries_8, cv_X4_118, ok_X4_goes, rfl, rfl, ⟨Nat.le_of_ble_eq_true rfl, Nat.le_of_ble_eq_true rfl⟩⟩
theorem lk_X4_isEntry_2 : mLv m_X4_isEntry m_X4_inUse 2 1 := ⟨181, dX4_isEntry_2, cv_X4_181, ok_X4_inUse, rfl, rfl, ⟨Nat.le_of_ble_eq_true rfl, Nat.le_of_ble_eq_true rfl⟩⟩
theorem lk_X4_isEntry_18 : mLt m_X4_isEntry m_X4_in 18 3 := ⟨76, dX4_isEntry_18, cs_X4_76, ok_X4_in, rfl, rfl, ⟨Nat.le_of_ble_eq_true rfl, Nat.le_of_ble_eq_true rfl⟩⟩
theorem lk_X4_keyAt_4 : mLv m_X4_keyAt m_X4_isEntry 4 2 := ⟨184, dX4_keyAt_4, cv_X4_184, ok_X4_isEntry, rfl, rfl, ⟨Nat.le_of_ble_eq_true rfl, Nat.le_of_ble_eq_true rfl⟩⟩
theorem lk_X4_keyAt_9 : mLv m_X4_keyAt m_X4_goes 9 3 := ⟨118, dX4_keyAt_9, cv_X4_118, ok_X4_goes, rfl, rfl, ⟨Nat.le_of_ble_eq_true rfl, Nat.le_of_ble_eq_true rfl⟩⟩
theorem lk_X4_keyAt_18 : mLv m_X4_keyAt m_X4_keyOf 18 2 := ⟨94, dX4_keyAt_18, cv_X4_94, ok_X4_keyOf, rfl, rfl, ⟨Nat.le_of_ble_eq_true rfl, Nat.le_of_ble_eq_true rfl⟩⟩
theorem lk_X4_pageAt_4 : mLv m_X4_pageAt m_X4_isEntry 4 2 := ⟨184, dX4_pageAt_4, cv_X4_184, ok_X4_isEntry, rfl, rfl, ⟨Nat.le_of_ble_eq_true rfl, Nat.le_of_ble_eq_true rfl⟩⟩
theorem lk_X4_pageAt_9 : mLv m_X4_pageAt m_X4_goes 9 3 := ⟨118, dX4_pageAt_9, cv_X4_118, ok_X4_goes, rfl, rfl, ⟨Nat.le_of_ble_eq_true rfl, Nat.le_of_ble_eq_true rfl⟩⟩
theorem lk_X4_slotWord_4 : mLt m_X4_slotWord m_X4_in 4 3 := ⟨76, dX4_slotWord_4, cs_X4_76, ok_X4_in, rfl, rfl, ⟨Nat.le_of_ble_eq_true rfl, Nat.le_of_ble_eq_true rfl⟩⟩
theorem lk_X4_slotWord_13 : mLt m_X4_slotWord m_X4_in 13 3 := ⟨76, dX4_slotWord_13, cs_X4_76, ok_X4_in, rfl, rfl, ⟨Nat.le_of_ble_eq_true rfl, Nat.le_of_ble_eq_true rfl⟩⟩
theorem lk_X4_slotWord_26 : mLv m_X4_slotWord m_X4_goes 26 3 := ⟨118, dX4_slotWord_26, cv_X4_118, ok_X4_goes, rfl, rfl, ⟨Nat.le_of_ble_eq_true rfl, Nat.le_of_ble_eq_true rfl⟩⟩
theorem lk_X4_isWhole_4 : mLt m_X4_isWhole m_X4_in 4 3 := ⟨76, dX4_isWhole_4, cs_X4_76, ok_X4_in, rfl, rfl, ⟨Nat.le_of_ble_eq_true rfl, Nat.le_of_ble_eq_true rfl⟩⟩
theorem lk_X4_isWhole_9 : mLv m_X4_isWhole m_X4_goes 9 3 := ⟨118, dX4_isWhole_9, cv_X4_118, ok_X4_goes, rfl, rfl, ⟨Nat.le_of_ble_eq_true rfl, Nat.le_of_ble_eq_true rfl⟩⟩
theorem lk_X4_isWhole_17 : mLv m_X4_isWhole m_X4_whole 17 1 := ⟨68, dX4_isWhole_17, cv_X4_68, ok_X4_whole, rfl, rfl, ⟨Nat.le_of_ble_eq_true rfl, Nat.le_of_ble_eq_true rfl⟩⟩
theorem lk_X4_tear_3 : mLt m_X4_tear m_X4_in 3 3 := ⟨76, dX4_tear_3, cs_X4_76, ok_X4_in, rfl, rfl, ⟨Nat.le_of_ble_eq_true rfl, Nat.le_of_ble_eq_true rfl⟩⟩
theorem lk_X4_tear_17 : mLv m_X4_tear m_X4_whole 17 1 := ⟨68, dX4_tear_17, cv_X4_68, ok_X4_whole, rfl, rfl, ⟨Nat.le_of_ble_eq_true rfl, Nat.le_of_ble_eq_true rfl⟩⟩
theorem lk_X4_tear_29 : mLv m_X4_tear m_X4_goes 29 3 := ⟨118, dX4_tear_29, cv_X4_118, ok_X4_goes, rfl, rfl, ⟨Nat.le_of_ble_eq_true rfl, Nat.le_of_ble_eq_true rfl⟩⟩
theorem lk_X4_tear_39 : mLv m_X4_tear m_X4_meetsAll 39 1 := ⟨72, dX4_tear_39, cv_X4_72, ok_X4_meetsAll, rfl, rfl, ⟨Nat.le_of_ble_eq_true rfl, Nat.le_of_ble_eq_true rfl⟩⟩
theorem lk_X4_tear_59 : mLv m_X4_tear m_X4_meetsAll 59 1 := ⟨72, dX4_tear_59, cv_X4_72, ok_X4_meetsAll, rfl, rfl, ⟨Nat.le_of_ble_eq_true rfl, Nat.le_of_ble_eq_true rfl⟩⟩
theorem lk_X4_restarts_6 : mLv m_X4_restarts m_X4_closesAll 6 0 := ⟨52, dX4_restarts_6, cv_X4_52, ok_X4_closesAll, rfl, rfl, ⟨Nat.le_of_ble_eq_true rfl, Nat.le_of_ble_eq_true rfl⟩⟩
theorem lk_X4_restarts_11 : mLv m_X4_restarts m_X4_whole 11 1 := ⟨68, dX4_restarts_11, cv_X4_68, ok_X4_whole, rfl, rfl, ⟨Nat.le_of_ble_eq_true rfl, Nat.le_of_ble_eq_true rfl⟩⟩
theorem lk_X4_restarts_19 : mLv m_X4_restarts m_X4_whole 19 1 := ⟨68, dX4_restarts_19, cv_X4_68, ok_X4_whole, rfl, rfl, ⟨Nat.le_of_ble_eq_true rfl, Nat.le_of_ble_eq_true rfl⟩⟩
theorem lk_X4_restarts_57 : mLv m_X4_restarts m_X4_reads 57 1 := ⟨160, dX4_restarts_57, cv_X4_160, ok_X4_reads, rfl, rfl, ⟨Nat.le_of_ble_eq_true rfl, Nat.le_of_ble_eq_true rfl⟩⟩
theorem lk_X4_crash_6 : mLv m_X4_crash m_X4_restarts 6 0 := ⟨190, dX4_crash_6, cv_X4_190, ok_X4_restarts, rfl, rfl, ⟨Nat.le_of_ble_eq_true rfl, Nat.le_of_ble_eq_true rfl⟩⟩
theorem lk_X4_crashInCommit_3 : mLt m_X4_crashInCommit m_X4_in 3 3 := ⟨76, dX4_crashInCommit_3, cs_X4_76, ok_X4_in, rfl, rfl, ⟨Nat.le_of_ble_eq_true rfl, Nat.le_of_ble_eq_true rfl⟩⟩
theorem lk_X4_crashInCommit_11 : mLt m_X4_crashInCommit m_X4_in 11 3 := ⟨76, dX4_crashInCommit_11, cs_X4_76, ok_X4_in, rfl, rfl, ⟨Nat.le_of_ble_eq_true rfl, Nat.le_of_ble_eq_true rfl⟩⟩
theorem lk_X4_crashInCommit_31 : mLv m_X4_crashInCommit m_X4_whole 31 1 := ⟨68, dX4_crashInCommit_31, cv_X4_68, ok_X4_whole, rfl, rfl, ⟨Nat.le_of_ble_eq_true rfl, Nat.le_of_ble_eq_true rfl⟩⟩
theorem lk_X4_crashInCommit_43 : mLv m_X4_crashInCommit m_X4_goes 43 3 := ⟨118, dX4_crashInCommit_43, cv_X4_118, ok_X4_goes, rfl, rfl, ⟨Nat.le_of_ble_eq_true rfl, Nat.le_of_ble_eq_true rfl⟩⟩
theorem lk_X4_crashInCommit_53 : mLv m_X4_crashInCommit m_X4_writes 53 1 := ⟨157, dX4_crashInCommit_53, cv_X4_157, ok_X4_writes, rfl, rfl, ⟨Nat.le_of_ble_eq_true rfl, Nat.le_of_ble_eq_true rfl⟩⟩
theorem lk_X4_crashInCommit_57 : mLv m_X4_crashInCommit m_X4_restarts 57 0 := ⟨190, dX4_crashInCommit_57, cv_X4_190, ok_X4_restarts, rfl, rfl, ⟨Nat.le_of_ble_eq_true rfl, Nat.le_of_ble_eq_true rfl⟩⟩
theorem lk_L_beginBatch_3 : mLv m_L_beginBatch m_X3_beginBatch 3 0 := ⟨7, dL_beginBatch_3, cv_L_7, ok_X3_beginBatch, rfl, rfl, ⟨Nat.le_of_ble_eq_true rfl, Nat.le_of_ble_eq_true rfl⟩⟩
theorem lk_L_put_5 : mLv m_L_put m_X3_put 5 2 := ⟨15, dL_put_5, cv_L_15, ok_X3_put, rfl, rfl, ⟨Nat.le_of_ble_eq_true rfl, Nat.le_of_ble_eq_true rfl⟩⟩
theorem lk_L_delete_4 : mLv m_L_delete m_X3_delete 4 1 := ⟨21, dL_delete_4, cv_L_21, ok_X3_delete, rfl, rfl, ⟨Nat.le_of_ble_eq_true rfl, Nat.le_of_ble_eq_true rfl⟩⟩
theorem lk_L_commit_3 : mLv m_L_commit m_X3_commit 3 0 := ⟨27, dL_commit_3, cv_L_27, ok_X3_commit, rfl, rfl, ⟨Nat.le_of_ble_eq_true rfl, Nat.le_of_ble_eq_true rfl⟩⟩
theorem lk_L_abandon_3 : mLv m_L_abandon m_X3_abandon 3 0 := ⟨30, dL_abandon_3, cv_L_30, ok_X3_abandon, rfl, rfl, ⟨Nat.le_of_ble_eq_true rfl, Nat.le_of_ble_eq_true rfl⟩⟩
theorem lk_L_openReader_3 : mLv m_L_openReader m_X3_openReader 3 0 := ⟨33, dL_openReader_3, cv_L_33, ok_X3_openReader, rfl, rfl, ⟨Nat.le_of_ble_eq_true rfl, Nat.le_of_ble_eq_true rfl⟩⟩
theorem lk_L_closeReader_4 : mLv m_L_closeReader m_X3_closeReader 4 1 := ⟨36, dL_closeReader_4, cv_L_36, ok_X3_closeReader, rfl, rfl, ⟨Nat.le_of_ble_eq_true rfl, Nat.le_of_ble_eq_true rfl⟩⟩
theorem lk_L_heldBy_4 : mLv m_L_heldBy m_X3_heldBy 4 1 := ⟨41, dL_heldBy_4, cv_L_41, ok_X3_heldBy, rfl, rfl, ⟨Nat.le_of_ble_eq_true rfl, Nat.le_of_ble_eq_true rfl⟩⟩
theorem lk_L_epochOf_4 : mLv m_L_epochOf m_X3_epochOf 4 1 := ⟨44, dL_epochOf_4, cv_L_44, ok_X3_epochOf, rfl, rfl, ⟨Nat.le_of_ble_eq_true rfl, Nat.le_of_ble_eq_true rfl⟩⟩
theorem lk_L_get_5 : mLv m_L_get m_X3_get 5 2 := ⟨47, dL_get_5, cv_L_47, ok_X3_get, rfl, rfl, ⟨Nat.le_of_ble_eq_true rfl, Nat.le_of_ble_eq_true rfl⟩⟩
theorem lk_L_next_5 : mLv m_L_next m_X3_next 5 2 := ⟨51, dL_next_5, cv_L_51, ok_X3_next, rfl, rfl, ⟨Nat.le_of_ble_eq_true rfl, Nat.le_of_ble_eq_true rfl⟩⟩
theorem lk_L_rank_5 : mLv m_L_rank m_X3_rank 5 2 := ⟨54, dL_rank_5, cv_L_54, ok_X3_rank, rfl, rfl, ⟨Nat.le_of_ble_eq_true rfl, Nat.le_of_ble_eq_true rfl⟩⟩
theorem lk_L_size_4 : mLv m_L_size m_X3_size 4 1 := ⟨57, dL_size_4, cv_L_57, ok_X3_size, rfl, rfl, ⟨Nat.le_of_ble_eq_true rfl, Nat.le_of_ble_eq_true rfl⟩⟩
theorem lk_L_depth_4 : mLv m_L_depth m_X3_depth 4 1 := ⟨60, dL_depth_4, cv_L_60, ok_X3_depth, rfl, rfl, ⟨Nat.le_of_ble_eq_true rfl, Nat.le_of_ble_eq_true rfl⟩⟩
theorem lk_L_rootOf_4 : mLv m_L_rootOf m_X3_rootOf 4 1 := ⟨63, dL_rootOf_4, cv_L_63, ok_X3_rootOf, rfl, rfl, ⟨Nat.le_of_ble_eq_true rfl, Nat.le_of_ble_eq_true rfl⟩⟩
theorem lk_L_sharedPages_5 : mLv m_L_sharedPages m_X3_sharedPages 5 2 := ⟨66, dL_sharedPages_5, cv_L_66, ok_X3_sharedPages, rfl, rfl, ⟨Nat.le_of_ble_eq_true rfl, Nat.le_of_ble_eq_true rfl⟩⟩
theorem lk_L_isFree_4 : mLv m_L_isFree m_X3_isFree 4 1 := ⟨69, dL_isFree_4, cv_L_69, ok_X3_isFree, rfl, rfl, ⟨Nat.le_of_ble_eq_true rfl, Nat.le_of_ble_eq_true rfl⟩⟩
theorem lk_L_entries_4 : mLv m_L_entries m_X3_entries 4 1 := ⟨73, dL_entries_4, cv_L_73, ok_X3_entries, rfl, rfl, ⟨Nat.le_of_ble_eq_true rfl, Nat.le_of_ble_eq_true rfl⟩⟩
theorem lk_L_keyAt_5 : mLv m_L_keyAt m_X3_keyAt 5 2 := ⟨76, dL_keyAt_5, cv_L_76, ok_X3_keyAt, rfl, rfl, ⟨Nat.le_of_ble_eq_true rfl, Nat.le_of_ble_eq_true rfl⟩⟩
theorem lk_L_pageAt_5 : mLv m_L_pageAt m_X3_pageAt 5 2 := ⟨79, dL_pageAt_5, cv_L_79, ok_X3_pageAt, rfl, rfl, ⟨Nat.le_of_ble_eq_true rfl, Nat.le_of_ble_eq_true rfl⟩⟩
theorem lk_L_slotWord_5 : mLv m_L_slotWord m_X3_slotWord 5 2 := ⟨82, dL_slotWord_5, cv_L_82, ok_X3_slotWord, rfl, rfl, ⟨Nat.le_of_ble_eq_true rfl, Nat.le_of_ble_eq_true rfl⟩⟩
theorem lk_L_isWhole_4 : mLv m_L_isWhole m_X3_isWhole 4 1 := ⟨86, dL_isWhole_4, cv_L_86, ok_X3_isWhole, rfl, rfl, ⟨Nat.le_of_ble_eq_true rfl, Nat.le_of_ble_eq_true rfl⟩⟩
theorem lk_L_tear_4 : mLv m_L_tear m_X3_tear 4 1 := ⟨89, dL_tear_4, cv_L_89, ok_X3_tear, rfl, rfl, ⟨Nat.le_of_ble_eq_true rfl, Nat.le_of_ble_eq_true rfl⟩⟩
theorem lk_L_crashInCommit_4 : mLv m_L_crashInCommit m_X3_crashInCommit 4 1 := ⟨92, dL_crashInCommit_4, cv_L_92, ok_X3_crashInCommit, rfl, rfl, ⟨Nat.le_of_ble_eq_true rfl, Nat.le_of_ble_eq_true rfl⟩⟩
theorem lk_L_law_174 (q : Nat × (Nat → Int32)) : mLx (m_L_law q) m_L_beginBatch 174 2 := ⟨99, _, _, dL_law_174, cs_L_99, ok_L_beginBatch, rfl, rfl, ⟨Nat.le_of_ble_eq_true rfl, Nat.le_of_ble_eq_true rfl⟩⟩
theorem lk_L_law_180 (q : Nat × (Nat → Int32)) : mLv (m_L_law q) m_X4_beginBatch 180 0 := ⟨104, dL_law_180, cv_L_104, ok_X4_beginBatch, rfl, rfl, ⟨Nat.le_of_ble_eq_true rfl, Nat.le_of_ble_eq_true rfl⟩⟩
theorem lk_L_law_186 (q : Nat × (Nat → Int32)) : mLv (m_L_law q) m_X4_thrown 186 0 := ⟨105, dL_law_186, cv_L_105, ok_X4_thrown, rfl, rfl, ⟨Nat.le_of_ble_eq_true rfl, Nat.le_of_ble_eq_true rfl⟩⟩
theorem lk_L_law_217 (q : Nat × (Nat → Int32)) : mLv (m_L_law q) m_X3_hasBatch 217 0 := ⟨108, dL_law_217, cv_L_108, ok_X3_hasBatch, rfl, rfl, ⟨Nat.le_of_ble_eq_true rfl, Nat.le_of_ble_eq_true rfl⟩⟩
theorem lk_L_law_221 (q : Nat × (Nat → Int32)) : mLv (m_L_law q) m_X4_hasBatch 221 0 := ⟨112, dL_law_221, cv_L_112, ok_X4_hasBatch, rfl, rfl, ⟨Nat.le_of_ble_eq_true rfl, Nat.le_of_ble_eq_true rfl⟩⟩
theorem lk_L_law_243 (q : Nat × (Nat → Int32)) : mLx (m_L_law q) m_L_put 243 4 := ⟨113, _, _, dL_law_243, cs_L_113, ok_L_put, rfl, rfl, ⟨Nat.le_of_ble_eq_true rfl, Nat.le_of_ble_eq_true rfl⟩⟩
theorem lk_L_law_261 (q : Nat × (Nat → Int32)) : mLv (m_L_law q) m_X4_put 261 2 := ⟨116, dL_law_261, cv_L_116, ok_X4_put, rfl, rfl, ⟨Nat.le_of_ble_eq_true rfl, Nat.le_of_ble_eq_true rfl⟩⟩
theorem lk_L_law_267 (q : Nat × (Nat → Int32)) : mLv (m_L_law q) m_X4_thrown 267 0 := ⟨105, dL_law_267, cv_L_105, ok_X4_thrown, rfl, rfl, ⟨Nat.le_of_ble_eq_true rfl, Nat.le_of_ble_eq_true rfl⟩⟩
theorem lk_L_law_312 (q : Nat × (Nat → Int32)) : mLx (m_L_law q) m_L_delete 312 3 := ⟨117, _, _, dL_law_312, cs_L_117, ok_L_delete, rfl, rfl, ⟨Nat.le_of_ble_eq_true rfl, Nat.le_of_ble_eq_true rfl⟩⟩
theorem lk_L_law_324 (q : Nat × (Nat → Int32)) : mLv (m_L_law q) m_X4_delete 324 1 := ⟨120, dL_law_324, cv_L_120, ok_X4_delete, rfl, rfl, ⟨Nat.le_of_ble_eq_true rfl, Nat.le_of_ble_eq_true rfl⟩⟩
theorem lk_L_law_330 (q : Nat × (Nat → Int32)) : mLv (m_L_law q) m_X4_thrown 330 0 := ⟨105, dL_law_330, cv_L_105, ok_X4_thrown, rfl, rfl, ⟨Nat.le_of_ble_eq_true rfl, Nat.le_of_ble_eq_true rfl⟩⟩
theorem lk_L_law_362 (q : Nat × (Nat → Int32)) : mLx (m_L_law q) m_L_commit 362 2 := ⟨121, _, _, dL_law_362, cs_L_121, ok_L_commit, rfl, rfl, ⟨Nat.le_of_ble_eq_true rfl, Nat.le_of_ble_eq_true rfl⟩⟩
theorem lk_L_law_368 (q : Nat × (Nat → Int32)) : mLv (m_L_law q) m_X4_commit 368 0 := ⟨123, dL_law_368, cv_L_123, ok_X4_commit, rfl, rfl, ⟨Nat.le_of_ble_eq_true rfl, Nat.le_of_ble_eq_true rfl⟩⟩
theorem lk_L_law_374 (q : Nat × (Nat → Int32)) : mLv (m_L_law q) m_X4_thrown 374 0 := ⟨105, dL_law_374, cv_L_105, ok_X4_thrown, rfl, rfl, ⟨Nat.le_of_ble_eq_true rfl, Nat.le_of_ble_eq_true rfl⟩⟩
theorem lk_L_law_406 (q : Nat × (Nat → Int32)) : mLx (m_L_law q) m_L_abandon 406 2 := ⟨124, _, _, dL_law_406, cs_L_124, ok_L_abandon, rfl, rfl, ⟨Nat.le_of_ble_eq_true rfl, Nat.le_of_ble_eq_true rfl⟩⟩
theorem lk_L_law_412 (q : Nat × (Nat → Int32)) : mLv (m_L_law q) m_X4_abandon 412 0 := ⟨126, dL_law_412, cv_L_126, ok_X4_abandon, rfl, rfl, ⟨Nat.le_of_ble_eq_true rfl, Nat.le_of_ble_eq_true rfl⟩⟩
theorem lk_L_law_418 (q : Nat × (Nat → Int32)) : mLv (m_L_law q) m_X4_thrown 418 0 := ⟨105, dL_law_418, cv_L_105, ok_X4_thrown, rfl, rfl, ⟨Nat.le_of_ble_eq_true rfl, Nat.le_of_ble_eq_true rfl⟩⟩
theorem lk_L_law_450 (q : Nat × (Nat → Int32)) : mLx (m_L_law q) m_L_openReader 450 2 := ⟨127, _, _, dL_law_450, cs_L_127, ok_L_openReader, rfl, rfl, ⟨Nat.le_of_ble_eq_true rfl, Nat.le_of_ble_eq_true rfl⟩⟩
theorem lk_L_law_456 (q : Nat × (Nat → Int32)) : mLv (m_L_law q) m_X4_openReader 456 0 := ⟨129, dL_law_456, cv_L_129, ok_X4_openReader, rfl, rfl, ⟨Nat.le_of_ble_eq_true rfl, Nat.le_of_ble_eq_true rfl⟩⟩
theorem lk_L_law_462 (q : Nat × (Nat → Int32)) : mLv (m_L_law q) m_X4_thrown 462 0 := ⟨105, dL_law_462, cv_L_105, ok_X4_thrown, rfl, rfl, ⟨Nat.le_of_ble_eq_true rfl, Nat.le_of_ble_eq_true rfl⟩⟩
theorem lk_L_law_500 (q : Nat × (Nat → Int32)) : mLx (m_L_law q) m_L_closeReader 500 3 := ⟨130, _, _, dL_law_500, cs_L_130, ok_L_closeReader, rfl, rfl, ⟨Nat.le_of_ble_eq_true rfl, Nat.le_of_ble_eq_true rfl⟩⟩
theorem lk_L_law_512 (q : Nat × (Nat → Int32)) : mLv (m_L_law q) m_X4_closeReader 512 1 := ⟨132, dL_law_512, cv_L_132, ok_X4_closeReader, rfl, rfl, ⟨Nat.le_of_ble_eq_true rfl, Nat.le_of_ble_eq_true rfl⟩⟩
theorem lk_L_law_518 (q : Nat × (Nat → Int32)) : mLv (m_L_law q) m_X4_thrown 518 0 := ⟨105, dL_law_518, cv_L_105, ok_X4_thrown, rfl, rfl, ⟨Nat.le_of_ble_eq_true rfl, Nat.le_of_ble_eq_true rfl⟩⟩
theorem lk_L_law_549 (q : Nat × (Nat → Int32)) : mLv (m_L_law q) m_X3_readers 549 0 := ⟨133, dL_law_549, cv_L_133, ok_X3_readers, rfl, rfl, ⟨Nat.le_of_ble_eq_true rfl, Nat.le_of_ble_eq_true rfl⟩⟩
theorem lk_L_law_553 (q : Nat × (Nat → Int32)) : mLv (m_L_law q) m_X4_readers 553 0 := ⟨136, dL_law_553, cv_L_136, ok_X4_readers, rfl, rfl, ⟨Nat.le_of_ble_eq_true rfl, Nat.le_of_ble_eq_true rfl⟩⟩
theorem lk_L_law_569 (q : Nat × (Nat → Int32)) : mLx (m_L_law q) m_L_heldBy 569 3 := ⟨137, _, _, dL_law_569, cs_L_137, ok_L_heldBy, rfl, rfl, ⟨Nat.le_of_ble_eq_true rfl, Nat.le_of_ble_eq_true rfl⟩⟩
theorem lk_L_law_581 (q : Nat × (Nat → Int32)) : mLv (m_L_law q) m_X4_heldBy 581 1 := ⟨139, dL_law_581, cv_L_139, ok_X4_heldBy, rfl, rfl, ⟨Nat.le_of_ble_eq_true rfl, Nat.le_of_ble_eq_true rfl⟩⟩
theorem lk_L_law_587 (q : Nat × (Nat → Int32)) : mLv (m_L_law q) m_X4_thrown 587 0 := ⟨105, dL_law_587, cv_L_105, ok_X4_thrown, rfl, rfl, ⟨Nat.le_of_ble_eq_true rfl, Nat.le_of_ble_eq_true rfl⟩⟩
theorem lk_L_law_625 (q : Nat × (Nat → Int32)) : mLx (m_L_law q) m_L_epochOf 625 3 := ⟨140, _, _, dL_law_625, cs_L_140, ok_L_epochOf, rfl, rfl, ⟨Nat.le_of_ble_eq_true rfl, Nat.le_of_ble_eq_true rfl⟩⟩
theorem lk_L_law_637 (q : Nat × (Nat → Int32)) : mLv (m_L_law q) m_X4_epochOf 637 1 := ⟨142, dL_law_637, cv_L_142, ok_X4_epochOf, rfl, rfl, ⟨Nat.le_of_ble_eq_true rfl, Nat.le_of_ble_eq_true rfl⟩⟩
theorem lk_L_law_643 (q : Nat × (Nat → Int32)) : mLv (m_L_law q) m_X4_thrown 643 0 := ⟨105, dL_law_643, cv_L_105, ok_X4_thrown, rfl, rfl, ⟨Nat.le_of_ble_eq_true rfl, Nat.le_of_ble_eq_true rfl⟩⟩
theorem lk_L_law_687 (q : Nat × (Nat → Int32)) : mLx (m_L_law q) m_L_get 687 4 := ⟨143, _, _, dL_law_687, cs_L_143, ok_L_get, rfl, rfl, ⟨Nat.le_of_ble_eq_true rfl, Nat.le_of_ble_eq_true rfl⟩⟩
theorem lk_L_law_705 (q : Nat × (Nat → Int32)) : mLv (m_L_law q) m_X4_get 705 2 := ⟨145, dL_law_705, cv_L_145, ok_X4_get, rfl, rfl, ⟨Nat.le_of_ble_eq_true rfl, Nat.le_of_ble_eq_true rfl⟩⟩
theorem lk_L_law_711 (q : Nat × (Nat → Int32)) : mLv (m_L_law q) m_X4_thrown 711 0 := ⟨105, dL_law_711, cv_L_105, ok_X4_thrown, rfl, rfl, ⟨Nat.le_of_ble_eq_true rfl, Nat.le_of_ble_eq_true rfl⟩⟩
theorem lk_L_law_755 (q : Nat × (Nat → Int32)) : mLx (m_L_law q) m_L_next 755 4 := ⟨146, _, _, dL_law_755, cs_L_146, ok_L_next, rfl, rfl, ⟨Nat.le_of_ble_eq_true rfl, Nat.le_of_ble_eq_true rfl⟩⟩
theorem lk_L_law_773 (q : Nat × (Nat → Int32)) : mLv (m_L_law q) m_X4_next 773 2 := ⟨148, dL_law_773, cv_L_148, ok_X4_next, rfl, rfl, ⟨Nat.le_of_ble_eq_true rfl, Nat.le_of_ble_eq_true rfl⟩⟩
theorem lk_L_law_779 (q : Nat × (Nat → Int32)) : mLv (m_L_law q) m_X4_thrown 779 0 := ⟨105, dL_law_779, cv_L_105, ok_X4_thrown, rfl, rfl, ⟨Nat.le_of_ble_eq_true rfl, Nat.le_of_ble_eq_true rfl⟩⟩
theorem lk_L_law_823 (q : Nat × (Nat → Int32)) : mLx (m_L_law q) m_L_rank 823 4 := ⟨149, _, _, dL_law_823, cs_L_149, ok_L_rank, rfl, rfl, ⟨Nat.le_of_ble_eq_true rfl, Nat.le_of_ble_eq_true rfl⟩⟩
theorem lk_L_law_841 (q : Nat × (Nat → Int32)) : mLv (m_L_law q) m_X4_rank 841 2 := ⟨151, dL_law_841, cv_L_151, ok_X4_rank, rfl, rfl, ⟨Nat.le_of_ble_eq_true rfl, Nat.le_of_ble_eq_true rfl⟩⟩
theorem lk_L_law_847 (q : Nat × (Nat → Int32)) : mLv (m_L_law q) m_X4_thrown 847 0 := ⟨105, dL_law_847, cv_L_105, ok_X4_thrown, rfl, rfl, ⟨Nat.le_of_ble_eq_true rfl, Nat.le_of_ble_eq_true rfl⟩⟩
theorem lk_L_law_885 (q : Nat × (Nat → Int32)) : mLx (m_L_law q) m_L_size 885 3 := ⟨152, _, _, dL_law_885, cs_L_152, ok_L_size, rfl, rfl, ⟨Nat.le_of_ble_eq_true rfl, Nat.le_of_ble_eq_true rfl⟩⟩
theorem lk_L_law_897 (q : Nat × (Nat → Int32)) : mLv (m_L_law q) m_X4_size 897 1 := ⟨154, dL_law_897, cv_L_154, ok_X4_size, rfl, rfl, ⟨Nat.le_of_ble_eq_true rfl, Nat.le_of_ble_eq_true rfl⟩⟩
theorem lk_L_law_903 (q : Nat × (Nat → Int32)) : mLv (m_L_law q) m_X4_thrown 903 0 := ⟨105, dL_law_903, cv_L_105, ok_X4_thrown, rfl, rfl, ⟨Nat.le_of_ble_eq_true rfl, Nat.le_of_ble_eq_true rfl⟩⟩
theorem lk_L_law_941 (q : Nat × (Nat → Int32)) : mLx (m_L_law q) m_L_depth 941 3 := ⟨155, _, _, dL_law_941, cs_L_155, ok_L_depth, rfl, rfl, ⟨Nat.le_of_ble_eq_true rfl, Nat.le_of_ble_eq_true rfl⟩⟩
theorem lk_L_law_953 (q : Nat × (Nat → Int32)) : mLv (m_L_law q) m_X4_depth 953 1 := ⟨157, dL_law_953, cv_L_157, ok_X4_depth, rfl, rfl, ⟨Nat.le_of_ble_eq_true rfl, Nat.le_of_ble_eq_true rfl⟩⟩
theorem lk_L_law_959 (q : Nat × (Nat → Int32)) : mLv (m_L_law q) m_X4_thrown 959 0 := ⟨105, dL_law_959, cv_L_105, ok_X4_thrown, rfl, rfl, ⟨Nat.le_of_ble_eq_true rfl, Nat.le_of_ble_eq_true rfl⟩⟩
theorem lk_L_law_997 (q : Nat × (Nat → Int32)) : mLx (m_L_law q) m_L_rootOf 997 3 := ⟨158, _, _, dL_law_997, cs_L_158, ok_L_rootOf, rfl, rfl, ⟨Nat.le_of_ble_eq_true rfl, Nat.le_of_ble_eq_true rfl⟩⟩
theorem lk_L_law_1009 (q : Nat × (Nat → Int32)) : mLv (m_L_law q) m_X4_rootOf 1009 1 := ⟨160, dL_law_1009, cv_L_160, ok_X4_rootOf, rfl, rfl, ⟨Nat.le_of_ble_eq_true rfl, Nat.le_of_ble_eq_true rfl⟩⟩
theorem lk_L_law_1015 (q : Nat × (Nat → Int32)) : mLv (m_L_law q) m_X4_thrown 1015 0 := ⟨105, dL_law_1015, cv_L_105, ok_X4_thrown, rfl, rfl, ⟨Nat.le_of_ble_eq_true rfl, Nat.le_of_ble_eq_true rfl⟩⟩
theorem lk_L_law_1059 (q : Nat × (Nat → Int32)) : mLx (m_L_law q) m_L_sharedPages 1059 4 := ⟨161, _, _, dL_law_1059, cs_L_161, ok_L_sharedPages, rfl, rfl, ⟨Nat.le_of_ble_eq_true rfl, Nat.le_of_ble_eq_true rfl⟩⟩
theorem lk_L_law_1077 (q : Nat × (Nat → Int32)) : mLv (m_L_law q) m_X4_sharedPages 1077 2 := ⟨163, dL_law_1077, cv_L_163, ok_X4_sharedPages, rfl, rfl, ⟨Nat.le_of_ble_eq_true rfl, Nat.le_of_ble_eq_true rfl⟩⟩
theorem lk_L_law_1083 (q : Nat × (Nat → Int32)) : mLv (m_L_law q) m_X4_thrown 1083 0 := ⟨105, dL_law_1083, cv_L_105, ok_X4_thrown, rfl, rfl, ⟨Nat.le_of_ble_eq_true rfl, Nat.le_of_ble_eq_true rfl⟩⟩
theorem lk_L_law_1121 (q : Nat × (Nat → Int32)) : mLx (m_L_law q) m_L_isFree 1121 3 := ⟨164, _, _, dL_law_1121, cs_L_164, ok_L_isFree, rfl, rfl, ⟨Nat.le_of_ble_eq_true rfl, Nat.le_of_ble_eq_true rfl⟩⟩
theorem lk_L_law_1133 (q : Nat × (Nat → Int32)) : mLv (m_L_law q) m_X4_isFree 1133 1 := ⟨166, dL_law_1133, cv_L_166, ok_X4_isFree, rfl, rfl, ⟨Nat.le_of_ble_eq_true rfl, Nat.le_of_ble_eq_true rfl⟩⟩
theorem lk_L_law_1139 (q : Nat × (Nat → Int32)) : mLv (m_L_law q) m_X4_thrown 1139 0 := ⟨105, dL_law_1139, cv_L_105, ok_X4_thrown, rfl, rfl, ⟨Nat.le_of_ble_eq_true rfl, Nat.le_of_ble_eq_true rfl⟩⟩
theorem lk_L_law_1177 (q : Nat × (Nat → Int32)) : mLv (m_L_law q) m_X3_pagesInUse 1177 0 := ⟨167, dL_law_1177, cv_L_167, ok_X3_pagesInUse, rfl, rfl, ⟨Nat.le_of_ble_eq_true rfl, Nat.le_of_ble_eq_true rfl⟩⟩
theorem lk_L_law_1181 (q : Nat × (Nat → Int32)) : mLv (m_L_law q) m_X4_pagesInUse 1181 0 := ⟨170, dL_law_1181, cv_L_170, ok_X4_pagesInUse, rfl, rfl, ⟨Nat.le_of_ble_eq_true rfl, Nat.le_of_ble_eq_true rfl⟩⟩
theorem lk_L_law_1190 (q : Nat × (Nat → Int32)) : mLv (m_L_law q) m_X3_leastFree 1190 0 := ⟨171, dL_law_1190, cv_L_171, ok_X3_leastFree, rfl, rfl, ⟨Nat.le_of_ble_eq_true rfl, Nat.le_of_ble_eq_true rfl⟩⟩
theorem lk_L_law_1194 (q : Nat × (Nat → Int32)) : mLv (m_L_law q) m_X4_leastFree 1194 0 := ⟨174, dL_law_1194, cv_L_174, ok_X4_leastFree, rfl, rfl, ⟨Nat.le_of_ble_eq_true rfl, Nat.le_of_ble_eq_true rfl⟩⟩
theorem lk_L_law_1210 (q : Nat × (Nat → Int32)) : mLx (m_L_law q) m_L_entries 1210 3 := ⟨175, _, _, dL_law_1210, cs_L_175, ok_L_entries, rfl, rfl, ⟨Nat.le_of_ble_eq_true rfl, Nat.le_of_ble_eq_true rfl⟩⟩
theorem lk_L_law_1222 (q : Nat × (Nat → Int32)) : mLv (m_L_law q) m_X4_entries 1222 1 := ⟨177, dL_law_1222, cv_L_177, ok_X4_entries, rfl, rfl, ⟨Nat.le_of_ble_eq_true rfl, Nat.le_of_ble_eq_true rfl⟩⟩
theorem lk_L_law_1228 (q : Nat × (Nat → Int32)) : mLv (m_L_law q) m_X4_thrown 1228 0 := ⟨105, dL_law_1228, cv_L_105, ok_X4_thrown, rfl, rfl, ⟨Nat.le_of_ble_eq_true rfl, Nat.le_of_ble_eq_true rfl⟩⟩
theorem lk_L_law_1272 (q : Nat × (Nat → Int32)) : mLx (m_L_law q) m_L_keyAt 1272 4 := ⟨178, _, _, dL_law_1272, cs_L_178, ok_L_keyAt, rfl, rfl, ⟨Nat.le_of_ble_eq_true rfl, Nat.le_of_ble_eq_true rfl⟩⟩
theorem lk_L_law_1290 (q : Nat × (Nat → Int32)) : mLv (m_L_law q) m_X4_keyAt 1290 2 := ⟨180, dL_law_1290, cv_L_180, ok_X4_keyAt, rfl, rfl, ⟨Nat.le_of_ble_eq_true rfl, Nat.le_of_ble_eq_true rfl⟩⟩
theorem lk_L_law_1296 (q : Nat × (Nat → Int32)) : mLv (m_L_law q) m_X4_thrown 1296 0 := ⟨105, dL_law_1296, cv_L_105, ok_X4_thrown, rfl, rfl, ⟨Nat.le_of_ble_eq_true rfl, Nat.le_of_ble_eq_true rfl⟩⟩
theorem lk_L_law_1340 (q : Nat × (Nat → Int32)) : mLx (m_L_law q) m_L_pageAt 1340 4 := ⟨181, _, _, dL_law_1340, cs_L_181, ok_L_pageAt, rfl, rfl, ⟨Nat.le_of_ble_eq_true rfl, Nat.le_of_ble_eq_true rfl⟩⟩
theorem lk_L_law_1358 (q : Nat × (Nat → Int32)) : mLv (m_L_law q) m_X4_pageAt 1358 2 := ⟨183, dL_law_1358, cv_L_183, ok_X4_pageAt, rfl, rfl, ⟨Nat.le_of_ble_eq_true rfl, Nat.le_of_ble_eq_true rfl⟩⟩
theorem lk_L_law_1364 (q : Nat × (Nat → Int32)) : mLv (m_L_law q) m_X4_thrown 1364 0 := ⟨105, dL_law_1364, cv_L_105, ok_X4_thrown, rfl, rfl, ⟨Nat.le_of_ble_eq_true rfl, Nat.le_of_ble_eq_true rfl⟩⟩
theorem lk_L_law_1395 (q : Nat × (Nat → Int32)) : mLv (m_L_law q) m_X3_currentSlot 1395 0 := ⟨184, dL_law_1395, cv_L_184, ok_X3_currentSlot, rfl, rfl, ⟨Nat.le_of_ble_eq_true rfl, Nat.le_of_ble_eq_true rfl⟩⟩
theorem lk_L_law_1399 (q : Nat × (Nat → Int32)) : mLv (m_L_law q) m_X4_currentSlot 1399 0 := ⟨187, dL_law_1399, cv_L_187, ok_X4_currentSlot, rfl, rfl, ⟨Nat.le_of_ble_eq_true rfl, Nat.le_of_ble_eq_true rfl⟩⟩
theorem lk_L_law_1421 (q : Nat × (Nat → Int32)) : mLx (m_L_law q) m_L_slotWord 1421 4 := ⟨188, _, _, dL_law_1421, cs_L_188, ok_L_slotWord, rfl, rfl, ⟨Nat.le_of_ble_eq_true rfl, Nat.le_of_ble_eq_true rfl⟩⟩
theorem lk_L_law_1439 (q : Nat × (Nat → Int32)) : mLv (m_L_law q) m_X4_slotWord 1439 2 := ⟨190, dL_law_1439, cv_L_190, ok_X4_slotWord, rfl, rfl, ⟨Nat.le_of_ble_eq_true rfl, Nat.le_of_ble_eq_true rfl⟩⟩
theorem lk_L_law_1445 (q : Nat × (Nat → Int32)) : mLv (m_L_law q) m_X4_thrown 1445 0 := ⟨105, dL_law_1445, cv_L_105, ok_X4_thrown, rfl, rfl, ⟨Nat.le_of_ble_eq_true rfl, Nat.le_of_ble_eq_true rfl⟩⟩
theorem lk_L_law_1482 (q : Nat × (Nat → Int32)) : mLx (m_L_law q) m_L_isWhole 1482 3 := ⟨191, _, _, dL_law_1482, cs_L_191, ok_L_isWhole, rfl, rfl, ⟨Nat.le_of_ble_eq_true rfl, Nat.le_of_ble_eq_true rfl⟩⟩
theorem lk_L_law_1494 (q : Nat × (Nat → Int32)) : mLv (m_L_law q) m_X4_isWhole 1494 1 := ⟨193, dL_law_1494, cv_L_193, ok_X4_isWhole, rfl, rfl, ⟨Nat.le_of_ble_eq_true rfl, Nat.le_of_ble_eq_true rfl⟩⟩
theorem lk_L_law_1500 (q : Nat × (Nat → Int32)) : mLv (m_L_law q) m_X4_thrown 1500 0 := ⟨105, dL_law_1500, cv_L_105, ok_X4_thrown, rfl, rfl, ⟨Nat.le_of_ble_eq_true rfl, Nat.le_of_ble_eq_true rfl⟩⟩
theorem lk_L_law_1545 (q : Nat × (Nat → Int32)) : mLx (m_L_law q) m_L_tear 1545 3 := ⟨194, _, _, dL_law_1545, cs_L_194, ok_L_tear, rfl, rfl, ⟨Nat.le_of_ble_eq_true rfl, Nat.le_of_ble_eq_true rfl⟩⟩
theorem lk_L_law_1557 (q : Nat × (Nat → Int32)) : mLv (m_L_law q) m_X4_tear 1557 1 := ⟨196, dL_law_1557, cv_L_196, ok_X4_tear, rfl, rfl, ⟨Nat.le_of_ble_eq_true rfl, Nat.le_of_ble_eq_true rfl⟩⟩
theorem lk_L_law_1563 (q : Nat × (Nat → Int32)) : mLv (m_L_law q) m_X4_thrown 1563 0 := ⟨105, dL_law_1563, cv_L_105, ok_X4_thrown, rfl, rfl, ⟨Nat.le_of_ble_eq_true rfl, Nat.le_of_ble_eq_true rfl⟩⟩
theorem lk_L_law_1594 (q : Nat × (Nat → Int32)) : mLv (m_L_law q) m_X3_crash 1594 0 := ⟨197, dL_law_1594, cv_L_197, ok_X3_crash, rfl, rfl, ⟨Nat.le_of_ble_eq_true rfl, Nat.le_of_ble_eq_true rfl⟩⟩
theorem lk_L_law_1598 (q : Nat × (Nat → Int32)) : mLv (m_L_law q) m_X4_crash 1598 0 := ⟨200, dL_law_1598, cv_L_200, ok_X4_crash, rfl, rfl, ⟨Nat.le_of_ble_eq_true rfl, Nat.le_of_ble_eq_true rfl⟩⟩
theorem lk_L_law_1614 (q : Nat × (Nat → Int32)) : mLx (m_L_law q) m_L_crashInCommit 1614 3 := ⟨201, _, _, dL_law_1614, cs_L_201, ok_L_crashInCommit, rfl, rfl, ⟨Nat.le_of_ble_eq_true rfl, Nat.le_of_ble_eq_true rfl⟩⟩
theorem lk_L_law_1626 (q : Nat × (Nat → Int32)) : mLv (m_L_law q) m_X4_crashInCommit 1626 1 := ⟨203, dL_law_1626, cv_L_203, ok_X4_crashInCommit, rfl, rfl, ⟨Nat.le_of_ble_eq_true rfl, Nat.le_of_ble_eq_true rfl⟩⟩
theorem lk_L_law_1632 (q : Nat × (Nat → Int32)) : mLv (m_L_law q) m_X4_thrown 1632 0 := ⟨105, dL_law_1632, cv_L_105, ok_X4_thrown, rfl, rfl, ⟨Nat.le_of_ble_eq_true rfl, Nat.le_of_ble_eq_true rfl⟩⟩
end
section
/-! THE WORLDS: the class's cells, the model's cells, the law's -/
abbrev Q4 : Type := Int32 × Int32 × Int32 × Int32
def stC (q : Q4) : mC := .inr (1, [.int q.1, .int q.2.1, .int q.2.2.1, .int q.2.2.2])
def rsF : Nat → Option Nat := fun k => match k with
  | 0 => some 16
  | 1 => some 17
  | 2 => some 18
  | 3 => some 19
  | _ => none
/-- the class: slot in use, current, batch, readers, slots' words, bottom; the pages' arrays; path, taken; what lies behind -/
def cW (sl : Int32) (cu ba r0 r1 r2 r3 : Q4) (sw : Nat → Int64) (bt : Int32) (cnt inn lk wd kp wr mk ls pth tk : Nat → Int32) (tl : List mC) : mW :=
  .inr (3, [.ref 1, .ref 10, .ref 11, .ref 12, .ref 15, .ref 20, .int sl]) ::
  .inr (0, [.ref 2, .ref 3, .ref 4, .ref 5, .ref 6, .ref 7, .ref 8, .ref 9]) ::
  .inl (0, 800, .inl cnt) :: .inl (1, 800, .inl inn) :: .inl (0, 4000, .inl lk) :: .inl (0, 4000, .inl wd) :: .inl (1, 800, .inl kp) :: .inl (1, 800, .inl wr) :: .inl (1, 800, .inl mk) :: .inl (0, 800, .inl ls) ::
  stC cu :: stC ba :: .inr (2, [.ref 1, .ref 11, .ref 13, .ref 14, .int bt]) :: .inl (0, 8, .inl pth) :: .inl (0, 8, .inl tk) ::
  .inl (3, 4, .inr (.inr rsF)) :: stC r0 :: stC r1 :: stC r2 :: stC r3 :: .inl (2, 8, .inr (.inl sw)) :: tl
abbrev C21 : Type := mC × mC × mC × mC × mC × mC × mC × mC × mC × mC × mC × mC × mC × mC × mC × mC × mC × mC × mC × mC × mC
/-- the model's cells -/
def mCl (ep rt bt sl th dp : Int32) (many inn item val wr met rst : Nat → Int32) (wds : Nat → Int64) (opd ope way tk : Nat → Int32) (tl : List mC) : List mC :=
  .inr (4, [.ref 22, .ref 23, .ref 24, .ref 25, .ref 26, .ref 27, .ref 28, .int ep, .int rt, .int bt, .int sl, .ref 29, .ref 30, .ref 31, .int th, .ref 32, .ref 33, .int dp]) ::
  .inl (0, 720, .inl many) :: .inl (1, 720, .inl inn) :: .inl (0, 3600, .inl item) :: .inl (0, 3600, .inl val) :: .inl (1, 720, .inl wr) :: .inl (1, 720, .inl met) :: .inl (0, 720, .inl rst) ::
  .inl (2, 8, .inr (.inl wds)) :: .inl (0, 4, .inl opd) :: .inl (0, 4, .inl ope) :: .inl (0, 12, .inl way) :: .inl (0, 12, .inl tk) :: tl
/-- the model's world: behind the class's 21 cells -/
def dW (c : C21) (ep rt bt sl th dp : Int32) (many inn item val wr met rst : Nat → Int32) (wds : Nat → Int64) (opd ope way tk : Nat → Int32) (tl : List mC) : mW :=
  c.1 :: c.2.1 :: c.2.2.1 :: c.2.2.2.1 :: c.2.2.2.2.1 :: c.2.2.2.2.2.1 :: c.2.2.2.2.2.2.1 :: c.2.2.2.2.2.2.2.1 :: c.2.2.2.2.2.2.2.2.1 :: c.2.2.2.2.2.2.2.2.2.1 :: c.2.2.2.2.2.2.2.2.2.2.1 :: c.2.2.2.2.2.2.2.2.2.2.2.1 :: c.2.2.2.2.2.2.2.2.2.2.2.2.1 :: c.2.2.2.2.2.2.2.2.2.2.2.2.2.1 :: c.2.2.2.2.2.2.2.2.2.2.2.2.2.2.1 :: c.2.2.2.2.2.2.2.2.2.2.2.2.2.2.2.1 :: c.2.2.2.2.2.2.2.2.2.2.2.2.2.2.2.2.1 :: c.2.2.2.2.2.2.2.2.2.2.2.2.2.2.2.2.2.1 :: c.2.2.2.2.2.2.2.2.2.2.2.2.2.2.2.2.2.2.1 :: c.2.2.2.2.2.2.2.2.2.2.2.2.2.2.2.2.2.2.2.1 :: c.2.2.2.2.2.2.2.2.2.2.2.2.2.2.2.2.2.2.2.2 ::
  mCl ep rt bt sl th dp many inn item val wr met rst wds opd ope way tk tl
def cT (sl : Int32) (cu ba r0 r1 r2 r3 : Q4) (sw : Nat → Int64) (bt : Int32) (cnt inn lk wd kp wr mk ls pth tk : Nat → Int32) : C21 :=
  (.inr (3, [.ref 1, .ref 10, .ref 11, .ref 12, .ref 15, .ref 20, .int sl]),
  .inr (0, [.ref 2, .ref 3, .ref 4, .ref 5, .ref 6, .ref 7, .ref 8, .ref 9]),
  .inl (0, 800, .inl cnt), .inl (1, 800, .inl inn), .inl (0, 4000, .inl lk), .inl (0, 4000, .inl wd), .inl (1, 800, .inl kp), .inl (1, 800, .inl wr), .inl (1, 800, .inl mk), .inl (0, 800, .inl ls),
  stC cu, stC ba, .inr (2, [.ref 1, .ref 11, .ref 13, .ref 14, .int bt]), .inl (0, 8, .inl pth), .inl (0, 8, .inl tk),
  .inl (3, 4, .inr (.inr rsF)), stC r0, stC r1, stC r2, stC r3, .inl (2, 8, .inr (.inl sw)))
theorem dW_cW (sl : Int32) (cu ba r0 r1 r2 r3 : Q4) (sw : Nat → Int64) (bt : Int32) (cnt inn lk wd kp wr mk ls pth tk : Nat → Int32) (ep rt bt2 sl2 th dp : Int32) (many inn2 item val wr2 met rst : Nat → Int32) (wds : Nat → Int64) (opd ope way tk2 : Nat → Int32) (tl : List mC) :
    dW (cT sl cu ba r0 r1 r2 r3 sw bt cnt inn lk wd kp wr mk ls pth tk) ep rt bt2 sl2 th dp many inn2 item val wr2 met rst wds opd ope way tk2 tl = cW sl cu ba r0 r1 r2 r3 sw bt cnt inn lk wd kp wr mk ls pth tk (mCl ep rt bt2 sl2 th dp many inn2 item val wr2 met rst wds opd ope way tk2 tl) := rfl
end
section
/-! Copperleaf$Pages: the small ones -/
theorem t800 : ∀ {p : Int32}, ¬ p < 0 → ¬ (800 : Int32) ≤ p → vp_in p 800 := fun h0 h1 => vp_in_iff.mpr ⟨by
  have := Int32.not_lt.mp h0
  exact Int32.le_iff_toInt_le.mp this, by
  have := Int32.lt_iff_toInt_lt.mp (Int32.not_le.mp h1)
  exact this⟩
abbrev vac (kp wr : Nat → Int32) (p : Int32) : Prop := p < 0 ∨ 800 ≤ p ∨ (kp p.toNatClampNeg = 0 ∧ wr p.toNatClampNeg = 0)
/-- isVacant(page), any page -/
theorem s_isVacant {sl : Int32} {cu ba r0 r1 r2 r3 : Q4} {sw : Nat → Int64} {bt : Int32} {cnt inn lk wd kp wr mk ls pth tk : Nat → Int32} {tl : List mC} (p : Int32) : EvS m_X0_isVacant [.ref 1, .int p] (cW sl cu ba r0 r1 r2 r3 sw bt cnt inn lk wd kp wr mk ls pth tk tl) (.inl (some (.int (if vac kp wr p then 1 else 0)))) (cW sl cu ba r0 r1 r2 r3 sw bt cnt inn lk wd kp wr mk ls pth tk tl) := by
  refine evs_of (by decide +kernel) (Nat.le_of_ble_eq_true rfl) (by decide) rfl rfl ?_
  refine ev_iload_n (pc := 0) dX0_isVacant_0 rfl rfl ?_
  refine ev_if_lt (pc := 1) (tgt := 29) dX0_isVacant_1 (by decide) (fun c_1 => ?_) (fun c_1 => ?_)
  · refine ev_iconst (pc := 29) (v := 1) dX0_isVacant_29 (by decide) ?_
    refine ev_goto (pc := 30) (tgt := 34) dX0_isVacant_30 (by decide) ?_
    exact ev_zretE (pc := 34) dX0_isVacant_34 rfl ⟨Nat.le_of_ble_eq_true rfl, Nat.le_of_ble_eq_true rfl⟩ (by first | exact Or.inl rfl | exact Or.inr rfl | assumption | exact i10_o) (by rw [if_pos (Or.inl c_1)]) rfl
  · refine ev_iload_n (pc := 4) dX0_isVacant_4 rfl rfl ?_
    refine ev_sipush (pc := 5) (v := 800) dX0_isVacant_5 (by decide) ?_
    refine ev_ic_ge (pc := 8) (tgt := 29) dX0_isVacant_8 (by decide) (fun c_8 => ?_) (fun c_8 => ?_)
    · refine ev_iconst (pc := 29) (v := 1) dX0_isVacant_29 (by decide) ?_
      refine ev_goto (pc := 30) (tgt := 34) dX0_isVacant_30 (by decide) ?_
      exact ev_zretE (pc := 34) dX0_isVacant_34 rfl ⟨Nat.le_of_ble_eq_true rfl, Nat.le_of_ble_eq_true rfl⟩ (by first | exact Or.inl rfl | exact Or.inr rfl | assumption | exact i10_o) (by rw [if_pos (Or.inr (Or.inl c_8))]) rfl
    · refine ev_aload_n (pc := 11) dX0_isVacant_11 rfl rfl ?_
      refine ev_get (pc := 12) dX0_isVacant_12 fd_X0_25 rfl rfl ?_
      refine ev_iload_n (pc := 15) dX0_isVacant_15 rfl rfl ?_
      refine ev_zald (pc := 16) dX0_isVacant_16 rfl (t800 c_1 c_8) ?_
      refine ev_if_ne (pc := 17) (tgt := 33) dX0_isVacant_17 (by decide) (fun c_17 => ?_) (fun c_17 => ?_)
      · refine ev_iconst (pc := 33) (v := 0) dX0_isVacant_33 (by decide) ?_
        exact ev_zretE (pc := 34) dX0_isVacant_34 rfl ⟨Nat.le_of_ble_eq_true rfl, Nat.le_of_ble_eq_true rfl⟩ (by first | exact Or.inl rfl | exact Or.inr rfl | assumption | exact i10_o) (by rw [if_neg (fun h => h.elim c_1 (fun h => h.elim c_8 (fun h => c_17 h.1)))]) rfl
      · refine ev_aload_n (pc := 20) dX0_isVacant_20 rfl rfl ?_
        refine ev_get (pc := 21) dX0_isVacant_21 fd_X0_28 rfl rfl ?_
        refine ev_iload_n (pc := 24) dX0_isVacant_24 rfl rfl ?_
        refine ev_zald (pc := 25) dX0_isVacant_25 rfl (t800 c_1 c_8) ?_
        refine ev_if_ne (pc := 26) (tgt := 33) dX0_isVacant_26 (by decide) (fun c_26 => ?_) (fun c_26 => ?_)
        · refine ev_iconst (pc := 33) (v := 0) dX0_isVacant_33 (by decide) ?_
          exact ev_zretE (pc := 34) dX0_isVacant_34 rfl ⟨Nat.le_of_ble_eq_true rfl, Nat.le_of_ble_eq_true rfl⟩ (by first | exact Or.inl rfl | exact Or.inr rfl | assumption | exact i10_o) (by rw [if_neg (fun h => h.elim c_1 (fun h => h.elim c_8 (fun h => c_26 h.2)))]) rfl
        · refine ev_iconst (pc := 29) (v := 1) dX0_isVacant_29 (by decide) ?_
          refine ev_goto (pc := 30) (tgt := 34) dX0_isVacant_30 (by decide) ?_
          exact ev_zretE (pc := 34) dX0_isVacant_34 rfl ⟨Nat.le_of_ble_eq_true rfl, Nat.le_of_ble_eq_true rfl⟩ (by first | exact Or.inl rfl | exact Or.inr rfl | assumption | exact i10_o) (by rw [if_pos (Or.inr (Or.inr ⟨c_17, c_26⟩))]) rfl
end
