section
/-! ===== BEGIN words of one list among another's, by their places ===== -/
theorem goodIn_r {big : List Cond} (ws : List Cond) (ps : List Nat) (hp : ws = ps.filterMap (fun i => big[i]?)) (h : ws.all goodWord = true) : GoodIn big ws := by
  intro w hw
  have h1 := List.all_eq_true.mp h w hw
  rw [hp] at hw
  obtain ⟨i, -, hi⟩ := List.mem_filterMap.mp hw
  have hm : w ∈ big := by first | exact List.mem_of_getElem? hi | exact List.getElem?_mem hi
  exact ⟨hm, good_of_word h1⟩
theorem goodIn_app {big a b : List Cond} (ha : GoodIn big a) (hb : GoodIn big b) : GoodIn big (a ++ b) := fun w h => (List.mem_append.mp h).elim (ha w) (hb w)
theorem goodIn_ca {big a b : List Cond} {c : Cond} (ha : GoodIn big (c :: a)) (hb : GoodIn big b) : GoodIn big (c :: (a ++ b)) := fun w h => (List.mem_cons.mp h).elim (fun e => ha w (List.mem_cons.mpr (Or.inl e))) (fun h => (List.mem_append.mp h).elim (fun h => ha w (List.mem_cons.mpr (Or.inr h))) (hb w))
theorem goodIn_sub {big ws : List Cond} (hm : ∀ w ∈ ws, w ∈ big) (h : ws.all goodWord = true) : GoodIn big ws := fun w hw => ⟨hm w hw, good_of_word (List.all_eq_true.mp h w hw)⟩
/-! ===== END ===== -/

/-! ===== BEGIN exceptions that leave a method, and their catching by the caller (launches without stack traces) ===== -/
section VXA
/-! The laws vx_back, vx_callV, vx_callS, vx_callSW, vx_throw0, vx_throwS follow proofs of the library, with one case more: JvmDerived/Free/Laws.lean (Back.of_free), Shelf42/LK1.lean (callV, callS), Shelf/KitTraced.lean (throwNew0V, throwNewS). -/
/-- where a method has thrown q: the class by its name, the cell, what was written, the world -/
def vx_T (XC : String → State → State → Prop) (st : State) (q : Addr) (t : State) (mc ms : Nat) (free : Addr → Prop) : Prop :=
  ∃ (E : String) (ce : Cell) (L : List Loc), XC E st t ∧ t.heap[q]? = some ce ∧ ce.vm = .none ∧ st.vm.findClass E = some ce.cls ∧ st.WarmedH t.vm ∧ st.sameButNew ({ t with vm := st.vm } : State) L mc ms ∧ ∀ z ∈ L, free z.base
def vx_Q (Qc : Array Value → State → Outcome → State → Prop) (XC : String → State → State → Prop) (mc ms : Nat) (free : Addr → Prop) : Array Value → State → Outcome → State → Prop := fun a st o t =>
  (Qc a st o t ∧ ∃ L, FrameEnd st o t L mc ms ∧ ∀ q ∈ L, free q.base) ∨ ∃ q, o = .threw q ∧ vx_T XC st q t mc ms free
/-- a callee that returns or throws -/
def vx_Met (l : Launch) (y : MethodName) (ws : List Cond) (rm : Room) (Pc : Array Value → State → Prop) (Qc : Array Value → State → Outcome → State → Prop) (XC : String → State → State → Prop) (mc ms : Nat) (free : Addr → Prop) : Prop :=
  MetFree l y (headSpec ws rm) Pc (fun _ _ _ _ _ => True) (vx_Q Qc XC mc ms free)
def vx_Post (XC : String → State → State → Prop) (mc ms : Nat) (free : Addr → Prop) : Pt → Array Value → Addr → Pt → Prop := fun A a q B =>
  ∃ (g : JFrame) (mk : MethodId) (t : State) (L : List Loc) (E : String) (ce : Cell), B.U.heap = t.heap ∧ B.U.vm = t.vm ∧ XC E (A.U.calling g mk a) t ∧ t.heap[q]? = some ce ∧ ce.vm = .none ∧ A.U.vm.findClass E = some ce.cls ∧ B.locs = A.locs ++ L ∧ (∀ z ∈ L, free z.base) ∧ B.cells = A.cells + mc ∧ B.slots = A.slots + ms
def vx_Back (l : Launch) (R : Room) (p : Program) (e : Env) (below : List Frame) (s : State) (sargs : Array Value) (y : MethodName) (len W9 : Nat)
    (Pre : Pt → Array Value → Prop) (Post : Pt → Array Value → Option Value → Pt → Prop) (PostX : Pt → Array Value → Addr → Pt → Prop) : Prop :=
  ∀ (m : MethodId) (meth : Method) (c : Code) (A : Pt) (g : JFrame) (ig : Instr) (mk : MethodId) (a : Array Value),
    Stand p l e R s m sargs below meth c A.U A.locs A.cells A.slots → g.method = m → g.locals.size = c.maxLocals → decode c.code g.pc = .ok (ig, len) →
    2 * g.monitorRoom + (g.stack.map fun v => v.category).sum ≤ W9 → A.U.methodNamed? y = some mk → Pre A a →
    (∃ (v : Option Value) (B : Pt), Stand p l e R s m sargs below meth c B.U B.locs B.cells B.slots ∧ Post A a v B ∧
      Steps p.tables e below (doInvoke e (A.U.setTop g) [] mk a).1 (B.U.setTop { g with pc := g.pc + len, stack := v.toList ++ g.stack })) ∨
    (∃ (q : Addr) (B : Pt), Stand p l e R s m sargs below meth c B.U B.locs B.cells B.slots ∧ PostX A a q B ∧
      Steps p.tables e below (doInvoke e (A.U.setTop g) [] mk a).1 ((B.U.setTop g).pushFrame (.throwing q)))
section Payer
variable {l : Launch} {R : Room} {p : Program} {e : Env} {below : List Frame} {s : State} {sargs : Array Value} {y : MethodName} {len W9 : Nat}
theorem vx_back {ws : List Cond} {rm : Room} {Pc : Array Value → State → Prop} {Qc : Array Value → State → Outcome → State → Prop} {XC : String → State → State → Prop} {mc ms : Nat} {free : Addr → Prop} {bytes : ByteArray} {maxL : Nat} {ret : Option FieldType}
    (hM : vx_Met l y ws rm Pc Qc XC mc ms free) (hblind : FrameBlind Pc) (hrc : rm.cells = mc) (hrs : rm.slots = ms)
    (hframes : rm.frames + 1 ≤ R.frames) (hlocals : W9 + (maxL + 11) + rm.locals ≤ R.locals)
    (hws : ∀ w ∈ ws, ∀ a' U, s.WarmedH U.vm → w.before a' U = true) (hcode : Cond.code y bytes maxL ret ∈ ws) (hinit : ∀ a' U, s.WarmedH U.vm → (Cond.initialized y.cls).before a' U = true) :
    vx_Back l R p e below s sargs y len W9 (PreOf R mc ms Pc) (PostOf Qc mc ms free) (vx_Post XC mc ms free) := by
  intro m meth c A g ig mk a X hg hsize hdg hW hn hp
  have h1 : (headSpec ws rm).pre.before a A.U = true := atoms_intro fun w hw => hws w hw _ _ X.warmed
  have h2 : (Cond.code y bytes maxL ret).before a A.U = true := hws _ hcode _ _ X.warmed
  have h3 : (Cond.initialized y.cls).before a A.U = true := hinit _ _ X.warmed
  have h4 : A.cells + (headSpec ws rm).room.cells ≤ R.cells := by rw [show (headSpec ws rm).room.cells = mc from hrc]; exact hp.1
  have h5 : A.slots + (headSpec ws rm).room.slots ≤ R.slots := by rw [show (headSpec ws rm).room.slots = ms from hrs]; exact hp.2.1
  have hPc : Pc a (A.U.calling g mk a) := hblind _ _ _ _ hp.2.2
  obtain ⟨U, Ls, c0, s0⟩ := A
  dsimp only [Pt.U, Pt.locs, Pt.cells, Pt.slots] at h1 h2 h3 h4 h5 X hn hPc ⊢
  obtain ⟨methY, cY, hmY, hcY, -, hlY, -, -, -, -⟩ := Cond.code_spec hn h2
  obtain ⟨kY, hkY, -⟩ := className_of_methodNamed hn
  have hinitY : kY.init = .initialized := Cond.initialized_spec (findClass_of_methodNamed hn) hkY h3
  have h : At U g.method c below := by rw [hg]; exact X.here
  have hlocals9 : W9 + (maxL + 11) + (headSpec ws rm).room.locals ≤ R.locals := hlocals
  have happ : (headSpec ws rm).appliesLoose y e.platform (U.calling g mk a) = true :=
    Spec.appliesLoose_calling (g := g) h hdg hn hkY hinitY
      (X.room_calling (g := g) (R' := (headSpec ws rm).room) hsize hmY hcY hframes (by rw [hlY]; omega) h4 h5) h1
  obtain ⟨mid, hmid⟩ := h.above
  have hfr : (U.setTop g).frames = (.java g :: mid) ++ below := by rw [State.frames_setTop' g h.top, hmid]; rfl
  obtain ⟨o, s₂, hsteps, -, hend, hq⟩ := Steps.callFree hM p X.admits X.cas X.clock (acts := []) hfr happ hPc trivial
  have hq' : vx_Q Qc XC mc ms free a (U.calling g mk a) o s₂ := hq
  rw [State.frames_setTop' g h.top] at hend
  obtain ⟨g₀, hg0⟩ := Option.isSome_iff_exists.mp h.top
  obtain ⟨r, hr⟩ := State.topJava?_eq_some.mp hg0
  have hr' : (({ U with heap := s₂.heap, slotsUsed := s₂.slotsUsed } : State).setVm s₂.vm).frames = .java g₀ :: r := hr
  rcases hq' with ⟨hqc, L, hfe, hL⟩ | ⟨q, rfl, E, ce, L, hx, hce, hcv, hcl, hW₂, hsm, hL⟩
  · obtain ⟨⟨v, rfl⟩, hW₂, e2, q2, q3, q4, q5, q6⟩ := id hfe
    have e3 : s₂ = ({ (U.calling g mk a).setFrames s₂.frames with heap := s₂.heap, slotsUsed := s₂.slotsUsed } : State).setVm s₂.vm := by
      have : s₂ = ({ s₂ with vm := (U.calling g mk a).vm } : State).setVm s₂.vm := rfl
      rw [e2] at this
      exact this
    obtain ⟨c₂, i₂, len₂, hc₂, hd₂, hf₂⟩ := hend
    have hW' : U.WarmedH s₂.vm := hW₂
    have hcc : c₂ = c := by
      have h1 : s₂.code? g.method = U.code? g.method := by
        rw [State.code?_eq, State.code?_eq, hW'.alike.method?]
      exact Option.some.inj (hc₂.symm.trans (h1.trans h.code))
    subst hcc
    have hlen : len₂ = len := by rw [hdg] at hd₂; cases hd₂; rfl
    subst hlen
    have hs₂ : s₂ = (({ U with heap := s₂.heap, slotsUsed := s₂.slotsUsed } : State).setVm s₂.vm).setTop { g with pc := g.pc + len₂, stack := v.toList ++ g.stack } := by
      refine e3.trans ?_
      rw [hf₂, State.calling_eq h.top, State.setFrames_setFrames, State.setTop_of_frames _ hr', hr]
      rfl
    have hsame : U.sameButNew ({ U with heap := s₂.heap, slotsUsed := s₂.slotsUsed } : State) L mc ms := by
      refine ⟨?_, q2, q3, q4, q5, q6⟩
      obtain ⟨t, ht, -⟩ := State.frames_cons hr
      show ({ U with heap := s₂.heap, slotsUsed := s₂.slotsUsed } : State) = { U.setFrames U.frames with heap := s₂.heap, slotsUsed := s₂.slotsUsed }
      rw [State.setFrames_self ht]
    subst hg
    refine Or.inl ⟨v, ⟨(({ U with heap := s₂.heap, slotsUsed := s₂.slotsUsed } : State).setVm s₂.vm), Ls ++ L, c0 + mc, s0 + ms⟩,
      ⟨X.admits, X.cas, X.clock, X.frames, X.room, X.hears, X.method, X.code, (X.here.setHeapUsed s₂.heap s₂.slotsUsed).setVm hW'.alike, X.tail, State.WarmedH.trans X.warmed hW', X.limits, X.bytes, X.same.trans (hsame.setVm s.vm)⟩,
      ⟨g, mk, s₂, L, rfl, rfl, hqc, rfl, hL, rfl, rfl⟩, ?_⟩
    show Steps p.tables e below _ ((({ U with heap := s₂.heap, slotsUsed := s₂.slotsUsed } : State).setVm s₂.vm).setTop { g with pc := g.pc + len₂, stack := v.toList ++ g.stack })
    rw [← hs₂]
    exact hsteps
  · obtain ⟨e2, q2, q3, q4, q5, q6⟩ := id hsm
    have e3 : s₂ = ({ (U.calling g mk a).setFrames s₂.frames with heap := s₂.heap, slotsUsed := s₂.slotsUsed } : State).setVm s₂.vm := by
      have : s₂ = ({ s₂ with vm := (U.calling g mk a).vm } : State).setVm s₂.vm := rfl
      rw [e2] at this
      exact this
    have hf₂ : s₂.frames = .throwing q :: .java g :: U.frames.tail := hend
    have hW' : U.WarmedH s₂.vm := hW₂
    have hs₂ : s₂ = ((({ U with heap := s₂.heap, slotsUsed := s₂.slotsUsed } : State).setVm s₂.vm).setTop g).pushFrame (.throwing q) := by
      refine e3.trans ?_
      rw [hf₂, State.calling_eq h.top, State.setFrames_setFrames, State.pushFrame, State.frames_setTop _ hr', State.setTop_of_frames _ hr', State.setFrames_setFrames, hr]
      rfl
    have hsame : U.sameButNew ({ U with heap := s₂.heap, slotsUsed := s₂.slotsUsed } : State) L mc ms := by
      refine ⟨?_, q2, q3, q4, q5, q6⟩
      obtain ⟨t, ht, -⟩ := State.frames_cons hr
      show ({ U with heap := s₂.heap, slotsUsed := s₂.slotsUsed } : State) = { U.setFrames U.frames with heap := s₂.heap, slotsUsed := s₂.slotsUsed }
      rw [State.setFrames_self ht]
    subst hg
    refine Or.inr ⟨q, ⟨(({ U with heap := s₂.heap, slotsUsed := s₂.slotsUsed } : State).setVm s₂.vm), Ls ++ L, c0 + mc, s0 + ms⟩,
      ⟨X.admits, X.cas, X.clock, X.frames, X.room, X.hears, X.method, X.code, (X.here.setHeapUsed s₂.heap s₂.slotsUsed).setVm hW'.alike, X.tail, State.WarmedH.trans X.warmed hW', X.limits, X.bytes, X.same.trans (hsame.setVm s.vm)⟩,
      ⟨g, mk, s₂, L, E, ce, rfl, rfl, hx, hce, hcv, hcl, rfl, hL, rfl, rfl⟩, ?_⟩
    show Steps p.tables e below _ (((({ U with heap := s₂.heap, slotsUsed := s₂.slotsUsed } : State).setVm s₂.vm).setTop g).pushFrame (.throwing q))
    rw [← hs₂]
    exact hsteps
end Payer
section Calls
variable {p : Program} {l : Launch} {e : Env} {R : Room} {s : State} {m : MethodId} {args : Array Value} {below : List Frame} {meth : Method} {c : Code} {T : State} {locs : List Loc} {cells slots : Nat}
theorem vx_callV (X : Stand p l e R s m args below meth c T locs cells slots) (hexec : p.tables.exec = Jvm.exec) {own C : String} {index : Nat} {y : MethodName} {bytes : ByteArray} {maxL : Nat} {ret : Option FieldType}
    (hown : s.vm.findClass own = some m.cls) (hlink : (Cond.methodLink own index y).before args s = true) (hinst : (Cond.instanceMethod y).before args s = true) (hsel : (Cond.selects C y y).before args s = true)
    (hcode : (Cond.code y bytes maxL ret).before args s = true) (hy : y.cls ≠ "java/lang/invoke/MethodHandle" ∧ y.cls ≠ "java/lang/invoke/VarHandle")
    {W9 : Nat} {Pre : Pt → Array Value → Prop} {Post : Pt → Array Value → Option Value → Pt → Prop} {PostX : Pt → Array Value → Addr → Pt → Prop} (hK : vx_Back l R p e below s args y 3 W9 Pre Post PostX)
    {b : Addr} {cellB : Cell} (hcell : T.heap[b]? = some cellB) (hobj : cellB.vm.isStatics = false) (hcls : s.vm.findClass C = some cellB.cls)
    {g : JFrame} (hg : g.method = m) (hsize : g.locals.size = c.maxLocals) {argsL rest : List Value} (hlen : ∀ sig, parseMethodDescriptor y.desc = some sig → argsL.length = sig.parameters.length)
    (hstack : g.stack = argsL.reverse ++ .ref b :: rest) (hW : 2 * g.monitorRoom + (rest.map fun v => v.category).sum ≤ W9) (hdg : decode c.code g.pc = .ok (.invokevirtual index, 3))
    (hpre : ∀ vm₁, s.WarmedH vm₁ → Pre ⟨T.setVm vm₁, locs, cells, slots⟩ (Value.ref b :: argsL).toArray) :
    (∃ (v : Option Value) (vm₁ : Vm) (B : Pt), s.WarmedH vm₁ ∧ Stand p l e R s m args below meth c B.U B.locs B.cells B.slots ∧ Post ⟨T.setVm vm₁, locs, cells, slots⟩ (Value.ref b :: argsL).toArray v B ∧
      ∀ target, Steps p.tables e below (B.U.setTop { g with pc := g.pc + 3, stack := v.toList ++ rest }) target → Steps p.tables e below (T.setTop g) target) ∨
    (∃ (q : Addr) (vm₁ : Vm) (B : Pt), s.WarmedH vm₁ ∧ Stand p l e R s m args below meth c B.U B.locs B.cells B.slots ∧ PostX ⟨T.setVm vm₁, locs, cells, slots⟩ (Value.ref b :: argsL).toArray q B ∧
      Steps p.tables e below (T.setTop g) ((B.U.setTop { g with stack := rest }).pushFrame (.throwing q))) := by
  obtain ⟨mk, methM, hnamed, hmethM, hstM, habM⟩ := Cond.instanceMethod_spec hinst
  obtain ⟨methM', cM, hmethM', -, -, -, -, -, -, hsigM⟩ := Cond.code_spec hnamed hcode
  cases hmethM.symm.trans hmethM'
  obtain ⟨c2, r2, m2, q1, q2, q3, q4, kP, hkP, hkPi⟩ := Cond.selects_spec hsel
  cases hcls.symm.trans q1
  cases (State.methodFound?_of_named hnamed hy).symm.trans q2
  cases hnamed.symm.trans q3
  have hselP : selectMethod e.platform s.vm cellB.cls mk = .method mk := by rw [Launch.admits_selectMethod X.admits]; exact q4
  obtain ⟨vm₁, X₁, hstep₁⟩ := X.invokevirtual hexec hown hlink hnamed hmethM hstM hkP hkPi hy (a := b) (cell := cellB) hcell
    (fun z h => by rw [h] at hobj; cases hobj) hselP hmethM habM hkP hkPi (g := g) hg (argsL := argsL) (rest := rest) (hlen _ hsigM) hstack hdg
  rcases hK m meth c ⟨T.setVm vm₁, locs, cells, slots⟩ { g with stack := rest } (.invokevirtual index) mk (Value.ref b :: argsL).toArray X₁ hg hsize hdg hW (X₁.named hnamed) (hpre vm₁ X₁.warmed) with ⟨v, B, X', hpost, hsteps⟩ | ⟨q, B, X', hpost, hsteps⟩
  · exact Or.inl ⟨v, vm₁, B, X₁.warmed, X', hpost, fun target h => hstep₁ _ fun acts => by rw [doInvoke_state]; exact hsteps.trans h⟩
  · exact Or.inr ⟨q, vm₁, B, X₁.warmed, X', hpost, hstep₁ _ fun acts => by rw [doInvoke_state]; exact hsteps⟩
theorem vx_callS (X : Stand p l e R s m args below meth c T locs cells slots) (hexec : p.tables.exec = Jvm.exec) {own : String} {index : Nat} {y : MethodName} {bytes : ByteArray} {maxL : Nat} {ret : Option FieldType}
    (hown : s.vm.findClass own = some m.cls) (hlink : (Cond.methodLink own index y).before args s = true) (hstat : (Cond.static y).before args s = true) (hinit : (Cond.initialized y.cls).before args s = true)
    (hcode : (Cond.code y bytes maxL ret).before args s = true) (hy : y.cls ≠ "java/lang/invoke/MethodHandle" ∧ y.cls ≠ "java/lang/invoke/VarHandle")
    {W9 : Nat} {Pre : Pt → Array Value → Prop} {Post : Pt → Array Value → Option Value → Pt → Prop} {PostX : Pt → Array Value → Addr → Pt → Prop} (hK : vx_Back l R p e below s args y 3 W9 Pre Post PostX)
    {g : JFrame} (hg : g.method = m) (hsize : g.locals.size = c.maxLocals) {argsL rest : List Value} (hlen : ∀ sig, parseMethodDescriptor y.desc = some sig → argsL.length = sig.parameters.length)
    (hstack : g.stack = argsL.reverse ++ rest) (hW : 2 * g.monitorRoom + (rest.map fun v => v.category).sum ≤ W9) (hdg : decode c.code g.pc = .ok (.invokestatic index, 3))
    (hpre : ∀ vm₁, s.WarmedH vm₁ → Pre ⟨T.setVm vm₁, locs, cells, slots⟩ argsL.toArray) :
    (∃ (v : Option Value) (vm₁ : Vm) (B : Pt), s.WarmedH vm₁ ∧ Stand p l e R s m args below meth c B.U B.locs B.cells B.slots ∧ Post ⟨T.setVm vm₁, locs, cells, slots⟩ argsL.toArray v B ∧
      ∀ target, Steps p.tables e below (B.U.setTop { g with pc := g.pc + 3, stack := v.toList ++ rest }) target → Steps p.tables e below (T.setTop g) target) ∨
    (∃ (q : Addr) (vm₁ : Vm) (B : Pt), s.WarmedH vm₁ ∧ Stand p l e R s m args below meth c B.U B.locs B.cells B.slots ∧ PostX ⟨T.setVm vm₁, locs, cells, slots⟩ argsL.toArray q B ∧
      Steps p.tables e below (T.setTop g) ((B.U.setTop { g with stack := rest }).pushFrame (.throwing q))) := by
  obtain ⟨mk, hnamed⟩ := Cond.code_named hcode
  obtain ⟨methM, cM, hmethM, -, -, -, -, -, -, hsigM⟩ := Cond.code_spec hnamed hcode
  have hstatic : methM.isStatic = true := Cond.static_spec hnamed hmethM hstat
  obtain ⟨kP, hkP, -⟩ := className_of_methodNamed hnamed
  have hinitP : kP.init = .initialized := Cond.initialized_spec (findClass_of_methodNamed hnamed) hkP hinit
  obtain ⟨vm₁, X₁, hstep₁⟩ := X.invokestatic hexec hown hlink hnamed hmethM hstatic hkP hinitP hy (g := g) hg (argsL := argsL) (rest := rest) (hlen _ hsigM) hstack hdg
  rcases hK m meth c ⟨T.setVm vm₁, locs, cells, slots⟩ { g with stack := rest } (.invokestatic index) mk argsL.toArray X₁ hg hsize hdg hW (X₁.named hnamed) (hpre vm₁ X₁.warmed) with ⟨v, B, X', hpost, hsteps⟩ | ⟨q, B, X', hpost, hsteps⟩
  · exact Or.inl ⟨v, vm₁, B, X₁.warmed, X', hpost, fun target h => hstep₁ _ fun acts => by rw [doInvoke_state]; exact hsteps.trans h⟩
  · exact Or.inr ⟨q, vm₁, B, X₁.warmed, X', hpost, hstep₁ _ fun acts => by rw [doInvoke_state]; exact hsteps⟩
end Calls
theorem vx_cls {s : State} {T : State} {vm₁ : Vm} {E : String} {k : ClassId} (hW : s.WarmedH vm₁) (h : (T.setVm vm₁).vm.findClass E = some k) : s.vm.findClass E = some k := by
  have h1 : vm₁.findClass E = some k := h
  rw [hW.alike.findClass] at h1
  exact h1
/-- the method's frame g, with q thrown over it -/
def vx_W (p : Program) (l : Launch) (e : Env) (R : Room) (s : State) (m : MethodId) (args : Array Value) (below : List Frame) (meth : Method) (c : Code) (H : Heap) (locs : List Loc) (cells slots : Nat) (Q : State → Prop) (g : JFrame) (q : Addr) : Prop :=
  ∀ T : State, T.heap = H → Stand p l e R s m args below meth c T locs cells slots → ∃ t, Steps p.tables e below ((T.setTop g).pushFrame (.throwing q)) t ∧ Q t
def vx_Run (p : Program) (l : Launch) (e : Env) (R : Room) (s : State) (m : MethodId) (args : Array Value) (below : List Frame) (meth : Method) (c : Code) (H : Heap) (locs : List Loc) (cells slots mc ms : Nat) (g : JFrame) (rest : List Value) (Qa : State → Outcome → State → Prop) (XC : String → State → State → Prop) (free : Addr → Prop) : Prop :=
  ∀ T : State, T.heap = H → Stand p l e R s m args below meth c T locs cells slots →
    (∃ (v : Option Value) (st₀ t T' : State) (L : List Loc), st₀.heap = H ∧ Stand p l e R s m args below meth c T' (locs ++ L) (cells + mc) (slots + ms) ∧ (∀ q ∈ L, free q.base) ∧ T'.heap = t.heap ∧ T'.vm = t.vm ∧ Qa st₀ (.returned v) t ∧
      Goes p e below T g T' { g with pc := g.pc + 3, stack := v.toList ++ rest }) ∨
    (∃ (q : Addr) (st₀ t T' : State) (L : List Loc) (E : String) (ce : Cell), st₀.heap = H ∧ Stand p l e R s m args below meth c T' (locs ++ L) (cells + mc) (slots + ms) ∧ (∀ z ∈ L, free z.base) ∧ T'.heap = t.heap ∧ T'.vm = t.vm ∧ XC E st₀ t ∧ t.heap[q]? = some ce ∧ ce.vm = .none ∧ s.vm.findClass E = some ce.cls ∧
      Steps p.tables e below (T.setTop g) ((T'.setTop { g with stack := rest }).pushFrame (.throwing q)))
def vx_X {S : Type} (px : S → Prop) (B : String → S → State → Prop) (A : Nat → Prop) : String → State → State → Prop := fun E st t => ∃ u : S, px u ∧ B E u t ∧ va_F A st t
section Runs
variable {p : Program} {l : Launch} {e : Env} {R : Room} {s : State} {m : MethodId} {args : Array Value} {below : List Frame} {meth : Method} {c : Code} {H : Heap} {locs : List Loc} {cells slots : Nat}
variable {y : MethodName} {bytes cc : ByteArray} {maxL nL mc ms n index : Nat} {ret : Option FieldType} {ws : List Cond} {rm : Room} {Pc : Array Value → State → Prop} {Qc : Array Value → State → Outcome → State → Prop} {XC : String → State → State → Prop} {free : Addr → Prop} {Ts : List Cond} {own C : String} {b : Addr} {As rest : List Value} {g : JFrame}
theorem vx_callBack (cb : CallB R s args own index y bytes maxL ret ws rm mc ms n) (hM : vx_Met l y ws rm Pc Qc XC mc ms free) (hbl : FrameBlind Pc) : vx_Back l R p e below s args y 3 8 (PreOf R mc ms Pc) (PostOf Qc mc ms free) (vx_Post XC mc ms free) := by
  obtain ⟨hrc, hrs, hfr, hlo, hws, hcw, -, hini, -⟩ := cb
  exact vx_back (bytes := bytes) (maxL := maxL) (ret := ret) hM hbl hrc hrs hfr hlo hws hcw (fun a' U hW => word_at hW (Or.inl (by first | rfl | simp [Cond.onTables, Cond.keeps, Cond.steady])) hini)
theorem vx_runV (S : CallFix p m c cc nL s args Ts own) (hM : vx_Met l y ws rm Pc Qc XC mc ms free) (cw : CallW R s args own C index y bytes maxL ret ws rm mc ms n) (hp : PreV s H C b Pc As)
    (hg : g.method = m) (hn : As.length = n) (hsize : g.locals.size = nL) (hstack : g.stack = As.reverse ++ .ref b :: rest) (hW : 2 * g.monitorRoom + (rest.map fun v => v.category).sum ≤ 8) (hdg : decode cc g.pc = .ok (.invokevirtual index, 3)) (hf : cells + mc ≤ R.cells ∧ slots + ms ≤ R.slots) :
    vx_Run p l e R s m args below meth c H locs cells slots mc ms g rest (Qc (Value.ref b :: As).toArray) XC free := by
  have hK : vx_Back l R p e below s args y 3 8 (PreOf R mc ms Pc) (PostOf Qc mc ms free) (vx_Post XC mc ms free) := vx_callBack cw.1 hM hp.1
  obtain ⟨⟨-, -, -, -, -, -, hcode, -, hy, hlen, hl⟩, hin, hse⟩ := cw
  obtain ⟨hx, hb, hml, ho, -⟩ := S
  obtain ⟨-, ⟨cellB, hcB, hoB, hclB⟩, hPc⟩ := hp
  intro T hT X
  rcases vx_callV X hx (C := C) (bytes := bytes) (maxL := maxL) (ret := ret) ho hl hin hse hcode hy hK (by rw [hT]; exact hcB) hoB hclB hg (hsize.trans hml.symm) (argsL := As) (rest := rest) (fun sig h => hn.trans (hlen sig h)) hstack hW (by rw [hb]; exact hdg)
    (fun vm₁ hW₁ => ⟨hf.1, hf.2, hPc (T.setVm vm₁) hT hW₁⟩) with ⟨v, vm₁, ⟨U', l2, c2, s2⟩, hW₁, X', ⟨g', mk, t, L, e1, e2, hq, h1, hL, h2, h3⟩, st⟩ | ⟨q, vm₁, ⟨U', l2, c2, s2⟩, hW₁, X', ⟨g', mk, t, L, E, ce, e1, e2, hq, hce, hcv, hcl, h1, hL, h2, h3⟩, st⟩
  · dsimp only [Pt.U, Pt.locs, Pt.cells, Pt.slots] at X' e1 e2 h1 h2 h3 st
    subst h1; subst h2; subst h3
    exact Or.inl ⟨v, (T.setVm vm₁).calling g' mk (Value.ref b :: As).toArray, t, U', L, hT, X', hL, e1, e2, hq, st⟩
  · dsimp only [Pt.U, Pt.locs, Pt.cells, Pt.slots] at X' e1 e2 h1 h2 h3 st hcl
    subst h1; subst h2; subst h3
    exact Or.inr ⟨q, (T.setVm vm₁).calling g' mk (Value.ref b :: As).toArray, t, U', L, E, ce, hT, X', hL, e1, e2, hq, hce, hcv, vx_cls hW₁ hcl, st⟩
theorem vx_runS (S : CallFix p m c cc nL s args Ts own) (hM : vx_Met l y ws rm Pc Qc XC mc ms free) (cw : CallB R s args own index y bytes maxL ret ws rm mc ms n ∧ (Cond.static y).before args s = true) (hp : PreS s H Pc As)
    (hg : g.method = m) (hn : As.length = n) (hsize : g.locals.size = nL) (hstack : g.stack = As.reverse ++ rest) (hW : 2 * g.monitorRoom + (rest.map fun v => v.category).sum ≤ 8) (hdg : decode cc g.pc = .ok (.invokestatic index, 3)) (hf : cells + mc ≤ R.cells ∧ slots + ms ≤ R.slots) :
    vx_Run p l e R s m args below meth c H locs cells slots mc ms g rest (Qc As.toArray) XC free := by
  have hK : vx_Back l R p e below s args y 3 8 (PreOf R mc ms Pc) (PostOf Qc mc ms free) (vx_Post XC mc ms free) := vx_callBack cw.1 hM hp.1
  obtain ⟨⟨-, -, -, -, -, -, hcode, hini, hy, hlen, hl⟩, hstt⟩ := cw
  obtain ⟨hx, hb, hml, ho, -⟩ := S
  intro T hT X
  rcases vx_callS X hx (bytes := bytes) (maxL := maxL) (ret := ret) ho hl hstt hini hcode hy hK hg (hsize.trans hml.symm) (argsL := As) (rest := rest) (fun sig h => hn.trans (hlen sig h)) hstack hW (by rw [hb]; exact hdg)
    (fun vm₁ hW₁ => ⟨hf.1, hf.2, hp.2 (T.setVm vm₁) hT hW₁⟩) with ⟨v, vm₁, ⟨U', l2, c2, s2⟩, hW₁, X', ⟨g', mk, t, L, e1, e2, hq, h1, hL, h2, h3⟩, st⟩ | ⟨q, vm₁, ⟨U', l2, c2, s2⟩, hW₁, X', ⟨g', mk, t, L, E, ce, e1, e2, hq, hce, hcv, hcl, h1, hL, h2, h3⟩, st⟩
  · dsimp only [Pt.U, Pt.locs, Pt.cells, Pt.slots] at X' e1 e2 h1 h2 h3 st
    subst h1; subst h2; subst h3
    exact Or.inl ⟨v, (T.setVm vm₁).calling g' mk As.toArray, t, U', L, hT, X', hL, e1, e2, hq, st⟩
  · dsimp only [Pt.U, Pt.locs, Pt.cells, Pt.slots] at X' e1 e2 h1 h2 h3 st hcl
    subst h1; subst h2; subst h3
    exact Or.inr ⟨q, (T.setVm vm₁).calling g' mk As.toArray, t, U', L, E, ce, hT, X', hL, e1, e2, hq, hce, hcv, vx_cls hW₁ hcl, st⟩
end Runs
section Rows
variable {p : Program} {l : Launch} {e : Env} {R : Room} {s : State} {m : MethodId} {args : Array Value} {below : List Frame} {meth : Method} {c : Code} {H : Heap} {locs : List Loc} {cells slots : Nat} {Q : State → Prop}
variable {mc ms : Nat} {free : Addr → Prop} {A0 A1 : Nat → Prop} {H0 : Heap} {a : Array Value} {pc : Nat} {ls : Array Slot} {st0 rest : List Value}
theorem vx_keep {st₀ t T' : State} {L : List Loc} (h0 : st₀.heap = H) (e1 : T'.heap = t.heap) (hS : va_S A0 H0 H locs) (hA : ∀ q, q < H.size → A1 q → A0 q) (hf : ∀ q, free q → A0 q) (hL : ∀ q ∈ L, free q.base) (hF : va_F A1 st₀ t) :
    H.size ≤ T'.heap.size ∧ (∀ q : Nat, q < H.size → ¬ A1 q → T'.heap[q]? = H[q]?) ∧ va_S A0 H0 T'.heap (locs ++ L) := by
  obtain ⟨hz, hk⟩ := hF
  rw [h0] at hz hk
  exact ⟨by rw [e1]; exact hz, fun q h1 h2 => by rw [e1]; exact hk q h1 h2,
    ⟨Nat.le_trans hS.1 (by rw [e1]; exact hz), fun q h1 h2 => by rw [e1, hk q (Nat.lt_of_lt_of_le h1 hS.1) (fun z => h2 (hA q (Nat.lt_of_lt_of_le h1 hS.1) z))]; exact hS.2.1 q h1 h2, fun q hq => by
      rcases List.mem_append.mp hq with h | h
      · exact hS.2.2 q h
      · exact hf _ (hL q h)⟩⟩
theorem vx_calli {S SX : Type} {post : Int32 → S → Prop} {px : SX → Prop} {B : S → State → Prop} {BX : String → SX → State → Prop} {AX : Nat → Prop} (hr : vx_Run p l e R s m args below meth c H locs cells slots mc ms (F0 m pc ls st0) rest (va_Qi post B A1 a) (vx_X px BX AX) free) (hS : va_S A0 H0 H locs) (hA : ∀ q, q < H.size → A1 q → A0 q) (hf : ∀ q, free q → A0 q) (hAX : ∀ q, q < H.size → AX q → A0 q)
    (kx : ∀ (E : String) (ce : Cell) (q9 : Addr) (u : SX) (t : State) (H1 : Heap) (locs1 : List Loc), t.heap = H1 → s.vm.Alike t.vm → px u → BX E u t → H.size ≤ H1.size → (∀ q : Nat, q < H.size → ¬ AX q → H1[q]? = H[q]?) → va_S A0 H0 H1 locs1 → H1[q9]? = some ce → ce.vm = .none → s.vm.findClass E = some ce.cls → vx_W p l e R s m args below meth c H1 locs1 (cells + mc) (slots + ms) Q (F0 m pc ls rest) q9)
    (kk : ∀ (r : Int32) (u : S) (t : State) (H1 : Heap) (locs1 : List Loc), t.heap = H1 → s.vm.Alike t.vm → post r u → B u t → H.size ≤ H1.size → (∀ q : Nat, q < H.size → ¬ A1 q → H1[q]? = H[q]?) → va_S A0 H0 H1 locs1 → W p l e R s m args below meth c H1 locs1 (cells + mc) (slots + ms) Q (F0 m (pc + 3) ls (.int r :: rest))) : W p l e R s m args below meth c H locs cells slots Q (F0 m pc ls st0) := by
  intro T hT X
  rcases hr T hT X with ⟨v, st₀, t, T', L, h0, X', hL, e1, e2, ⟨⟨r, u, hv, hp, hb⟩, hF⟩, st⟩ | ⟨q, st₀, t, T', L, E, ce, h0, X', hL, e1, e2, ⟨u, hp, hb, hF⟩, hce, hcv, hcl, st⟩
  · cases hv
    obtain ⟨k1, k2, k3⟩ := vx_keep h0 e1 hS hA hf hL hF
    obtain ⟨t2, a1, b1⟩ := kk r u t T'.heap (locs ++ L) e1.symm (by rw [← e2]; exact X'.warmed.alike) hp hb k1 k2 k3 T' rfl X'
    exact ⟨t2, st t2 a1, b1⟩
  · obtain ⟨k1, k2, k3⟩ := vx_keep h0 e1 hS hAX hf hL hF
    obtain ⟨t2, a1, b1⟩ := kx E ce q u t T'.heap (locs ++ L) e1.symm (by rw [← e2]; exact X'.warmed.alike) hp hb k1 k2 k3 (by rw [e1]; exact hce) hcv hcl T' rfl X'
    exact ⟨t2, st.trans a1, b1⟩
theorem vx_calll {S SX : Type} {post : Int64 → S → Prop} {px : SX → Prop} {B : S → State → Prop} {BX : String → SX → State → Prop} {AX : Nat → Prop} (hr : vx_Run p l e R s m args below meth c H locs cells slots mc ms (F0 m pc ls st0) rest (va_Ql post B A1 a) (vx_X px BX AX) free) (hS : va_S A0 H0 H locs) (hA : ∀ q, q < H.size → A1 q → A0 q) (hf : ∀ q, free q → A0 q) (hAX : ∀ q, q < H.size → AX q → A0 q)
    (kx : ∀ (E : String) (ce : Cell) (q9 : Addr) (u : SX) (t : State) (H1 : Heap) (locs1 : List Loc), t.heap = H1 → s.vm.Alike t.vm → px u → BX E u t → H.size ≤ H1.size → (∀ q : Nat, q < H.size → ¬ AX q → H1[q]? = H[q]?) → va_S A0 H0 H1 locs1 → H1[q9]? = some ce → ce.vm = .none → s.vm.findClass E = some ce.cls → vx_W p l e R s m args below meth c H1 locs1 (cells + mc) (slots + ms) Q (F0 m pc ls rest) q9)
    (kk : ∀ (r : Int64) (u : S) (t : State) (H1 : Heap) (locs1 : List Loc), t.heap = H1 → s.vm.Alike t.vm → post r u → B u t → H.size ≤ H1.size → (∀ q : Nat, q < H.size → ¬ A1 q → H1[q]? = H[q]?) → va_S A0 H0 H1 locs1 → W p l e R s m args below meth c H1 locs1 (cells + mc) (slots + ms) Q (F0 m (pc + 3) ls (.long r :: rest))) : W p l e R s m args below meth c H locs cells slots Q (F0 m pc ls st0) := by
  intro T hT X
  rcases hr T hT X with ⟨v, st₀, t, T', L, h0, X', hL, e1, e2, ⟨⟨r, u, hv, hp, hb⟩, hF⟩, st⟩ | ⟨q, st₀, t, T', L, E, ce, h0, X', hL, e1, e2, ⟨u, hp, hb, hF⟩, hce, hcv, hcl, st⟩
  · cases hv
    obtain ⟨k1, k2, k3⟩ := vx_keep h0 e1 hS hA hf hL hF
    obtain ⟨t2, a1, b1⟩ := kk r u t T'.heap (locs ++ L) e1.symm (by rw [← e2]; exact X'.warmed.alike) hp hb k1 k2 k3 T' rfl X'
    exact ⟨t2, st t2 a1, b1⟩
  · obtain ⟨k1, k2, k3⟩ := vx_keep h0 e1 hS hAX hf hL hF
    obtain ⟨t2, a1, b1⟩ := kx E ce q u t T'.heap (locs ++ L) e1.symm (by rw [← e2]; exact X'.warmed.alike) hp hb k1 k2 k3 (by rw [e1]; exact hce) hcv hcl T' rfl X'
    exact ⟨t2, st.trans a1, b1⟩
theorem vx_callf {S SX : Type} {post : UInt32 → S → Prop} {px : SX → Prop} {B : S → State → Prop} {BX : String → SX → State → Prop} {AX : Nat → Prop} (hr : vx_Run p l e R s m args below meth c H locs cells slots mc ms (F0 m pc ls st0) rest (va_Qf post B A1 a) (vx_X px BX AX) free) (hS : va_S A0 H0 H locs) (hA : ∀ q, q < H.size → A1 q → A0 q) (hf : ∀ q, free q → A0 q) (hAX : ∀ q, q < H.size → AX q → A0 q)
    (kx : ∀ (E : String) (ce : Cell) (q9 : Addr) (u : SX) (t : State) (H1 : Heap) (locs1 : List Loc), t.heap = H1 → s.vm.Alike t.vm → px u → BX E u t → H.size ≤ H1.size → (∀ q : Nat, q < H.size → ¬ AX q → H1[q]? = H[q]?) → va_S A0 H0 H1 locs1 → H1[q9]? = some ce → ce.vm = .none → s.vm.findClass E = some ce.cls → vx_W p l e R s m args below meth c H1 locs1 (cells + mc) (slots + ms) Q (F0 m pc ls rest) q9)
    (kk : ∀ (r : UInt32) (u : S) (t : State) (H1 : Heap) (locs1 : List Loc), t.heap = H1 → s.vm.Alike t.vm → post r u → B u t → H.size ≤ H1.size → (∀ q : Nat, q < H.size → ¬ A1 q → H1[q]? = H[q]?) → va_S A0 H0 H1 locs1 → W p l e R s m args below meth c H1 locs1 (cells + mc) (slots + ms) Q (F0 m (pc + 3) ls (.float r :: rest))) : W p l e R s m args below meth c H locs cells slots Q (F0 m pc ls st0) := by
  intro T hT X
  rcases hr T hT X with ⟨v, st₀, t, T', L, h0, X', hL, e1, e2, ⟨⟨r, u, hv, hp, hb⟩, hF⟩, st⟩ | ⟨q, st₀, t, T', L, E, ce, h0, X', hL, e1, e2, ⟨u, hp, hb, hF⟩, hce, hcv, hcl, st⟩
  · cases hv
    obtain ⟨k1, k2, k3⟩ := vx_keep h0 e1 hS hA hf hL hF
    obtain ⟨t2, a1, b1⟩ := kk r u t T'.heap (locs ++ L) e1.symm (by rw [← e2]; exact X'.warmed.alike) hp hb k1 k2 k3 T' rfl X'
    exact ⟨t2, st t2 a1, b1⟩
  · obtain ⟨k1, k2, k3⟩ := vx_keep h0 e1 hS hAX hf hL hF
    obtain ⟨t2, a1, b1⟩ := kx E ce q u t T'.heap (locs ++ L) e1.symm (by rw [← e2]; exact X'.warmed.alike) hp hb k1 k2 k3 (by rw [e1]; exact hce) hcv hcl T' rfl X'
    exact ⟨t2, st.trans a1, b1⟩
theorem vx_calld {S SX : Type} {post : UInt64 → S → Prop} {px : SX → Prop} {B : S → State → Prop} {BX : String → SX → State → Prop} {AX : Nat → Prop} (hr : vx_Run p l e R s m args below meth c H locs cells slots mc ms (F0 m pc ls st0) rest (va_Qd post B A1 a) (vx_X px BX AX) free) (hS : va_S A0 H0 H locs) (hA : ∀ q, q < H.size → A1 q → A0 q) (hf : ∀ q, free q → A0 q) (hAX : ∀ q, q < H.size → AX q → A0 q)
    (kx : ∀ (E : String) (ce : Cell) (q9 : Addr) (u : SX) (t : State) (H1 : Heap) (locs1 : List Loc), t.heap = H1 → s.vm.Alike t.vm → px u → BX E u t → H.size ≤ H1.size → (∀ q : Nat, q < H.size → ¬ AX q → H1[q]? = H[q]?) → va_S A0 H0 H1 locs1 → H1[q9]? = some ce → ce.vm = .none → s.vm.findClass E = some ce.cls → vx_W p l e R s m args below meth c H1 locs1 (cells + mc) (slots + ms) Q (F0 m pc ls rest) q9)
    (kk : ∀ (r : UInt64) (u : S) (t : State) (H1 : Heap) (locs1 : List Loc), t.heap = H1 → s.vm.Alike t.vm → post r u → B u t → H.size ≤ H1.size → (∀ q : Nat, q < H.size → ¬ A1 q → H1[q]? = H[q]?) → va_S A0 H0 H1 locs1 → W p l e R s m args below meth c H1 locs1 (cells + mc) (slots + ms) Q (F0 m (pc + 3) ls (.double r :: rest))) : W p l e R s m args below meth c H locs cells slots Q (F0 m pc ls st0) := by
  intro T hT X
  rcases hr T hT X with ⟨v, st₀, t, T', L, h0, X', hL, e1, e2, ⟨⟨r, u, hv, hp, hb⟩, hF⟩, st⟩ | ⟨q, st₀, t, T', L, E, ce, h0, X', hL, e1, e2, ⟨u, hp, hb, hF⟩, hce, hcv, hcl, st⟩
  · cases hv
    obtain ⟨k1, k2, k3⟩ := vx_keep h0 e1 hS hA hf hL hF
    obtain ⟨t2, a1, b1⟩ := kk r u t T'.heap (locs ++ L) e1.symm (by rw [← e2]; exact X'.warmed.alike) hp hb k1 k2 k3 T' rfl X'
    exact ⟨t2, st t2 a1, b1⟩
  · obtain ⟨k1, k2, k3⟩ := vx_keep h0 e1 hS hAX hf hL hF
    obtain ⟨t2, a1, b1⟩ := kx E ce q u t T'.heap (locs ++ L) e1.symm (by rw [← e2]; exact X'.warmed.alike) hp hb k1 k2 k3 (by rw [e1]; exact hce) hcv hcl T' rfl X'
    exact ⟨t2, st.trans a1, b1⟩
theorem vx_callv {S SX : Type} {post : S → Prop} {px : SX → Prop} {B : S → State → Prop} {BX : String → SX → State → Prop} {AX : Nat → Prop} (hr : vx_Run p l e R s m args below meth c H locs cells slots mc ms (F0 m pc ls st0) rest (va_Qv post B A1 a) (vx_X px BX AX) free) (hS : va_S A0 H0 H locs) (hA : ∀ q, q < H.size → A1 q → A0 q) (hf : ∀ q, free q → A0 q) (hAX : ∀ q, q < H.size → AX q → A0 q)
    (kx : ∀ (E : String) (ce : Cell) (q9 : Addr) (u : SX) (t : State) (H1 : Heap) (locs1 : List Loc), t.heap = H1 → s.vm.Alike t.vm → px u → BX E u t → H.size ≤ H1.size → (∀ q : Nat, q < H.size → ¬ AX q → H1[q]? = H[q]?) → va_S A0 H0 H1 locs1 → H1[q9]? = some ce → ce.vm = .none → s.vm.findClass E = some ce.cls → vx_W p l e R s m args below meth c H1 locs1 (cells + mc) (slots + ms) Q (F0 m pc ls rest) q9)
    (kk : ∀ (u : S) (t : State) (H1 : Heap) (locs1 : List Loc), t.heap = H1 → s.vm.Alike t.vm → post u → B u t → H.size ≤ H1.size → (∀ q : Nat, q < H.size → ¬ A1 q → H1[q]? = H[q]?) → va_S A0 H0 H1 locs1 → W p l e R s m args below meth c H1 locs1 (cells + mc) (slots + ms) Q (F0 m (pc + 3) ls (rest))) : W p l e R s m args below meth c H locs cells slots Q (F0 m pc ls st0) := by
  intro T hT X
  rcases hr T hT X with ⟨v, st₀, t, T', L, h0, X', hL, e1, e2, ⟨⟨u, hv, hp, hb⟩, hF⟩, st⟩ | ⟨q, st₀, t, T', L, E, ce, h0, X', hL, e1, e2, ⟨u, hp, hb, hF⟩, hce, hcv, hcl, st⟩
  · cases hv
    obtain ⟨k1, k2, k3⟩ := vx_keep h0 e1 hS hA hf hL hF
    obtain ⟨t2, a1, b1⟩ := kk u t T'.heap (locs ++ L) e1.symm (by rw [← e2]; exact X'.warmed.alike) hp hb k1 k2 k3 T' rfl X'
    exact ⟨t2, st t2 a1, b1⟩
  · obtain ⟨k1, k2, k3⟩ := vx_keep h0 e1 hS hAX hf hL hF
    obtain ⟨t2, a1, b1⟩ := kx E ce q u t T'.heap (locs ++ L) e1.symm (by rw [← e2]; exact X'.warmed.alike) hp hb k1 k2 k3 (by rw [e1]; exact hce) hcv hcl T' rfl X'
    exact ⟨t2, st.trans a1, b1⟩
/-- caught by the row x of this method's table; the rows ahead don't take it -/
theorem vx_catch {own name : String} {E : String} {ce : Cell} {q : Addr} (hown : s.vm.findClass own = some m.cls) (pre : List ExceptionTableEntry) (x : ExceptionTableEntry) (suf : List ExceptionTableEntry) (hsplit : c.exceptionTable.toList = pre ++ x :: suf)
    (hpass : ∀ z ∈ pre, covers z pc = false ∨ (z.catchType ≠ 0 ∧ ∃ nm : String, (Cond.classLink own z.catchType nm).before args s = true ∧ va_Nc E nm s)) (hx : covers x pc = true) (h0 : x.catchType ≠ 0)
    (hlink : (Cond.classLink own x.catchType name).before args s = true) (hcast : (Cond.castable E name).before args s = true) (hcell : H[q]? = some ce) (hv : ce.vm = .none) (hcl : s.vm.findClass E = some ce.cls)
    (kk : W p l e R s m args below meth c H locs cells slots Q (F0 m x.handlerPc ls [.ref q])) : vx_W p l e R s m args below meth c H locs cells slots Q (F0 m pc ls rest) q := by
  intro T hT X
  have hpl : e.platform.magicAccessors = ({} : Platform).magicAccessors := by rw [X.admits.platform]
  obtain ⟨c3, c4, hc3, hc4, hasg⟩ := Cond.castable_spec hcast
  cases Option.some.inj (hc3.symm.trans hcl)
  obtain ⟨c5, hc5, hcl5⟩ := Cond.classLink_spec hown hlink e.platform hpl
  cases Option.some.inj (hc4.symm.trans hc5)
  obtain ⟨vm', X', st⟩ := X.thenCaughtThrough q (g := F0 m pc ls rest) rfl (Steps.refl _) (by rw [hT]; exact hcell) (by rw [hv]; rfl) (by obtain ⟨k9, h9, -⟩ := Vm.findClass_spec hcl; exact ⟨k9, h9⟩) pre x suf hsplit
    (fun z hz => by
      rcases hpass z hz with h | ⟨hz0, nm, hl1, hn1⟩
      · exact Or.inl h
      · obtain ⟨c6, hc6, hcl6⟩ := Cond.classLink_spec hown hl1 e.platform hpl
        obtain ⟨a8, b8, h1, h2, h3⟩ := hn1
        cases Option.some.inj (h1.symm.trans hcl)
        cases Option.some.inj (h2.symm.trans hc6)
        exact Or.inr ⟨hz0, _, hcl6, h3⟩) hx (Or.inr ⟨h0, c4, hcl5, hasg⟩)
  obtain ⟨t, a1, b1⟩ := kk (T.setVm vm') hT X'
  exact ⟨t, st.trans a1, b1⟩
end Rows
section Ends
variable {p : Program} {l : Launch} {e : Env} {R : Room} {s : State} {m : MethodId} {args : Array Value} {below : List Frame} {meth : Method} {c : Code} {H : Heap} {locs : List Loc} {cells slots : Nat} {Q : State → Prop}
variable {mc ms : Nat} {free : Addr → Prop} {A0 A1 : Nat → Prop} {H0 : Heap} {a : Array Value} {ls : Array Slot} {st0 rest : List Value}
variable {Qc : Array Value → State → Outcome → State → Prop} {XC : String → State → State → Prop}
/-- what a body that may throw owes at its end -/
def vx_MQ (below : List Frame) (Qc : Array Value → State → Outcome → State → Prop) (XC : String → State → State → Prop) (a : Array Value) (s : State) (mc ms : Nat) (free : Addr → Prop) : State → Prop := fun t =>
  ∃ o, t.status = .running ∧ Ended t below o ∧ vx_Q Qc XC mc ms free a s o t
theorem vx_ret {g : JFrame} {mc ms : Nat} (k : W p l e R s m args below meth c H locs cells slots (MQ below Qc args s mc ms free) g) : W p l e R s m args below meth c H locs cells slots (vx_MQ below Qc XC args s mc ms free) g := by
  intro T hT X
  obtain ⟨t, a1, o, b1, b2, b3, b4⟩ := k T hT X
  exact ⟨t, a1, o, b1, b2, Or.inl ⟨b3, b4⟩⟩
/-- not caught here: it goes on to the caller -/
theorem vx_widen {g : JFrame} {q : Addr} {k n : Nat} (h1 : cells ≤ k) (h2 : slots ≤ n) (kk : vx_W p l e R s m args below meth c H locs k n Q g q) : vx_W p l e R s m args below meth c H locs cells slots Q g q := fun T hT X => kk T hT (stand_widen X h1 h2)
theorem vx_out {pc : Nat} {E : String} {ce : Cell} {q : Addr} {mc ms : Nat} (hout : ∀ x ∈ c.exceptionTable.toList, covers x pc = false) (hlocks : meth.locks = false) (hcell : H[q]? = some ce) (hv : ce.vm = .none) (hcl : s.vm.findClass E = some ce.cls)
    (hx : ∀ t : State, t.heap = H → s.vm.Alike t.vm → XC E s t) (hf : ∀ z ∈ locs, free z.base) (hc : cells ≤ mc) (hs : slots ≤ ms) :
    vx_W p l e R s m args below meth c H locs cells slots (vx_MQ below Qc XC args s mc ms free) (F0 m pc ls rest) q := by
  intro T hT X
  obtain ⟨st1, hrun, hend, hW, hsm⟩ := X.leaveThrown q (g := F0 m pc ls rest) rfl rfl rfl hout hlocks
  have hcell9 : (T.setFrames (.throwing q :: below)).heap[q]? = some ce := by
    show T.heap[q]? = some ce
    rw [hT]; exact hcell
  exact ⟨_, st1, .threw q, hrun, hend, Or.inr ⟨q, rfl, E, ce, locs, hx _ hT hW.alike, hcell9, hv, hcl, hW, hsm.mono hc hs, hf⟩⟩
theorem vx_frame {U : State} {k n : Nat} (h : s.sameButNew ({ U with vm := s.vm } : State) locs k n) : s.heap.size ≤ U.heap.size ∧ ∀ q : Nat, q < s.heap.size → (∀ z ∈ locs, z.base ≠ q) → U.heap[q]? = s.heap[q]? := by
  obtain ⟨-, h2, -, -, -, h6⟩ := h
  refine ⟨h2, fun q hq hz => ?_⟩
  obtain ⟨c9, e1, e2, e3, e4⟩ := h6 q _ (Array.getElem?_eq_getElem hq)
  have hs : c9.slots = (s.heap[q]).slots := Array.ext_getElem? fun i => e4 i fun hm => hz _ hm rfl
  have h9 : c9 = s.heap[q] := by
    rw [hs] at e2
    exact e2
  have e5 : U.heap[q]? = some c9 := e1
  rw [e5, h9, Array.getElem?_eq_getElem hq]
/-- the words of a throw but the four that speak of the heap -/
def vx_no (w : Cond) : Bool := decide (w ≠ .isRef (.static Bundle.tN "UNASSIGNED_STACK" Bundle.steD)) && decide (w ≠ .isRef (.static Bundle.tN "SUPPRESSED_SENTINEL" Bundle.listD)) && decide (w ≠ .laysStatic Bundle.tN "UNASSIGNED_STACK" Bundle.steD) && decide (w ≠ .laysStatic Bundle.tN "SUPPRESSED_SENTINEL" Bundle.listD)
def vx_at0 (own : String) (ic : Nat) (X : String) (names : List String) : List Cond := (Bundle.ownAtoms0 own ic X names).filter vx_no
def vx_atS (own : String) (ic : Nat) (X : String) (names : List String) : List Cond := (Bundle.ownAtoms own ic X names).filter vx_no
/-- a word that the tables alone decide, or a good one -/
def vx_ot (w : Cond) : Bool := w.onTables || goodWord w
theorem vx_ot_at {args a' : Array Value} {s U : State} {w : Cond} (hW : s.WarmedH U.vm) (hvm : s.vm = U.vm) (hg : vx_ot w = true) (h : w.before args s = true) : w.before a' U = true := by
  simp only [vx_ot, Bool.or_eq_true] at hg
  rcases hg with hg | hg
  · exact va_tabs hg hvm h
  · exact word_at hW (good_of_word hg) h
/-- a list's words: the good ones out of the method's own list, the others by premises of their own -/
theorem vx_hat {args : Array Value} {s : State} {L B : List Cond} (h1 : ∀ w ∈ L.filter goodWord, w.before args s = true) (h2 : ∀ w ∈ L.filter (fun w => !goodWord w), w ∈ B) (h3 : ∀ w ∈ B, w.before args s = true) : ∀ w ∈ L, w.before args s = true := by
  intro w hw
  by_cases g : goodWord w = true
  · exact h1 w (List.mem_filter.mpr ⟨hw, g⟩)
  · refine h3 w (h2 w (List.mem_filter.mpr ⟨hw, ?_⟩))
    show (!goodWord w) = true
    cases hgw : goodWord w
    · rfl
    · exact absurd hgw g
theorem vx_c {args : Array Value} {s : State} {w : Cond} {B : List Cond} (h : w.before args s = true) (t : ∀ w ∈ B, w.before args s = true) : ∀ w' ∈ w :: B, w'.before args s = true := fun w' h' => (List.mem_cons.mp h').elim (fun e => by rw [e]; exact h) (t w')
theorem vx_n {args : Array Value} {s : State} : ∀ w ∈ ([] : List Cond), w.before args s = true := fun _ h => nomatch h
theorem vx_own {args : Array Value} {s : State} {L : List Cond} (h1 : ∀ w ∈ L.filter vx_no, w.before args s = true)
    (hU : (Cond.isRef (.static Bundle.tN "UNASSIGNED_STACK" Bundle.steD)).before args s = true) (hN : (Cond.isRef (.static Bundle.tN "SUPPRESSED_SENTINEL" Bundle.listD)).before args s = true)
    (lU : (Cond.laysStatic Bundle.tN "UNASSIGNED_STACK" Bundle.steD).before args s = true) (lN : (Cond.laysStatic Bundle.tN "SUPPRESSED_SENTINEL" Bundle.listD).before args s = true) : ∀ w ∈ L, w.before args s = true := by
  intro w hw
  by_cases e1 : w = .isRef (.static Bundle.tN "UNASSIGNED_STACK" Bundle.steD)
  · rw [e1]; exact hU
  · by_cases e2 : w = .isRef (.static Bundle.tN "SUPPRESSED_SENTINEL" Bundle.listD)
    · rw [e2]; exact hN
    · by_cases e3 : w = .laysStatic Bundle.tN "UNASSIGNED_STACK" Bundle.steD
      · rw [e3]; exact lU
      · by_cases e4 : w = .laysStatic Bundle.tN "SUPPRESSED_SENTINEL" Bundle.listD
        · rw [e4]; exact lN
        · exact h1 w (List.mem_filter.mpr ⟨hw, by unfold vx_no; rw [decide_eq_true e1, decide_eq_true e2, decide_eq_true e3, decide_eq_true e4]; rfl⟩)
/-- where a static field lies, its class's statics cell in H -/
def vx_L (C n d : String) (A : Nat → Prop) (U : State) (H : Heap) : Prop := ∃ (c : ClassId) (k : Class) (i : Nat) (f : Field) (a : Nat) (cell : Cell), U.vm.findClass C = some c ∧ U.fieldFound? C n d = some (c, k, i, f) ∧ f.isStatic = true ∧ k.statics = some a ∧ H[a]? = some cell ∧ cell.vm.isStatics = true ∧ cell.cls = c ∧ f.slot < cell.slots.size ∧ k.staticTypes[f.slot]? = some f.type ∧ ¬ A a
theorem vx_L.moved {C n d : String} {A : Nat → Prop} {u U : State} {H : Heap} (hvm : u.vm.Alike U.vm) (h : vx_L C n d A u H) : vx_L C n d A U H := by
  obtain ⟨c, k, i, f, a, cell, h1, h2, h3, h4, h5, h6, h7, h8, h9, h10⟩ := h
  obtain ⟨k', hi', he⟩ := State.fieldFound?_setVm hvm h2
  exact ⟨c, k', i, f, a, cell, by rw [hvm.findClass]; exact h1, hi', h3, by rw [he]; exact h4, h5, h6, h7, h8, by rw [he]; exact h9, h10⟩
theorem vx_L.kept {C n d : String} {A : Nat → Prop} {U : State} {H H1 : Heap} (h : vx_L C n d A U H) (hq : ∀ a : Nat, a < H.size → ¬ A a → H1[a]? = H[a]?) : vx_L C n d A U H1 := by
  obtain ⟨c, k, i, f, a, cell, h1, h2, h3, h4, h5, h6, h7, h8, h9, h10⟩ := h
  exact ⟨c, k, i, f, a, cell, h1, h2, h3, h4, by rw [hq a (Array.getElem?_eq_some_iff.mp h5).1 h10]; exact h5, h6, h7, h8, h9, h10⟩
theorem vx_L.narrow {C n d : String} {A B : Nat → Prop} {U : State} {H : Heap} (h : vx_L C n d A U H) (hAB : ∀ q, B q → A q) : vx_L C n d B U H := by
  obtain ⟨c, k, i, f, a, cell, h1, h2, h3, h4, h5, h6, h7, h8, h9, h10⟩ := h
  exact ⟨c, k, i, f, a, cell, h1, h2, h3, h4, h5, h6, h7, h8, h9, fun z => h10 (hAB _ z)⟩
theorem vx_L.word {C n d : String} {A : Nat → Prop} {s : State} {args : Array Value} (h : vx_L C n d A s s.heap) : (Cond.laysStatic C n d).before args s = true := by
  obtain ⟨c, k, i, f, a, cell, h1, h2, h3, h4, h5, h6, h7, h8, h9, -⟩ := h
  show (Cond.laysStatic C n d).holds args s none s [] = true
  exact Cond.laysStatic_of h1 h2 h3 h4 h5 h6 h7 h8 h9
/-- .. and what it holds: null or some reference -/
def vx_Zq (C n d : String) (A : Nat → Prop) (U : State) (H : Heap) : Prop := va_Zq C n d A U H ∧ vx_L C n d A U H
theorem vx_Zq.moved {C n d : String} {A : Nat → Prop} {u U : State} {H : Heap} (hvm : u.vm.Alike U.vm) (h : vx_Zq C n d A u H) : vx_Zq C n d A U H := ⟨va_Zq.moved hvm h.1, vx_L.moved hvm h.2⟩
theorem vx_Zq.kept {C n d : String} {A : Nat → Prop} {U : State} {H H1 : Heap} (h : vx_Zq C n d A U H) (hq : ∀ a : Nat, a < H.size → ¬ A a → H1[a]? = H[a]?) : vx_Zq C n d A U H1 := ⟨va_Zq.kept h.1 hq, vx_L.kept h.2 hq⟩
theorem vx_Zq.narrow {C n d : String} {A B : Nat → Prop} {U : State} {H : Heap} (h : vx_Zq C n d A U H) (hAB : ∀ q, B q → A q) : vx_Zq C n d B U H := ⟨va_Zq.narrow h.1 hAB, vx_L.narrow h.2 hAB⟩
theorem vx_Zqof {args : Array Value} {s : State} {C n d : String} {A : Nat → Prop} (hl : (Cond.laysStatic C n d).before args s = true) (hini : (Cond.initialized C).before args s = true) (h : (Cond.isRef (.static C n d)).before args s = true) (hA : ∀ a : Nat, a < s.heap.size → ¬ A a) : vx_Zq C n d A s s.heap := by
  refine ⟨va_Zqof hl hini h hA, ?_⟩
  obtain ⟨c, k, i, f, a, cell, h1, h2, h3, h4, h5, h6, h7, h8, h9⟩ := Cond.laysStatic_spec hl
  exact ⟨c, k, i, f, a, cell, h1, h2, h3, h4, h5, h6, h7, h8, h9, hA a (Array.getElem?_eq_some_iff.mp h5).1⟩
theorem vx_isRef {C n d : String} {v : Value} {A : Nat → Prop} {s : State} {args : Array Value} (h : va_Z C n d v A s s.heap) (hv : v.isRef = true) : (Cond.isRef (.static C n d)).before args s = true := by
  obtain ⟨cf, kf, fi, f, a, cell, h1, h2, h3, h4, h5, h6, h7, -⟩ := h
  have he : (Term.static C n d).eval args s none [] s = some v := by
    simp [Term.eval, State.fieldNamed?, h1, h2, h4, h5, h6, h7]
  simp only [Cond.before, Cond.holds, Cond.value, he]
  cases v <;> simp_all [Value.isRef]
theorem vx_isRefq {C n d : String} {A : Nat → Prop} {s : State} {args : Array Value} (h : va_Zq C n d A s s.heap) : (Cond.isRef (.static C n d)).before args s = true := by
  rcases h with h | ⟨t, h⟩
  · exact vx_isRef h rfl
  · exact vx_isRef h rfl
/-- the same frame, seen from here: as if the method were called anew in this heap -/
theorem vx_rebase {T : State} (X : Stand p l e R s m args below meth c T locs cells slots) {R' : Room} (hf : R'.frames ≤ R.frames) (hl : R'.locals ≤ R.locals) (hc : cells + R'.cells ≤ R.cells) (hs : slots + R'.slots ≤ R.slots) :
    Stand p l e R' ((T.setVm s.vm).setFrames (.invoking m args :: below)) m args below meth c T [] 0 0 := by
  have htop : (T.setVm s.vm).topJava?.isSome := X.here.top
  have hF : ((T.setVm s.vm).setFrames (.invoking m args :: below)).frames = .invoking m args :: below := State.frames_setFrames _ (State.cur_lt_of_top htop)
  obtain ⟨g₀, hg0⟩ := Option.isSome_iff_exists.mp htop
  obtain ⟨r, hr⟩ := State.topJava?_eq_some.mp hg0
  have hl9 : e.platform.stackLimits (T.setVm s.vm).me = e.platform.stackLimits s.me := X.limits
  have hb9 : (T.setVm s.vm).me.stackBytes = s.me.stackBytes := X.bytes
  refine ⟨X.admits, X.cas, X.clock, hF, ?_, X.hears, X.method, X.code, X.here, X.tail, X.warmed, ?_, ?_, ?_⟩
  · have h := X.room
    have hU : ((T.setVm s.vm).setFrames (.invoking m args :: below)).localsInUse = s.localsInUse := by
      rw [State.localsInUse_invoking hF (meth := meth) (c := c) X.method X.code, State.localsInUse_invoking X.frames X.method X.code]
    simp only [State.hasRoom, Bool.and_eq_true, decide_eq_true_eq] at h ⊢
    obtain ⟨⟨⟨⟨h1, h2, h3, h4, h5, h6⟩, h7⟩, h8⟩, h9⟩ := h
    rw [X.frames, List.length_cons] at h2 h3
    have q1 := X.heapSize
    have q2 := X.used
    simp only [hF, hU, List.length_cons, State.stackLimits_setFrames, State.stackBytes_setFrames, hl9, hb9]
    refine ⟨⟨⟨⟨by omega, by omega, by omega, by omega, by omega, h6⟩, ?_⟩, ?_⟩, X.book⟩
    · show T.heap.size + R'.cells ≤ e.platform.maxCells
      omega
    · show T.slotsUsed + R'.slots ≤ e.platform.maxSlots
      omega
  · rw [State.stackLimits_setFrames]; rfl
  · rw [State.stackBytes_setFrames]; rfl
  · refine ⟨?_, Nat.le_refl _, Nat.le_refl _, ?_, ?_, fun a c9 h9 => ⟨c9, h9, rfl, rfl, fun _ _ => rfl⟩⟩
    · obtain ⟨t, ht, -⟩ := State.frames_cons hr
      show T.setVm s.vm = { ((T.setVm s.vm).setFrames (.invoking m args :: below)).setFrames (T.setVm s.vm).frames with heap := T.heap, slotsUsed := T.slotsUsed }
      rw [State.setFrames_setFrames, State.setFrames_self ht]
      rfl
    · show T.slotsUsed = T.slotsUsed + ((T.heap.toList.drop T.heap.size).map (·.slots.size)).sum
      rw [List.drop_eq_nil_of_le (Nat.le_of_eq Array.length_toList)]
      rfl
    · show ((T.heap.toList.drop T.heap.size).map (·.slots.size)).sum ≤ 0
      rw [List.drop_eq_nil_of_le (Nat.le_of_eq Array.length_toList)]
      exact Nat.le_refl _
/-- 'throw new E()': new; dup; invokespecial; athrow -/
theorem vx_throw0 {cc : ByteArray} {pc : Nat} (hexec : p.tables.exec = Jvm.exec) (hb : c.code = cc) (hl : l.stackTraces = false) {own cls : String} {names : List String} {ik ic mc ms : Nat} {A : Nat → Prop}
    (hown : s.vm.findClass own = some m.cls) (hcls : Bundle.fit cls = true) (hnames : ∀ n ∈ names, Bundle.fit n = true)
    (hk : (Cond.classLink own ik cls).before args s = true) (hini : (Cond.initialized cls).before args s = true) (hat : ∀ w ∈ vx_at0 own ic cls names, w.before args s = true)
    (hgood : ∀ w ∈ Cond.classLink own ik cls :: Cond.initialized cls :: vx_at0 own ic cls names, vx_ot w = true)
    (hU : vx_Zq Bundle.tN "UNASSIGNED_STACK" Bundle.steD A s s.heap) (hN : vx_Zq Bundle.tN "SUPPRESSED_SENTINEL" Bundle.listD A s s.heap) (hS : va_S A s.heap H locs) (hsize : ls.size = c.maxLocals)
    (d0 : decode cc pc = .ok (.new ik, 3)) (d3 : decode cc (pc + 3) = .ok (.dup, 1)) (d4 : decode cc (pc + 4) = .ok (.invokespecial ic, 3)) (d7 : decode cc (pc + 7) = .ok (.athrow, 1))
    (hout : ∀ x ∈ c.exceptionTable.toList, covers x (pc + 7) = false)
    (hRframes : names.length + 3 < R.frames) (hRlocals : (rest.map fun v => v.category).sum + (13 * (names.length + 1) + 42) ≤ R.locals) (hRcells : cells + 1 ≤ R.cells) (hRslots : slots + 6 ≤ R.slots) (hlocks : meth.locks = false)
    (hx : ∀ t : State, s.vm.Alike t.vm → H.size ≤ t.heap.size → (∀ q : Nat, q < H.size → t.heap[q]? = H[q]?) → XC cls s t)
    (hf : ∀ z ∈ locs, free z.base) (hc : cells + 1 ≤ mc) (hs : slots + 6 ≤ ms) :
    W p l e R s m args below meth c H locs cells slots (vx_MQ below Qc XC args s mc ms free) (F0 m pc ls rest) := by
  intro T hT X
  have htr : e.platform.stackTraces = false := (show e.platform.stackTraces = l.stackTraces by rw [X.admits.platform]).trans hl
  have Y := vx_rebase X (R' := { frames := R.frames, locals := R.locals, cells := 1, slots := 6 }) (Nat.le_refl _) (Nat.le_refl _) hRcells hRslots
  obtain ⟨s', hA⟩ : ∃ z, z = (T.setVm s.vm).setFrames (.invoking m args :: below) := ⟨_, rfl⟩
  rw [← hA] at Y
  have hvm : s'.vm = s.vm := by rw [hA]; rfl
  have hhp : s'.heap = H := by rw [hA]; exact hT
  have hW0 : s.WarmedH s'.vm := by rw [hvm]; exact State.WarmedH.refl s
  have hat' : ∀ w ∈ vx_at0 own ic cls names, w.before args s' = true := fun w hw => vx_ot_at hW0 hvm.symm (hgood w (List.mem_cons_of_mem _ (List.mem_cons_of_mem _ hw))) (hat w hw)
  have hk' : (Cond.classLink own ik cls).before args s' = true := vx_ot_at hW0 hvm.symm (hgood _ List.mem_cons_self) hk
  have hini' : (Cond.initialized cls).before args s' = true := vx_ot_at hW0 hvm.symm (hgood _ (List.mem_cons_of_mem _ List.mem_cons_self)) hini
  have hU' : vx_Zq Bundle.tN "UNASSIGNED_STACK" Bundle.steD A s' s'.heap := by rw [hhp]; exact vx_Zq.moved hW0.alike (hU.kept hS.2.1)
  have hN' : vx_Zq Bundle.tN "SUPPRESSED_SENTINEL" Bundle.listD A s' s'.heap := by rw [hhp]; exact vx_Zq.moved hW0.alike (hN.kept hS.2.1)
  have h : ∀ w ∈ Bundle.ownAtoms0 own ic cls names, w.before args s' = true := vx_own hat' (vx_isRefq hU'.1) (vx_isRefq hN'.1) hU'.2.word hN'.2.word
  have hown' : s'.vm.findClass own = some m.cls := by rw [hvm]; exact hown
  have hins : (Cond.instantiable cls 6).before args s' = true := h _ (by simp [Bundle.ownAtoms0])
  obtain ⟨vm₁, cX, kX, hfX, hkX, -, -, X₁, st1⟩ := Y.newCold hexec (own := own) (C := cls) (index := ik) (n := 6) hown' hk' hins hini'
    (g := F0 m pc ls rest) rfl (by rw [hb]; exact d0) (Nat.le_refl _) (Nat.le_refl _)
  generalize hT1 : (T.setVm vm₁).pushCell { cls := cX, slots := kX.instanceTypes.map defaultValue, vm := .none } = T1 at X₁ st1
  have hcat : (Value.ref T.heap.size).category = 1 := rfl
  have hcellA : T1.heap[T.heap.size]? = some (freshCell cX kX) := by rw [← hT1]; exact State.heap_pushCell_size _ _
  have d3' : decode c.code (pc + 3) = .ok (.dup, 1) := by rw [hb]; exact d3
  obtain ⟨U, hsteps, hrun, hend, hW, hsame, ce, hce, hO⟩ := X₁.ctorThrow0 hexec htr (own := own) (cls := cls) (names := names) (ic := ic) hown' hcls hnames h (fun x hx => nomatch hx) hfX hkX hcellA (by rw [hhp, hT]; exact Nat.le_refl _)
    (g := { method := m, pc := pc + 4, locals := ls, stack := .ref T.heap.size :: .ref T.heap.size :: rest, locked := none }) rfl hsize rfl rfl (rest := rest) rfl
    (by rw [hb]; exact d4) (by rw [hb]; exact d7) hout hRframes (by simp only [List.map_cons, List.sum_cons, hcat]; omega) hlocks
  obtain ⟨f1, f2⟩ := vx_frame hsame
  rw [hhp] at f1 f2
  have hWs : s.WarmedH U.vm := State.WarmedH.trans hW0 hW
  have hcl : s.vm.findClass cls = some ce.cls := by
    have h9 := hO.cls
    rw [hvm] at h9
    exact h9
  have hall : s.sameButNew ({ U with vm := s.vm } : State) locs mc ms := by
    subst hA
    obtain ⟨e1, e2⟩ := hsame
    rw [State.setFrames_setFrames] at e1
    have h2 : (T.setVm s.vm).sameButNew ({ U with vm := s.vm } : State) [] (0 + 1) (0 + 6) := ⟨e1, e2⟩
    have h3 := X.same.trans h2
    rw [List.append_nil] at h3
    exact h3.mono hc hs
  refine ⟨U, ?_, .threw T.heap.size, hrun, hend, Or.inr ⟨T.heap.size, rfl, cls, ce, locs, hx U hWs.alike f1 (fun q hq => f2 q hq (fun z hz => nomatch hz)), hce, hO.vm, hcl, hWs, hall, hf⟩⟩
  refine st1 _ ?_
  show Steps p.tables e below (T1.setTop { method := m, pc := pc + 3, locals := ls, stack := .ref T.heap.size :: rest, locked := none }) _
  jvm_step X₁.here [X₁.here.top, hexec, d3', Value.category]
  exact hsteps
/-- 'throw new E("text")': new; dup; ldc; invokespecial; athrow -/
theorem vx_throwS {cc : ByteArray} {pc : Nat} (hexec : p.tables.exec = Jvm.exec) (hb : c.code = cc) (hl : l.stackTraces = false) {own cls text : String} {names : List String} {ik is ic mc ms sa : Nat} {A : Nat → Prop}
    (hown : s.vm.findClass own = some m.cls) (hcls : Bundle.fit cls = true) (hnames : ∀ n ∈ names, Bundle.fit n = true)
    (hk : (Cond.classLink own ik cls).before args s = true) (hini : (Cond.initialized cls).before args s = true) (hstr : vk_R own is text sa s) (hat : ∀ w ∈ vx_atS own ic cls names, w.before args s = true)
    (hgood : ∀ w ∈ Cond.classLink own ik cls :: Cond.initialized cls :: vx_atS own ic cls names, vx_ot w = true)
    (hU : vx_Zq Bundle.tN "UNASSIGNED_STACK" Bundle.steD A s s.heap) (hN : vx_Zq Bundle.tN "SUPPRESSED_SENTINEL" Bundle.listD A s s.heap) (hS : va_S A s.heap H locs) (hsize : ls.size = c.maxLocals)
    (d0 : decode cc pc = .ok (.new ik, 3)) (d3 : decode cc (pc + 3) = .ok (.dup, 1)) (d4 : decode cc (pc + 4) = .ok (.ldc is, 2)) (d6 : decode cc (pc + 6) = .ok (.invokespecial ic, 3)) (d9 : decode cc (pc + 9) = .ok (.athrow, 1))
    (hout : ∀ x ∈ c.exceptionTable.toList, covers x (pc + 9) = false)
    (hRframes : names.length + 3 < R.frames) (hRlocals : (rest.map fun v => v.category).sum + (13 * (names.length + 1) + 43) ≤ R.locals) (hRcells : cells + 1 ≤ R.cells) (hRslots : slots + 6 ≤ R.slots) (hlocks : meth.locks = false)
    (hx : ∀ t : State, s.vm.Alike t.vm → H.size ≤ t.heap.size → (∀ q : Nat, q < H.size → t.heap[q]? = H[q]?) → XC cls s t)
    (hf : ∀ z ∈ locs, free z.base) (hc : cells + 1 ≤ mc) (hs : slots + 6 ≤ ms) :
    W p l e R s m args below meth c H locs cells slots (vx_MQ below Qc XC args s mc ms free) (F0 m pc ls rest) := by
  intro T hT X
  have htr : e.platform.stackTraces = false := (show e.platform.stackTraces = l.stackTraces by rw [X.admits.platform]).trans hl
  have Y := vx_rebase X (R' := { frames := R.frames, locals := R.locals, cells := 1, slots := 6 }) (Nat.le_refl _) (Nat.le_refl _) hRcells hRslots
  obtain ⟨s', hA⟩ : ∃ z, z = (T.setVm s.vm).setFrames (.invoking m args :: below) := ⟨_, rfl⟩
  rw [← hA] at Y
  have hvm : s'.vm = s.vm := by rw [hA]; rfl
  have hhp : s'.heap = H := by rw [hA]; exact hT
  have hW0 : s.WarmedH s'.vm := by rw [hvm]; exact State.WarmedH.refl s
  have hat' : ∀ w ∈ vx_atS own ic cls names, w.before args s' = true := fun w hw => vx_ot_at hW0 hvm.symm (hgood w (List.mem_cons_of_mem _ (List.mem_cons_of_mem _ hw))) (hat w hw)
  have hk' : (Cond.classLink own ik cls).before args s' = true := vx_ot_at hW0 hvm.symm (hgood _ List.mem_cons_self) hk
  have hini' : (Cond.initialized cls).before args s' = true := vx_ot_at hW0 hvm.symm (hgood _ (List.mem_cons_of_mem _ List.mem_cons_self)) hini
  have hU' : vx_Zq Bundle.tN "UNASSIGNED_STACK" Bundle.steD A s' s'.heap := by rw [hhp]; exact vx_Zq.moved hW0.alike (hU.kept hS.2.1)
  have hN' : vx_Zq Bundle.tN "SUPPRESSED_SENTINEL" Bundle.listD A s' s'.heap := by rw [hhp]; exact vx_Zq.moved hW0.alike (hN.kept hS.2.1)
  have h : ∀ w ∈ Bundle.ownAtoms own ic cls names, w.before args s' = true := vx_own hat' (vx_isRefq hU'.1) (vx_isRefq hN'.1) hU'.2.word hN'.2.word
  have hown' : s'.vm.findClass own = some m.cls := by rw [hvm]; exact hown
  have hins : (Cond.instantiable cls 6).before args s' = true := h _ (by simp [Bundle.ownAtoms])
  obtain ⟨vm₁, cX, kX, hfX, hkX, -, -, X₁, st1⟩ := Y.newCold hexec (own := own) (C := cls) (index := ik) (n := 6) hown' hk' hins hini'
    (g := F0 m pc ls rest) rfl (by rw [hb]; exact d0) (Nat.le_refl _) (Nat.le_refl _)
  generalize hT1 : (T.setVm vm₁).pushCell { cls := cX, slots := kX.instanceTypes.map defaultValue, vm := .none } = T1 at X₁ st1
  have hcat : (Value.ref T.heap.size).category = 1 := rfl
  have hcellA : T1.heap[T.heap.size]? = some (freshCell cX kX) := by rw [← hT1]; exact State.heap_pushCell_size _ _
  have d3' : decode c.code (pc + 3) = .ok (.dup, 1) := by rw [hb]; exact d3
  have d4' : decode c.code (pc + 4) = .ok (.ldc is, 2) := by rw [hb]; exact d4
  have hstr' : vk_R own is text sa s' := vk_R.warm hW0 hstr
  obtain ⟨U, hsteps, hrun, hend, hW, hsame, ce, hce, hO⟩ := X₁.ctorThrowS hexec htr (own := own) (cls := cls) (names := names) (ic := ic) hown' hcls hnames h (fun x hx => nomatch hx) hfX hkX hcellA (by rw [hhp, hT]; exact Nat.le_refl _) (msg := .ref sa) rfl
    (g := { method := m, pc := pc + 6, locals := ls, stack := .ref sa :: .ref T.heap.size :: .ref T.heap.size :: rest, locked := none }) rfl hsize rfl rfl (rest := rest) rfl
    (by rw [hb]; exact d6) (by rw [hb]; exact d9) hout hRframes (by simp only [List.map_cons, List.sum_cons, hcat]; omega) hlocks
  obtain ⟨f1, f2⟩ := vx_frame hsame
  rw [hhp] at f1 f2
  have hWs : s.WarmedH U.vm := State.WarmedH.trans hW0 hW
  have hcl : s.vm.findClass cls = some ce.cls := by
    have h9 := hO.cls
    rw [hvm] at h9
    exact h9
  have hall : s.sameButNew ({ U with vm := s.vm } : State) locs mc ms := by
    subst hA
    obtain ⟨e1, e2⟩ := hsame
    rw [State.setFrames_setFrames] at e1
    have h2 : (T.setVm s.vm).sameButNew ({ U with vm := s.vm } : State) [] (0 + 1) (0 + 6) := ⟨e1, e2⟩
    have h3 := X.same.trans h2
    rw [List.append_nil] at h3
    exact h3.mono hc hs
  refine ⟨U, ?_, .threw T.heap.size, hrun, hend, Or.inr ⟨T.heap.size, rfl, cls, ce, locs, hx U hWs.alike f1 (fun q hq => f2 q hq (fun z hz => nomatch hz)), hce, hO.vm, hcl, hWs, hall, hf⟩⟩
  refine st1 _ ?_
  show Steps p.tables e below (T1.setTop { method := m, pc := pc + 3, locals := ls, stack := .ref T.heap.size :: rest, locked := none }) _
  jvm_step X₁.here [X₁.here.top, hexec, d3', Value.category]
  exact X₁.ldcString hexec (own := own) (text := text) (index := is) (a := sa) hown' hstr'.1 hstr'.2
    (g := { method := m, pc := pc + 4, locals := ls, stack := .ref T.heap.size :: .ref T.heap.size :: rest, locked := none }) rfl d4' _ hsteps
/-- 'throw new E("text")', the text by a wide index -/
theorem vx_throwSW {cc : ByteArray} {pc : Nat} (hexec : p.tables.exec = Jvm.exec) (hb : c.code = cc) (hl : l.stackTraces = false) {own cls text : String} {names : List String} {ik is ic mc ms sa : Nat} {A : Nat → Prop}
    (hown : s.vm.findClass own = some m.cls) (hcls : Bundle.fit cls = true) (hnames : ∀ n ∈ names, Bundle.fit n = true)
    (hk : (Cond.classLink own ik cls).before args s = true) (hini : (Cond.initialized cls).before args s = true) (hstr : vk_R own is text sa s) (hat : ∀ w ∈ vx_atS own ic cls names, w.before args s = true)
    (hgood : ∀ w ∈ Cond.classLink own ik cls :: Cond.initialized cls :: vx_atS own ic cls names, vx_ot w = true)
    (hU : vx_Zq Bundle.tN "UNASSIGNED_STACK" Bundle.steD A s s.heap) (hN : vx_Zq Bundle.tN "SUPPRESSED_SENTINEL" Bundle.listD A s s.heap) (hS : va_S A s.heap H locs) (hsize : ls.size = c.maxLocals)
    (d0 : decode cc pc = .ok (.new ik, 3)) (d3 : decode cc (pc + 3) = .ok (.dup, 1)) (d4 : decode cc (pc + 4) = .ok (.ldc_w is, 3)) (d7 : decode cc (pc + 7) = .ok (.invokespecial ic, 3)) (d10 : decode cc (pc + 10) = .ok (.athrow, 1))
    (hout : ∀ x ∈ c.exceptionTable.toList, covers x (pc + 10) = false)
    (hRframes : names.length + 3 < R.frames) (hRlocals : (rest.map fun v => v.category).sum + (13 * (names.length + 1) + 43) ≤ R.locals) (hRcells : cells + 1 ≤ R.cells) (hRslots : slots + 6 ≤ R.slots) (hlocks : meth.locks = false)
    (hx : ∀ t : State, s.vm.Alike t.vm → H.size ≤ t.heap.size → (∀ q : Nat, q < H.size → t.heap[q]? = H[q]?) → XC cls s t)
    (hf : ∀ z ∈ locs, free z.base) (hc : cells + 1 ≤ mc) (hs : slots + 6 ≤ ms) :
    W p l e R s m args below meth c H locs cells slots (vx_MQ below Qc XC args s mc ms free) (F0 m pc ls rest) := by
  intro T hT X
  have htr : e.platform.stackTraces = false := (show e.platform.stackTraces = l.stackTraces by rw [X.admits.platform]).trans hl
  have Y := vx_rebase X (R' := { frames := R.frames, locals := R.locals, cells := 1, slots := 6 }) (Nat.le_refl _) (Nat.le_refl _) hRcells hRslots
  obtain ⟨s', hA⟩ : ∃ z, z = (T.setVm s.vm).setFrames (.invoking m args :: below) := ⟨_, rfl⟩
  rw [← hA] at Y
  have hvm : s'.vm = s.vm := by rw [hA]; rfl
  have hhp : s'.heap = H := by rw [hA]; exact hT
  have hW0 : s.WarmedH s'.vm := by rw [hvm]; exact State.WarmedH.refl s
  have hat' : ∀ w ∈ vx_atS own ic cls names, w.before args s' = true := fun w hw => vx_ot_at hW0 hvm.symm (hgood w (List.mem_cons_of_mem _ (List.mem_cons_of_mem _ hw))) (hat w hw)
  have hk' : (Cond.classLink own ik cls).before args s' = true := vx_ot_at hW0 hvm.symm (hgood _ List.mem_cons_self) hk
  have hini' : (Cond.initialized cls).before args s' = true := vx_ot_at hW0 hvm.symm (hgood _ (List.mem_cons_of_mem _ List.mem_cons_self)) hini
  have hU' : vx_Zq Bundle.tN "UNASSIGNED_STACK" Bundle.steD A s' s'.heap := by rw [hhp]; exact vx_Zq.moved hW0.alike (hU.kept hS.2.1)
  have hN' : vx_Zq Bundle.tN "SUPPRESSED_SENTINEL" Bundle.listD A s' s'.heap := by rw [hhp]; exact vx_Zq.moved hW0.alike (hN.kept hS.2.1)
  have h : ∀ w ∈ Bundle.ownAtoms own ic cls names, w.before args s' = true := vx_own hat' (vx_isRefq hU'.1) (vx_isRefq hN'.1) hU'.2.word hN'.2.word
  have hown' : s'.vm.findClass own = some m.cls := by rw [hvm]; exact hown
  have hins : (Cond.instantiable cls 6).before args s' = true := h _ (by simp [Bundle.ownAtoms])
  obtain ⟨vm₁, cX, kX, hfX, hkX, -, -, X₁, st1⟩ := Y.newCold hexec (own := own) (C := cls) (index := ik) (n := 6) hown' hk' hins hini'
    (g := F0 m pc ls rest) rfl (by rw [hb]; exact d0) (Nat.le_refl _) (Nat.le_refl _)
  generalize hT1 : (T.setVm vm₁).pushCell { cls := cX, slots := kX.instanceTypes.map defaultValue, vm := .none } = T1 at X₁ st1
  have hcat : (Value.ref T.heap.size).category = 1 := rfl
  have hcellA : T1.heap[T.heap.size]? = some (freshCell cX kX) := by rw [← hT1]; exact State.heap_pushCell_size _ _
  have d3' : decode c.code (pc + 3) = .ok (.dup, 1) := by rw [hb]; exact d3
  have d4' : decode c.code (pc + 4) = .ok (.ldc_w is, 3) := by rw [hb]; exact d4
  have hstr' : vk_R own is text sa s' := vk_R.warm hW0 hstr
  obtain ⟨U, hsteps, hrun, hend, hW, hsame, ce, hce, hO⟩ := X₁.ctorThrowS hexec htr (own := own) (cls := cls) (names := names) (ic := ic) hown' hcls hnames h (fun x hx => nomatch hx) hfX hkX hcellA (by rw [hhp, hT]; exact Nat.le_refl _) (msg := .ref sa) rfl
    (g := { method := m, pc := pc + 7, locals := ls, stack := .ref sa :: .ref T.heap.size :: .ref T.heap.size :: rest, locked := none }) rfl hsize rfl rfl (rest := rest) rfl
    (by rw [hb]; exact d7) (by rw [hb]; exact d10) hout hRframes (by simp only [List.map_cons, List.sum_cons, hcat]; omega) hlocks
  obtain ⟨f1, f2⟩ := vx_frame hsame
  rw [hhp] at f1 f2
  have hWs : s.WarmedH U.vm := State.WarmedH.trans hW0 hW
  have hcl : s.vm.findClass cls = some ce.cls := by
    have h9 := hO.cls
    rw [hvm] at h9
    exact h9
  have hall : s.sameButNew ({ U with vm := s.vm } : State) locs mc ms := by
    subst hA
    obtain ⟨e1, e2⟩ := hsame
    rw [State.setFrames_setFrames] at e1
    have h2 : (T.setVm s.vm).sameButNew ({ U with vm := s.vm } : State) [] (0 + 1) (0 + 6) := ⟨e1, e2⟩
    have h3 := X.same.trans h2
    rw [List.append_nil] at h3
    exact h3.mono hc hs
  refine ⟨U, ?_, .threw T.heap.size, hrun, hend, Or.inr ⟨T.heap.size, rfl, cls, ce, locs, hx U hWs.alike f1 (fun q hq => f2 q hq (fun z hz => nomatch hz)), hce, hO.vm, hcl, hWs, hall, hf⟩⟩
  refine st1 _ ?_
  show Steps p.tables e below (T1.setTop { method := m, pc := pc + 3, locals := ls, stack := .ref T.heap.size :: rest, locked := none }) _
  jvm_step X₁.here [X₁.here.top, hexec, d3', Value.category]
  exact X₁.ldcStringW hexec (own := own) (text := text) (index := is) (a := sa) hown' hstr'.1 hstr'.2
    (g := { method := m, pc := pc + 4, locals := ls, stack := .ref T.heap.size :: .ref T.heap.size :: rest, locked := none }) rfl d4' _ hsteps
end Ends
section Bodies
variable {l : Launch}
theorem vx_ofW {y : MethodName} {ws ws' : List Cond} {rm : Room} {Pc : Array Value → State → Prop} {Qc : Array Value → State → Outcome → State → Prop} {XC : String → State → State → Prop} {mc ms : Nat} {free : Addr → Prop} {cc : ByteArray} {maxL : Nat} {ret : Option FieldType}
    (hy : plainName y.cls = true) (hw : ws = Cond.code y cc maxL ret :: ws')
    (body : ∀ p e s m args below meth c s₁, BodyLoose p l y (headSpec ws rm) cc maxL ret e s m args below meth c s₁ → c.maxLocals = maxL → (∀ x ∈ c.exceptionTable.toList, False) → Pc args s →
      W p l e (headSpec ws rm).room s m args below meth c s.heap [] 0 0 (vx_MQ below Qc XC args s mc ms free) (entryFrame m args maxL)) : vx_Met l y ws rm Pc Qc XC mc ms free := by
  refine MetFree.of_bodyS (code := cc) (maxLocals := maxL) (ret := ret) hy ?_ ?_
  · intro args s m h hn
    obtain ⟨meth, c, h1, h2, h3, h4, h5, h6, -, -⟩ := Cond.code_spec hn (atoms_spec (ws := ws) h _ (by rw [hw]; exact List.mem_cons_self))
    exact ⟨meth, c, h1, h2, h3, h4, h5, h6⟩
  · intro p e s m args below meth c s₁ B hml hP _
    have hh0 : s₁.heap = s.heap := by rw [B.state]; rfl
    have ht : ∀ x ∈ c.exceptionTable.toList, False := by
      obtain ⟨meth9, c9, h1, h2, -, -, -, -, h7, -⟩ := Cond.code_spec B.named (atoms_spec (ws := ws) B.pre _ (by rw [hw]; exact List.mem_cons_self))
      cases Option.some.inj (h1.symm.trans B.method)
      cases Option.some.inj (h2.symm.trans (Stand.of_body B).code)
      intro x hx
      rw [Array.isEmpty_iff.mp h7] at hx
      cases hx
    obtain ⟨t, a1, o, b1, b2, b3⟩ := body p e s m args below meth c s₁ B hml ht hP s₁ hh0 (Stand.of_body B)
    exact ⟨t, o, a1, b1, b2, b3⟩
/-- the table of a body with handlers -/
theorem vx_table {p : Program} {x y : MethodName} {S : Spec} {cc bytes : ByteArray} {maxL maxL' : Nat} {ret ret' : Option FieldType} {e : Env} {s s₁ : State} {m : MethodId} {args : Array Value} {below : List Frame} {meth : Method} {c : Code} {hh : List (Nat × Nat × Nat × Nat)}
    (B : BodyLoose p l y S cc maxL ret e s m args below meth c s₁) (h : (Cond.codeWith y bytes maxL' ret' hh).before args s = true) : c.exceptionTable.toList = tableOf hh := by
  obtain ⟨m9, meth9, c9, hn9, h1, h2, -, -, h6, -⟩ := Cond.codeWith_spec h
  cases Option.some.inj (hn9.symm.trans B.named)
  cases Option.some.inj (h1.symm.trans B.method)
  cases Option.some.inj (h2.symm.trans (Stand.of_body B).code)
  rw [← h6, table_eq]
end Bodies
end VXA
/-! ===== END ===== -/
/-! ===== BEGIN a static call of a method with an exception table ===== -/
section VXS
variable {p : Program} {l : Launch} {e : Env} {R : Room} {s : State} {m : MethodId} {args : Array Value} {below : List Frame} {meth : Method} {c : Code} {T : State} {H : Heap} {locs : List Loc} {cells slots : Nat}
abbrev vx_CSW (R : Room) (s : State) (args : Array Value) (own : String) (index : Nat) (y : MethodName) (bytes : ByteArray) (maxL : Nat) (ret : Option FieldType) (hh : List (Nat × Nat × Nat × Nat)) (ws : List Cond) (rm : Room) (mc ms n : Nat) : Prop :=
  (rm.cells = mc ∧ rm.slots = ms ∧ rm.frames + 1 ≤ R.frames ∧ 8 + (maxL + 11) + rm.locals ≤ R.locals ∧ (∀ w ∈ ws, ∀ (a' : Array Value) (U : State), s.WarmedH U.vm → w.before a' U = true) ∧ Cond.codeWith y bytes maxL ret hh ∈ ws) ∧
  (Cond.codeWith y bytes maxL ret hh).before args s = true ∧ (Cond.initialized y.cls).before args s = true ∧ (y.cls ≠ "java/lang/invoke/MethodHandle" ∧ y.cls ≠ "java/lang/invoke/VarHandle") ∧
  (∀ sig, parseMethodDescriptor y.desc = some sig → n = sig.parameters.length) ∧ (Cond.methodLink own index y).before args s = true ∧ (Cond.static y).before args s = true
theorem vx_cwSW {own : String} {index maxL mc ms : Nat} {y : MethodName} {bytes : ByteArray} {ret : Option FieldType} {hh : List (Nat × Nat × Nat × Nat)} {Ts ws ws' : List Cond} {rm : Room} (n : Nat) (ht : ∀ w ∈ Ts, w.before args s = true) (hT : GoodIn Ts (va_wsS own index y ws)) (hw : ws = Cond.codeWith y bytes maxL ret hh :: ws') (hrc : rm.cells = mc) (hrs : rm.slots = ms)
    (hd : y.cls ≠ "java/lang/invoke/MethodHandle" ∧ y.cls ≠ "java/lang/invoke/VarHandle" ∧ (parseMethodDescriptor y.desc).map (fun d => d.parameters.length) = some n) (hR : rm.frames + 1 ≤ R.frames ∧ 8 + (maxL + 11) + rm.locals ≤ R.locals) :
    vx_CSW R s args own index y bytes maxL ret hh ws rm mc ms n := by
  have ok : ∀ w ∈ va_wsS own index y ws, w.before args s = true := fun w h => ht w (hT w h).1
  have hG : GoodIn Ts ws := fun w h => hT w (by unfold va_wsS; exact List.mem_append_right _ h)
  have hc : Cond.codeWith y bytes maxL ret hh ∈ ws := by rw [hw]; exact List.mem_cons_self
  refine ⟨⟨hrc, hrs, hR.1, hR.2, pay_in ht hG, hc⟩, ht _ (hG _ hc).1, ok _ (by simp [va_wsS]), ⟨hd.1, hd.2.1⟩, fun sig h => ?_, ok _ (by simp [va_wsS]), ok _ (by simp [va_wsS])⟩
  have h2 := hd.2.2
  rw [h] at h2
  exact (Option.some.inj h2).symm
theorem vx_callSW (X : Stand p l e R s m args below meth c T locs cells slots) (hexec : p.tables.exec = Jvm.exec) {own : String} {index : Nat} {y : MethodName} {bytes : ByteArray} {maxL : Nat} {ret : Option FieldType} {hh : List (Nat × Nat × Nat × Nat)}
    (hown : s.vm.findClass own = some m.cls) (hlink : (Cond.methodLink own index y).before args s = true) (hstat : (Cond.static y).before args s = true) (hinit : (Cond.initialized y.cls).before args s = true)
    (hcode : (Cond.codeWith y bytes maxL ret hh).before args s = true) (hy : y.cls ≠ "java/lang/invoke/MethodHandle" ∧ y.cls ≠ "java/lang/invoke/VarHandle")
    {W9 : Nat} {Pre : Pt → Array Value → Prop} {Post : Pt → Array Value → Option Value → Pt → Prop} (hK : Back l R p e below s args y 3 W9 Pre Post)
    {g : JFrame} (hg : g.method = m) (hsize : g.locals.size = c.maxLocals) {argsL rest : List Value} (hlen : ∀ sig, parseMethodDescriptor y.desc = some sig → argsL.length = sig.parameters.length)
    (hstack : g.stack = argsL.reverse ++ rest) (hW : 2 * g.monitorRoom + (rest.map fun v => v.category).sum ≤ W9) (hdg : decode c.code g.pc = .ok (.invokestatic index, 3))
    (hpre : ∀ vm₁, s.WarmedH vm₁ → Pre ⟨T.setVm vm₁, locs, cells, slots⟩ argsL.toArray) :
    ∃ (v : Option Value) (vm₁ : Vm) (B : Pt), s.WarmedH vm₁ ∧ Stand p l e R s m args below meth c B.U B.locs B.cells B.slots ∧ Post ⟨T.setVm vm₁, locs, cells, slots⟩ argsL.toArray v B ∧
      ∀ target, Steps p.tables e below (B.U.setTop { g with pc := g.pc + 3, stack := v.toList ++ rest }) target → Steps p.tables e below (T.setTop g) target := by
  obtain ⟨mk, methM, cM, hnamed, hmethM, -, -, -, -, -, -, hsigM⟩ := Cond.codeWith_spec hcode
  have hstatic : methM.isStatic = true := Cond.static_spec hnamed hmethM hstat
  obtain ⟨kP, hkP, -⟩ := className_of_methodNamed hnamed
  have hinitP : kP.init = .initialized := Cond.initialized_spec (findClass_of_methodNamed hnamed) hkP hinit
  obtain ⟨vm₁, X₁, hstep₁⟩ := X.invokestatic hexec hown hlink hnamed hmethM hstatic hkP hinitP hy (g := g) hg (argsL := argsL) (rest := rest) (hlen _ hsigM) hstack hdg
  obtain ⟨v, B, X', hpost, hsteps⟩ := hK m meth c ⟨T.setVm vm₁, locs, cells, slots⟩ { g with stack := rest } (.invokestatic index) mk argsL.toArray X₁ hg hsize hdg hW (X₁.named hnamed) (hpre vm₁ X₁.warmed)
  exact ⟨v, vm₁, B, X₁.warmed, X', hpost, fun target h => hstep₁ _ fun acts => by rw [doInvoke_state]; exact hsteps.trans h⟩
theorem vx_runSW {y : MethodName} {bytes cc : ByteArray} {maxL nL mc ms n index : Nat} {ret : Option FieldType} {hh : List (Nat × Nat × Nat × Nat)} {ws : List Cond} {rm : Room} {Pc : Array Value → State → Prop} {Qc : Array Value → State → Outcome → State → Prop} {free : Addr → Prop} {Ts : List Cond} {own : String} {As rest : List Value} {g : JFrame}
    (S : CallFix p m c cc nL s args Ts own) (hM : Met l y ws rm Pc Qc mc ms free) (cw : vx_CSW R s args own index y bytes maxL ret hh ws rm mc ms n) (hp : PreS s H Pc As)
    (hg : g.method = m) (hn : As.length = n) (hsize : g.locals.size = nL) (hstack : g.stack = As.reverse ++ rest) (hW : 2 * g.monitorRoom + (rest.map fun v => v.category).sum ≤ 8) (hdg : decode cc g.pc = .ok (.invokestatic index, 3)) (hf : cells + mc ≤ R.cells ∧ slots + ms ≤ R.slots) :
    va_Run p l e R s m args below meth c H locs cells slots mc ms g rest (Qc As.toArray) (free) := by
  obtain ⟨⟨hrc, hrs, hfr, hlo, hws, hcw⟩, hcode, hini, hy, hlen, hl, hstt⟩ := cw
  have hK : Back l R p e below s args y 3 8 (PreOf R mc ms Pc) (PostOf Qc mc ms free) := va_backW (hh := hh) (bytes := bytes) (maxL := maxL) (ret := ret) hM hp.1 hrc hrs hfr hlo hws hcw (fun a' U hW => word_at hW (Or.inl (by first | rfl | simp [Cond.onTables, Cond.keeps, Cond.steady])) hini)
  obtain ⟨hx, hb, hml, ho, -⟩ := S
  intro T hT X
  obtain ⟨v, vm₁, ⟨U', l2, c2, s2⟩, hW₁, X', ⟨g', mk, t, L, e1, e2, hq, h1, hL, h2, h3⟩, st⟩ := vx_callSW X hx (hh := hh) (bytes := bytes) (maxL := maxL) (ret := ret) ho hl hstt hini hcode hy hK hg (hsize.trans hml.symm) (argsL := As) (rest := rest) (fun sig h => hn.trans (hlen sig h)) hstack hW (by rw [hb]; exact hdg)
    (fun vm₁ hW₁ => ⟨hf.1, hf.2, hp.2 (T.setVm vm₁) hT hW₁⟩)
  dsimp only [Pt.U, Pt.locs, Pt.cells, Pt.slots] at X' e1 e2 h1 h2 h3 st
  subst h1; subst h2; subst h3
  exact ⟨v, (T.setVm vm₁).calling g' mk As.toArray, t, U', L, hT, X', hL, e1, e2, hq, st⟩
/-- not caught here, past rows that name other classes: it goes on to the caller -/
theorem vx_outP {p : Program} {l : Launch} {e : Env} {R : Room} {s : State} {m : MethodId} {args : Array Value} {below : List Frame} {meth : Method} {c : Code} {H : Heap} {locs : List Loc} {cells slots : Nat} {free : Addr → Prop} {ls : Array Slot} {rest : List Value} {Qc : Array Value → State → Outcome → State → Prop} {XC : String → State → State → Prop}
    {pc : Nat} {own E : String} {ce : Cell} {q : Addr} {mc ms : Nat} (hown : s.vm.findClass own = some m.cls) (hlocks : meth.locks = false)
    (hpass : ∀ z ∈ c.exceptionTable.toList, covers z pc = false ∨ (z.catchType ≠ 0 ∧ ∃ nm : String, (Cond.classLink own z.catchType nm).before args s = true ∧ va_Nc E nm s)) (hcell : H[q]? = some ce) (hv : ce.vm = .none) (hcl : s.vm.findClass E = some ce.cls)
    (hx : ∀ t : State, t.heap = H → s.vm.Alike t.vm → XC E s t) (hf : ∀ z ∈ locs, free z.base) (hc : cells ≤ mc) (hs : slots ≤ ms) :
    vx_W p l e R s m args below meth c H locs cells slots (vx_MQ below Qc XC args s mc ms free) (F0 m pc ls rest) q := by
  intro T hT X
  have hpl : e.platform.magicAccessors = ({} : Platform).magicAccessors := by rw [X.admits.platform]
  obtain ⟨vm', hW', X', st⟩ := X.outThrough hlocks q (g := F0 m pc ls rest) rfl rfl rfl (cell := ce) (by rw [hT]; exact hcell) (by rw [hv]; rfl)
    (by obtain ⟨k9, h9, -⟩ := Vm.findClass_spec hcl; exact ⟨k9, h9⟩) (fun z hz => by
      rcases hpass z hz with h | ⟨hz0, nm, hl1, hn1⟩
      · exact Or.inl h
      · obtain ⟨c6, hc6, hcl6⟩ := Cond.classLink_spec hown hl1 e.platform hpl
        obtain ⟨a8, b8, h1, h2, h3⟩ := hn1
        cases Option.some.inj (h1.symm.trans hcl)
        cases Option.some.inj (h2.symm.trans hc6)
        exact Or.inr ⟨hz0, _, hcl6, h3⟩)
  obtain ⟨g₀, hfr⟩ := X'.frames_eq
  have hcell9 : ((T.setVm vm').setFrames (.throwing q :: below)).heap[q]? = some ce := by
    show T.heap[q]? = some ce
    rw [hT]; exact hcell
  have hend : Ended ((T.setVm vm').setFrames (.throwing q :: below)) below (.threw q) := State.frames_setFrames _ (State.cur_lt_of_frames hfr)
  refine ⟨(T.setVm vm').setFrames (.throwing q :: below), ?_, .threw q, X'.here.running, hend, Or.inr ⟨q, rfl, E, ce, locs, hx _ hT (X'.ends _).1.alike, hcell9, hv, hcl, (X'.ends _).1, (X'.ends _).2.mono hc hs, hf⟩⟩
  rw [X.pushThrowing_eq]
  exact st
/-- a thing of a world lies in the heap -/
theorem vx_lt {D : va_G} {cl : List vw_C} {ws : va_W} {H1 : Heap} (h : va_P D cl ws H1) {k : Nat} {q : Nat × va_E} (hk : ws[k]? = some q) : q.1 < H1.size := (h k q hk).lt
end VXS
/-! ===== END ===== -/
/-! ===== BEGIN methods with a table of their own: called by a name, returning or throwing ===== -/
section VXH
/-! vx_backW, vx_callVX, vx_callSX, vx_callVW, vx_runVW, vx_runVX, vx_runSX, vx_ofWH follow the same proofs as their sisters above (Free/Laws.lean, Shelf42/LK1.lean); vx_outP calls Shelf42/NT130.lean (outThrough). -/
section
variable {l : Launch} {R : Room} {p : Program} {e : Env} {below : List Frame} {s : State} {sargs : Array Value} {y : MethodName} {len W9 : Nat}
theorem vx_backW {ws : List Cond} {rm : Room} {Pc : Array Value → State → Prop} {Qc : Array Value → State → Outcome → State → Prop} {XC : String → State → State → Prop} {mc ms : Nat} {free : Addr → Prop} {bytes : ByteArray} {maxL : Nat} {ret : Option FieldType} {hh : List (Nat × Nat × Nat × Nat)}
    (hM : vx_Met l y ws rm Pc Qc XC mc ms free) (hblind : FrameBlind Pc) (hrc : rm.cells = mc) (hrs : rm.slots = ms)
    (hframes : rm.frames + 1 ≤ R.frames) (hlocals : W9 + (maxL + 11) + rm.locals ≤ R.locals)
    (hws : ∀ w ∈ ws, ∀ a' U, s.WarmedH U.vm → w.before a' U = true) (hcode : Cond.codeWith y bytes maxL ret hh ∈ ws) (hinit : ∀ a' U, s.WarmedH U.vm → (Cond.initialized y.cls).before a' U = true) :
    vx_Back l R p e below s sargs y len W9 (PreOf R mc ms Pc) (PostOf Qc mc ms free) (vx_Post XC mc ms free) := by
  intro m meth c A g ig mk a X hg hsize hdg hW hn hp
  have h1 : (headSpec ws rm).pre.before a A.U = true := atoms_intro fun w hw => hws w hw _ _ X.warmed
  have h2 : (Cond.codeWith y bytes maxL ret hh).before a A.U = true := hws _ hcode _ _ X.warmed
  have h3 : (Cond.initialized y.cls).before a A.U = true := hinit _ _ X.warmed
  have h4 : A.cells + (headSpec ws rm).room.cells ≤ R.cells := by rw [show (headSpec ws rm).room.cells = mc from hrc]; exact hp.1
  have h5 : A.slots + (headSpec ws rm).room.slots ≤ R.slots := by rw [show (headSpec ws rm).room.slots = ms from hrs]; exact hp.2.1
  have hPc : Pc a (A.U.calling g mk a) := hblind _ _ _ _ hp.2.2
  obtain ⟨U, Ls, c0, s0⟩ := A
  dsimp only [Pt.U, Pt.locs, Pt.cells, Pt.slots] at h1 h2 h3 h4 h5 X hn hPc ⊢
  obtain ⟨m9, methY, cY, hn9, hmY, hcY, -, hlY, -⟩ := Cond.codeWith_spec h2
  cases Option.some.inj (hn9.symm.trans hn)
  obtain ⟨kY, hkY, -⟩ := className_of_methodNamed hn
  have hinitY : kY.init = .initialized := Cond.initialized_spec (findClass_of_methodNamed hn) hkY h3
  have h : At U g.method c below := by rw [hg]; exact X.here
  have hlocals9 : W9 + (maxL + 11) + (headSpec ws rm).room.locals ≤ R.locals := hlocals
  have happ : (headSpec ws rm).appliesLoose y e.platform (U.calling g mk a) = true :=
    Spec.appliesLoose_calling (g := g) h hdg hn hkY hinitY
      (X.room_calling (g := g) (R' := (headSpec ws rm).room) hsize hmY hcY hframes (by rw [hlY]; omega) h4 h5) h1
  obtain ⟨mid, hmid⟩ := h.above
  have hfr : (U.setTop g).frames = (.java g :: mid) ++ below := by rw [State.frames_setTop' g h.top, hmid]; rfl
  obtain ⟨o, s₂, hsteps, -, hend, hq⟩ := Steps.callFree hM p X.admits X.cas X.clock (acts := []) hfr happ hPc trivial
  have hq' : vx_Q Qc XC mc ms free a (U.calling g mk a) o s₂ := hq
  rw [State.frames_setTop' g h.top] at hend
  obtain ⟨g₀, hg0⟩ := Option.isSome_iff_exists.mp h.top
  obtain ⟨r, hr⟩ := State.topJava?_eq_some.mp hg0
  have hr' : (({ U with heap := s₂.heap, slotsUsed := s₂.slotsUsed } : State).setVm s₂.vm).frames = .java g₀ :: r := hr
  rcases hq' with ⟨hqc, L, hfe, hL⟩ | ⟨q, rfl, E, ce, L, hx, hce, hcv, hcl, hW₂, hsm, hL⟩
  · obtain ⟨⟨v, rfl⟩, hW₂, e2, q2, q3, q4, q5, q6⟩ := id hfe
    have e3 : s₂ = ({ (U.calling g mk a).setFrames s₂.frames with heap := s₂.heap, slotsUsed := s₂.slotsUsed } : State).setVm s₂.vm := by
      have : s₂ = ({ s₂ with vm := (U.calling g mk a).vm } : State).setVm s₂.vm := rfl
      rw [e2] at this
      exact this
    obtain ⟨c₂, i₂, len₂, hc₂, hd₂, hf₂⟩ := hend
    have hW' : U.WarmedH s₂.vm := hW₂
    have hcc : c₂ = c := by
      have h1 : s₂.code? g.method = U.code? g.method := by
        rw [State.code?_eq, State.code?_eq, hW'.alike.method?]
      exact Option.some.inj (hc₂.symm.trans (h1.trans h.code))
    subst hcc
    have hlen : len₂ = len := by rw [hdg] at hd₂; cases hd₂; rfl
    subst hlen
    have hs₂ : s₂ = (({ U with heap := s₂.heap, slotsUsed := s₂.slotsUsed } : State).setVm s₂.vm).setTop { g with pc := g.pc + len₂, stack := v.toList ++ g.stack } := by
      refine e3.trans ?_
      rw [hf₂, State.calling_eq h.top, State.setFrames_setFrames, State.setTop_of_frames _ hr', hr]
      rfl
    have hsame : U.sameButNew ({ U with heap := s₂.heap, slotsUsed := s₂.slotsUsed } : State) L mc ms := by
      refine ⟨?_, q2, q3, q4, q5, q6⟩
      obtain ⟨t, ht, -⟩ := State.frames_cons hr
      show ({ U with heap := s₂.heap, slotsUsed := s₂.slotsUsed } : State) = { U.setFrames U.frames with heap := s₂.heap, slotsUsed := s₂.slotsUsed }
      rw [State.setFrames_self ht]
    subst hg
    refine Or.inl ⟨v, ⟨(({ U with heap := s₂.heap, slotsUsed := s₂.slotsUsed } : State).setVm s₂.vm), Ls ++ L, c0 + mc, s0 + ms⟩,
      ⟨X.admits, X.cas, X.clock, X.frames, X.room, X.hears, X.method, X.code, (X.here.setHeapUsed s₂.heap s₂.slotsUsed).setVm hW'.alike, X.tail, State.WarmedH.trans X.warmed hW', X.limits, X.bytes, X.same.trans (hsame.setVm s.vm)⟩,
      ⟨g, mk, s₂, L, rfl, rfl, hqc, rfl, hL, rfl, rfl⟩, ?_⟩
    show Steps p.tables e below _ ((({ U with heap := s₂.heap, slotsUsed := s₂.slotsUsed } : State).setVm s₂.vm).setTop { g with pc := g.pc + len₂, stack := v.toList ++ g.stack })
    rw [← hs₂]
    exact hsteps
  · obtain ⟨e2, q2, q3, q4, q5, q6⟩ := id hsm
    have e3 : s₂ = ({ (U.calling g mk a).setFrames s₂.frames with heap := s₂.heap, slotsUsed := s₂.slotsUsed } : State).setVm s₂.vm := by
      have : s₂ = ({ s₂ with vm := (U.calling g mk a).vm } : State).setVm s₂.vm := rfl
      rw [e2] at this
      exact this
    have hf₂ : s₂.frames = .throwing q :: .java g :: U.frames.tail := hend
    have hW' : U.WarmedH s₂.vm := hW₂
    have hs₂ : s₂ = ((({ U with heap := s₂.heap, slotsUsed := s₂.slotsUsed } : State).setVm s₂.vm).setTop g).pushFrame (.throwing q) := by
      refine e3.trans ?_
      rw [hf₂, State.calling_eq h.top, State.setFrames_setFrames, State.pushFrame, State.frames_setTop _ hr', State.setTop_of_frames _ hr', State.setFrames_setFrames, hr]
      rfl
    have hsame : U.sameButNew ({ U with heap := s₂.heap, slotsUsed := s₂.slotsUsed } : State) L mc ms := by
      refine ⟨?_, q2, q3, q4, q5, q6⟩
      obtain ⟨t, ht, -⟩ := State.frames_cons hr
      show ({ U with heap := s₂.heap, slotsUsed := s₂.slotsUsed } : State) = { U.setFrames U.frames with heap := s₂.heap, slotsUsed := s₂.slotsUsed }
      rw [State.setFrames_self ht]
    subst hg
    refine Or.inr ⟨q, ⟨(({ U with heap := s₂.heap, slotsUsed := s₂.slotsUsed } : State).setVm s₂.vm), Ls ++ L, c0 + mc, s0 + ms⟩,
      ⟨X.admits, X.cas, X.clock, X.frames, X.room, X.hears, X.method, X.code, (X.here.setHeapUsed s₂.heap s₂.slotsUsed).setVm hW'.alike, X.tail, State.WarmedH.trans X.warmed hW', X.limits, X.bytes, X.same.trans (hsame.setVm s.vm)⟩,
      ⟨g, mk, s₂, L, E, ce, rfl, rfl, hx, hce, hcv, hcl, rfl, hL, rfl, rfl⟩, ?_⟩
    show Steps p.tables e below _ (((({ U with heap := s₂.heap, slotsUsed := s₂.slotsUsed } : State).setVm s₂.vm).setTop g).pushFrame (.throwing q))
    rw [← hs₂]
    exact hsteps
end
variable {p : Program} {l : Launch} {e : Env} {R : Room} {s : State} {m : MethodId} {args : Array Value} {below : List Frame} {meth : Method} {c : Code} {T : State} {H : Heap} {locs : List Loc} {cells slots : Nat}
theorem vx_callVX (X : Stand p l e R s m args below meth c T locs cells slots) (hexec : p.tables.exec = Jvm.exec) {own C : String} {index : Nat} {y : MethodName} {bytes : ByteArray} {maxL : Nat} {ret : Option FieldType} {hh : List (Nat × Nat × Nat × Nat)}
    (hown : s.vm.findClass own = some m.cls) (hlink : (Cond.methodLink own index y).before args s = true) (hinst : (Cond.instanceMethod y).before args s = true) (hsel : (Cond.selects C y y).before args s = true)
    (hcode : (Cond.codeWith y bytes maxL ret hh).before args s = true) (hy : y.cls ≠ "java/lang/invoke/MethodHandle" ∧ y.cls ≠ "java/lang/invoke/VarHandle")
    {W9 : Nat} {Pre : Pt → Array Value → Prop} {Post : Pt → Array Value → Option Value → Pt → Prop} {PostX : Pt → Array Value → Addr → Pt → Prop} (hK : vx_Back l R p e below s args y 3 W9 Pre Post PostX)
    {b : Addr} {cellB : Cell} (hcell : T.heap[b]? = some cellB) (hobj : cellB.vm.isStatics = false) (hcls : s.vm.findClass C = some cellB.cls)
    {g : JFrame} (hg : g.method = m) (hsize : g.locals.size = c.maxLocals) {argsL rest : List Value} (hlen : ∀ sig, parseMethodDescriptor y.desc = some sig → argsL.length = sig.parameters.length)
    (hstack : g.stack = argsL.reverse ++ .ref b :: rest) (hW : 2 * g.monitorRoom + (rest.map fun v => v.category).sum ≤ W9) (hdg : decode c.code g.pc = .ok (.invokevirtual index, 3))
    (hpre : ∀ vm₁, s.WarmedH vm₁ → Pre ⟨T.setVm vm₁, locs, cells, slots⟩ (Value.ref b :: argsL).toArray) :
    (∃ (v : Option Value) (vm₁ : Vm) (B : Pt), s.WarmedH vm₁ ∧ Stand p l e R s m args below meth c B.U B.locs B.cells B.slots ∧ Post ⟨T.setVm vm₁, locs, cells, slots⟩ (Value.ref b :: argsL).toArray v B ∧
      ∀ target, Steps p.tables e below (B.U.setTop { g with pc := g.pc + 3, stack := v.toList ++ rest }) target → Steps p.tables e below (T.setTop g) target) ∨
    (∃ (q : Addr) (vm₁ : Vm) (B : Pt), s.WarmedH vm₁ ∧ Stand p l e R s m args below meth c B.U B.locs B.cells B.slots ∧ PostX ⟨T.setVm vm₁, locs, cells, slots⟩ (Value.ref b :: argsL).toArray q B ∧
      Steps p.tables e below (T.setTop g) ((B.U.setTop { g with stack := rest }).pushFrame (.throwing q))) := by
  obtain ⟨mk, methM, hnamed, hmethM, hstM, habM⟩ := Cond.instanceMethod_spec hinst
  obtain ⟨m8, methM', cM, hn8, hmethM', -, -, -, -, -, -, hsigM⟩ := Cond.codeWith_spec hcode
  cases Option.some.inj (hn8.symm.trans hnamed)
  cases hmethM.symm.trans hmethM'
  obtain ⟨c2, r2, m2, q1, q2, q3, q4, kP, hkP, hkPi⟩ := Cond.selects_spec hsel
  cases hcls.symm.trans q1
  cases (State.methodFound?_of_named hnamed hy).symm.trans q2
  cases hnamed.symm.trans q3
  have hselP : selectMethod e.platform s.vm cellB.cls mk = .method mk := by rw [Launch.admits_selectMethod X.admits]; exact q4
  obtain ⟨vm₁, X₁, hstep₁⟩ := X.invokevirtual hexec hown hlink hnamed hmethM hstM hkP hkPi hy (a := b) (cell := cellB) hcell
    (fun z h => by rw [h] at hobj; cases hobj) hselP hmethM habM hkP hkPi (g := g) hg (argsL := argsL) (rest := rest) (hlen _ hsigM) hstack hdg
  rcases hK m meth c ⟨T.setVm vm₁, locs, cells, slots⟩ { g with stack := rest } (.invokevirtual index) mk (Value.ref b :: argsL).toArray X₁ hg hsize hdg hW (X₁.named hnamed) (hpre vm₁ X₁.warmed) with ⟨v, B, X', hpost, hsteps⟩ | ⟨q, B, X', hpost, hsteps⟩
  · exact Or.inl ⟨v, vm₁, B, X₁.warmed, X', hpost, fun target h => hstep₁ _ fun acts => by rw [doInvoke_state]; exact hsteps.trans h⟩
  · exact Or.inr ⟨q, vm₁, B, X₁.warmed, X', hpost, hstep₁ _ fun acts => by rw [doInvoke_state]; exact hsteps⟩
theorem vx_callSX (X : Stand p l e R s m args below meth c T locs cells slots) (hexec : p.tables.exec = Jvm.exec) {own : String} {index : Nat} {y : MethodName} {bytes : ByteArray} {maxL : Nat} {ret : Option FieldType} {hh : List (Nat × Nat × Nat × Nat)}
    (hown : s.vm.findClass own = some m.cls) (hlink : (Cond.methodLink own index y).before args s = true) (hstat : (Cond.static y).before args s = true) (hinit : (Cond.initialized y.cls).before args s = true)
    (hcode : (Cond.codeWith y bytes maxL ret hh).before args s = true) (hy : y.cls ≠ "java/lang/invoke/MethodHandle" ∧ y.cls ≠ "java/lang/invoke/VarHandle")
    {W9 : Nat} {Pre : Pt → Array Value → Prop} {Post : Pt → Array Value → Option Value → Pt → Prop} {PostX : Pt → Array Value → Addr → Pt → Prop} (hK : vx_Back l R p e below s args y 3 W9 Pre Post PostX)
    {g : JFrame} (hg : g.method = m) (hsize : g.locals.size = c.maxLocals) {argsL rest : List Value} (hlen : ∀ sig, parseMethodDescriptor y.desc = some sig → argsL.length = sig.parameters.length)
    (hstack : g.stack = argsL.reverse ++ rest) (hW : 2 * g.monitorRoom + (rest.map fun v => v.category).sum ≤ W9) (hdg : decode c.code g.pc = .ok (.invokestatic index, 3))
    (hpre : ∀ vm₁, s.WarmedH vm₁ → Pre ⟨T.setVm vm₁, locs, cells, slots⟩ argsL.toArray) :
    (∃ (v : Option Value) (vm₁ : Vm) (B : Pt), s.WarmedH vm₁ ∧ Stand p l e R s m args below meth c B.U B.locs B.cells B.slots ∧ Post ⟨T.setVm vm₁, locs, cells, slots⟩ argsL.toArray v B ∧
      ∀ target, Steps p.tables e below (B.U.setTop { g with pc := g.pc + 3, stack := v.toList ++ rest }) target → Steps p.tables e below (T.setTop g) target) ∨
    (∃ (q : Addr) (vm₁ : Vm) (B : Pt), s.WarmedH vm₁ ∧ Stand p l e R s m args below meth c B.U B.locs B.cells B.slots ∧ PostX ⟨T.setVm vm₁, locs, cells, slots⟩ argsL.toArray q B ∧
      Steps p.tables e below (T.setTop g) ((B.U.setTop { g with stack := rest }).pushFrame (.throwing q))) := by
  obtain ⟨mk, methM, cM, hnamed, hmethM, -, -, -, -, -, -, hsigM⟩ := Cond.codeWith_spec hcode
  have hstatic : methM.isStatic = true := Cond.static_spec hnamed hmethM hstat
  obtain ⟨kP, hkP, -⟩ := className_of_methodNamed hnamed
  have hinitP : kP.init = .initialized := Cond.initialized_spec (findClass_of_methodNamed hnamed) hkP hinit
  obtain ⟨vm₁, X₁, hstep₁⟩ := X.invokestatic hexec hown hlink hnamed hmethM hstatic hkP hinitP hy (g := g) hg (argsL := argsL) (rest := rest) (hlen _ hsigM) hstack hdg
  rcases hK m meth c ⟨T.setVm vm₁, locs, cells, slots⟩ { g with stack := rest } (.invokestatic index) mk argsL.toArray X₁ hg hsize hdg hW (X₁.named hnamed) (hpre vm₁ X₁.warmed) with ⟨v, B, X', hpost, hsteps⟩ | ⟨q, B, X', hpost, hsteps⟩
  · exact Or.inl ⟨v, vm₁, B, X₁.warmed, X', hpost, fun target h => hstep₁ _ fun acts => by rw [doInvoke_state]; exact hsteps.trans h⟩
  · exact Or.inr ⟨q, vm₁, B, X₁.warmed, X', hpost, hstep₁ _ fun acts => by rw [doInvoke_state]; exact hsteps⟩
theorem vx_callVW (X : Stand p l e R s m args below meth c T locs cells slots) (hexec : p.tables.exec = Jvm.exec) {own C : String} {index : Nat} {y : MethodName} {bytes : ByteArray} {maxL : Nat} {ret : Option FieldType} {hh : List (Nat × Nat × Nat × Nat)}
    (hown : s.vm.findClass own = some m.cls) (hlink : (Cond.methodLink own index y).before args s = true) (hinst : (Cond.instanceMethod y).before args s = true) (hsel : (Cond.selects C y y).before args s = true)
    (hcode : (Cond.codeWith y bytes maxL ret hh).before args s = true) (hy : y.cls ≠ "java/lang/invoke/MethodHandle" ∧ y.cls ≠ "java/lang/invoke/VarHandle")
    {W9 : Nat} {Pre : Pt → Array Value → Prop} {Post : Pt → Array Value → Option Value → Pt → Prop} (hK : Back l R p e below s args y 3 W9 Pre Post)
    {b : Addr} {cellB : Cell} (hcell : T.heap[b]? = some cellB) (hobj : cellB.vm.isStatics = false) (hcls : s.vm.findClass C = some cellB.cls)
    {g : JFrame} (hg : g.method = m) (hsize : g.locals.size = c.maxLocals) {argsL rest : List Value} (hlen : ∀ sig, parseMethodDescriptor y.desc = some sig → argsL.length = sig.parameters.length)
    (hstack : g.stack = argsL.reverse ++ .ref b :: rest) (hW : 2 * g.monitorRoom + (rest.map fun v => v.category).sum ≤ W9) (hdg : decode c.code g.pc = .ok (.invokevirtual index, 3))
    (hpre : ∀ vm₁, s.WarmedH vm₁ → Pre ⟨T.setVm vm₁, locs, cells, slots⟩ (Value.ref b :: argsL).toArray) :
    ∃ (v : Option Value) (vm₁ : Vm) (B : Pt), s.WarmedH vm₁ ∧ Stand p l e R s m args below meth c B.U B.locs B.cells B.slots ∧ Post ⟨T.setVm vm₁, locs, cells, slots⟩ (Value.ref b :: argsL).toArray v B ∧
      ∀ target, Steps p.tables e below (B.U.setTop { g with pc := g.pc + 3, stack := v.toList ++ rest }) target → Steps p.tables e below (T.setTop g) target := by
  obtain ⟨mk, methM, hnamed, hmethM, hstM, habM⟩ := Cond.instanceMethod_spec hinst
  obtain ⟨m8, methM', cM, hn8, hmethM', -, -, -, -, -, -, hsigM⟩ := Cond.codeWith_spec hcode
  cases Option.some.inj (hn8.symm.trans hnamed)
  cases hmethM.symm.trans hmethM'
  obtain ⟨c2, r2, m2, q1, q2, q3, q4, kP, hkP, hkPi⟩ := Cond.selects_spec hsel
  cases hcls.symm.trans q1
  cases (State.methodFound?_of_named hnamed hy).symm.trans q2
  cases hnamed.symm.trans q3
  have hselP : selectMethod e.platform s.vm cellB.cls mk = .method mk := by rw [Launch.admits_selectMethod X.admits]; exact q4
  obtain ⟨vm₁, X₁, hstep₁⟩ := X.invokevirtual hexec hown hlink hnamed hmethM hstM hkP hkPi hy (a := b) (cell := cellB) hcell
    (fun z h => by rw [h] at hobj; cases hobj) hselP hmethM habM hkP hkPi (g := g) hg (argsL := argsL) (rest := rest) (hlen _ hsigM) hstack hdg
  obtain ⟨v, B, X', hpost, hsteps⟩ := hK m meth c ⟨T.setVm vm₁, locs, cells, slots⟩ { g with stack := rest } (.invokevirtual index) mk (Value.ref b :: argsL).toArray X₁ hg hsize hdg hW (X₁.named hnamed) (hpre vm₁ X₁.warmed)
  exact ⟨v, vm₁, B, X₁.warmed, X', hpost, fun target h => hstep₁ _ fun acts => by rw [doInvoke_state]; exact hsteps.trans h⟩
abbrev vx_CVW (R : Room) (s : State) (args : Array Value) (own C : String) (index : Nat) (y : MethodName) (bytes : ByteArray) (maxL : Nat) (ret : Option FieldType) (hh : List (Nat × Nat × Nat × Nat)) (ws : List Cond) (rm : Room) (mc ms n : Nat) : Prop :=
  (rm.cells = mc ∧ rm.slots = ms ∧ rm.frames + 1 ≤ R.frames ∧ 8 + (maxL + 11) + rm.locals ≤ R.locals ∧ (∀ w ∈ ws, ∀ (a' : Array Value) (U : State), s.WarmedH U.vm → w.before a' U = true) ∧ Cond.codeWith y bytes maxL ret hh ∈ ws) ∧
  (Cond.codeWith y bytes maxL ret hh).before args s = true ∧ (Cond.initialized y.cls).before args s = true ∧ (y.cls ≠ "java/lang/invoke/MethodHandle" ∧ y.cls ≠ "java/lang/invoke/VarHandle") ∧
  (∀ sig, parseMethodDescriptor y.desc = some sig → n = sig.parameters.length) ∧ (Cond.methodLink own index y).before args s = true ∧ (Cond.instanceMethod y).before args s = true ∧ (Cond.selects C y y).before args s = true
theorem vx_cwVW {own C : String} {index maxL mc ms : Nat} {y : MethodName} {bytes : ByteArray} {ret : Option FieldType} {hh : List (Nat × Nat × Nat × Nat)} {Ts ws ws' : List Cond} {rm : Room} (n : Nat) (ht : ∀ w ∈ Ts, w.before args s = true) (hT : GoodIn Ts (wsV own index C y ws)) (hw : ws = Cond.codeWith y bytes maxL ret hh :: ws') (hrc : rm.cells = mc) (hrs : rm.slots = ms)
    (hd : y.cls = C ∧ y.cls ≠ "java/lang/invoke/MethodHandle" ∧ y.cls ≠ "java/lang/invoke/VarHandle" ∧ (parseMethodDescriptor y.desc).map (fun d => d.parameters.length) = some n) (hR : rm.frames + 1 ≤ R.frames ∧ 8 + (maxL + 11) + rm.locals ≤ R.locals) :
    vx_CVW R s args own C index y bytes maxL ret hh ws rm mc ms n := by
  obtain ⟨hC, hd⟩ := hd
  subst hC
  have ok : ∀ w ∈ wsV own index y.cls y ws, w.before args s = true := fun w h => ht w (hT w h).1
  have hG : GoodIn Ts ws := fun w h => hT w (by unfold wsV; exact List.mem_append_right _ h)
  have hc : Cond.codeWith y bytes maxL ret hh ∈ ws := by rw [hw]; exact List.mem_cons_self
  refine ⟨⟨hrc, hrs, hR.1, hR.2, pay_in ht hG, hc⟩, ht _ (hG _ hc).1, ok _ (by simp [wsV]), ⟨hd.1, hd.2.1⟩, fun sig h => ?_, ok _ (by simp [wsV]), ok _ (by simp [wsV]), ok _ (by simp [wsV])⟩
  have h2 := hd.2.2
  rw [h] at h2
  exact (Option.some.inj h2).symm
theorem vx_runVW {y : MethodName} {bytes cc : ByteArray} {maxL nL mc ms n index : Nat} {ret : Option FieldType} {hh : List (Nat × Nat × Nat × Nat)} {ws : List Cond} {rm : Room} {Pc : Array Value → State → Prop} {Qc : Array Value → State → Outcome → State → Prop} {free : Addr → Prop} {Ts : List Cond} {own C : String} {b : Addr} {As rest : List Value} {g : JFrame}
    (S : CallFix p m c cc nL s args Ts own) (hM : Met l y ws rm Pc Qc mc ms free) (cw : vx_CVW R s args own C index y bytes maxL ret hh ws rm mc ms n) (hp : PreV s H C b Pc As)
    (hg : g.method = m) (hn : As.length = n) (hsize : g.locals.size = nL) (hstack : g.stack = As.reverse ++ .ref b :: rest) (hW : 2 * g.monitorRoom + (rest.map fun v => v.category).sum ≤ 8) (hdg : decode cc g.pc = .ok (.invokevirtual index, 3)) (hf : cells + mc ≤ R.cells ∧ slots + ms ≤ R.slots) :
    va_Run p l e R s m args below meth c H locs cells slots mc ms g rest (Qc (Value.ref b :: As).toArray) free := by
  obtain ⟨⟨hrc, hrs, hfr, hlo, hws, hcw⟩, hcode, hini, hy, hlen, hl, hin, hse⟩ := cw
  have hK : Back l R p e below s args y 3 8 (PreOf R mc ms Pc) (PostOf Qc mc ms free) := va_backW (hh := hh) (bytes := bytes) (maxL := maxL) (ret := ret) hM hp.1 hrc hrs hfr hlo hws hcw (fun a' U hW => word_at hW (Or.inl (by first | rfl | simp [Cond.onTables, Cond.keeps, Cond.steady])) hini)
  obtain ⟨hx, hb, hml, ho, -⟩ := S
  obtain ⟨-, ⟨cellB, hcB, hoB, hclB⟩, hPc⟩ := hp
  intro T hT X
  obtain ⟨v, vm₁, ⟨U', l2, c2, s2⟩, hW₁, X', ⟨g', mk, t, L, e1, e2, hq, h1, hL, h2, h3⟩, st⟩ := vx_callVW X hx (C := C) (hh := hh) (bytes := bytes) (maxL := maxL) (ret := ret) ho hl hin hse hcode hy hK (by rw [hT]; exact hcB) hoB hclB hg (hsize.trans hml.symm) (argsL := As) (rest := rest) (fun sig h => hn.trans (hlen sig h)) hstack hW (by rw [hb]; exact hdg)
    (fun vm₁ hW₁ => ⟨hf.1, hf.2, hPc (T.setVm vm₁) hT hW₁⟩)
  dsimp only [Pt.U, Pt.locs, Pt.cells, Pt.slots] at X' e1 e2 h1 h2 h3 st
  subst h1; subst h2; subst h3
  exact ⟨v, (T.setVm vm₁).calling g' mk (Value.ref b :: As).toArray, t, U', L, hT, X', hL, e1, e2, hq, st⟩
section
variable {y : MethodName} {bytes cc : ByteArray} {maxL nL mc ms n index : Nat} {ret : Option FieldType} {ws : List Cond} {rm : Room} {Pc : Array Value → State → Prop} {Qc : Array Value → State → Outcome → State → Prop} {XC : String → State → State → Prop} {free : Addr → Prop} {Ts : List Cond} {own C : String} {b : Addr} {As rest : List Value} {g : JFrame}
theorem vx_runVX {hh : List (Nat × Nat × Nat × Nat)} (S : CallFix p m c cc nL s args Ts own) (hM : vx_Met l y ws rm Pc Qc XC mc ms free) (cw : vx_CVW R s args own C index y bytes maxL ret hh ws rm mc ms n) (hp : PreV s H C b Pc As)
    (hg : g.method = m) (hn : As.length = n) (hsize : g.locals.size = nL) (hstack : g.stack = As.reverse ++ .ref b :: rest) (hW : 2 * g.monitorRoom + (rest.map fun v => v.category).sum ≤ 8) (hdg : decode cc g.pc = .ok (.invokevirtual index, 3)) (hf : cells + mc ≤ R.cells ∧ slots + ms ≤ R.slots) :
    vx_Run p l e R s m args below meth c H locs cells slots mc ms g rest (Qc (Value.ref b :: As).toArray) XC free := by
  obtain ⟨⟨hrc, hrs, hfr, hlo, hws, hcw⟩, hcode, hini, hy, hlen, hl, hin, hse⟩ := cw
  have hK : vx_Back l R p e below s args y 3 8 (PreOf R mc ms Pc) (PostOf Qc mc ms free) (vx_Post XC mc ms free) := vx_backW (hh := hh) (bytes := bytes) (maxL := maxL) (ret := ret) hM hp.1 hrc hrs hfr hlo hws hcw (fun a' U hW => word_at hW (Or.inl (by first | rfl | simp [Cond.onTables, Cond.keeps, Cond.steady])) hini)
  obtain ⟨hx, hb, hml, ho, -⟩ := S
  obtain ⟨-, ⟨cellB, hcB, hoB, hclB⟩, hPc⟩ := hp
  intro T hT X
  rcases vx_callVX X hx (C := C) (hh := hh) (bytes := bytes) (maxL := maxL) (ret := ret) ho hl hin hse hcode hy hK (by rw [hT]; exact hcB) hoB hclB hg (hsize.trans hml.symm) (argsL := As) (rest := rest) (fun sig h => hn.trans (hlen sig h)) hstack hW (by rw [hb]; exact hdg)
    (fun vm₁ hW₁ => ⟨hf.1, hf.2, hPc (T.setVm vm₁) hT hW₁⟩) with ⟨v, vm₁, ⟨U', l2, c2, s2⟩, hW₁, X', ⟨g', mk, t, L, e1, e2, hq, h1, hL, h2, h3⟩, st⟩ | ⟨q, vm₁, ⟨U', l2, c2, s2⟩, hW₁, X', ⟨g', mk, t, L, E, ce, e1, e2, hq, hce, hcv, hcl, h1, hL, h2, h3⟩, st⟩
  · dsimp only [Pt.U, Pt.locs, Pt.cells, Pt.slots] at X' e1 e2 h1 h2 h3 st
    subst h1; subst h2; subst h3
    exact Or.inl ⟨v, (T.setVm vm₁).calling g' mk (Value.ref b :: As).toArray, t, U', L, hT, X', hL, e1, e2, hq, st⟩
  · dsimp only [Pt.U, Pt.locs, Pt.cells, Pt.slots] at X' e1 e2 h1 h2 h3 st hcl
    subst h1; subst h2; subst h3
    exact Or.inr ⟨q, (T.setVm vm₁).calling g' mk (Value.ref b :: As).toArray, t, U', L, E, ce, hT, X', hL, e1, e2, hq, hce, hcv, vx_cls hW₁ hcl, st⟩
theorem vx_runSX {hh : List (Nat × Nat × Nat × Nat)} (S : CallFix p m c cc nL s args Ts own) (hM : vx_Met l y ws rm Pc Qc XC mc ms free) (cw : vx_CSW R s args own index y bytes maxL ret hh ws rm mc ms n) (hp : PreS s H Pc As)
    (hg : g.method = m) (hn : As.length = n) (hsize : g.locals.size = nL) (hstack : g.stack = As.reverse ++ rest) (hW : 2 * g.monitorRoom + (rest.map fun v => v.category).sum ≤ 8) (hdg : decode cc g.pc = .ok (.invokestatic index, 3)) (hf : cells + mc ≤ R.cells ∧ slots + ms ≤ R.slots) :
    vx_Run p l e R s m args below meth c H locs cells slots mc ms g rest (Qc As.toArray) XC free := by
  obtain ⟨⟨hrc, hrs, hfr, hlo, hws, hcw⟩, hcode, hini, hy, hlen, hl, hstt⟩ := cw
  have hK : vx_Back l R p e below s args y 3 8 (PreOf R mc ms Pc) (PostOf Qc mc ms free) (vx_Post XC mc ms free) := vx_backW (hh := hh) (bytes := bytes) (maxL := maxL) (ret := ret) hM hp.1 hrc hrs hfr hlo hws hcw (fun a' U hW => word_at hW (Or.inl (by first | rfl | simp [Cond.onTables, Cond.keeps, Cond.steady])) hini)
  obtain ⟨hx, hb, hml, ho, -⟩ := S
  intro T hT X
  rcases vx_callSX X hx (hh := hh) (bytes := bytes) (maxL := maxL) (ret := ret) ho hl hstt hini hcode hy hK hg (hsize.trans hml.symm) (argsL := As) (rest := rest) (fun sig h => hn.trans (hlen sig h)) hstack hW (by rw [hb]; exact hdg)
    (fun vm₁ hW₁ => ⟨hf.1, hf.2, hp.2 (T.setVm vm₁) hT hW₁⟩) with ⟨v, vm₁, ⟨U', l2, c2, s2⟩, hW₁, X', ⟨g', mk, t, L, e1, e2, hq, h1, hL, h2, h3⟩, st⟩ | ⟨q, vm₁, ⟨U', l2, c2, s2⟩, hW₁, X', ⟨g', mk, t, L, E, ce, e1, e2, hq, hce, hcv, hcl, h1, hL, h2, h3⟩, st⟩
  · dsimp only [Pt.U, Pt.locs, Pt.cells, Pt.slots] at X' e1 e2 h1 h2 h3 st
    subst h1; subst h2; subst h3
    exact Or.inl ⟨v, (T.setVm vm₁).calling g' mk As.toArray, t, U', L, hT, X', hL, e1, e2, hq, st⟩
  · dsimp only [Pt.U, Pt.locs, Pt.cells, Pt.slots] at X' e1 e2 h1 h2 h3 st hcl
    subst h1; subst h2; subst h3
    exact Or.inr ⟨q, (T.setVm vm₁).calling g' mk As.toArray, t, U', L, E, ce, hT, X', hL, e1, e2, hq, hce, hcv, vx_cls hW₁ hcl, st⟩
end
end VXH
theorem vx_ofWH {l : Launch} {y : MethodName} {ws ws' : List Cond} {rm : Room} {Pc : Array Value → State → Prop} {Qc : Array Value → State → Outcome → State → Prop} {XC : String → State → State → Prop} {mc ms : Nat} {free : Addr → Prop} {cc : ByteArray} {maxL : Nat} {ret : Option FieldType} {hh : List (Nat × Nat × Nat × Nat)}
    (hy : plainName y.cls = true) (hw : ws = Cond.codeWith y cc maxL ret hh :: ws')
    (body : ∀ p e s m args below meth c s₁, BodyLoose p l y (headSpec ws rm) cc maxL ret e s m args below meth c s₁ → c.maxLocals = maxL → Pc args s →
      W p l e (headSpec ws rm).room s m args below meth c s.heap [] 0 0 (vx_MQ below Qc XC args s mc ms free) (entryFrame m args maxL)) : vx_Met l y ws rm Pc Qc XC mc ms free := by
  refine MetFree.of_bodyS (code := cc) (maxLocals := maxL) (ret := ret) hy ?_ ?_
  · intro args s m h hn
    obtain ⟨m9, meth, c, hn9, h1, h2, h3, h4, -, h5, h6, -⟩ := Cond.codeWith_spec (atoms_spec (ws := ws) h _ (by rw [hw]; exact List.mem_cons_self))
    cases hn.symm.trans hn9
    exact ⟨meth, c, h1, h2, h3, h4, h5, h6⟩
  · intro p e s m args below meth c s₁ B hml hP _
    have hh0 : s₁.heap = s.heap := by rw [B.state]; rfl
    obtain ⟨t, a1, o, b1, b2, b3⟩ := body p e s m args below meth c s₁ B hml hP s₁ hh0 (Stand.of_body B)
    exact ⟨t, o, a1, b1, b2, b3⟩
/-! ===== END ===== -/
end
section
-- ===== PART A: goes FIRST, ahead of the names: the tables' words, and 'selects' of the private methods out of them =====
/-- a private method of a class that the tables say can be made, by its rows of tables_1 -/
def lw_okq (q : MethodName × Nat) : Prop := (q.1.cls ≠ "java/lang/invoke/MethodHandle" ∧ q.1.cls ≠ "java/lang/invoke/VarHandle") ∧ Cond.instantiable q.1.cls q.2 ∈ tables_1 ∧ Cond.privateMethod q.1 ∈ tables_1 ∧ Cond.instanceMethod q.1 ∈ tables_1
theorem lw_p0 : lw_okq (⟨"Copperleaf", "isOpen", "(I)Z"⟩, 7) := ⟨⟨by decide +kernel, by decide +kernel⟩, List.mem_of_getElem? (i := 14) (by decide +kernel), List.mem_of_getElem? (i := 157) (by decide +kernel), List.mem_of_getElem? (i := 158) (by decide +kernel)⟩
theorem lw_p1 : lw_okq (⟨"Copperleaf", "latestWholeSlot", "()I"⟩, 7) := ⟨⟨by decide +kernel, by decide +kernel⟩, List.mem_of_getElem? (i := 14) (by decide +kernel), List.mem_of_getElem? (i := 185) (by decide +kernel), List.mem_of_getElem? (i := 186) (by decide +kernel)⟩
theorem lw_p2 : lw_okq (⟨"Copperleaf", "sumsUp", "(I)Z"⟩, 7) := ⟨⟨by decide +kernel, by decide +kernel⟩, List.mem_of_getElem? (i := 14) (by decide +kernel), List.mem_of_getElem? (i := 189) (by decide +kernel), List.mem_of_getElem? (i := 190) (by decide +kernel)⟩
theorem lw_p3 : lw_okq (⟨"Copperleaf", "wordIn", "(II)J"⟩, 7) := ⟨⟨by decide +kernel, by decide +kernel⟩, List.mem_of_getElem? (i := 14) (by decide +kernel), List.mem_of_getElem? (i := 193) (by decide +kernel), List.mem_of_getElem? (i := 194) (by decide +kernel)⟩
theorem lw_p4 : lw_okq (⟨"Copperleaf", "endBatch", "()V"⟩, 7) := ⟨⟨by decide +kernel, by decide +kernel⟩, List.mem_of_getElem? (i := 14) (by decide +kernel), List.mem_of_getElem? (i := 202) (by decide +kernel), List.mem_of_getElem? (i := 203) (by decide +kernel)⟩
theorem lw_p5 : lw_okq (⟨"Copperleaf", "keepStates", "([ZI)V"⟩, 7) := ⟨⟨by decide +kernel, by decide +kernel⟩, List.mem_of_getElem? (i := 14) (by decide +kernel), List.mem_of_getElem? (i := 209) (by decide +kernel), List.mem_of_getElem? (i := 210) (by decide +kernel)⟩
theorem lw_p6 : lw_okq (⟨"java/lang/Throwable", "fillInStackTrace", "(I)Ljava/lang/Throwable;"⟩, 6) := ⟨⟨by decide +kernel, by decide +kernel⟩, List.mem_of_getElem? (i := 260) (by decide +kernel), List.mem_of_getElem? (i := 258) (by decide +kernel), List.mem_of_getElem? (i := 259) (by decide +kernel)⟩
theorem lw_p7 : lw_okq (⟨"Copperleaf", "requireBatch", "()V"⟩, 7) := ⟨⟨by decide +kernel, by decide +kernel⟩, List.mem_of_getElem? (i := 14) (by decide +kernel), List.mem_of_getElem? (i := 321) (by decide +kernel), List.mem_of_getElem? (i := 322) (by decide +kernel)⟩
theorem lw_p8 : lw_okq (⟨"Copperleaf", "valueIn", "(LCopperleaf$State;I)I"⟩, 7) := ⟨⟨by decide +kernel, by decide +kernel⟩, List.mem_of_getElem? (i := 14) (by decide +kernel), List.mem_of_getElem? (i := 411) (by decide +kernel), List.mem_of_getElem? (i := 412) (by decide +kernel)⟩
theorem lw_p9 : lw_okq (⟨"Copperleaf", "writeSlot", "(II)V"⟩, 7) := ⟨⟨by decide +kernel, by decide +kernel⟩, List.mem_of_getElem? (i := 14) (by decide +kernel), List.mem_of_getElem? (i := 475) (by decide +kernel), List.mem_of_getElem? (i := 476) (by decide +kernel)⟩
theorem lw_p10 : lw_okq (⟨"Copperleaf", "wordOfBatch", "(I)J"⟩, 7) := ⟨⟨by decide +kernel, by decide +kernel⟩, List.mem_of_getElem? (i := 14) (by decide +kernel), List.mem_of_getElem? (i := 479) (by decide +kernel), List.mem_of_getElem? (i := 480) (by decide +kernel)⟩
theorem lw_p11 : lw_okq (⟨"Copperleaf", "requireReader", "(I)V"⟩, 7) := ⟨⟨by decide +kernel, by decide +kernel⟩, List.mem_of_getElem? (i := 14) (by decide +kernel), List.mem_of_getElem? (i := 507) (by decide +kernel), List.mem_of_getElem? (i := 508) (by decide +kernel)⟩
theorem lw_p12 : lw_okq (⟨"Copperleaf", "viewed", "(I)LCopperleaf$State;"⟩, 7) := ⟨⟨by decide +kernel, by decide +kernel⟩, List.mem_of_getElem? (i := 14) (by decide +kernel), List.mem_of_getElem? (i := 541) (by decide +kernel), List.mem_of_getElem? (i := 542) (by decide +kernel)⟩
theorem lw_p13 : lw_okq (⟨"Copperleaf", "requirePage", "(I)V"⟩, 7) := ⟨⟨by decide +kernel, by decide +kernel⟩, List.mem_of_getElem? (i := 14) (by decide +kernel), List.mem_of_getElem? (i := 626) (by decide +kernel), List.mem_of_getElem? (i := 627) (by decide +kernel)⟩
theorem lw_p14 : lw_okq (⟨"Copperleaf", "requireEntry", "(II)V"⟩, 7) := ⟨⟨by decide +kernel, by decide +kernel⟩, List.mem_of_getElem? (i := 14) (by decide +kernel), List.mem_of_getElem? (i := 639) (by decide +kernel), List.mem_of_getElem? (i := 640) (by decide +kernel)⟩
theorem lw_p15 : lw_okq (⟨"CopperleafModel", "closesAll", "()V"⟩, 18) := ⟨⟨by decide +kernel, by decide +kernel⟩, List.mem_of_getElem? (i := 691) (by decide +kernel), List.mem_of_getElem? (i := 697) (by decide +kernel), List.mem_of_getElem? (i := 698) (by decide +kernel)⟩
def lw_privs_1 : List (MethodName × Nat) := [(⟨"Copperleaf", "isOpen", "(I)Z"⟩, 7), (⟨"Copperleaf", "latestWholeSlot", "()I"⟩, 7), (⟨"Copperleaf", "sumsUp", "(I)Z"⟩, 7), (⟨"Copperleaf", "wordIn", "(II)J"⟩, 7), (⟨"Copperleaf", "endBatch", "()V"⟩, 7), (⟨"Copperleaf", "keepStates", "([ZI)V"⟩, 7), (⟨"java/lang/Throwable", "fillInStackTrace", "(I)Ljava/lang/Throwable;"⟩, 6), (⟨"Copperleaf", "requireBatch", "()V"⟩, 7), (⟨"Copperleaf", "valueIn", "(LCopperleaf$State;I)I"⟩, 7), (⟨"Copperleaf", "writeSlot", "(II)V"⟩, 7), (⟨"Copperleaf", "wordOfBatch", "(I)J"⟩, 7), (⟨"Copperleaf", "requireReader", "(I)V"⟩, 7), (⟨"Copperleaf", "viewed", "(I)LCopperleaf$State;"⟩, 7), (⟨"Copperleaf", "requirePage", "(I)V"⟩, 7), (⟨"Copperleaf", "requireEntry", "(II)V"⟩, 7), (⟨"CopperleafModel", "closesAll", "()V"⟩, 18)]
theorem lw_r1 : ∀ q ∈ lw_privs_1, lw_okq q := List.forall_mem_cons.mpr ⟨lw_p0, List.forall_mem_cons.mpr ⟨lw_p1, List.forall_mem_cons.mpr ⟨lw_p2, List.forall_mem_cons.mpr ⟨lw_p3, List.forall_mem_cons.mpr ⟨lw_p4, List.forall_mem_cons.mpr ⟨lw_p5, List.forall_mem_cons.mpr ⟨lw_p6, List.forall_mem_cons.mpr ⟨lw_p7, List.forall_mem_cons.mpr ⟨lw_p8, List.forall_mem_cons.mpr ⟨lw_p9, List.forall_mem_cons.mpr ⟨lw_p10, List.forall_mem_cons.mpr ⟨lw_p11, List.forall_mem_cons.mpr ⟨lw_p12, List.forall_mem_cons.mpr ⟨lw_p13, List.forall_mem_cons.mpr ⟨lw_p14, List.forall_mem_cons.mpr ⟨lw_p15, fun _ h => absurd h List.not_mem_nil⟩⟩⟩⟩⟩⟩⟩⟩⟩⟩⟩⟩⟩⟩⟩⟩
theorem lw_p16 : lw_okq (⟨"CopperleafModel", "goes", "(ZZZ)Z"⟩, 18) := ⟨⟨by decide +kernel, by decide +kernel⟩, List.mem_of_getElem? (i := 691) (by decide +kernel), List.mem_of_getElem? (i := 764) (by decide +kernel), List.mem_of_getElem? (i := 765) (by decide +kernel)⟩
theorem lw_p17 : lw_okq (⟨"CopperleafModel", "finds", "(II)V"⟩, 18) := ⟨⟨by decide +kernel, by decide +kernel⟩, List.mem_of_getElem? (i := 691) (by decide +kernel), List.mem_of_getElem? (i := 779) (by decide +kernel), List.mem_of_getElem? (i := 780) (by decide +kernel)⟩
theorem lw_p18 : lw_okq (⟨"CopperleafModel", "keyOf", "(II)I"⟩, 18) := ⟨⟨by decide +kernel, by decide +kernel⟩, List.mem_of_getElem? (i := 691) (by decide +kernel), List.mem_of_getElem? (i := 783) (by decide +kernel), List.mem_of_getElem? (i := 784) (by decide +kernel)⟩
theorem lw_p19 : lw_okq (⟨"CopperleafModel", "leastKey", "(I)I"⟩, 18) := ⟨⟨by decide +kernel, by decide +kernel⟩, List.mem_of_getElem? (i := 691) (by decide +kernel), List.mem_of_getElem? (i := 787) (by decide +kernel), List.mem_of_getElem? (i := 788) (by decide +kernel)⟩
theorem lw_p20 : lw_okq (⟨"CopperleafModel", "writesWay", "()V"⟩, 18) := ⟨⟨by decide +kernel, by decide +kernel⟩, List.mem_of_getElem? (i := 691) (by decide +kernel), List.mem_of_getElem? (i := 791) (by decide +kernel), List.mem_of_getElem? (i := 792) (by decide +kernel)⟩
theorem lw_p21 : lw_okq (⟨"CopperleafModel", "takes", "(I)I"⟩, 18) := ⟨⟨by decide +kernel, by decide +kernel⟩, List.mem_of_getElem? (i := 691) (by decide +kernel), List.mem_of_getElem? (i := 795) (by decide +kernel), List.mem_of_getElem? (i := 796) (by decide +kernel)⟩
theorem lw_p22 : lw_okq (⟨"CopperleafModel", "meetsAll", "(I)I"⟩, 18) := ⟨⟨by decide +kernel, by decide +kernel⟩, List.mem_of_getElem? (i := 691) (by decide +kernel), List.mem_of_getElem? (i := 799) (by decide +kernel), List.mem_of_getElem? (i := 800) (by decide +kernel)⟩
theorem lw_p23 : lw_okq (⟨"CopperleafModel", "forgets", "()V"⟩, 18) := ⟨⟨by decide +kernel, by decide +kernel⟩, List.mem_of_getElem? (i := 691) (by decide +kernel), List.mem_of_getElem? (i := 803) (by decide +kernel), List.mem_of_getElem? (i := 804) (by decide +kernel)⟩
theorem lw_p24 : lw_okq (⟨"CopperleafModel", "meets", "(I)V"⟩, 18) := ⟨⟨by decide +kernel, by decide +kernel⟩, List.mem_of_getElem? (i := 691) (by decide +kernel), List.mem_of_getElem? (i := 807) (by decide +kernel), List.mem_of_getElem? (i := 808) (by decide +kernel)⟩
theorem lw_p25 : lw_okq (⟨"CopperleafModel", "whole", "(I)Z"⟩, 18) := ⟨⟨by decide +kernel, by decide +kernel⟩, List.mem_of_getElem? (i := 691) (by decide +kernel), List.mem_of_getElem? (i := 811) (by decide +kernel), List.mem_of_getElem? (i := 812) (by decide +kernel)⟩
theorem lw_p26 : lw_okq (⟨"CopperleafModel", "leastNotMet", "()I"⟩, 18) := ⟨⟨by decide +kernel, by decide +kernel⟩, List.mem_of_getElem? (i := 691) (by decide +kernel), List.mem_of_getElem? (i := 817) (by decide +kernel), List.mem_of_getElem? (i := 818) (by decide +kernel)⟩
theorem lw_p27 : lw_okq (⟨"CopperleafModel", "copies", "(II)V"⟩, 18) := ⟨⟨by decide +kernel, by decide +kernel⟩, List.mem_of_getElem? (i := 691) (by decide +kernel), List.mem_of_getElem? (i := 821) (by decide +kernel), List.mem_of_getElem? (i := 822) (by decide +kernel)⟩
theorem lw_p28 : lw_okq (⟨"CopperleafModel", "own", "(II)I"⟩, 18) := ⟨⟨by decide +kernel, by decide +kernel⟩, List.mem_of_getElem? (i := 691) (by decide +kernel), List.mem_of_getElem? (i := 825) (by decide +kernel), List.mem_of_getElem? (i := 826) (by decide +kernel)⟩
theorem lw_p29 : lw_okq (⟨"CopperleafModel", "place", "(II)I"⟩, 18) := ⟨⟨by decide +kernel, by decide +kernel⟩, List.mem_of_getElem? (i := 691) (by decide +kernel), List.mem_of_getElem? (i := 829) (by decide +kernel), List.mem_of_getElem? (i := 830) (by decide +kernel)⟩
theorem lw_p30 : lw_okq (⟨"CopperleafModel", "has", "(III)Z"⟩, 18) := ⟨⟨by decide +kernel, by decide +kernel⟩, List.mem_of_getElem? (i := 691) (by decide +kernel), List.mem_of_getElem? (i := 833) (by decide +kernel), List.mem_of_getElem? (i := 834) (by decide +kernel)⟩
theorem lw_p31 : lw_okq (⟨"CopperleafModel", "lays", "(IIII)V"⟩, 18) := ⟨⟨by decide +kernel, by decide +kernel⟩, List.mem_of_getElem? (i := 691) (by decide +kernel), List.mem_of_getElem? (i := 837) (by decide +kernel), List.mem_of_getElem? (i := 838) (by decide +kernel)⟩
def lw_privs_2 : List (MethodName × Nat) := [(⟨"CopperleafModel", "goes", "(ZZZ)Z"⟩, 18), (⟨"CopperleafModel", "finds", "(II)V"⟩, 18), (⟨"CopperleafModel", "keyOf", "(II)I"⟩, 18), (⟨"CopperleafModel", "leastKey", "(I)I"⟩, 18), (⟨"CopperleafModel", "writesWay", "()V"⟩, 18), (⟨"CopperleafModel", "takes", "(I)I"⟩, 18), (⟨"CopperleafModel", "meetsAll", "(I)I"⟩, 18), (⟨"CopperleafModel", "forgets", "()V"⟩, 18), (⟨"CopperleafModel", "meets", "(I)V"⟩, 18), (⟨"CopperleafModel", "whole", "(I)Z"⟩, 18), (⟨"CopperleafModel", "leastNotMet", "()I"⟩, 18), (⟨"CopperleafModel", "copies", "(II)V"⟩, 18), (⟨"CopperleafModel", "own", "(II)I"⟩, 18), (⟨"CopperleafModel", "place", "(II)I"⟩, 18), (⟨"CopperleafModel", "has", "(III)Z"⟩, 18), (⟨"CopperleafModel", "lays", "(IIII)V"⟩, 18)]
theorem lw_r2 : ∀ q ∈ lw_privs_2, lw_okq q := List.forall_mem_cons.mpr ⟨lw_p16, List.forall_mem_cons.mpr ⟨lw_p17, List.forall_mem_cons.mpr ⟨lw_p18, List.forall_mem_cons.mpr ⟨lw_p19, List.forall_mem_cons.mpr ⟨lw_p20, List.forall_mem_cons.mpr ⟨lw_p21, List.forall_mem_cons.mpr ⟨lw_p22, List.forall_mem_cons.mpr ⟨lw_p23, List.forall_mem_cons.mpr ⟨lw_p24, List.forall_mem_cons.mpr ⟨lw_p25, List.forall_mem_cons.mpr ⟨lw_p26, List.forall_mem_cons.mpr ⟨lw_p27, List.forall_mem_cons.mpr ⟨lw_p28, List.forall_mem_cons.mpr ⟨lw_p29, List.forall_mem_cons.mpr ⟨lw_p30, List.forall_mem_cons.mpr ⟨lw_p31, fun _ h => absurd h List.not_mem_nil⟩⟩⟩⟩⟩⟩⟩⟩⟩⟩⟩⟩⟩⟩⟩⟩
theorem lw_p32 : lw_okq (⟨"CopperleafModel", "splits", "()V"⟩, 18) := ⟨⟨by decide +kernel, by decide +kernel⟩, List.mem_of_getElem? (i := 691) (by decide +kernel), List.mem_of_getElem? (i := 841) (by decide +kernel), List.mem_of_getElem? (i := 842) (by decide +kernel)⟩
theorem lw_p33 : lw_okq (⟨"CopperleafModel", "moves", "(III)V"⟩, 18) := ⟨⟨by decide +kernel, by decide +kernel⟩, List.mem_of_getElem? (i := 691) (by decide +kernel), List.mem_of_getElem? (i := 845) (by decide +kernel), List.mem_of_getElem? (i := 846) (by decide +kernel)⟩
theorem lw_p34 : lw_okq (⟨"CopperleafModel", "drops", "(II)V"⟩, 18) := ⟨⟨by decide +kernel, by decide +kernel⟩, List.mem_of_getElem? (i := 691) (by decide +kernel), List.mem_of_getElem? (i := 853) (by decide +kernel), List.mem_of_getElem? (i := 854) (by decide +kernel)⟩
theorem lw_p35 : lw_okq (⟨"CopperleafModel", "joins", "()V"⟩, 18) := ⟨⟨by decide +kernel, by decide +kernel⟩, List.mem_of_getElem? (i := 691) (by decide +kernel), List.mem_of_getElem? (i := 857) (by decide +kernel), List.mem_of_getElem? (i := 858) (by decide +kernel)⟩
theorem lw_p36 : lw_okq (⟨"CopperleafModel", "mends", "(I)V"⟩, 18) := ⟨⟨by decide +kernel, by decide +kernel⟩, List.mem_of_getElem? (i := 691) (by decide +kernel), List.mem_of_getElem? (i := 861) (by decide +kernel), List.mem_of_getElem? (i := 862) (by decide +kernel)⟩
theorem lw_p37 : lw_okq (⟨"CopperleafModel", "writes", "(I)V"⟩, 18) := ⟨⟨by decide +kernel, by decide +kernel⟩, List.mem_of_getElem? (i := 691) (by decide +kernel), List.mem_of_getElem? (i := 869) (by decide +kernel), List.mem_of_getElem? (i := 870) (by decide +kernel)⟩
theorem lw_p38 : lw_okq (⟨"CopperleafModel", "word", "(I)J"⟩, 18) := ⟨⟨by decide +kernel, by decide +kernel⟩, List.mem_of_getElem? (i := 691) (by decide +kernel), List.mem_of_getElem? (i := 873) (by decide +kernel), List.mem_of_getElem? (i := 874) (by decide +kernel)⟩
theorem lw_p39 : lw_okq (⟨"CopperleafModel", "keys", "(I)I"⟩, 18) := ⟨⟨by decide +kernel, by decide +kernel⟩, List.mem_of_getElem? (i := 691) (by decide +kernel), List.mem_of_getElem? (i := 877) (by decide +kernel), List.mem_of_getElem? (i := 878) (by decide +kernel)⟩
theorem lw_p40 : lw_okq (⟨"CopperleafModel", "below", "(II)I"⟩, 18) := ⟨⟨by decide +kernel, by decide +kernel⟩, List.mem_of_getElem? (i := 691) (by decide +kernel), List.mem_of_getElem? (i := 881) (by decide +kernel), List.mem_of_getElem? (i := 882) (by decide +kernel)⟩
theorem lw_p41 : lw_okq (⟨"CopperleafModel", "reads", "(I)I"⟩, 18) := ⟨⟨by decide +kernel, by decide +kernel⟩, List.mem_of_getElem? (i := 691) (by decide +kernel), List.mem_of_getElem? (i := 885) (by decide +kernel), List.mem_of_getElem? (i := 886) (by decide +kernel)⟩
theorem lw_p42 : lw_okq (⟨"CopperleafModel", "isReader", "(I)Z"⟩, 18) := ⟨⟨by decide +kernel, by decide +kernel⟩, List.mem_of_getElem? (i := 691) (by decide +kernel), List.mem_of_getElem? (i := 901) (by decide +kernel), List.mem_of_getElem? (i := 902) (by decide +kernel)⟩
theorem lw_p43 : lw_okq (⟨"CopperleafModel", "held", "(I)I"⟩, 18) := ⟨⟨by decide +kernel, by decide +kernel⟩, List.mem_of_getElem? (i := 691) (by decide +kernel), List.mem_of_getElem? (i := 905) (by decide +kernel), List.mem_of_getElem? (i := 906) (by decide +kernel)⟩
theorem lw_p44 : lw_okq (⟨"CopperleafModel", "isView", "(I)Z"⟩, 18) := ⟨⟨by decide +kernel, by decide +kernel⟩, List.mem_of_getElem? (i := 691) (by decide +kernel), List.mem_of_getElem? (i := 921) (by decide +kernel), List.mem_of_getElem? (i := 922) (by decide +kernel)⟩
theorem lw_p45 : lw_okq (⟨"CopperleafModel", "top", "(I)I"⟩, 18) := ⟨⟨by decide +kernel, by decide +kernel⟩, List.mem_of_getElem? (i := 691) (by decide +kernel), List.mem_of_getElem? (i := 929) (by decide +kernel), List.mem_of_getElem? (i := 930) (by decide +kernel)⟩
theorem lw_p46 : lw_okq (⟨"CopperleafModel", "shared", "(I)I"⟩, 18) := ⟨⟨by decide +kernel, by decide +kernel⟩, List.mem_of_getElem? (i := 691) (by decide +kernel), List.mem_of_getElem? (i := 957) (by decide +kernel), List.mem_of_getElem? (i := 958) (by decide +kernel)⟩
theorem lw_p47 : lw_okq (⟨"CopperleafModel", "inUse", "(I)Z"⟩, 18) := ⟨⟨by decide +kernel, by decide +kernel⟩, List.mem_of_getElem? (i := 691) (by decide +kernel), List.mem_of_getElem? (i := 965) (by decide +kernel), List.mem_of_getElem? (i := 966) (by decide +kernel)⟩
def lw_privs_3 : List (MethodName × Nat) := [(⟨"CopperleafModel", "splits", "()V"⟩, 18), (⟨"CopperleafModel", "moves", "(III)V"⟩, 18), (⟨"CopperleafModel", "drops", "(II)V"⟩, 18), (⟨"CopperleafModel", "joins", "()V"⟩, 18), (⟨"CopperleafModel", "mends", "(I)V"⟩, 18), (⟨"CopperleafModel", "writes", "(I)V"⟩, 18), (⟨"CopperleafModel", "word", "(I)J"⟩, 18), (⟨"CopperleafModel", "keys", "(I)I"⟩, 18), (⟨"CopperleafModel", "below", "(II)I"⟩, 18), (⟨"CopperleafModel", "reads", "(I)I"⟩, 18), (⟨"CopperleafModel", "isReader", "(I)Z"⟩, 18), (⟨"CopperleafModel", "held", "(I)I"⟩, 18), (⟨"CopperleafModel", "isView", "(I)Z"⟩, 18), (⟨"CopperleafModel", "top", "(I)I"⟩, 18), (⟨"CopperleafModel", "shared", "(I)I"⟩, 18), (⟨"CopperleafModel", "inUse", "(I)Z"⟩, 18)]
theorem lw_r3 : ∀ q ∈ lw_privs_3, lw_okq q := List.forall_mem_cons.mpr ⟨lw_p32, List.forall_mem_cons.mpr ⟨lw_p33, List.forall_mem_cons.mpr ⟨lw_p34, List.forall_mem_cons.mpr ⟨lw_p35, List.forall_mem_cons.mpr ⟨lw_p36, List.forall_mem_cons.mpr ⟨lw_p37, List.forall_mem_cons.mpr ⟨lw_p38, List.forall_mem_cons.mpr ⟨lw_p39, List.forall_mem_cons.mpr ⟨lw_p40, List.forall_mem_cons.mpr ⟨lw_p41, List.forall_mem_cons.mpr ⟨lw_p42, List.forall_mem_cons.mpr ⟨lw_p43, List.forall_mem_cons.mpr ⟨lw_p44, List.forall_mem_cons.mpr ⟨lw_p45, List.forall_mem_cons.mpr ⟨lw_p46, List.forall_mem_cons.mpr ⟨lw_p47, fun _ h => absurd h List.not_mem_nil⟩⟩⟩⟩⟩⟩⟩⟩⟩⟩⟩⟩⟩⟩⟩⟩
theorem lw_p48 : lw_okq (⟨"CopperleafModel", "isEntry", "(II)Z"⟩, 18) := ⟨⟨by decide +kernel, by decide +kernel⟩, List.mem_of_getElem? (i := 691) (by decide +kernel), List.mem_of_getElem? (i := 985) (by decide +kernel), List.mem_of_getElem? (i := 986) (by decide +kernel)⟩
theorem lw_p49 : lw_okq (⟨"CopperleafModel", "restarts", "()I"⟩, 18) := ⟨⟨by decide +kernel, by decide +kernel⟩, List.mem_of_getElem? (i := 691) (by decide +kernel), List.mem_of_getElem? (i := 1014) (by decide +kernel), List.mem_of_getElem? (i := 1015) (by decide +kernel)⟩
def lw_privs_4 : List (MethodName × Nat) := [(⟨"CopperleafModel", "isEntry", "(II)Z"⟩, 18), (⟨"CopperleafModel", "restarts", "()I"⟩, 18)]
theorem lw_r4 : ∀ q ∈ lw_privs_4, lw_okq q := List.forall_mem_cons.mpr ⟨lw_p48, List.forall_mem_cons.mpr ⟨lw_p49, fun _ h => absurd h List.not_mem_nil⟩⟩
def lw_privs : List (MethodName × Nat) := lw_privs_1 ++ (lw_privs_2 ++ (lw_privs_3 ++ (lw_privs_4)))
def lw_tbl : List Cond := k2_sels lw_privs ++ tables_1
theorem lw_privs_ok : ∀ q ∈ lw_privs, lw_okq q := by
  show ∀ q ∈ lw_privs_1 ++ (lw_privs_2 ++ (lw_privs_3 ++ (lw_privs_4))), lw_okq q
  exact List.forall_mem_append.mpr ⟨lw_r1, List.forall_mem_append.mpr ⟨lw_r2, List.forall_mem_append.mpr ⟨lw_r3, lw_r4⟩⟩⟩
end
section
/-! names, out of claim/NAMES.whole.lean.txt -/
def RX0 : String := "Copperleaf$Pages"
def TX0 : u_T := fun k => match k with
  | 0 => ("Copperleaf$Pages", "counts", "[I", true)
  | 1 => ("Copperleaf$Pages", "inner", "[Z", true)
  | 2 => ("Copperleaf$Pages", "leafKeys", "[I", true)
  | 3 => ("Copperleaf$Pages", "words", "[I", true)
  | 4 => ("Copperleaf$Pages", "kept", "[Z", true)
  | 5 => ("Copperleaf$Pages", "written", "[Z", true)
  | 6 => ("Copperleaf$Pages", "marked", "[Z", true)
  | _ => ("Copperleaf$Pages", "listed", "[I", true)
def tyX0 : Nat → FieldType := fun k => match k with
  | 0 => .array .int
  | 1 => .array .boolean
  | 2 => .array .int
  | 3 => .array .int
  | 4 => .array .boolean
  | 5 => .array .boolean
  | 6 => .array .boolean
  | _ => .array .int
abbrev wsX00 : List Cond := u_ws RX0 TX0 8
theorem nmX0 : ∀ a, a < 8 → ∀ b, b < 8 → a ≠ b → (TX0 a).2.1 ≠ (TX0 b).2.1 := by decide +kernel
theorem tyX0_ok : ∀ k, k < 8 → parseFieldDescriptor (TX0 k).2.2.1 = some (tyX0 k) := by decide +kernel
abbrev cX0_init : ByteArray := prog_2_method_1_code
def yX0_init : MethodName := ⟨RX0, "<init>", "()V"⟩
abbrev cX0_isCell : ByteArray := prog_2_method_2_code
def yX0_isCell : MethodName := ⟨RX0, "isCell", "(II)Z"⟩
abbrev cX0_isVacant : ByteArray := prog_2_method_3_code
def yX0_isVacant : MethodName := ⟨RX0, "isVacant", "(I)Z"⟩
abbrev cX0_leastVacant : ByteArray := prog_2_method_4_code
def yX0_leastVacant : MethodName := ⟨RX0, "leastVacant", "()I"⟩
abbrev cX0_countOf : ByteArray := prog_2_method_5_code
def yX0_countOf : MethodName := ⟨RX0, "countOf", "(I)I"⟩
abbrev cX0_isLeaf : ByteArray := prog_2_method_6_code
def yX0_isLeaf : MethodName := ⟨RX0, "isLeaf", "(I)Z"⟩
abbrev cX0_wordOf : ByteArray := prog_2_method_7_code
def yX0_wordOf : MethodName := ⟨RX0, "wordOf", "(II)I"⟩
abbrev cX0_setWord : ByteArray := prog_2_method_8_code
def yX0_setWord : MethodName := ⟨RX0, "setWord", "(III)V"⟩
abbrev cX0_keyOf : ByteArray := prog_2_method_9_code
def yX0_keyOf : MethodName := ⟨RX0, "keyOf", "(II)I"⟩
abbrev cX0_placeOf : ByteArray := prog_2_method_10_code
def yX0_placeOf : MethodName := ⟨RX0, "placeOf", "(II)I"⟩
abbrev cX0_holds : ByteArray := prog_2_method_11_code
def yX0_holds : MethodName := ⟨RX0, "holds", "(III)Z"⟩
abbrev cX0_entryFor : ByteArray := prog_2_method_12_code
def yX0_entryFor : MethodName := ⟨RX0, "entryFor", "(II)I"⟩
abbrev cX0_leafFor : ByteArray := prog_2_method_13_code
def yX0_leafFor : MethodName := ⟨RX0, "leafFor", "(II)I"⟩
abbrev cX0_levelsFrom : ByteArray := prog_2_method_14_code
def yX0_levelsFrom : MethodName := ⟨RX0, "levelsFrom", "(I)I"⟩
abbrev cX0_listTree : ByteArray := prog_2_method_15_code
def yX0_listTree : MethodName := ⟨RX0, "listTree", "(I)I"⟩
abbrev cX0_unmark : ByteArray := prog_2_method_16_code
def yX0_unmark : MethodName := ⟨RX0, "unmark", "([Z)V"⟩
abbrev cX0_markTree : ByteArray := prog_2_method_17_code
def yX0_markTree : MethodName := ⟨RX0, "markTree", "([ZI)V"⟩
abbrev cX0_countMarked : ByteArray := prog_2_method_18_code
def yX0_countMarked : MethodName := ⟨RX0, "countMarked", "(I)I"⟩
abbrev cX0_leastKeyFrom : ByteArray := prog_2_method_19_code
def yX0_leastKeyFrom : MethodName := ⟨RX0, "leastKeyFrom", "(II)I"⟩
abbrev cX0_keysBelow : ByteArray := prog_2_method_20_code
def yX0_keysBelow : MethodName := ⟨RX0, "keysBelow", "(II)I"⟩
abbrev cX0_take : ByteArray := prog_2_method_21_code
def yX0_take : MethodName := ⟨RX0, "take", "(Z)I"⟩
abbrev cX0_leave : ByteArray := prog_2_method_22_code
def yX0_leave : MethodName := ⟨RX0, "leave", "(I)V"⟩
abbrev cX0_writeAnew : ByteArray := prog_2_method_23_code
def yX0_writeAnew : MethodName := ⟨RX0, "writeAnew", "(I)I"⟩
abbrev cX0_insert : ByteArray := prog_2_method_24_code
def yX0_insert : MethodName := ⟨RX0, "insert", "(IIII)V"⟩
abbrev cX0_remove : ByteArray := prog_2_method_25_code
def yX0_remove : MethodName := ⟨RX0, "remove", "(II)V"⟩
abbrev cX0_append : ByteArray := prog_2_method_26_code
def yX0_append : MethodName := ⟨RX0, "append", "(II)V"⟩
abbrev cX0_move : ByteArray := prog_2_method_27_code
def yX0_move : MethodName := ⟨RX0, "move", "(IIII)V"⟩
def RX1 : String := "Copperleaf$State"
def TX1 : u_T := fun k => match k with
  | 0 => ("Copperleaf$State", "epoch", "I", false)
  | 1 => ("Copperleaf$State", "root", "I", false)
  | 2 => ("Copperleaf$State", "keys", "I", false)
  | _ => ("Copperleaf$State", "open", "Z", false)
def tyX1 : Nat → FieldType := fun k => match k with
  | 0 => .int
  | 1 => .int
  | 2 => .int
  | _ => .boolean
abbrev wsX10 : List Cond := u_ws RX1 TX1 4
theorem nmX1 : ∀ a, a < 4 → ∀ b, b < 4 → a ≠ b → (TX1 a).2.1 ≠ (TX1 b).2.1 := by decide +kernel
theorem tyX1_ok : ∀ k, k < 4 → parseFieldDescriptor (TX1 k).2.2.1 = some (tyX1 k) := by decide +kernel
abbrev cX1_init : ByteArray := prog_3_method_1_code
def yX1_init : MethodName := ⟨RX1, "<init>", "()V"⟩
abbrev cX1_become : ByteArray := prog_3_method_2_code
def yX1_become : MethodName := ⟨RX1, "become", "(LCopperleaf$State;)V"⟩
def RX2 : String := "Copperleaf$Writer"
def TX2 : u_T := fun k => match k with
  | 0 => ("Copperleaf$Writer", "pages", "LCopperleaf$Pages;", true)
  | 1 => ("Copperleaf$Writer", "batch", "LCopperleaf$State;", true)
  | 2 => ("Copperleaf$Writer", "path", "[I", true)
  | 3 => ("Copperleaf$Writer", "taken", "[I", true)
  | _ => ("Copperleaf$Writer", "bottom", "I", false)
def tyX2 : Nat → FieldType := fun k => match k with
  | 0 => .object "Copperleaf$Pages"
  | 1 => .object "Copperleaf$State"
  | 2 => .array .int
  | 3 => .array .int
  | _ => .int
abbrev wsX20 : List Cond := u_ws RX2 TX2 5
theorem nmX2 : ∀ a, a < 5 → ∀ b, b < 5 → a ≠ b → (TX2 a).2.1 ≠ (TX2 b).2.1 := by decide +kernel
theorem tyX2_ok : ∀ k, k < 5 → parseFieldDescriptor (TX2 k).2.2.1 = some (tyX2 k) := by decide +kernel
abbrev cX2_init : ByteArray := prog_4_method_1_code
def yX2_init : MethodName := ⟨RX2, "<init>", "(LCopperleaf$Pages;LCopperleaf$State;)V"⟩
abbrev cX2_store : ByteArray := prog_4_method_2_code
def yX2_store : MethodName := ⟨RX2, "store", "(II)Z"⟩
abbrev cX2_drop : ByteArray := prog_4_method_3_code
def yX2_drop : MethodName := ⟨RX2, "drop", "(I)V"⟩
abbrev cX2_writePath : ByteArray := prog_4_method_4_code
def yX2_writePath : MethodName := ⟨RX2, "writePath", "(I)I"⟩
abbrev cX2_splitUpwards : ByteArray := prog_4_method_5_code
def yX2_splitUpwards : MethodName := ⟨RX2, "splitUpwards", "()V"⟩
abbrev cX2_splitOff : ByteArray := prog_4_method_6_code
def yX2_splitOff : MethodName := ⟨RX2, "splitOff", "(I)I"⟩
abbrev cX2_growRoot : ByteArray := prog_4_method_7_code
def yX2_growRoot : MethodName := ⟨RX2, "growRoot", "(II)V"⟩
abbrev cX2_mend : ByteArray := prog_4_method_8_code
def yX2_mend : MethodName := ⟨RX2, "mend", "(II)V"⟩
abbrev cX2_writeBelow : ByteArray := prog_4_method_9_code
def yX2_writeBelow : MethodName := ⟨RX2, "writeBelow", "(II)V"⟩
abbrev cX2_lend : ByteArray := prog_4_method_10_code
def yX2_lend : MethodName := ⟨RX2, "lend", "(III)V"⟩
abbrev cX2_join : ByteArray := prog_4_method_11_code
def yX2_join : MethodName := ⟨RX2, "join", "(II)V"⟩
abbrev cX2_shrinkRoot : ByteArray := prog_4_method_12_code
def yX2_shrinkRoot : MethodName := ⟨RX2, "shrinkRoot", "()V"⟩
def RX3 : String := "Copperleaf"
def TX3 : u_T := fun k => match k with
  | 0 => ("Copperleaf", "pages", "LCopperleaf$Pages;", true)
  | 1 => ("Copperleaf", "current", "LCopperleaf$State;", true)
  | 2 => ("Copperleaf", "batch", "LCopperleaf$State;", true)
  | 3 => ("Copperleaf", "writer", "LCopperleaf$Writer;", true)
  | 4 => ("Copperleaf", "readerStates", "[LCopperleaf$State;", true)
  | 5 => ("Copperleaf", "slotWords", "[J", true)
  | _ => ("Copperleaf", "slotInUse", "I", false)
def tyX3 : Nat → FieldType := fun k => match k with
  | 0 => .object "Copperleaf$Pages"
  | 1 => .object "Copperleaf$State"
  | 2 => .object "Copperleaf$State"
  | 3 => .object "Copperleaf$Writer"
  | 4 => .array (.object "Copperleaf$State")
  | 5 => .array .long
  | _ => .int
abbrev wsX30 : List Cond := u_ws RX3 TX3 7
theorem nmX3 : ∀ a, a < 7 → ∀ b, b < 7 → a ≠ b → (TX3 a).2.1 ≠ (TX3 b).2.1 := by decide +kernel
theorem tyX3_ok : ∀ k, k < 7 → parseFieldDescriptor (TX3 k).2.2.1 = some (tyX3 k) := by decide +kernel
abbrev cX3_init : ByteArray := prog_1_method_1_code
def yX3_init : MethodName := ⟨RX3, "<init>", "()V"⟩
abbrev cX3_beginBatch : ByteArray := prog_1_method_2_code
def yX3_beginBatch : MethodName := ⟨RX3, "beginBatch", "()I"⟩
abbrev cX3_hasBatch : ByteArray := prog_1_method_3_code
def yX3_hasBatch : MethodName := ⟨RX3, "hasBatch", "()Z"⟩
abbrev cX3_put : ByteArray := prog_1_method_4_code
def yX3_put : MethodName := ⟨RX3, "put", "(II)Z"⟩
abbrev cX3_delete : ByteArray := prog_1_method_5_code
def yX3_delete : MethodName := ⟨RX3, "delete", "(I)I"⟩
abbrev cX3_commit : ByteArray := prog_1_method_6_code
def yX3_commit : MethodName := ⟨RX3, "commit", "()I"⟩
abbrev cX3_abandon : ByteArray := prog_1_method_7_code
def yX3_abandon : MethodName := ⟨RX3, "abandon", "()I"⟩
abbrev cX3_openReader : ByteArray := prog_1_method_8_code
def yX3_openReader : MethodName := ⟨RX3, "openReader", "()I"⟩
abbrev cX3_closeReader : ByteArray := prog_1_method_9_code
def yX3_closeReader : MethodName := ⟨RX3, "closeReader", "(I)I"⟩
abbrev cX3_readers : ByteArray := prog_1_method_10_code
def yX3_readers : MethodName := ⟨RX3, "readers", "()I"⟩
abbrev cX3_heldBy : ByteArray := prog_1_method_11_code
def yX3_heldBy : MethodName := ⟨RX3, "heldBy", "(I)I"⟩
abbrev cX3_epochOf : ByteArray := prog_1_method_12_code
def yX3_epochOf : MethodName := ⟨RX3, "epochOf", "(I)I"⟩
abbrev cX3_get : ByteArray := prog_1_method_13_code
def yX3_get : MethodName := ⟨RX3, "get", "(II)I"⟩
abbrev cX3_next : ByteArray := prog_1_method_14_code
def yX3_next : MethodName := ⟨RX3, "next", "(II)I"⟩
abbrev cX3_rank : ByteArray := prog_1_method_15_code
def yX3_rank : MethodName := ⟨RX3, "rank", "(II)I"⟩
abbrev cX3_size : ByteArray := prog_1_method_16_code
def yX3_size : MethodName := ⟨RX3, "size", "(I)I"⟩
abbrev cX3_depth : ByteArray := prog_1_method_17_code
def yX3_depth : MethodName := ⟨RX3, "depth", "(I)I"⟩
abbrev cX3_rootOf : ByteArray := prog_1_method_18_code
def yX3_rootOf : MethodName := ⟨RX3, "rootOf", "(I)I"⟩
abbrev cX3_sharedPages : ByteArray := prog_1_method_19_code
def yX3_sharedPages : MethodName := ⟨RX3, "sharedPages", "(II)I"⟩
abbrev cX3_isFree : ByteArray := prog_1_method_20_code
def yX3_isFree : MethodName := ⟨RX3, "isFree", "(I)Z"⟩
abbrev cX3_pagesInUse : ByteArray := prog_1_method_21_code
def yX3_pagesInUse : MethodName := ⟨RX3, "pagesInUse", "()I"⟩
abbrev cX3_leastFree : ByteArray := prog_1_method_22_code
def yX3_leastFree : MethodName := ⟨RX3, "leastFree", "()I"⟩
abbrev cX3_entries : ByteArray := prog_1_method_23_code
def yX3_entries : MethodName := ⟨RX3, "entries", "(I)I"⟩
abbrev cX3_keyAt : ByteArray := prog_1_method_24_code
def yX3_keyAt : MethodName := ⟨RX3, "keyAt", "(II)I"⟩
abbrev cX3_pageAt : ByteArray := prog_1_method_25_code
def yX3_pageAt : MethodName := ⟨RX3, "pageAt", "(II)I"⟩
abbrev cX3_currentSlot : ByteArray := prog_1_method_26_code
def yX3_currentSlot : MethodName := ⟨RX3, "currentSlot", "()I"⟩
abbrev cX3_slotWord : ByteArray := prog_1_method_27_code
def yX3_slotWord : MethodName := ⟨RX3, "slotWord", "(II)J"⟩
abbrev cX3_isWhole : ByteArray := prog_1_method_28_code
def yX3_isWhole : MethodName := ⟨RX3, "isWhole", "(I)Z"⟩
abbrev cX3_tear : ByteArray := prog_1_method_29_code
def yX3_tear : MethodName := ⟨RX3, "tear", "(I)I"⟩
abbrev cX3_crash : ByteArray := prog_1_method_30_code
def yX3_crash : MethodName := ⟨RX3, "crash", "()I"⟩
abbrev cX3_crashInCommit : ByteArray := prog_1_method_31_code
def yX3_crashInCommit : MethodName := ⟨RX3, "crashInCommit", "(I)I"⟩
abbrev cX3_requireKey : ByteArray := prog_1_method_32_code
def yX3_requireKey : MethodName := ⟨RX3, "requireKey", "(I)V"⟩
abbrev cX3_requireBatch : ByteArray := prog_1_method_33_code
def yX3_requireBatch : MethodName := ⟨RX3, "requireBatch", "()V"⟩
abbrev cX3_requireReader : ByteArray := prog_1_method_34_code
def yX3_requireReader : MethodName := ⟨RX3, "requireReader", "(I)V"⟩
abbrev cX3_requirePage : ByteArray := prog_1_method_35_code
def yX3_requirePage : MethodName := ⟨RX3, "requirePage", "(I)V"⟩
abbrev cX3_requireEntry : ByteArray := prog_1_method_36_code
def yX3_requireEntry : MethodName := ⟨RX3, "requireEntry", "(II)V"⟩
abbrev cX3_requireSlot : ByteArray := prog_1_method_37_code
def yX3_requireSlot : MethodName := ⟨RX3, "requireSlot", "(I)V"⟩
abbrev cX3_viewed : ByteArray := prog_1_method_38_code
def yX3_viewed : MethodName := ⟨RX3, "viewed", "(I)LCopperleaf$State;"⟩
abbrev cX3_valueIn : ByteArray := prog_1_method_39_code
def yX3_valueIn : MethodName := ⟨RX3, "valueIn", "(LCopperleaf$State;I)I"⟩
abbrev cX3_isOpen : ByteArray := prog_1_method_40_code
def yX3_isOpen : MethodName := ⟨RX3, "isOpen", "(I)Z"⟩
abbrev cX3_endBatch : ByteArray := prog_1_method_41_code
def yX3_endBatch : MethodName := ⟨RX3, "endBatch", "()V"⟩
abbrev cX3_keepStates : ByteArray := prog_1_method_42_code
def yX3_keepStates : MethodName := ⟨RX3, "keepStates", "([ZI)V"⟩
abbrev cX3_otherSlot : ByteArray := prog_1_method_43_code
def yX3_otherSlot : MethodName := ⟨RX3, "otherSlot", "(I)I"⟩
abbrev cX3_wordIn : ByteArray := prog_1_method_44_code
def yX3_wordIn : MethodName := ⟨RX3, "wordIn", "(II)J"⟩
abbrev cX3_sumsUp : ByteArray := prog_1_method_45_code
def yX3_sumsUp : MethodName := ⟨RX3, "sumsUp", "(I)Z"⟩
abbrev cX3_sumOf : ByteArray := prog_1_method_46_code
def yX3_sumOf : MethodName := ⟨RX3, "sumOf", "(JJJ)J"⟩
abbrev cX3_writeSlot : ByteArray := prog_1_method_47_code
def yX3_writeSlot : MethodName := ⟨RX3, "writeSlot", "(II)V"⟩
abbrev cX3_wordOfBatch : ByteArray := prog_1_method_48_code
def yX3_wordOfBatch : MethodName := ⟨RX3, "wordOfBatch", "(I)J"⟩
abbrev cX3_latestWholeSlot : ByteArray := prog_1_method_49_code
def yX3_latestWholeSlot : MethodName := ⟨RX3, "latestWholeSlot", "()I"⟩
def RX4 : String := "CopperleafModel"
def TX4 : u_T := fun k => match k with
  | 0 => ("CopperleafModel", "many", "[I", true)
  | 1 => ("CopperleafModel", "inner", "[Z", true)
  | 2 => ("CopperleafModel", "item", "[I", true)
  | 3 => ("CopperleafModel", "value", "[I", true)
  | 4 => ("CopperleafModel", "written", "[Z", true)
  | 5 => ("CopperleafModel", "met", "[Z", true)
  | 6 => ("CopperleafModel", "rest", "[I", true)
  | 7 => ("CopperleafModel", "epoch", "I", false)
  | 8 => ("CopperleafModel", "root", "I", false)
  | 9 => ("CopperleafModel", "batch", "I", false)
  | 10 => ("CopperleafModel", "slot", "I", false)
  | 11 => ("CopperleafModel", "words", "[J", true)
  | 12 => ("CopperleafModel", "opened", "[I", true)
  | 13 => ("CopperleafModel", "openedEpoch", "[I", true)
  | 14 => ("CopperleafModel", "thrown", "I", false)
  | 15 => ("CopperleafModel", "way", "[I", true)
  | 16 => ("CopperleafModel", "taken", "[I", true)
  | _ => ("CopperleafModel", "deep", "I", false)
def tyX4 : Nat → FieldType := fun k => match k with
  | 0 => .array .int
  | 1 => .array .boolean
  | 2 => .array .int
  | 3 => .array .int
  | 4 => .array .boolean
  | 5 => .array .boolean
  | 6 => .array .int
  | 7 => .int
  | 8 => .int
  | 9 => .int
  | 10 => .int
  | 11 => .array .long
  | 12 => .array .int
  | 13 => .array .int
  | 14 => .int
  | 15 => .array .int
  | 16 => .array .int
  | _ => .int
abbrev wsX40 : List Cond := u_ws RX4 TX4 18
theorem nmX4 : ∀ a, a < 18 → ∀ b, b < 18 → a ≠ b → (TX4 a).2.1 ≠ (TX4 b).2.1 := by decide +kernel
theorem tyX4_ok : ∀ k, k < 18 → parseFieldDescriptor (TX4 k).2.2.1 = some (tyX4 k) := by decide +kernel
abbrev cX4_init : ByteArray := prog_6_method_1_code
def yX4_init : MethodName := ⟨RX4, "<init>", "()V"⟩
abbrev cX4_thrown : ByteArray := prog_6_method_2_code
def yX4_thrown : MethodName := ⟨RX4, "thrown", "()I"⟩
abbrev cX4_in : ByteArray := prog_6_method_3_code
def yX4_in : MethodName := ⟨RX4, "in", "(III)Z"⟩
abbrev cX4_goes : ByteArray := prog_6_method_4_code
def yX4_goes : MethodName := ⟨RX4, "goes", "(ZZZ)Z"⟩
abbrev cX4_closesAll : ByteArray := prog_6_method_5_code
def yX4_closesAll : MethodName := ⟨RX4, "closesAll", "()V"⟩
abbrev cX4_meets : ByteArray := prog_6_method_6_code
def yX4_meets : MethodName := ⟨RX4, "meets", "(I)V"⟩
abbrev cX4_forgets : ByteArray := prog_6_method_7_code
def yX4_forgets : MethodName := ⟨RX4, "forgets", "()V"⟩
abbrev cX4_meetsAll : ByteArray := prog_6_method_8_code
def yX4_meetsAll : MethodName := ⟨RX4, "meetsAll", "(I)I"⟩
abbrev cX4_leastNotMet : ByteArray := prog_6_method_9_code
def yX4_leastNotMet : MethodName := ⟨RX4, "leastNotMet", "()I"⟩
abbrev cX4_inUse : ByteArray := prog_6_method_10_code
def yX4_inUse : MethodName := ⟨RX4, "inUse", "(I)Z"⟩
abbrev cX4_takes : ByteArray := prog_6_method_11_code
def yX4_takes : MethodName := ⟨RX4, "takes", "(I)I"⟩
abbrev cX4_copies : ByteArray := prog_6_method_12_code
def yX4_copies : MethodName := ⟨RX4, "copies", "(II)V"⟩
abbrev cX4_lays : ByteArray := prog_6_method_13_code
def yX4_lays : MethodName := ⟨RX4, "lays", "(IIII)V"⟩
abbrev cX4_drops : ByteArray := prog_6_method_14_code
def yX4_drops : MethodName := ⟨RX4, "drops", "(II)V"⟩
abbrev cX4_moves : ByteArray := prog_6_method_15_code
def yX4_moves : MethodName := ⟨RX4, "moves", "(III)V"⟩
abbrev cX4_leastKey : ByteArray := prog_6_method_16_code
def yX4_leastKey : MethodName := ⟨RX4, "leastKey", "(I)I"⟩
abbrev cX4_keyOf : ByteArray := prog_6_method_17_code
def yX4_keyOf : MethodName := ⟨RX4, "keyOf", "(II)I"⟩
abbrev cX4_finds : ByteArray := prog_6_method_18_code
def yX4_finds : MethodName := ⟨RX4, "finds", "(II)V"⟩
abbrev cX4_place : ByteArray := prog_6_method_19_code
def yX4_place : MethodName := ⟨RX4, "place", "(II)I"⟩
abbrev cX4_has : ByteArray := prog_6_method_20_code
def yX4_has : MethodName := ⟨RX4, "has", "(III)Z"⟩
abbrev cX4_own : ByteArray := prog_6_method_21_code
def yX4_own : MethodName := ⟨RX4, "own", "(II)I"⟩
abbrev cX4_writesWay : ByteArray := prog_6_method_22_code
def yX4_writesWay : MethodName := ⟨RX4, "writesWay", "()V"⟩
abbrev cX4_splits : ByteArray := prog_6_method_23_code
def yX4_splits : MethodName := ⟨RX4, "splits", "()V"⟩
abbrev cX4_mends : ByteArray := prog_6_method_24_code
def yX4_mends : MethodName := ⟨RX4, "mends", "(I)V"⟩
abbrev cX4_joins : ByteArray := prog_6_method_25_code
def yX4_joins : MethodName := ⟨RX4, "joins", "()V"⟩
abbrev cX4_beginBatch : ByteArray := prog_6_method_26_code
def yX4_beginBatch : MethodName := ⟨RX4, "beginBatch", "()I"⟩
abbrev cX4_hasBatch : ByteArray := prog_6_method_27_code
def yX4_hasBatch : MethodName := ⟨RX4, "hasBatch", "()Z"⟩
abbrev cX4_put : ByteArray := prog_6_method_28_code
def yX4_put : MethodName := ⟨RX4, "put", "(II)Z"⟩
abbrev cX4_delete : ByteArray := prog_6_method_29_code
def yX4_delete : MethodName := ⟨RX4, "delete", "(I)I"⟩
abbrev cX4_word : ByteArray := prog_6_method_30_code
def yX4_word : MethodName := ⟨RX4, "word", "(I)J"⟩
abbrev cX4_writes : ByteArray := prog_6_method_31_code
def yX4_writes : MethodName := ⟨RX4, "writes", "(I)V"⟩
abbrev cX4_reads : ByteArray := prog_6_method_32_code
def yX4_reads : MethodName := ⟨RX4, "reads", "(I)I"⟩
abbrev cX4_commit : ByteArray := prog_6_method_33_code
def yX4_commit : MethodName := ⟨RX4, "commit", "()I"⟩
abbrev cX4_abandon : ByteArray := prog_6_method_34_code
def yX4_abandon : MethodName := ⟨RX4, "abandon", "()I"⟩
abbrev cX4_isReader : ByteArray := prog_6_method_35_code
def yX4_isReader : MethodName := ⟨RX4, "isReader", "(I)Z"⟩
abbrev cX4_openReader : ByteArray := prog_6_method_36_code
def yX4_openReader : MethodName := ⟨RX4, "openReader", "()I"⟩
abbrev cX4_held : ByteArray := prog_6_method_37_code
def yX4_held : MethodName := ⟨RX4, "held", "(I)I"⟩
abbrev cX4_closeReader : ByteArray := prog_6_method_38_code
def yX4_closeReader : MethodName := ⟨RX4, "closeReader", "(I)I"⟩
abbrev cX4_readers : ByteArray := prog_6_method_39_code
def yX4_readers : MethodName := ⟨RX4, "readers", "()I"⟩
abbrev cX4_heldBy : ByteArray := prog_6_method_40_code
def yX4_heldBy : MethodName := ⟨RX4, "heldBy", "(I)I"⟩
abbrev cX4_isView : ByteArray := prog_6_method_41_code
def yX4_isView : MethodName := ⟨RX4, "isView", "(I)Z"⟩
abbrev cX4_top : ByteArray := prog_6_method_42_code
def yX4_top : MethodName := ⟨RX4, "top", "(I)I"⟩
abbrev cX4_below : ByteArray := prog_6_method_43_code
def yX4_below : MethodName := ⟨RX4, "below", "(II)I"⟩
abbrev cX4_keys : ByteArray := prog_6_method_44_code
def yX4_keys : MethodName := ⟨RX4, "keys", "(I)I"⟩
abbrev cX4_epochOf : ByteArray := prog_6_method_45_code
def yX4_epochOf : MethodName := ⟨RX4, "epochOf", "(I)I"⟩
abbrev cX4_get : ByteArray := prog_6_method_46_code
def yX4_get : MethodName := ⟨RX4, "get", "(II)I"⟩
abbrev cX4_next : ByteArray := prog_6_method_47_code
def yX4_next : MethodName := ⟨RX4, "next", "(II)I"⟩
abbrev cX4_rank : ByteArray := prog_6_method_48_code
def yX4_rank : MethodName := ⟨RX4, "rank", "(II)I"⟩
abbrev cX4_size : ByteArray := prog_6_method_49_code
def yX4_size : MethodName := ⟨RX4, "size", "(I)I"⟩
abbrev cX4_depth : ByteArray := prog_6_method_50_code
def yX4_depth : MethodName := ⟨RX4, "depth", "(I)I"⟩
abbrev cX4_rootOf : ByteArray := prog_6_method_51_code
def yX4_rootOf : MethodName := ⟨RX4, "rootOf", "(I)I"⟩
abbrev cX4_shared : ByteArray := prog_6_method_52_code
def yX4_shared : MethodName := ⟨RX4, "shared", "(I)I"⟩
abbrev cX4_sharedPages : ByteArray := prog_6_method_53_code
def yX4_sharedPages : MethodName := ⟨RX4, "sharedPages", "(II)I"⟩
abbrev cX4_isFree : ByteArray := prog_6_method_54_code
def yX4_isFree : MethodName := ⟨RX4, "isFree", "(I)Z"⟩
abbrev cX4_pagesInUse : ByteArray := prog_6_method_55_code
def yX4_pagesInUse : MethodName := ⟨RX4, "pagesInUse", "()I"⟩
abbrev cX4_leastFree : ByteArray := prog_6_method_56_code
def yX4_leastFree : MethodName := ⟨RX4, "leastFree", "()I"⟩
abbrev cX4_entries : ByteArray := prog_6_method_57_code
def yX4_entries : MethodName := ⟨RX4, "entries", "(I)I"⟩
abbrev cX4_isEntry : ByteArray := prog_6_method_58_code
def yX4_isEntry : MethodName := ⟨RX4, "isEntry", "(II)Z"⟩
abbrev cX4_keyAt : ByteArray := prog_6_method_59_code
def yX4_keyAt : MethodName := ⟨RX4, "keyAt", "(II)I"⟩
abbrev cX4_pageAt : ByteArray := prog_6_method_60_code
def yX4_pageAt : MethodName := ⟨RX4, "pageAt", "(II)I"⟩
abbrev cX4_whole : ByteArray := prog_6_method_61_code
def yX4_whole : MethodName := ⟨RX4, "whole", "(I)Z"⟩
abbrev cX4_currentSlot : ByteArray := prog_6_method_62_code
def yX4_currentSlot : MethodName := ⟨RX4, "currentSlot", "()I"⟩
abbrev cX4_slotWord : ByteArray := prog_6_method_63_code
def yX4_slotWord : MethodName := ⟨RX4, "slotWord", "(II)J"⟩
abbrev cX4_isWhole : ByteArray := prog_6_method_64_code
def yX4_isWhole : MethodName := ⟨RX4, "isWhole", "(I)Z"⟩
abbrev cX4_tear : ByteArray := prog_6_method_65_code
def yX4_tear : MethodName := ⟨RX4, "tear", "(I)I"⟩
abbrev cX4_restarts : ByteArray := prog_6_method_66_code
def yX4_restarts : MethodName := ⟨RX4, "restarts", "()I"⟩
abbrev cX4_crash : ByteArray := prog_6_method_67_code
def yX4_crash : MethodName := ⟨RX4, "crash", "()I"⟩
abbrev cX4_crashInCommit : ByteArray := prog_6_method_68_code
def yX4_crashInCommit : MethodName := ⟨RX4, "crashInCommit", "(I)I"⟩
def RL : String := "CopperleafLaw"
abbrev cL_beginBatch : ByteArray := method_3_code
def yL_beginBatch : MethodName := ⟨RL, "beginBatch", "(LCopperleaf;[J)I"⟩
abbrev cL_put : ByteArray := method_4_code
def yL_put : MethodName := ⟨RL, "put", "(LCopperleaf;II[J)I"⟩
abbrev cL_delete : ByteArray := method_5_code
def yL_delete : MethodName := ⟨RL, "delete", "(LCopperleaf;I[J)I"⟩
abbrev cL_commit : ByteArray := method_6_code
def yL_commit : MethodName := ⟨RL, "commit", "(LCopperleaf;[J)I"⟩
abbrev cL_abandon : ByteArray := method_7_code
def yL_abandon : MethodName := ⟨RL, "abandon", "(LCopperleaf;[J)I"⟩
abbrev cL_openReader : ByteArray := method_8_code
def yL_openReader : MethodName := ⟨RL, "openReader", "(LCopperleaf;[J)I"⟩
abbrev cL_closeReader : ByteArray := method_9_code
def yL_closeReader : MethodName := ⟨RL, "closeReader", "(LCopperleaf;I[J)I"⟩
abbrev cL_heldBy : ByteArray := method_10_code
def yL_heldBy : MethodName := ⟨RL, "heldBy", "(LCopperleaf;I[J)I"⟩
abbrev cL_epochOf : ByteArray := method_11_code
def yL_epochOf : MethodName := ⟨RL, "epochOf", "(LCopperleaf;I[J)I"⟩
abbrev cL_get : ByteArray := method_12_code
def yL_get : MethodName := ⟨RL, "get", "(LCopperleaf;II[J)I"⟩
abbrev cL_next : ByteArray := method_13_code
def yL_next : MethodName := ⟨RL, "next", "(LCopperleaf;II[J)I"⟩
abbrev cL_rank : ByteArray := method_14_code
def yL_rank : MethodName := ⟨RL, "rank", "(LCopperleaf;II[J)I"⟩
abbrev cL_size : ByteArray := method_15_code
def yL_size : MethodName := ⟨RL, "size", "(LCopperleaf;I[J)I"⟩
abbrev cL_depth : ByteArray := method_16_code
def yL_depth : MethodName := ⟨RL, "depth", "(LCopperleaf;I[J)I"⟩
abbrev cL_rootOf : ByteArray := method_17_code
def yL_rootOf : MethodName := ⟨RL, "rootOf", "(LCopperleaf;I[J)I"⟩
abbrev cL_sharedPages : ByteArray := method_18_code
def yL_sharedPages : MethodName := ⟨RL, "sharedPages", "(LCopperleaf;II[J)I"⟩
abbrev cL_isFree : ByteArray := method_19_code
def yL_isFree : MethodName := ⟨RL, "isFree", "(LCopperleaf;I[J)I"⟩
abbrev cL_entries : ByteArray := method_20_code
def yL_entries : MethodName := ⟨RL, "entries", "(LCopperleaf;I[J)I"⟩
abbrev cL_keyAt : ByteArray := method_21_code
def yL_keyAt : MethodName := ⟨RL, "keyAt", "(LCopperleaf;II[J)I"⟩
abbrev cL_pageAt : ByteArray := method_22_code
def yL_pageAt : MethodName := ⟨RL, "pageAt", "(LCopperleaf;II[J)I"⟩
abbrev cL_slotWord : ByteArray := method_23_code
def yL_slotWord : MethodName := ⟨RL, "slotWord", "(LCopperleaf;II[J)I"⟩
abbrev cL_isWhole : ByteArray := method_24_code
def yL_isWhole : MethodName := ⟨RL, "isWhole", "(LCopperleaf;I[J)I"⟩
abbrev cL_tear : ByteArray := method_25_code
def yL_tear : MethodName := ⟨RL, "tear", "(LCopperleaf;I[J)I"⟩
abbrev cL_crashInCommit : ByteArray := method_26_code
def yL_crashInCommit : MethodName := ⟨RL, "crashInCommit", "(LCopperleaf;I[J)I"⟩
abbrev cL_law : ByteArray := code
def yL_law : MethodName := ⟨RL, "law", "([I)Z"⟩
abbrev vwCl : List vw_C := [(RX0, TX0, 8), (RX1, TX1, 4), (RX2, TX2, 5), (RX3, TX3, 7), (RX4, TX4, 18)]
end
section
/-! THE MINI MACHINE'S WORDS: worlds as lists of cells whose references are places of the list; one judgement, EvF: from this frame, in this world, the method comes to its end as Qf says -/
abbrev mC : Type := (Nat × Nat × ((Nat → Int32) ⊕ ((Nat → Int64) ⊕ (Nat → Option Nat)))) ⊕ (Nat × List Value)
abbrev mW : Type := List mC
/-- a method: its name, code, locals, return type, room, handlers, is it a constructor, how many cells the world has when it starts (for methods that make cells), the script it may read -/
abbrev mM : Type := MethodName × ByteArray × Nat × Option FieldType × Room × List (Nat × Nat × Nat × Nat) × Bool × Option Nat × Option (Nat × (Nat → Int32))
abbrev mMy (M : mM) : MethodName := M.1
abbrev mMc (M : mM) : ByteArray := M.2.1
abbrev mMn (M : mM) : Nat := M.2.2.1
abbrev mMr (M : mM) : Option FieldType := M.2.2.2.1
abbrev mMR (M : mM) : Room := M.2.2.2.2.1
abbrev mMh (M : mM) : List (Nat × Nat × Nat × Nat) := M.2.2.2.2.2.1
abbrev mMi (M : mM) : Bool := M.2.2.2.2.2.2.1
abbrev mMz (M : mM) : Option Nat := M.2.2.2.2.2.2.2.1
abbrev mMs (M : mM) : Option (Nat × (Nat → Int32)) := M.2.2.2.2.2.2.2.2
abbrev hole : Value := .retAddr 0
abbrev scr1 : Value := .retAddr 1
def mV (z b : Nat) (v : Value) : Value := match v with
  | .ref k => .ref (z + k)
  | .retAddr (_ + 1) => .ref b
  | v => v
def mE (z b : Nat) (cA : Nat → ClassId) (e : mC) : va_E := match e with
  | .inl (t, n, .inl f) => .inl (cA t, n, .inl f)
  | .inl (t, n, .inr (.inl f)) => .inl (cA t, n, .inr (.inl f))
  | .inl (t, n, .inr (.inr f)) => .inl (cA t, n, .inr (.inr (.inr (.inr (fun k => (f k).map (fun a => z + a))))))
  | .inr (ci, fs) => .inr (ci, fs.map (mV z b))
def mR (z b : Nat) (cA : Nat → ClassId) (w : List mC) : va_W := w.mapIdx (fun k e => (z + k, mE z b cA e))
theorem mR_get {z b : Nat} {cA : Nat → ClassId} {w : List mC} {k : Nat} {e : mC} (h : w[k]? = some e) : (mR z b cA w)[k]? = some (z + k, mE z b cA e) := by
  simp [mR, List.getElem?_mapIdx, h]
theorem mR_set {z b : Nat} {cA : Nat → ClassId} {w : List mC} {k : Nat} {e : mC} : (mR z b cA w).set k (z + k, mE z b cA e) = mR z b cA (w.set k e) := by
  apply List.ext_getElem?
  intro j
  simp only [mR, List.getElem?_set, List.getElem?_mapIdx, List.length_mapIdx]
  by_cases hk : k = j
  · subst hk
    by_cases hl : k < w.length <;> simp [hl]
  · simp [hk]
theorem mR_app {z b : Nat} {cA : Nat → ClassId} {w : List mC} {e : mC} : mR z b cA (w ++ [e]) = mR z b cA w ++ [(z + w.length, mE z b cA e)] := by
  simp [mR, List.mapIdx_append]
theorem mR_D {z b : Nat} {cA : Nat → ClassId} {w : List mC} : va_D (fun q => z ≤ q) (mR z b cA w) := by
  have key : ∀ (k : Nat) (q : Nat × va_E), (mR z b cA w)[k]? = some q → q.1 = z + k := by
    intro k q h
    simp only [mR, List.getElem?_mapIdx, Option.map_eq_some_iff] at h
    obtain ⟨e, -, h⟩ := h
    rw [← h]
  refine ⟨fun i j p q h1 h2 h3 => ?_, fun k q h => ?_⟩
  · rw [key i p h1, key j q h2] at h3
    omega
  · rw [key k q h]
    omega
def mT (cA : Nat → ClassId) : List (ClassId × FieldType) := [(cA 0, .int), (cA 1, .boolean), (cA 2, .long), (cA 3, .object "Copperleaf$State")]
/-- the good words of the tables -/
def WA : List Jvm.Cond := lw_tbl.filter goodWord
theorem wa_m {w : Jvm.Cond} (i : Nat) (h : lw_tbl[i]? = some w) (g : goodWord w = true) : w ∈ WA := List.mem_filter.mpr ⟨List.mem_of_getElem? h, g⟩
theorem wa_good {w : Jvm.Cond} (h : w ∈ WA) : goodWord w = true := (List.mem_filter.mp h).2
/-- the exceptions' names -/
def mX : List String := ["java/lang/IllegalStateException", "java/lang/IllegalArgumentException", "java/util/NoSuchElementException", "java/lang/IndexOutOfBoundsException"]
def mSt : List (Nat × String) := [(64, "there is a batch"), (206, "key is not 0 to 99"), (208, "there is no batch"), (230, "the tree does not have the key"), (113, "all readers are open"), (210, "no open reader has this number"), (150, "no such page"), (212, "no such page in use"), (214, "no such entry"), (216, "no such slot"), (180, "no such word"), (189, "the other slot is torn"), (198, "words is out of range"), (201, "no slot would be whole")]
/-- what isn't a good word -/
def mXF (U : State) : Prop := (∀ E ∈ mX, va_Nw (.castable E E) U) ∧ (∀ E ∈ mX, ∀ F ∈ mX, E ≠ F → va_Nc E F U) ∧ va_Nw (.methodLinkNest "Copperleaf" 11 yX0_init "Copperleaf") U ∧ va_Nw (.methodLinkNest "Copperleaf" 18 yX1_init "Copperleaf") U ∧ va_AO "Copperleaf$State" U ∧ ∀ q ∈ mSt, ∃ a, vk_R "Copperleaf" q.1 q.2 a U
theorem mXF.warm {s U : State} (hW : s.WarmedH U.vm) (h : mXF s) : mXF U :=
  ⟨fun E hE => va_Nw.warmC hW (h.1 E hE), fun E hE F hF n => va_Nc.moved hW.alike (h.2.1 E hE F hF n), va_Nw.warmM hW h.2.2.1, va_Nw.warmM hW h.2.2.2.1, va_AO.moved hW.alike h.2.2.2.2.1, fun q hq => by
    obtain ⟨a, ha⟩ := h.2.2.2.2.2 q hq
    exact ⟨a, vk_R.warm hW ha⟩⟩
abbrev mZ1 (z : Nat) (U : State) (H : Heap) : Prop := vx_Zq Bundle.tN "UNASSIGNED_STACK" Bundle.steD (fun q => z ≤ q) U H
abbrev mZ2 (z : Nat) (U : State) (H : Heap) : Prop := vx_Zq Bundle.tN "SUPPRESSED_SENTINEL" Bundle.listD (fun q => z ≤ q) U H
/-- what holds of the machine, the method and its start -/
def mCX (M : mM) (z b : Nat) (G : va_G) (cA : Nat → ClassId) (p : Program) (l : Launch) (s : State) (m : MethodId) (args : Array Value) (meth : Method) (c : Code) : Prop :=
  p.tables.exec = Jvm.exec ∧ c.code = mMc M ∧ c.maxLocals = mMn M ∧ meth.sig.returnType = mMr M ∧ s.vm.findClass (mMy M).cls = some m.cls ∧ (∀ w ∈ WA, w.before args s = true) ∧ meth.locks = false ∧ c.exceptionTable.toList = tableOf (mMh M) ∧ (mMi M = true → meth.name = "<init>") ∧ va_K G vwCl (mT cA) s ∧ mXF s ∧ l.stackTraces = false ∧ mZ1 z s s.heap ∧ mZ2 z s s.heap ∧ z ≤ s.heap.size ∧ (∀ n0 : Nat, mMz M = some n0 → s.heap.size = z + n0) ∧
  (∀ (Ls : Nat) (xs : Nat → Int32), mMs M = some (Ls, xs) → va_X b Ls xs s s.heap ∧ b < s.heap.size ∧ b < z ∧ args = #[Value.ref b])
/-- the world lies in the heap -/
def mWR (z b : Nat) (G : va_G) (cA : Nat → ClassId) (w : mW) (s : State) (H : Heap) (locs : List Loc) : Prop :=
  va_P G vwCl (mR z b cA w) H ∧ va_S (fun q => z ≤ q) s.heap H locs
/-- the locals -/
def mLs (z b nL : Nat) (ls : Array Slot) (L : List Value) : Prop := ls.size = nL ∧ L.length = nL ∧ lv_wf ls ∧ ∀ (i : Nat) (v : Value), L[i]? = some v → v ≠ hole → ls[i]? = some (.val (mV z b v))
abbrev mQ : Type := Nat → Nat → va_G → (Nat → ClassId) → List Frame → Array Value → State → State → Prop
def EvF (M : mM) (Qf : mQ) (pc : Nat) (L st : List Value) (k n : Nat) (w : mW) : Prop :=
  ∀ (z b : Nat) (G : va_G) (cA : Nat → ClassId) (p : Program) (l : Launch) (e : Env) (s : State) (m : MethodId) (args : Array Value) (below : List Frame) (meth : Method) (c : Code) (H : Heap) (locs : List Loc) (ls : Array Slot),
    mCX M z b G cA p l s m args meth c → mWR z b G cA w s H locs → mLs z b (mMn M) ls L → W p l e (mMR M) s m args below meth c H locs k n (Qf z b G cA below args s) (F0 m pc ls (st.map (mV z b)))
theorem mV_int {z b : Nat} {x : Int32} : mV z b (.int x) = .int x := rfl
theorem mV_cat (z b : Nat) (v : Value) : (mV z b v).category = v.category := by
  cases v with
  | retAddr n => cases n <;> rfl
  | _ => rfl
theorem mV_sum (z b : Nat) (st : List Value) : ((st.map (mV z b)).map fun v => v.category).sum = (st.map fun v => v.category).sum := by
  rw [List.map_map]
  congr 1
  apply List.map_congr_left
  intro v _
  exact mV_cat z b v
theorem mLs_at {z b nL : Nat} {ls : Array Slot} {L : List Value} (h : mLs z b nL ls L) {i : Nat} {v : Value} (hi : L[i]? = some v) (hv : v ≠ hole) : ls[i]? = some (.val (mV z b v)) := h.2.2.2 i v hi hv
/-- the known locals as a list -/
def mLo (z b : Nat) (L : List Value) : List (Nat × Value) := (List.range L.length).filterMap (fun i => match L[i]? with
  | some v => if v = hole then none else some (i, mV z b v)
  | none => none)
theorem mLo_mem {z b : Nat} {L : List Value} {q : Nat × Value} : q ∈ mLo z b L ↔ ∃ v, L[q.1]? = some v ∧ v ≠ hole ∧ q.2 = mV z b v := by
  unfold mLo
  rw [List.mem_filterMap]
  constructor
  · rintro ⟨i, hi, h⟩
    cases hv : L[i]? with
    | none => rw [hv] at h; cases h
    | some v =>
      rw [hv] at h
      by_cases he : v = hole
      · simp [he] at h
      · simp only [if_neg he, Option.some.injEq] at h
        rw [← h]
        exact ⟨v, hv, he, rfl⟩
  · rintro ⟨v, h1, h2, h3⟩
    refine ⟨q.1, ?_, ?_⟩
    · rw [List.mem_range]
      exact (List.getElem?_eq_some_iff.mp h1).1
    · simp only [h1, if_neg h2]
      rw [← h3]
theorem mLs_has {z b nL : Nat} {ls : Array Slot} {L : List Value} (h : mLs z b nL ls L) : lv_has ls nL (mLo z b L) :=
  ⟨h.1, h.2.2.1, fun q hq => by
    obtain ⟨v, h1, h2, h3⟩ := mLo_mem.mp hq
    rw [h3]
    exact h.2.2.2 _ _ h1 h2⟩
/-- a value of two slots doesn't end just before this place -/
def mc1 (L : List Value) (i : Nat) : Bool := match i with
  | 0 => true
  | j + 1 => match L[j]? with
    | some v => v.category == 1
    | none => true
theorem mc1_ok {z b : Nat} {L : List Value} {i : Nat} (h : mc1 L i = true) {q : Nat × Value} (hq : q ∈ mLo z b L) (hi : q.1 + 1 = i) : q.2.category = 1 := by
  obtain ⟨v, h1, -, h3⟩ := mLo_mem.mp hq
  subst hi
  simp only [mc1, h1, beq_iff_eq] at h
  rw [h3, mV_cat]
  exact h
theorem mLs_set1 {z b nL : Nat} {ls' : Array Slot} {L : List Value} {i : Nat} {v : Value} {u : Value} (hL : L.length = nL) (hu : mV z b v = u) (hm : mc1 L i = true)
    (h : lv_has ls' nL ((i, u) :: (mLo z b L).filter (fun q => !(q.1 == i) && !(q.1 + 1 == i && q.2.category == 2)))) : mLs z b nL ls' (L.set i v) := by
  refine ⟨h.1, by rw [List.length_set, hL], h.2.1, fun j x hj hx => ?_⟩
  by_cases hij : i = j
  · subst hij
    rw [List.getElem?_set] at hj
    by_cases hl : i < L.length
    · simp only [if_pos rfl, if_pos hl] at hj
      cases hj
      rw [hu]
      exact h.2.2 (i, u) List.mem_cons_self
    · simp only [if_pos rfl, if_neg hl] at hj
      cases hj
  · rw [List.getElem?_set_ne hij] at hj
    refine h.2.2 (j, mV z b x) (List.mem_cons_of_mem _ (List.mem_filter.mpr ⟨mLo_mem.mpr ⟨x, hj, hx, rfl⟩, ?_⟩))
    simp only [Bool.and_eq_true, Bool.not_eq_true', beq_eq_false_iff_ne, ne_eq, Bool.and_eq_false_iff]
    refine ⟨fun q => hij q.symm, ?_⟩
    by_cases hc : j + 1 = i
    · right
      have h1 := mc1_ok (z := z) (b := b) hm (q := (j, mV z b x)) (mLo_mem.mpr ⟨x, hj, hx, rfl⟩) hc
      dsimp only at h1 ⊢
      omega
    · exact Or.inl hc
theorem mLs_set2 {z b nL : Nat} {ls' : Array Slot} {L : List Value} {i : Nat} {v : Value} {u : Value} (hL : L.length = nL) (hu : mV z b v = u) (hm : mc1 L i = true)
    (h : lv_has ls' nL ((i, u) :: (mLo z b L).filter (fun q => !(q.1 == i) && (!(q.1 == i + 1) && !(q.1 + 1 == i && q.2.category == 2))))) : mLs z b nL ls' ((L.set i v).set (i + 1) hole) := by
  refine ⟨h.1, by rw [List.length_set, List.length_set, hL], h.2.1, fun j x hj hx => ?_⟩
  by_cases hj1 : i + 1 = j
  · subst hj1
    rw [List.getElem?_set] at hj
    by_cases hl : i + 1 < (L.set i v).length
    · simp only [if_pos rfl, if_pos hl] at hj
      cases hj
      exact absurd rfl hx
    · simp only [if_pos rfl, if_neg hl] at hj
      cases hj
  · rw [List.getElem?_set_ne hj1] at hj
    by_cases hij : i = j
    · subst hij
      rw [List.getElem?_set] at hj
      by_cases hl : i < L.length
      · simp only [if_pos rfl, if_pos hl] at hj
        cases hj
        rw [hu]
        exact h.2.2 (i, u) List.mem_cons_self
      · simp only [if_pos rfl, if_neg hl] at hj
        cases hj
    · rw [List.getElem?_set_ne hij] at hj
      refine h.2.2 (j, mV z b x) (List.mem_cons_of_mem _ (List.mem_filter.mpr ⟨mLo_mem.mpr ⟨x, hj, hx, rfl⟩, ?_⟩))
      simp only [Bool.and_eq_true, Bool.not_eq_true', beq_eq_false_iff_ne, ne_eq, Bool.and_eq_false_iff]
      refine ⟨fun q => hij q.symm, fun q => hj1 q.symm, ?_⟩
      by_cases hc : j + 1 = i
      · right
        have h1 := mc1_ok (z := z) (b := b) hm (q := (j, mV z b x)) (mLo_mem.mpr ⟨x, hj, hx, rfl⟩) hc
        dsimp only at h1 ⊢
        omega
      · exact Or.inl hc
end
section
/-! THE RULES: one for each kind of instruction -/
section RU
variable {M : mM} {Qf : mQ} {pc : Nat} {L st : List Value} {kc ks : Nat} {w : mW}
theorem ev_iconst {n : Int} {v : Int32} (d : decode (mMc M) pc = .ok (.iconst n, 1)) (hv : Int32.ofInt n = v) (k : EvF M Qf (pc + 1) L (.int v :: st) kc ks w) : EvF M Qf pc L st kc ks w :=
  fun z b G cA p l e s m args below meth c H locs ls C hw hL => lv_iconst C.1 C.2.1 d hv (k z b G cA p l e s m args below meth c H locs ls C hw hL)
theorem ev_bipush {n : Int} {v : Int32} (d : decode (mMc M) pc = .ok (.bipush n, 2)) (hv : (Int8.ofInt n).toInt32 = v) (k : EvF M Qf (pc + 2) L (.int v :: st) kc ks w) : EvF M Qf pc L st kc ks w :=
  fun z b G cA p l e s m args below meth c H locs ls C hw hL => lv_bipush C.1 C.2.1 d hv (k z b G cA p l e s m args below meth c H locs ls C hw hL)
theorem ev_sipush {n : Int} {v : Int32} (d : decode (mMc M) pc = .ok (.sipush n, 3)) (hv : (Int16.ofInt n).toInt32 = v) (k : EvF M Qf (pc + 3) L (.int v :: st) kc ks w) : EvF M Qf pc L st kc ks w :=
  fun z b G cA p l e s m args below meth c H locs ls C hw hL => lv_sipush C.1 C.2.1 d hv (k z b G cA p l e s m args below meth c H locs ls C hw hL)
theorem ev_lconst {n : Fin 2} {v : Int64} (d : decode (mMc M) pc = .ok (.lconst n, 1)) (hv : Int64.ofNat (n : Nat) = v) (k : EvF M Qf (pc + 1) L (.long v :: st) kc ks w) : EvF M Qf pc L st kc ks w :=
  fun z b G cA p l e s m args below meth c H locs ls C hw hL => lv_lconst C.1 C.2.1 d hv (k z b G cA p l e s m args below meth c H locs ls C hw hL)
theorem ev_ldc2 {i : Nat} {v : Int64} (d : decode (mMc M) pc = .ok (.ldc2_w i, 3)) (hc : Jvm.Cond.constantLong (mMy M).cls i v ∈ WA) (k : EvF M Qf (pc + 3) L (.long v :: st) kc ks w) : EvF M Qf pc L st kc ks w :=
  fun z b G cA p l e s m args below meth c H locs ls C hw hL => lv_ldc2 C.1 C.2.1 C.2.2.2.2.1 (C.2.2.2.2.2.1 _ hc) d (k z b G cA p l e s m args below meth c H locs ls C hw hL)
theorem ev_iload_n {j : Fin 4} {i : Nat} {x : Int32} (d : decode (mMc M) pc = .ok (.iload_n j, 1)) (hi : (j : Nat) = i) (hl : L[i]? = some (.int x)) (k : EvF M Qf (pc + 1) L (.int x :: st) kc ks w) : EvF M Qf pc L st kc ks w :=
  fun z b G cA p l e s m args below meth c H locs ls C hw hL => lv_iload_n C.1 C.2.1 d hi (mLs_at hL hl (fun h => by cases h)) (k z b G cA p l e s m args below meth c H locs ls C hw hL)
theorem ev_iload {i : Nat} {x : Int32} (d : decode (mMc M) pc = .ok (.iload i, 2)) (hl : L[i]? = some (.int x)) (k : EvF M Qf (pc + 2) L (.int x :: st) kc ks w) : EvF M Qf pc L st kc ks w :=
  fun z b G cA p l e s m args below meth c H locs ls C hw hL => lv_iload C.1 C.2.1 d (mLs_at hL hl (fun h => by cases h)) (k z b G cA p l e s m args below meth c H locs ls C hw hL)
theorem ev_lload_n {j : Fin 4} {i : Nat} {x : Int64} (d : decode (mMc M) pc = .ok (.lload_n j, 1)) (hi : (j : Nat) = i) (hl : L[i]? = some (.long x)) (k : EvF M Qf (pc + 1) L (.long x :: st) kc ks w) : EvF M Qf pc L st kc ks w :=
  fun z b G cA p l e s m args below meth c H locs ls C hw hL => lv_lload_n C.1 C.2.1 d hi (mLs_at hL hl (fun h => by cases h)) (k z b G cA p l e s m args below meth c H locs ls C hw hL)
theorem ev_lload {i : Nat} {x : Int64} (d : decode (mMc M) pc = .ok (.lload i, 2)) (hl : L[i]? = some (.long x)) (k : EvF M Qf (pc + 2) L (.long x :: st) kc ks w) : EvF M Qf pc L st kc ks w :=
  fun z b G cA p l e s m args below meth c H locs ls C hw hL => lv_lload C.1 C.2.1 d (mLs_at hL hl (fun h => by cases h)) (k z b G cA p l e s m args below meth c H locs ls C hw hL)
theorem ev_aload_n {j : Fin 4} {i a : Nat} (d : decode (mMc M) pc = .ok (.aload_n j, 1)) (hi : (j : Nat) = i) (hl : L[i]? = some (.ref a)) (k : EvF M Qf (pc + 1) L (.ref a :: st) kc ks w) : EvF M Qf pc L st kc ks w :=
  fun z b G cA p l e s m args below meth c H locs ls C hw hL => lv_aload_n C.1 C.2.1 d hi (mLs_at hL hl (fun h => by cases h)) (k z b G cA p l e s m args below meth c H locs ls C hw hL)
theorem ev_aload {i a : Nat} (d : decode (mMc M) pc = .ok (.aload i, 2)) (hl : L[i]? = some (.ref a)) (k : EvF M Qf (pc + 2) L (.ref a :: st) kc ks w) : EvF M Qf pc L st kc ks w :=
  fun z b G cA p l e s m args below meth c H locs ls C hw hL => lv_aload C.1 C.2.1 d (mLs_at hL hl (fun h => by cases h)) (k z b G cA p l e s m args below meth c H locs ls C hw hL)
theorem ev_aloadS_n {j : Fin 4} {i : Nat} (d : decode (mMc M) pc = .ok (.aload_n j, 1)) (hi : (j : Nat) = i) (hl : L[i]? = some scr1) (k : EvF M Qf (pc + 1) L (scr1 :: st) kc ks w) : EvF M Qf pc L st kc ks w :=
  fun z b G cA p l e s m args below meth c H locs ls C hw hL => lv_aload_n C.1 C.2.1 d hi (mLs_at hL hl (fun h => by cases h)) (k z b G cA p l e s m args below meth c H locs ls C hw hL)
theorem ev_istore_n {j : Fin 4} {i : Nat} {x : Int32} {L' : List Value} (d : decode (mMc M) pc = .ok (.istore_n j, 1)) (hi : (j : Nat) = i) (hm : (decide (i < mMn M) && mc1 L i) = true) (hL' : L.set i (.int x) = L') (k : EvF M Qf (pc + 1) L' st kc ks w) : EvF M Qf pc L (.int x :: st) kc ks w :=
  fun z b G cA p l e s m args below meth c H locs ls C hw hL => by
    simp only [Bool.and_eq_true, decide_eq_true_eq] at hm
    exact lv_istore_n C.1 C.2.1 d hi (mLs_has hL) hm.1 rfl (fun ls' h' => k z b G cA p l e s m args below meth c H locs ls' C hw (by rw [← hL']; exact mLs_set1 hL.2.1 rfl hm.2 h'))
theorem ev_istore {i : Nat} {x : Int32} {L' : List Value} (d : decode (mMc M) pc = .ok (.istore i, 2)) (hm : (decide (i < mMn M) && mc1 L i) = true) (hL' : L.set i (.int x) = L') (k : EvF M Qf (pc + 2) L' st kc ks w) : EvF M Qf pc L (.int x :: st) kc ks w :=
  fun z b G cA p l e s m args below meth c H locs ls C hw hL => by
    simp only [Bool.and_eq_true, decide_eq_true_eq] at hm
    exact lv_istore C.1 C.2.1 d (mLs_has hL) hm.1 rfl (fun ls' h' => k z b G cA p l e s m args below meth c H locs ls' C hw (by rw [← hL']; exact mLs_set1 hL.2.1 rfl hm.2 h'))
theorem ev_astore_n {j : Fin 4} {i a : Nat} {L' : List Value} (d : decode (mMc M) pc = .ok (.astore_n j, 1)) (hi : (j : Nat) = i) (hm : (decide (i < mMn M) && mc1 L i) = true) (hL' : L.set i (.ref a) = L') (k : EvF M Qf (pc + 1) L' st kc ks w) : EvF M Qf pc L (.ref a :: st) kc ks w :=
  fun z b G cA p l e s m args below meth c H locs ls C hw hL => by
    simp only [Bool.and_eq_true, decide_eq_true_eq] at hm
    exact lv_astore_n C.1 C.2.1 d hi (mLs_has hL) hm.1 rfl (fun ls' h' => k z b G cA p l e s m args below meth c H locs ls' C hw (by rw [← hL']; exact mLs_set1 hL.2.1 rfl hm.2 h'))
theorem ev_astore {i a : Nat} {L' : List Value} (d : decode (mMc M) pc = .ok (.astore i, 2)) (hm : (decide (i < mMn M) && mc1 L i) = true) (hL' : L.set i (.ref a) = L') (k : EvF M Qf (pc + 2) L' st kc ks w) : EvF M Qf pc L (.ref a :: st) kc ks w :=
  fun z b G cA p l e s m args below meth c H locs ls C hw hL => by
    simp only [Bool.and_eq_true, decide_eq_true_eq] at hm
    exact lv_astore C.1 C.2.1 d (mLs_has hL) hm.1 rfl (fun ls' h' => k z b G cA p l e s m args below meth c H locs ls' C hw (by rw [← hL']; exact mLs_set1 hL.2.1 rfl hm.2 h'))
theorem ev_lstore_n {j : Fin 4} {i : Nat} {x : Int64} {L' : List Value} (d : decode (mMc M) pc = .ok (.lstore_n j, 1)) (hi : (j : Nat) = i) (hm : (decide (i + 1 < mMn M) && mc1 L i) = true) (hL' : (L.set i (.long x)).set (i + 1) hole = L') (k : EvF M Qf (pc + 1) L' st kc ks w) : EvF M Qf pc L (.long x :: st) kc ks w :=
  fun z b G cA p l e s m args below meth c H locs ls C hw hL => by
    simp only [Bool.and_eq_true, decide_eq_true_eq] at hm
    exact lv_lstore_n C.1 C.2.1 d hi (mLs_has hL) hm.1 rfl (fun ls' h' => k z b G cA p l e s m args below meth c H locs ls' C hw (by rw [← hL']; exact mLs_set2 hL.2.1 rfl hm.2 h'))
theorem ev_lstore {i : Nat} {x : Int64} {L' : List Value} (d : decode (mMc M) pc = .ok (.lstore i, 2)) (hm : (decide (i + 1 < mMn M) && mc1 L i) = true) (hL' : (L.set i (.long x)).set (i + 1) hole = L') (k : EvF M Qf (pc + 2) L' st kc ks w) : EvF M Qf pc L (.long x :: st) kc ks w :=
  fun z b G cA p l e s m args below meth c H locs ls C hw hL => by
    simp only [Bool.and_eq_true, decide_eq_true_eq] at hm
    exact lv_lstore C.1 C.2.1 d (mLs_has hL) hm.1 rfl (fun ls' h' => k z b G cA p l e s m args below meth c H locs ls' C hw (by rw [← hL']; exact mLs_set2 hL.2.1 rfl hm.2 h'))
theorem ev_iinc {i : Nat} {n : Int} {x : Int32} {L' : List Value} (d : decode (mMc M) pc = .ok (.iinc i n, 3)) (hl : L[i]? = some (.int x)) (hm : (decide (i < mMn M) && mc1 L i) = true) (hL' : L.set i (.int (x + Int32.ofInt n)) = L') (k : EvF M Qf (pc + 3) L' st kc ks w) : EvF M Qf pc L st kc ks w :=
  fun z b G cA p l e s m args below meth c H locs ls C hw hL => by
    simp only [Bool.and_eq_true, decide_eq_true_eq] at hm
    obtain ⟨k0, hk0⟩ := List.getElem?_of_mem (mLo_mem (z := z) (b := b) (q := (i, .int x)) |>.mpr ⟨_, hl, (fun h => by cases h), rfl⟩)
    exact lv_iinc C.1 C.2.1 d (mLs_has hL) hk0 rfl hm.1 rfl (fun ls' h' => k z b G cA p l e s m args below meth c H locs ls' C hw (by rw [← hL']; exact mLs_set1 hL.2.1 rfl hm.2 h'))
theorem ev_iadd {x y : Int32} (d : decode (mMc M) pc = .ok (.iadd, 1)) (k : EvF M Qf (pc + 1) L (.int (x + y) :: st) kc ks w) : EvF M Qf pc L (.int y :: .int x :: st) kc ks w :=
  fun z b G cA p l e s m args below meth c H locs ls C hw hL => lv_iadd C.1 C.2.1 d (k z b G cA p l e s m args below meth c H locs ls C hw hL)
theorem ev_isub {x y : Int32} (d : decode (mMc M) pc = .ok (.isub, 1)) (k : EvF M Qf (pc + 1) L (.int (x - y) :: st) kc ks w) : EvF M Qf pc L (.int y :: .int x :: st) kc ks w :=
  fun z b G cA p l e s m args below meth c H locs ls C hw hL => lv_isub C.1 C.2.1 d (k z b G cA p l e s m args below meth c H locs ls C hw hL)
theorem ev_imul {x y : Int32} (d : decode (mMc M) pc = .ok (.imul, 1)) (k : EvF M Qf (pc + 1) L (.int (x * y) :: st) kc ks w) : EvF M Qf pc L (.int y :: .int x :: st) kc ks w :=
  fun z b G cA p l e s m args below meth c H locs ls C hw hL => lv_imul C.1 C.2.1 d (k z b G cA p l e s m args below meth c H locs ls C hw hL)
theorem ev_iand {x y : Int32} (d : decode (mMc M) pc = .ok (.iand, 1)) (k : EvF M Qf (pc + 1) L (.int (x &&& y) :: st) kc ks w) : EvF M Qf pc L (.int y :: .int x :: st) kc ks w :=
  fun z b G cA p l e s m args below meth c H locs ls C hw hL => lv_iand C.1 C.2.1 d (k z b G cA p l e s m args below meth c H locs ls C hw hL)
theorem ev_ladd {x y : Int64} (d : decode (mMc M) pc = .ok (.ladd, 1)) (k : EvF M Qf (pc + 1) L (.long (x + y) :: st) kc ks w) : EvF M Qf pc L (.long y :: .long x :: st) kc ks w :=
  fun z b G cA p l e s m args below meth c H locs ls C hw hL => lv_ladd C.1 C.2.1 d (k z b G cA p l e s m args below meth c H locs ls C hw hL)
theorem ev_lmul {x y : Int64} (d : decode (mMc M) pc = .ok (.lmul, 1)) (k : EvF M Qf (pc + 1) L (.long (x * y) :: st) kc ks w) : EvF M Qf pc L (.long y :: .long x :: st) kc ks w :=
  fun z b G cA p l e s m args below meth c H locs ls C hw hL => lv_lmul C.1 C.2.1 d (k z b G cA p l e s m args below meth c H locs ls C hw hL)
theorem ev_lcmp {x y : Int64} (d : decode (mMc M) pc = .ok (.lcmp, 1)) (k : EvF M Qf (pc + 1) L (.int (lg_cmp x y) :: st) kc ks w) : EvF M Qf pc L (.long y :: .long x :: st) kc ks w :=
  fun z b G cA p l e s m args below meth c H locs ls C hw hL => W.lcmp C.1 C.2.1 d (k z b G cA p l e s m args below meth c H locs ls C hw hL)
theorem ev_i2l {x : Int32} (d : decode (mMc M) pc = .ok (.i2l, 1)) (k : EvF M Qf (pc + 1) L (.long x.toInt64 :: st) kc ks w) : EvF M Qf pc L (.int x :: st) kc ks w :=
  fun z b G cA p l e s m args below meth c H locs ls C hw hL => lv_i2l C.1 C.2.1 d rfl (k z b G cA p l e s m args below meth c H locs ls C hw hL)
theorem ev_l2i {x : Int64} (d : decode (mMc M) pc = .ok (.l2i, 1)) (k : EvF M Qf (pc + 1) L (.int x.toInt32 :: st) kc ks w) : EvF M Qf pc L (.long x :: st) kc ks w :=
  fun z b G cA p l e s m args below meth c H locs ls C hw hL => lv_l2i C.1 C.2.1 d rfl (k z b G cA p l e s m args below meth c H locs ls C hw hL)
theorem ev_dup {v : Value} (d : decode (mMc M) pc = .ok (.dup, 1)) (hv : v.category = 1) (k : EvF M Qf (pc + 1) L (v :: v :: st) kc ks w) : EvF M Qf pc L (v :: st) kc ks w :=
  fun z b G cA p l e s m args below meth c H locs ls C hw hL => lv_dup C.1 C.2.1 d (by rw [mV_cat]; exact hv) (k z b G cA p l e s m args below meth c H locs ls C hw hL)
theorem ev_dup2 {v u : Value} (d : decode (mMc M) pc = .ok (.dup2, 1)) (hv : v.category = 1) (hu : u.category = 1) (k : EvF M Qf (pc + 1) L (v :: u :: v :: u :: st) kc ks w) : EvF M Qf pc L (v :: u :: st) kc ks w :=
  fun z b G cA p l e s m args below meth c H locs ls C hw hL => lv_dup2_11 C.1 C.2.1 d (by rw [mV_cat]; exact hv) (by rw [mV_cat]; exact hu) (k z b G cA p l e s m args below meth c H locs ls C hw hL)
theorem ev_pop {v : Value} (d : decode (mMc M) pc = .ok (.pop, 1)) (hv : v.category = 1) (k : EvF M Qf (pc + 1) L st kc ks w) : EvF M Qf pc L (v :: st) kc ks w :=
  fun z b G cA p l e s m args below meth c H locs ls C hw hL => lv_pop C.1 C.2.1 d (by rw [mV_cat]; exact hv) (k z b G cA p l e s m args below meth c H locs ls C hw hL)
theorem ev_goto {off : Int} {tgt : Nat} (d : decode (mMc M) pc = .ok (.goto off, 3)) (ht : (pc : Int) + off = (tgt : Int)) (k : EvF M Qf tgt L st kc ks w) : EvF M Qf pc L st kc ks w :=
  fun z b G cA p l e s m args below meth c H locs ls C hw hL => lv_goto C.1 C.2.1 d ht (k z b G cA p l e s m args below meth c H locs ls C hw hL)
theorem ev_tabIn {dflt lo hi : Int} {offs : Array Int} {len : Nat} {x : Int32} {off : Int} {tgt : Nat} (d : decode (mMc M) pc = .ok (.tableswitch dflt lo hi offs, len)) (h1 : ¬ x.toInt < lo) (h2 : ¬ hi < x.toInt) (ho : offs[(x.toInt - lo).toNat]? = some off) (ht : (pc : Int) + off = (tgt : Int)) (k : EvF M Qf tgt L st kc ks w) : EvF M Qf pc L (.int x :: st) kc ks w :=
  fun z b G cA p l e s m args below meth c H locs ls C hw hL => lv_tableIn C.1 C.2.1 d h1 h2 ho ht (k z b G cA p l e s m args below meth c H locs ls C hw hL)
theorem ev_tabOut {dflt lo hi : Int} {offs : Array Int} {len : Nat} {x : Int32} {tgt : Nat} (d : decode (mMc M) pc = .ok (.tableswitch dflt lo hi offs, len)) (h : x.toInt < lo ∨ hi < x.toInt) (ht : (pc : Int) + dflt = (tgt : Int)) (k : EvF M Qf tgt L st kc ks w) : EvF M Qf pc L (.int x :: st) kc ks w :=
  fun z b G cA p l e s m args below meth c H locs ls C hw hL => lv_tableOut C.1 C.2.1 d h ht (k z b G cA p l e s m args below meth c H locs ls C hw hL)
theorem ev_if_eq {x : Int32} {off : Int} {tgt : Nat} (d : decode (mMc M) pc = .ok (.ifCond .eq off, 3)) (ht : (pc : Int) + off = (tgt : Int)) (kt : x = 0 → EvF M Qf tgt L st kc ks w) (kf : ¬ x = 0 → EvF M Qf (pc + 3) L st kc ks w) : EvF M Qf pc L (.int x :: st) kc ks w :=
  fun z b G cA p l e s m args below meth c H locs ls C hw hL => lv_if_eq C.1 C.2.1 d ht (fun q => kt q z b G cA p l e s m args below meth c H locs ls C hw hL) (fun q => kf q z b G cA p l e s m args below meth c H locs ls C hw hL)
theorem ev_ic_eq {x y : Int32} {off : Int} {tgt : Nat} (d : decode (mMc M) pc = .ok (.if_icmp .eq off, 3)) (ht : (pc : Int) + off = (tgt : Int)) (kt : x = y → EvF M Qf tgt L st kc ks w) (kf : ¬ x = y → EvF M Qf (pc + 3) L st kc ks w) : EvF M Qf pc L (.int y :: .int x :: st) kc ks w :=
  fun z b G cA p l e s m args below meth c H locs ls C hw hL => lv_icmp_eq C.1 C.2.1 d ht (fun q => kt q z b G cA p l e s m args below meth c H locs ls C hw hL) (fun q => kf q z b G cA p l e s m args below meth c H locs ls C hw hL)
theorem ev_if_ne {x : Int32} {off : Int} {tgt : Nat} (d : decode (mMc M) pc = .ok (.ifCond .ne off, 3)) (ht : (pc : Int) + off = (tgt : Int)) (kt : ¬ x = 0 → EvF M Qf tgt L st kc ks w) (kf : x = 0 → EvF M Qf (pc + 3) L st kc ks w) : EvF M Qf pc L (.int x :: st) kc ks w :=
  fun z b G cA p l e s m args below meth c H locs ls C hw hL => lv_if_ne C.1 C.2.1 d ht (fun q => kt q z b G cA p l e s m args below meth c H locs ls C hw hL) (fun q => kf q z b G cA p l e s m args below meth c H locs ls C hw hL)
theorem ev_ic_ne {x y : Int32} {off : Int} {tgt : Nat} (d : decode (mMc M) pc = .ok (.if_icmp .ne off, 3)) (ht : (pc : Int) + off = (tgt : Int)) (kt : ¬ x = y → EvF M Qf tgt L st kc ks w) (kf : x = y → EvF M Qf (pc + 3) L st kc ks w) : EvF M Qf pc L (.int y :: .int x :: st) kc ks w :=
  fun z b G cA p l e s m args below meth c H locs ls C hw hL => lv_icmp_ne C.1 C.2.1 d ht (fun q => kt q z b G cA p l e s m args below meth c H locs ls C hw hL) (fun q => kf q z b G cA p l e s m args below meth c H locs ls C hw hL)
theorem ev_if_lt {x : Int32} {off : Int} {tgt : Nat} (d : decode (mMc M) pc = .ok (.ifCond .lt off, 3)) (ht : (pc : Int) + off = (tgt : Int)) (kt : x < 0 → EvF M Qf tgt L st kc ks w) (kf : ¬ x < 0 → EvF M Qf (pc + 3) L st kc ks w) : EvF M Qf pc L (.int x :: st) kc ks w :=
  fun z b G cA p l e s m args below meth c H locs ls C hw hL => lv_if_lt C.1 C.2.1 d ht (fun q => kt q z b G cA p l e s m args below meth c H locs ls C hw hL) (fun q => kf q z b G cA p l e s m args below meth c H locs ls C hw hL)
theorem ev_ic_lt {x y : Int32} {off : Int} {tgt : Nat} (d : decode (mMc M) pc = .ok (.if_icmp .lt off, 3)) (ht : (pc : Int) + off = (tgt : Int)) (kt : x < y → EvF M Qf tgt L st kc ks w) (kf : ¬ x < y → EvF M Qf (pc + 3) L st kc ks w) : EvF M Qf pc L (.int y :: .int x :: st) kc ks w :=
  fun z b G cA p l e s m args below meth c H locs ls C hw hL => lv_icmp_lt C.1 C.2.1 d ht (fun q => kt q z b G cA p l e s m args below meth c H locs ls C hw hL) (fun q => kf q z b G cA p l e s m args below meth c H locs ls C hw hL)
theorem ev_if_ge {x : Int32} {off : Int} {tgt : Nat} (d : decode (mMc M) pc = .ok (.ifCond .ge off, 3)) (ht : (pc : Int) + off = (tgt : Int)) (kt : 0 ≤ x → EvF M Qf tgt L st kc ks w) (kf : ¬ 0 ≤ x → EvF M Qf (pc + 3) L st kc ks w) : EvF M Qf pc L (.int x :: st) kc ks w :=
  fun z b G cA p l e s m args below meth c H locs ls C hw hL => lv_if_ge C.1 C.2.1 d ht (fun q => kt q z b G cA p l e s m args below meth c H locs ls C hw hL) (fun q => kf q z b G cA p l e s m args below meth c H locs ls C hw hL)
theorem ev_ic_ge {x y : Int32} {off : Int} {tgt : Nat} (d : decode (mMc M) pc = .ok (.if_icmp .ge off, 3)) (ht : (pc : Int) + off = (tgt : Int)) (kt : y ≤ x → EvF M Qf tgt L st kc ks w) (kf : ¬ y ≤ x → EvF M Qf (pc + 3) L st kc ks w) : EvF M Qf pc L (.int y :: .int x :: st) kc ks w :=
  fun z b G cA p l e s m args below meth c H locs ls C hw hL => lv_icmp_ge C.1 C.2.1 d ht (fun q => kt q z b G cA p l e s m args below meth c H locs ls C hw hL) (fun q => kf q z b G cA p l e s m args below meth c H locs ls C hw hL)
theorem ev_if_gt {x : Int32} {off : Int} {tgt : Nat} (d : decode (mMc M) pc = .ok (.ifCond .gt off, 3)) (ht : (pc : Int) + off = (tgt : Int)) (kt : 0 < x → EvF M Qf tgt L st kc ks w) (kf : ¬ 0 < x → EvF M Qf (pc + 3) L st kc ks w) : EvF M Qf pc L (.int x :: st) kc ks w :=
  fun z b G cA p l e s m args below meth c H locs ls C hw hL => lv_if_gt C.1 C.2.1 d ht (fun q => kt q z b G cA p l e s m args below meth c H locs ls C hw hL) (fun q => kf q z b G cA p l e s m args below meth c H locs ls C hw hL)
theorem ev_ic_gt {x y : Int32} {off : Int} {tgt : Nat} (d : decode (mMc M) pc = .ok (.if_icmp .gt off, 3)) (ht : (pc : Int) + off = (tgt : Int)) (kt : y < x → EvF M Qf tgt L st kc ks w) (kf : ¬ y < x → EvF M Qf (pc + 3) L st kc ks w) : EvF M Qf pc L (.int y :: .int x :: st) kc ks w :=
  fun z b G cA p l e s m args below meth c H locs ls C hw hL => lv_icmp_gt C.1 C.2.1 d ht (fun q => kt q z b G cA p l e s m args below meth c H locs ls C hw hL) (fun q => kf q z b G cA p l e s m args below meth c H locs ls C hw hL)
theorem ev_if_le {x : Int32} {off : Int} {tgt : Nat} (d : decode (mMc M) pc = .ok (.ifCond .le off, 3)) (ht : (pc : Int) + off = (tgt : Int)) (kt : x ≤ 0 → EvF M Qf tgt L st kc ks w) (kf : ¬ x ≤ 0 → EvF M Qf (pc + 3) L st kc ks w) : EvF M Qf pc L (.int x :: st) kc ks w :=
  fun z b G cA p l e s m args below meth c H locs ls C hw hL => lv_if_le C.1 C.2.1 d ht (fun q => kt q z b G cA p l e s m args below meth c H locs ls C hw hL) (fun q => kf q z b G cA p l e s m args below meth c H locs ls C hw hL)
theorem ev_ic_le {x y : Int32} {off : Int} {tgt : Nat} (d : decode (mMc M) pc = .ok (.if_icmp .le off, 3)) (ht : (pc : Int) + off = (tgt : Int)) (kt : x ≤ y → EvF M Qf tgt L st kc ks w) (kf : ¬ x ≤ y → EvF M Qf (pc + 3) L st kc ks w) : EvF M Qf pc L (.int y :: .int x :: st) kc ks w :=
  fun z b G cA p l e s m args below meth c H locs ls C hw hL => lv_icmp_le C.1 C.2.1 d ht (fun q => kt q z b G cA p l e s m args below meth c H locs ls C hw hL) (fun q => kf q z b G cA p l e s m args below meth c H locs ls C hw hL)
end RU
end
section
/-! RULES of fields, arrays, new cells -/
/-- what the tables say of a getfield: the class's kind ci, its slot k -/
def mFd (own : String) (idx ci k : Nat) : Prop := ∃ (C : String) (T : u_T) (N : Nat), vwCl[ci]? = some (C, T, N) ∧ (∀ x ∈ u_ws C T N, x ∈ WA) ∧ k < N ∧ Jvm.Cond.fieldLink own idx (T k).1 (T k).2.1 (T k).2.2.1 ∈ WA
/-- .. and of a putfield: fin says if the field is final -/
def mFp (own : String) (idx ci k : Nat) (ty : FieldType) (fin : Bool) : Prop := ∃ (C : String) (T : u_T) (N : Nat) (ty0 : Nat → FieldType), vwCl[ci]? = some (C, T, N) ∧ (∀ x ∈ u_ws C T N, x ∈ WA) ∧ k < N ∧ Jvm.Cond.fieldLink own idx (T k).1 (T k).2.1 (T k).2.2.1 ∈ WA ∧
  (∀ k, k < N → parseFieldDescriptor (T k).2.2.1 = some (ty0 k)) ∧ (∀ a, a < N → ∀ b, b < N → a ≠ b → (T a).2.1 ≠ (T b).2.1) ∧ (T k).2.2.2 = fin ∧ parseFieldDescriptor (T k).2.2.1 = some ty ∧ (fin = true → (T k).1 = own)
theorem mR_len {z b : Nat} {cA : Nat → ClassId} {w : List mC} : (mR z b cA w).length = w.length := by simp [mR]
theorem mR_low {z b : Nat} {cA : Nat → ClassId} {G : va_G} {w : List mC} {H : Heap} (h : va_P G vwCl (mR z b cA w) H) (h0 : z ≤ H.size) : z + w.length ≤ H.size := by
  cases hw : w.length with
  | zero => omega
  | succ n =>
    have hl : n < w.length := by omega
    have h1 := (h n _ (mR_get (z := z) (b := b) (cA := cA) (List.getElem?_eq_getElem hl))).lt
    dsimp only at h1
    omega
theorem mV_fit {ty : FieldType} {v : Value} (h : narrow ty v = v ∧ fits ty v = true) (hr : ∀ a, v = .ref a → ∀ a', narrow ty (.ref a') = .ref a' ∧ fits ty (.ref a') = true) (hs : ∀ n, v ≠ .retAddr n) (z b : Nat) : narrow ty (mV z b v) = mV z b v ∧ fits ty (mV z b v) = true := by
  cases v with
  | ref a => exact hr a rfl _
  | retAddr n => exact absurd rfl (hs n)
  | _ => exact h
section HE
variable {M : mM} {Qf : mQ} {pc : Nat} {L st : List Value} {kc ks : Nat} {w : mW}
theorem ev_get {idx ci k q : Nat} {fs : List Value} {v : Value} (d : decode (mMc M) pc = .ok (.getfield idx, 3)) (hF : mFd (mMy M).cls idx ci k) (he : w[q]? = some (.inr (ci, fs))) (hv : fs[k]? = some v) (kk : EvF M Qf (pc + 3) L (v :: st) kc ks w) : EvF M Qf pc L (.ref q :: st) kc ks w := by
  intro z b G cA p l e s m args below meth c H locs ls C hw hL
  obtain ⟨Cn, T, N, hc, hin, hk, hl⟩ := hF
  exact va_get C.1 C.2.1 (Ts := WA) C.2.2.2.2.2.1 hin C.2.2.2.2.1 C.2.2.2.2.2.2.2.2.2.1 hw.1 q (mR_get he) hc k hk (C.2.2.2.2.2.1 _ hl) (fun _ h => h) (v := mV z b v) (by rw [List.getElem?_map, hv]; rfl) d (kk z b G cA p l e s m args below meth c H locs ls C hw hL)
theorem ev_put {idx ci k q : Nat} {ty : FieldType} {fs : List Value} {v : Value} {w' : mW} (d : decode (mMc M) pc = .ok (.putfield idx, 3)) (hF : mFp (mMy M).cls idx ci k ty false) (he : w[q]? = some (.inr (ci, fs))) (hk : k < fs.length) (hv : ∀ z b, narrow ty (mV z b v) = mV z b v ∧ fits ty (mV z b v) = true) (hw' : w.set q (.inr (ci, fs.set k v)) = w') (kk : EvF M Qf (pc + 3) L st kc ks w') : EvF M Qf pc L (v :: .ref q :: st) kc ks w := by
  intro z b G cA p l e s m args below meth c H locs ls C hw hL
  obtain ⟨Cn, T, N, ty0, hc, hin, hkN, hl, hty, hnm, hfin, hd, -⟩ := hF
  refine va_put C.1 C.2.1 (Ts := WA) C.2.2.2.2.2.1 hin ty0 hty hnm C.2.2.2.2.1 C.2.2.2.2.2.2.2.2.2.1 hw.1 mR_D hw.2 q (mR_get he) hc k hkN (C.2.2.2.2.2.1 _ hl) (fun _ h => h) hfin hd (hv z b).1 (hv z b).2 (by rw [List.length_map]; exact hk) d (fun H1 locs1 hP hD hS => ?_)
  refine kk z b G cA p l e s m args below meth c H1 locs1 ls C ⟨?_, hS⟩ hL
  rw [← hw', ← mR_set]
  have e1 : mE z b cA (.inr (ci, fs.set k v)) = .inr (ci, (fs.map (mV z b)).set k (mV z b v)) := by
    show Sum.inr (ci, (fs.set k v).map (mV z b)) = _
    rw [List.map_set]
  rw [e1]
  exact hP
theorem ev_putF {idx ci k q : Nat} {ty : FieldType} {fs : List Value} {v : Value} {w' : mW} (d : decode (mMc M) pc = .ok (.putfield idx, 3)) (hF : mFp (mMy M).cls idx ci k ty true) (hi : mMi M = true) (he : w[q]? = some (.inr (ci, fs))) (hk : k < fs.length) (hv : ∀ z b, narrow ty (mV z b v) = mV z b v ∧ fits ty (mV z b v) = true) (hw' : w.set q (.inr (ci, fs.set k v)) = w') (kk : EvF M Qf (pc + 3) L st kc ks w') : EvF M Qf pc L (v :: .ref q :: st) kc ks w := by
  intro z b G cA p l e s m args below meth c H locs ls C hw hL
  obtain ⟨Cn, T, N, ty0, hc, hin, hkN, hl, hty, hnm, hfin, hd, hdecl⟩ := hF
  refine va_putF C.1 C.2.1 (Ts := WA) C.2.2.2.2.2.1 hin ty0 hty hnm C.2.2.2.2.1 C.2.2.2.2.2.2.2.2.2.1 hw.1 mR_D hw.2 q (mR_get he) hc k hkN (C.2.2.2.2.2.1 _ hl) (fun _ h => h) hfin (C.2.2.2.2.2.2.2.2.1 hi) (hdecl rfl) hd (hv z b).1 (hv z b).2 (by rw [List.length_map]; exact hk) d (fun H1 locs1 hP hD hS => ?_)
  refine kk z b G cA p l e s m args below meth c H1 locs1 ls C ⟨?_, hS⟩ hL
  rw [← hw', ← mR_set]
  have e1 : mE z b cA (.inr (ci, fs.set k v)) = .inr (ci, (fs.map (mV z b)).set k (mV z b v)) := by
    show Sum.inr (ci, (fs.set k v).map (mV z b)) = _
    rw [List.map_set]
  rw [e1]
  exact hP
/-- an int array's place -/
theorem ev_iald {q n : Nat} {f : Nat → Int32} {i : Int32} (d : decode (mMc M) pc = .ok (.iaload, 1)) (he : w[q]? = some (.inl (0, n, .inl f))) (hi : vp_in i n) (kk : EvF M Qf (pc + 1) L (.int (f i.toNatClampNeg) :: st) kc ks w) : EvF M Qf pc L (.int i :: .ref q :: st) kc ks w := by
  intro z b G cA p l e s m args below meth c H locs ls C hw hL
  exact va_iald C.1 C.2.1 C.2.2.2.2.2.2.2.2.2.1 hw.1 q 0 (mR_get he) rfl hi d (kk z b G cA p l e s m args below meth c H locs ls C hw hL)
theorem ev_zald {q n : Nat} {f : Nat → Int32} {i : Int32} (d : decode (mMc M) pc = .ok (.baload, 1)) (he : w[q]? = some (.inl (1, n, .inl f))) (hi : vp_in i n) (kk : EvF M Qf (pc + 1) L (.int (f i.toNatClampNeg) :: st) kc ks w) : EvF M Qf pc L (.int i :: .ref q :: st) kc ks w := by
  intro z b G cA p l e s m args below meth c H locs ls C hw hL
  exact va_zald C.1 C.2.1 C.2.2.2.2.2.2.2.2.2.1 hw.1 q 1 (mR_get he) rfl hi d (kk z b G cA p l e s m args below meth c H locs ls C hw hL)
theorem ev_lald {q n : Nat} {f : Nat → Int64} {i : Int32} (d : decode (mMc M) pc = .ok (.laload, 1)) (he : w[q]? = some (.inl (2, n, .inr (.inl f)))) (hi : vp_in i n) (kk : EvF M Qf (pc + 1) L (.long (f i.toNatClampNeg) :: st) kc ks w) : EvF M Qf pc L (.int i :: .ref q :: st) kc ks w := by
  intro z b G cA p l e s m args below meth c H locs ls C hw hL
  exact va_lald C.1 C.2.1 C.2.2.2.2.2.2.2.2.2.1 hw.1 q 2 (mR_get he) rfl hi d (kk z b G cA p l e s m args below meth c H locs ls C hw hL)
theorem ev_aald {q n a : Nat} {f : Nat → Option Nat} {i : Int32} (d : decode (mMc M) pc = .ok (.aaload, 1)) (he : w[q]? = some (.inl (3, n, .inr (.inr f)))) (hi : vp_in i n) (ha : f i.toNatClampNeg = some a) (kk : EvF M Qf (pc + 1) L (.ref a :: st) kc ks w) : EvF M Qf pc L (.int i :: .ref q :: st) kc ks w := by
  intro z b G cA p l e s m args below meth c H locs ls C hw hL
  refine va_aldq C.1 C.2.1 C.2.2.2.2.2.2.2.2.2.1 hw.1 q 3 (mR_get he) rfl hi d ?_
  rw [ha]
  exact kk z b G cA p l e s m args below meth c H locs ls C hw hL
theorem ev_iast {q n : Nat} {f : Nat → Int32} {i x : Int32} {w' : mW} (d : decode (mMc M) pc = .ok (.iastore, 1)) (he : w[q]? = some (.inl (0, n, .inl f))) (hi : vp_in i n) (hw' : w.set q (.inl (0, n, .inl (upd f i.toNatClampNeg x))) = w') (kk : EvF M Qf (pc + 1) L st kc ks w') : EvF M Qf pc L (.int x :: .int i :: .ref q :: st) kc ks w := by
  intro z b G cA p l e s m args below meth c H locs ls C hw hL
  refine va_iast C.1 C.2.1 C.2.2.2.2.2.2.2.2.2.1 hw.1 mR_D hw.2 q 0 (mR_get he) rfl hi d (fun H1 locs1 hP hD hS => ?_)
  refine kk z b G cA p l e s m args below meth c H1 locs1 ls C ⟨?_, hS⟩ hL
  rw [← hw', ← mR_set]
  exact hP
theorem ev_zast {q n : Nat} {f : Nat → Int32} {i x : Int32} {w' : mW} (d : decode (mMc M) pc = .ok (.bastore, 1)) (he : w[q]? = some (.inl (1, n, .inl f))) (hi : vp_in i n) (hw' : w.set q (.inl (1, n, .inl (upd f i.toNatClampNeg (x &&& 1)))) = w') (kk : EvF M Qf (pc + 1) L st kc ks w') : EvF M Qf pc L (.int x :: .int i :: .ref q :: st) kc ks w := by
  intro z b G cA p l e s m args below meth c H locs ls C hw hL
  refine va_zast C.1 C.2.1 C.2.2.2.2.2.2.2.2.2.1 hw.1 mR_D hw.2 q 1 (mR_get he) rfl hi d (fun H1 locs1 hP hD hS => ?_)
  refine kk z b G cA p l e s m args below meth c H1 locs1 ls C ⟨?_, hS⟩ hL
  rw [← hw', ← mR_set]
  exact hP
theorem ev_last {q n : Nat} {f : Nat → Int64} {i : Int32} {x : Int64} {w' : mW} (d : decode (mMc M) pc = .ok (.lastore, 1)) (he : w[q]? = some (.inl (2, n, .inr (.inl f)))) (hi : vp_in i n) (hw' : w.set q (.inl (2, n, .inr (.inl (vp_updL f i.toNatClampNeg x)))) = w') (kk : EvF M Qf (pc + 1) L st kc ks w') : EvF M Qf pc L (.long x :: .int i :: .ref q :: st) kc ks w := by
  intro z b G cA p l e s m args below meth c H locs ls C hw hL
  refine va_last C.1 C.2.1 C.2.2.2.2.2.2.2.2.2.1 hw.1 mR_D hw.2 q 2 (mR_get he) rfl hi d (fun H1 locs1 hP hD hS => ?_)
  refine kk z b G cA p l e s m args below meth c H1 locs1 ls C ⟨?_, hS⟩ hL
  rw [← hw', ← mR_set]
  exact hP
theorem ev_aast {q n v : Nat} {f : Nat → Option Nat} {fs : List Value} {i : Int32} {w' : mW} (d : decode (mMc M) pc = .ok (.aastore, 1)) (he : w[q]? = some (.inl (3, n, .inr (.inr f)))) (hi : vp_in i n) (hv : w[v]? = some (.inr (1, fs))) (hw' : w.set q (.inl (3, n, .inr (.inr (va_up f i.toNatClampNeg (some v))))) = w') (kk : EvF M Qf (pc + 1) L st kc ks w') : EvF M Qf pc L (.ref v :: .int i :: .ref q :: st) kc ks w := by
  intro z b G cA p l e s m args below meth c H locs ls C hw hL
  refine va_astq C.1 C.2.1 C.2.2.2.2.2.2.2.2.2.1 hw.1 mR_D hw.2 q 3 (z + v |> fun _ => v) 1 (mR_get he) (r := (RX1, TX1, 4)) rfl (mR_get hv) rfl hi d (fun H1 locs1 hP hD hS => ?_)
  refine kk z b G cA p l e s m args below meth c H1 locs1 ls C ⟨?_, hS⟩ hL
  rw [← hw', ← mR_set]
  have e1 : mE z b cA (.inl (3, n, .inr (.inr (va_up f i.toNatClampNeg (some v))))) = .inl (cA 3, n, .inr (.inr (.inr (.inr (va_up (fun k => (f k).map (fun a => z + a)) i.toNatClampNeg (some (z + v))))))) := by
    show Sum.inl _ = Sum.inl _
    congr 7
    funext k
    by_cases hk : k = i.toNatClampNeg
    · simp [va_up, hk]
    · simp [va_up, hk]
  rw [e1]
  exact hP
theorem ev_alen {q n t : Nat} {a : (Nat → Int32) ⊕ ((Nat → Int64) ⊕ (Nat → Option Nat))} (d : decode (mMc M) pc = .ok (.arraylength, 1)) (he : w[q]? = some (.inl (t, n, a))) (ht : t < 4) (kk : EvF M Qf (pc + 1) L (.int (Int32.ofNat n) :: st) kc ks w) : EvF M Qf pc L (.ref q :: st) kc ks w := by
  intro z b G cA p l e s m args below meth c H locs ls C hw hL
  have k9 := kk z b G cA p l e s m args below meth c H locs ls C hw hL
  obtain ⟨ty, hty⟩ : ∃ ty, (mT cA)[t]? = some (cA t, ty) := by
    match t, ht with
    | 0, _ => exact ⟨_, rfl⟩
    | 1, _ => exact ⟨_, rfl⟩
    | 2, _ => exact ⟨_, rfl⟩
    | 3, _ => exact ⟨_, rfl⟩
  match a, he with
  | .inl f, he => exact va_alen C.1 C.2.1 C.2.2.2.2.2.2.2.2.2.1 hw.1 q t (mR_get he) hty rfl d k9
  | .inr (.inl f), he => exact va_alen C.1 C.2.1 C.2.2.2.2.2.2.2.2.2.1 hw.1 q t (mR_get he) hty rfl d k9
  | .inr (.inr f), he => exact va_alen C.1 C.2.1 C.2.2.2.2.2.2.2.2.2.1 hw.1 q t (mR_get he) hty rfl d k9
/-- the script -/
theorem ev_sld {Ls : Nat} {xs : Nat → Int32} {i : Int32} (d : decode (mMc M) pc = .ok (.iaload, 1)) (hs : mMs M = some (Ls, xs)) (hi : vp_in i Ls) (kk : EvF M Qf (pc + 1) L (.int (xs i.toNatClampNeg) :: st) kc ks w) : EvF M Qf pc L (.int i :: scr1 :: st) kc ks w := by
  intro z b G cA p l e s m args below meth c H locs ls C hw hL
  obtain ⟨h1, h2, h3, -⟩ := C.2.2.2.2.2.2.2.2.2.2.2.2.2.2.2.2 Ls xs hs
  exact va_sld C.1 C.2.1 h1 h2 (A := fun q => z ≤ q) (Nat.not_le.mpr h3) hw.2 hi d (kk z b G cA p l e s m args below meth c H locs ls C hw hL)
theorem ev_slen {Ls : Nat} {xs : Nat → Int32} (d : decode (mMc M) pc = .ok (.arraylength, 1)) (hs : mMs M = some (Ls, xs)) (kk : EvF M Qf (pc + 1) L (.int (Int32.ofNat Ls) :: st) kc ks w) : EvF M Qf pc L (scr1 :: st) kc ks w := by
  intro z b G cA p l e s m args below meth c H locs ls C hw hL
  obtain ⟨h1, h2, h3, -⟩ := C.2.2.2.2.2.2.2.2.2.2.2.2.2.2.2.2 Ls xs hs
  exact va_slen C.1 C.2.1 h1 h2 (A := fun q => z ≤ q) (Nat.not_le.mpr h3) hw.2 d (kk z b G cA p l e s m args below meth c H locs ls C hw hL)
theorem ev_widen {k2 s2 : Nat} (h1 : kc ≤ k2) (h2 : ks ≤ s2) (kk : EvF M Qf pc L st k2 s2 w) : EvF M Qf pc L st kc ks w :=
  fun z b G cA p l e s m args below meth c H locs ls C hw hL => W.widen h1 h2 (kk z b G cA p l e s m args below meth c H locs ls C hw hL)
end HE
end
section
/-! RULES of new cells; contracts; calls; ends -/
section NW
variable {M : mM} {Qf : mQ} {pc : Nat} {L st : List Value} {kc ks : Nat} {w : mW}
/-- the new cell's address: the next one -/
theorem mR_next {z b : Nat} {cA : Nat → ClassId} {w : List mC} {q N : Nat} {e : va_E} (hD : va_D (fun q => z ≤ q) (mR z b cA w ++ [(q, e)])) (hq : q < N) (hN : N ≤ z + w.length + 1) : q = z + w.length := by
  have hA : z ≤ q := by
    have h1 := hD.2 (mR z b cA w).length (q, e) (by rw [List.getElem?_append_right (Nat.le_refl _), Nat.sub_self]; rfl)
    exact h1
  rcases Nat.lt_or_ge q (z + w.length) with h | h
  · exfalso
    have hl : q - z < w.length := by omega
    have h2 : (mR z b cA w ++ [(q, e)])[q - z]? = some (z + (q - z), mE z b cA w[q - z]) := by
      rw [List.getElem?_append_left (by rw [mR_len]; exact hl)]
      exact mR_get (List.getElem?_eq_getElem hl)
    have h3 := hD.1 (q - z) (mR z b cA w).length _ (q, e) h2 (by rw [List.getElem?_append_right (Nat.le_refl _), Nat.sub_self]; rfl) (show z + (q - z) = q by omega)
    rw [mR_len] at h3
    omega
  · omega
theorem ev_new {idx ci N n0 : Nat} {Cn : String} {T : u_T} {ty : Nat → FieldType} {fs : List Value} (d : decode (mMc M) pc = .ok (.new idx, 3)) (hc : vwCl[ci]? = some (Cn, T, N)) (hin : ∀ x ∈ u_ws Cn T N, x ∈ WA) (hty : ∀ k, k < N → parseFieldDescriptor (T k).2.2.1 = some (ty k))
    (h1 : Jvm.Cond.classLink (mMy M).cls idx Cn ∈ WA) (h2 : Jvm.Cond.instantiable Cn N ∈ WA) (h3 : Jvm.Cond.initialized Cn ∈ WA) (hfs : ∀ j, j < N → defaultValue (ty j) = vp_V fs j) (hfr : ∀ z b, fs.map (mV z b) = fs) (hz : mMz M = some n0) (hn : w.length = n0 + kc) (hR : kc + 1 ≤ (mMR M).cells ∧ ks + N ≤ (mMR M).slots)
    (kk : EvF M Qf (pc + 3) L (.ref w.length :: st) (kc + 1) (ks + N) (w ++ [.inr (ci, fs)])) : EvF M Qf pc L st kc ks w := by
  intro z b G cA p l e s m args below meth c H locs ls C hw hL
  refine va_new C.1 C.2.1 (Ts := WA) C.2.2.2.2.2.1 hin ty hty C.2.2.2.2.1 (C.2.2.2.2.2.1 _ h1) (C.2.2.2.2.2.1 _ h2) (C.2.2.2.2.2.1 _ h3) C.2.2.2.2.2.2.2.2.2.1 hw.1 mR_D hw.2 (fun q hq => Nat.le_trans C.2.2.2.2.2.2.2.2.2.2.2.2.2.2.1 hq) hc hfs hR.1 hR.2 d (fun q H1 hP hD hS => ?_)
  intro U hU X
  have hsz := X.same.2.2.1
  have hs0 := C.2.2.2.2.2.2.2.2.2.2.2.2.2.2.2.1 n0 hz
  have hU1 : (U.setVm s.vm).heap.size = H1.size := by rw [← hU]; rfl
  rw [hU1, hs0] at hsz
  have hq : q < H1.size := (hP (mR z b cA w).length _ (by rw [List.getElem?_append_right (Nat.le_refl _), Nat.sub_self]; rfl)).lt
  have e1 := mR_next hD hq (by omega)
  subst e1
  refine kk z b G cA p l e s m args below meth c H1 locs ls C ⟨?_, hS⟩ hL U hU X
  rw [mR_app]
  show va_P G vwCl (mR z b cA w ++ [(z + w.length, Sum.inr (ci, fs.map (mV z b)))]) H1
  rw [hfr]
  exact hP
/-- an array of numbers: its kind t in mT, its type -/
theorem ev_newa {atype : ArrayType} {t N n0 : Nat} {ty : FieldType} {v : Int32} {e0 : mC} {a0 : vp_A} (d : decode (mMc M) pc = .ok (.newarray atype, 2)) (hty : newarray.typeOf atype = ty) (hw1 : Jvm.Cond.arrayClass ty ∈ WA) (ht : ∀ cA, (mT cA)[t]? = some (cA t, ty)) (hne : ∀ Cn, ty ≠ .object Cn) (ha : ∀ cA : ClassId, vp_cell cA a0 = arrV cA N (fun _ => defaultValue ty)) (he : ∀ z b cA, mE z b cA e0 = .inl (cA t, a0))
    (hv : ¬ v < 0) (hN : v.toNatClampNeg = N) (hby : N * componentBytes ty ≤ 536870912) (hz : mMz M = some n0) (hn : w.length = n0 + kc) (hR : kc + 1 ≤ (mMR M).cells ∧ ks + N ≤ (mMR M).slots)
    (kk : EvF M Qf (pc + 2) L (.ref w.length :: st) (kc + 1) (ks + N) (w ++ [e0])) : EvF M Qf pc L (.int v :: st) kc ks w := by
  intro z b G cA p l e s m args below meth c H locs ls C hw hL
  refine va_newa C.1 C.2.1 (by rw [hty]; exact C.2.2.2.2.2.1 _ hw1) hty C.2.2.2.2.2.2.2.2.2.1 hw.1 mR_D hw.2 (fun q hq => Nat.le_trans C.2.2.2.2.2.2.2.2.2.2.2.2.2.2.1 hq) ha hv hN hby hR.1 hR.2 d (fun q cA1 H1 hK hP hD hS => ?_)
  have hc1 : cA1 = cA t := by
    have f1 := (hK.2 (mT cA).length (cA1, ty) (by rw [List.getElem?_append_right (Nat.le_refl _), Nat.sub_self]; rfl)).2
    have f2 := (C.2.2.2.2.2.2.2.2.2.1.2 t _ (ht cA)).2
    cases ty with
    | object Cn => exact absurd rfl (hne Cn)
    | _ => exact Option.some.inj (f1.symm.trans f2)
  subst hc1
  intro U hU X
  have hsz := X.same.2.2.1
  have hs0 := C.2.2.2.2.2.2.2.2.2.2.2.2.2.2.2.1 n0 hz
  have hU1 : (U.setVm s.vm).heap.size = H1.size := by rw [← hU]; rfl
  rw [hU1, hs0] at hsz
  have hq : q < H1.size := (hP (mR z b cA w).length _ (by rw [List.getElem?_append_right (Nat.le_refl _), Nat.sub_self]; rfl)).lt
  have e1 := mR_next hD hq (by omega)
  subst e1
  refine kk z b G cA p l e s m args below meth c H1 locs ls C ⟨?_, hS⟩ hL U hU X
  rw [mR_app, he]
  exact hP
theorem ev_newq {idx N n0 : Nat} {v : Int32} (d : decode (mMc M) pc = .ok (.anewarray idx, 3)) (h1 : Jvm.Cond.classLink (mMy M).cls idx "Copperleaf$State" ∈ WA)
    (hv : ¬ v < 0) (hN : v.toNatClampNeg = N) (hby : N * 4 ≤ 536870912) (hz : mMz M = some n0) (hn : w.length = n0 + kc) (hR : kc + 1 ≤ (mMR M).cells ∧ ks + N ≤ (mMR M).slots)
    (kk : EvF M Qf (pc + 3) L (.ref w.length :: st) (kc + 1) (ks + N) (w ++ [.inl (3, N, .inr (.inr (fun _ => none)))])) : EvF M Qf pc L (.int v :: st) kc ks w := by
  intro z b G cA p l e s m args below meth c H locs ls C hw hL
  refine va_newq C.1 C.2.1 C.2.2.2.2.1 (C.2.2.2.2.2.1 _ h1) C.2.2.2.2.2.2.2.2.2.2.1.2.2.2.2.1 C.2.2.2.2.2.2.2.2.2.1 hw.1 mR_D hw.2 (fun q hq => Nat.le_trans C.2.2.2.2.2.2.2.2.2.2.2.2.2.2.1 hq) hv hN hby hR.1 hR.2 d (fun q cA1 H1 hK hP hD hS => ?_)
  have hc1 : cA1 = cA 3 := by
    have f1 := (hK.2 (mT cA).length (cA1, .object "Copperleaf$State") (by rw [List.getElem?_append_right (Nat.le_refl _), Nat.sub_self]; rfl)).2
    have f2 := (C.2.2.2.2.2.2.2.2.2.1.2 3 _ rfl).2
    obtain ⟨-, -, -, -, -, g1⟩ := f1
    obtain ⟨-, -, -, -, -, g2⟩ := f2
    exact Option.some.inj (g1.symm.trans g2)
  subst hc1
  intro U hU X
  have hsz := X.same.2.2.1
  have hs0 := C.2.2.2.2.2.2.2.2.2.2.2.2.2.2.2.1 n0 hz
  have hU1 : (U.setVm s.vm).heap.size = H1.size := by rw [← hU]; rfl
  rw [hU1, hs0] at hsz
  have hq : q < H1.size := (hP (mR z b cA w).length _ (by rw [List.getElem?_append_right (Nat.le_refl _), Nat.sub_self]; rfl)).lt
  have e1 := mR_next hD hq (by omega)
  subst e1
  refine kk z b G cA p l e s m args below meth c H1 locs ls C ⟨?_, hS⟩ hL U hU X
  rw [mR_app]
  exact hP
end NW
/-! CONTRACTS -/
def mB (M : mM) (z b : Nat) (G : va_G) (cA : Nat → ClassId) (w : mW) (U : State) : Prop := va_P G vwCl (mR z b cA w) U.heap ∧ va_K G vwCl (mT cA) U ∧ mXF U ∧ mZ1 z U U.heap ∧ mZ2 z U U.heap ∧ z ≤ U.heap.size ∧ ∀ n0 : Nat, mMz M = some n0 → U.heap.size = z + n0
abbrev mPc (M : mM) (z b : Nat) (G : va_G) (cA : Nat → ClassId) (As : List Value) (w : mW) : Array Value → State → Prop := va_Pc (As.map (mV z b)) (mB M z b G cA w)
def mQr (z b : Nat) (G : va_G) (cA : Nat → ClassId) (res : Option Value ⊕ String) (w' : mW) : Array Value → State → Outcome → State → Prop := fun _ st o t => match res with
  | .inl v => o = .returned (v.map (mV z b)) ∧ va_P G vwCl (mR z b cA w') t.heap ∧ va_F (fun q => z ≤ q) st t
  | .inr _ => False
def mXr (z b : Nat) (G : va_G) (cA : Nat → ClassId) (res : Option Value ⊕ String) (w' : mW) : String → State → State → Prop := fun E st t => match res with
  | .inl _ => False
  | .inr E' => E = E' ∧ va_P G vwCl (mR z b cA w') t.heap ∧ va_F (fun q => z ≤ q) st t
def mHd (M : mM) : Jvm.Cond := match mMh M with
  | [] => .code (mMy M) (mMc M) (mMn M) (mMr M)
  | h :: hh => .codeWith (mMy M) (mMc M) (mMn M) (mMr M) (h :: hh)
abbrev mWs (M : mM) : List Jvm.Cond := mHd M :: WA
/-- THE CONTRACT: called with As in the world w the method ends with res in the world w' -/
def EvS (M : mM) (As : List Value) (w : mW) (res : Option Value ⊕ String) (w' : mW) : Prop :=
  ∀ (l : Launch) (z b : Nat) (G : va_G) (cA : Nat → ClassId), l.stackTraces = false → vx_Met l (mMy M) (mWs M) (mMR M) (mPc M z b G cA As w) (mQr z b G cA res w') (mXr z b G cA res w') (mMR M).cells (mMR M).slots (fun q => z ≤ q)
/-- a method's own end -/
def mQm (M : mM) (res : Option Value ⊕ String) (w' : mW) : mQ := fun z b G cA below args s => vx_MQ below (mQr z b G cA res w') (mXr z b G cA res w') args s (mMR M).cells (mMR M).slots (fun q => z ≤ q)
def mPad : List Value → List Value
  | [] => []
  | v :: vs => if v.category = 2 then v :: hole :: mPad vs else v :: mPad vs
theorem mPad_at {z b : Nat} : ∀ (As : List Value) (i : Nat) (v : Value), (mPad As)[i]? = some v → v ≠ hole → (lg_sl (As.map (mV z b)))[i]? = some (.val (mV z b v))
  | [], i, v, h, _ => by simp [mPad] at h
  | a :: As, i, v, h, hv => by
    have ih := mPad_at (z := z) (b := b) As
    unfold mPad at h
    simp only [List.map_cons, lg_sl, List.flatMap_cons, mV_cat]
    by_cases hc : a.category = 2
    · simp only [if_pos hc] at h ⊢
      match i, h with
      | 0, h => simp at h; rw [← h]; rfl
      | 1, h => simp at h; exact absurd h.symm hv
      | i + 2, h =>
        have h2 : (mPad As)[i]? = some v := by simpa using h
        have h3 := ih i v h2 hv
        simpa [lg_sl] using h3
    · simp only [if_neg hc] at h ⊢
      match i, h with
      | 0, h => simp at h; rw [← h]; rfl
      | i + 1, h =>
        have h2 : (mPad As)[i]? = some v := by simpa using h
        have h3 := ih i v h2 hv
        simpa [lg_sl] using h3
theorem mPad_len {z b : Nat} : ∀ (As : List Value), (lg_sl (As.map (mV z b))).length = (mPad As).length
  | [] => rfl
  | a :: As => by
    have ih := mPad_len (z := z) (b := b) As
    simp only [List.map_cons, lg_sl, List.flatMap_cons, mV_cat, mPad] at ih ⊢
    by_cases hc : a.category = 2
    · simp [if_pos hc, ih]
    · simp [if_neg hc, ih]
/-- the locals at the entry -/
abbrev mEn (M : mM) (As : List Value) : List Value := mPad As ++ List.replicate (mMn M - (mPad As).length) hole
theorem evs_of {M : mM} {As L0 : List Value} {w w' : mW} {res : Option Value ⊕ String} (hy : plainName (mMy M).cls = true) (hn : (mPad As).length ≤ mMn M) (hi : mMi M = true → (mMy M).name = "<init>") (hs : mMs M = none) (hL0 : mEn M As = L0) (k : EvF M (mQm M res w') 0 L0 [] 0 0 w) : EvS M As w res w' := by
  intro l z b G cA hl
  have body : ∀ p e s m args below meth c s₁, BodyLoose p l (mMy M) (headSpec (mWs M) (mMR M)) (mMc M) (mMn M) (mMr M) e s m args below meth c s₁ → c.maxLocals = mMn M → c.exceptionTable.toList = tableOf (mMh M) → mPc M z b G cA As w args s →
      W p l e (headSpec (mWs M) (mMR M)).room s m args below meth c s.heap [] 0 0 (vx_MQ below (mQr z b G cA res w') (mXr z b G cA res w') args s (mMR M).cells (mMR M).slots (fun q => z ≤ q)) (entryFrame m args (mMn M)) := by
    intro p e s m args below meth c s₁ B hml htab hP
    obtain ⟨rfl, hP, hK, hXF, hZ1, hZ2, hz, hn0⟩ := hP
    have hts := atoms_spec (ws := mWs M) B.pre
    have hent := lv_entry (As.map (mV z b)) (n := mMn M) (by rw [mPad_len]; exact hn)
    rw [lg_entry_eq]
    refine k z b G cA p l e s m _ below meth c s.heap [] _ ⟨B.exec, B.bytes, hml, B.returns, findClass_of_methodNamed B.named, fun x hx => hts x (List.mem_cons_of_mem _ hx), B.notSynchronized, htab, fun q => (name_of_methodNamed B.named B.method).1.trans (hi q), hK, hXF, hl, hZ1, hZ2, hz, hn0, fun Ls xs q => by rw [hs] at q; cases q⟩ ⟨hP, va_S.rf⟩ ?_
    refine ⟨hent.1, ?_, hent.2.1, fun i v hi hv => ?_⟩
    · rw [← hL0]
      simp only [List.length_append, List.length_replicate]
      omega
    · rw [← hL0] at hi
      by_cases hl2 : i < (mPad As).length
      · rw [List.getElem?_append_left hl2] at hi
        have h5 := mPad_at (z := z) (b := b) As i v hi hv
        rw [List.getElem?_toArray, List.getElem?_append_left (by rw [mPad_len]; exact hl2)]
        exact h5
      · rw [List.getElem?_append_right (by omega)] at hi
        exact absurd (List.eq_of_mem_replicate (List.mem_of_getElem? hi)) hv
  cases hh : mMh M with
  | nil =>
    refine vx_ofW (cc := mMc M) (maxL := mMn M) (ret := mMr M) hy (ws' := WA) (by unfold mWs mHd; rw [hh]) ?_
    intro p e s m args below meth c s₁ B hml ht hP
    refine body p e s m args below meth c s₁ B hml ?_ hP
    rw [hh]
    cases htl : c.exceptionTable.toList with
    | nil => rfl
    | cons x xs => exact absurd (ht x (by rw [htl]; exact List.mem_cons_self)) id
  | cons h hs2 =>
    refine vx_ofWH (cc := mMc M) (maxL := mMn M) (ret := mMr M) (hh := h :: hs2) hy (ws' := WA) (by unfold mWs mHd; rw [hh]) ?_
    intro p e s m args below meth c s₁ B hml hP
    refine body p e s m args below meth c s₁ B hml ?_ hP
    rw [hh]
    refine vx_table (x := mMy M) B (bytes := mMc M) (maxL' := mMn M) (ret' := mMr M) ?_
    have hts := atoms_spec (ws := mWs M) B.pre
    have h1 := hts (mHd M) List.mem_cons_self
    unfold mHd at h1
    rw [hh] at h1
    exact h1
end
section
/-! ENDS: returns, calls, throws, catches -/
section EN
variable {M : mM} {Qf : mQ} {pc : Nat} {L st : List Value} {kc ks : Nat} {w : mW}
theorem ev_vret (d : decode (mMc M) pc = .ok (.return_, 1)) (hr : mMr M = none) (hk : kc ≤ (mMR M).cells) (hs : ks ≤ (mMR M).slots) : EvF M (mQm M (.inl none) w) pc L [] kc ks w :=
  fun z b G cA p l e s m args below meth c H locs ls C hw hL => by
    have hlocks := C.2.2.2.2.2.2.1
    exact W.widen hk hs (vx_ret (W.vret C.1 C.2.1 (C.2.2.2.1.trans hr) (fun t ht hW => ⟨rfl, by rw [ht]; exact hw.1, hw.2.F ht⟩) hw.2.2.2 d))
theorem ev_iret {v : Int32} (d : decode (mMc M) pc = .ok (.ireturn, 1)) (hr : mMr M = some .int) (hk : kc ≤ (mMR M).cells) (hs : ks ≤ (mMR M).slots) : EvF M (mQm M (.inl (some (.int v))) w) pc L [.int v] kc ks w :=
  fun z b G cA p l e s m args below meth c H locs ls C hw hL => by
    have hlocks := C.2.2.2.2.2.2.1
    exact W.widen hk hs (vx_ret (W.iret C.1 C.2.1 (C.2.2.2.1.trans hr) (fun t ht hW => ⟨rfl, by rw [ht]; exact hw.1, hw.2.F ht⟩) hw.2.2.2 d))
theorem ev_zret {v : Int32} (d : decode (mMc M) pc = .ok (.ireturn, 1)) (hr : mMr M = some .boolean) (hv : v &&& 1 = v) (hk : kc ≤ (mMR M).cells) (hs : ks ≤ (mMR M).slots) : EvF M (mQm M (.inl (some (.int v))) w) pc L [.int v] kc ks w :=
  fun z b G cA p l e s m args below meth c H locs ls C hw hL => by
    have hlocks := C.2.2.2.2.2.2.1
    exact W.widen hk hs (vx_ret (W.zret (ty := .boolean) C.1 C.2.1 (C.2.2.2.1.trans hr) (by show Value.int (v &&& 1) = .int v; rw [hv]) (fun t ht hW => ⟨rfl, by rw [ht]; exact hw.1, hw.2.F ht⟩) hw.2.2.2 d))
theorem ev_lret {v : Int64} (d : decode (mMc M) pc = .ok (.lreturn, 1)) (hr : mMr M = some .long) (hk : kc ≤ (mMR M).cells) (hs : ks ≤ (mMR M).slots) : EvF M (mQm M (.inl (some (.long v))) w) pc L [.long v] kc ks w :=
  fun z b G cA p l e s m args below meth c H locs ls C hw hL => by
    have hlocks := C.2.2.2.2.2.2.1
    exact W.widen hk hs (vx_ret (W.lret C.1 C.2.1 (C.2.2.2.1.trans hr) (fun t ht hW => ⟨rfl, by rw [ht]; exact hw.1, hw.2.F ht⟩) hw.2.2.2 d))
theorem ev_aret {a : Nat} {Cn : String} (d : decode (mMc M) pc = .ok (.areturn, 1)) (hr : mMr M = some (.object Cn)) (hk : kc ≤ (mMR M).cells) (hs : ks ≤ (mMR M).slots) : EvF M (mQm M (.inl (some (.ref a))) w) pc L [.ref a] kc ks w :=
  fun z b G cA p l e s m args below meth c H locs ls C hw hL => by
    have hlocks := C.2.2.2.2.2.2.1
    exact W.widen hk hs (vx_ret (W.aret C.1 C.2.1 (C.2.2.2.1.trans hr) (Or.inl ⟨Cn, rfl⟩) (Or.inr ⟨z + a, rfl⟩) (fun t ht hW => ⟨rfl, by rw [ht]; exact hw.1, hw.2.F ht⟩) hw.2.2.2 d))
/-- Object.<init> -/
theorem ev_objInit {idx a : Nat} (d : decode (mMc M) pc = .ok (.invokespecial idx, 3)) (h1 : Jvm.Cond.methodLink (mMy M).cls idx objectInit ∈ WA) (h2 : Jvm.Cond.instanceMethod objectInit ∈ WA) (h3 : Jvm.Cond.code objectInit ⟨#[0xb1]⟩ 1 none ∈ WA) (hf : 1 ≤ (mMR M).frames) (hlo : (st.map fun v => v.category).sum + 12 ≤ (mMR M).locals) (k : EvF M Qf (pc + 3) L st kc ks w) : EvF M Qf pc L (.ref a :: st) kc ks w :=
  fun z b G cA p l e s m args below meth c H locs ls C hw hL => by
    refine W.objInit C.1 C.2.1 C.2.2.2.2.1 (C.2.2.2.2.2.1 _ h1) (C.2.2.2.2.2.1 _ h2) (C.2.2.2.2.2.1 _ h3) rfl (hL.1.trans C.2.2.1.symm) rfl d hf ?_ (k z b G cA p l e s m args below meth c H locs ls C hw hL)
    show 2 * 0 + _ + 12 ≤ _
    rw [mV_sum]
    omega
/-! calls: the tables' words -/
def mCv (own : String) (idx : Nat) (y : MethodName) (na : Nat) : Prop := Jvm.Cond.methodLink own idx y ∈ WA ∧ Jvm.Cond.instanceMethod y ∈ WA ∧ Jvm.Cond.selects y.cls y y ∈ WA ∧ Jvm.Cond.initialized y.cls ∈ WA ∧ y.cls ≠ "java/lang/invoke/MethodHandle" ∧ y.cls ≠ "java/lang/invoke/VarHandle" ∧ (parseMethodDescriptor y.desc).map (fun d => d.parameters.length) = some na
def mCs (own : String) (idx : Nat) (y : MethodName) (na : Nat) : Prop := Jvm.Cond.methodLink own idx y ∈ WA ∧ Jvm.Cond.static y ∈ WA ∧ Jvm.Cond.initialized y.cls ∈ WA ∧ y.cls ≠ "java/lang/invoke/MethodHandle" ∧ y.cls ≠ "java/lang/invoke/VarHandle" ∧ (parseMethodDescriptor y.desc).map (fun d => d.parameters.length) = some na
def mCi (own : String) (idx : Nat) (y : MethodName) (na : Nat) : Prop := Jvm.Cond.methodLink own idx y ∈ WA ∧ Jvm.Cond.instanceMethod y ∈ WA ∧ Jvm.Cond.initialized y.cls ∈ WA ∧ y.cls ≠ "java/lang/invoke/MethodHandle" ∧ y.cls ≠ "java/lang/invoke/VarHandle" ∧ (parseMethodDescriptor y.desc).map (fun d => d.parameters.length) = some na ∧ y.name = "<init>"
/-- the callee's own words: its code is among the tables' -/
abbrev mOk (K : mM) : Prop := mHd K ∈ WA
/-- the callee's room fits in the caller's -/
abbrev mFit (M K : mM) : Prop := (mMR K).frames + 1 ≤ (mMR M).frames ∧ 8 + (mMn K + 11) + (mMR K).locals ≤ (mMR M).locals
theorem wa_ws {K : mM} (hk : mOk K) : GoodIn WA (mWs K) := fun x hx => by
  rcases List.mem_cons.mp hx with h | h
  · rw [h]; exact ⟨hk, good_of_word (wa_good hk)⟩
  · exact ⟨h, good_of_word (wa_good h)⟩
theorem mB_blind {K : mM} {z b : Nat} {G : va_G} {cA : Nat → ClassId} {As : List Value} {w : mW} : FrameBlind (mPc K z b G cA As w) := fun a U g mk h => by
  obtain ⟨h0, hP, hK, hX, h1, h2, h3, h4⟩ := h
  exact ⟨h0, hP, va_K.moved (u := U) (U := U.calling g mk a) (Vm.Alike.refl U.vm) hK, mXF.warm (s := U) (U := U.calling g mk a) (State.WarmedH.refl U) hX, vx_Zq.moved (u := U) (U := U.calling g mk a) (Vm.Alike.refl U.vm) h1, vx_Zq.moved (u := U) (U := U.calling g mk a) (Vm.Alike.refl U.vm) h2, h3, h4⟩
theorem mB_at {M K : mM} {z b : Nat} {G : va_G} {cA : Nat → ClassId} {p : Program} {l : Launch} {s : State} {m : MethodId} {args : Array Value} {meth : Method} {c : Code} {H : Heap} {locs : List Loc} {w : mW} (C : mCX M z b G cA p l s m args meth c) (hw : mWR z b G cA w s H locs) (hn : ∀ n0 : Nat, mMz K = some n0 → H.size = z + n0) :
    ∀ U : State, U.heap = H → s.WarmedH U.vm → mB K z b G cA w U := fun U hU hW =>
  ⟨by rw [hU]; exact hw.1, va_K.moved hW.alike C.2.2.2.2.2.2.2.2.2.1, mXF.warm hW C.2.2.2.2.2.2.2.2.2.2.1, vx_Zq.moved hW.alike (by rw [hU]; exact C.2.2.2.2.2.2.2.2.2.2.2.2.1.kept hw.2.2.1), vx_Zq.moved hW.alike (by rw [hU]; exact C.2.2.2.2.2.2.2.2.2.2.2.2.2.1.kept hw.2.2.1), by rw [hU]; exact Nat.le_trans C.2.2.2.2.2.2.2.2.2.2.2.2.2.2.1 hw.2.1, fun n0 h => by rw [hU]; exact hn n0 h⟩
section RunEnds
variable {p : Program} {l : Launch} {e : Env} {R : Room} {s : State} {m : MethodId} {args : Array Value} {below : List Frame} {meth : Method} {c : Code} {H : Heap} {locs : List Loc} {Q : State → Prop} {z b : Nat} {G : va_G} {cA : Nat → ClassId} {ls : Array Slot} {st0 rest : List Value} {mc ms : Nat} {a : Array Value} {w1 : mW}
theorem run_keep {st₀ t T' : State} {Lc : List Loc} (h0 : st₀.heap = H) (e1 : T'.heap = t.heap) (hS : va_S (fun q => z ≤ q) s.heap H locs) (hL : ∀ q ∈ Lc, z ≤ q.base) (hF : va_F (fun q => z ≤ q) st₀ t) : va_S (fun q => z ≤ q) s.heap T'.heap (locs ++ Lc) :=
  (vx_keep (A1 := fun q => z ≤ q) (free := fun q => z ≤ q) h0 e1 hS (fun _ _ h => h) (fun _ h => h) hL hF).2.2
theorem run_ret {v : Option Value} (hr : vx_Run p l e R s m args below meth c H locs kc ks mc ms (F0 m pc ls st0) rest (mQr z b G cA (.inl v) w1 a) (mXr z b G cA (.inl v) w1) (fun q => z ≤ q)) (hw : mWR z b G cA w s H locs)
    (kk : ∀ (H1 : Heap) (locs1 : List Loc), mWR z b G cA w1 s H1 locs1 → W p l e R s m args below meth c H1 locs1 (kc + mc) (ks + ms) Q (F0 m (pc + 3) ls ((v.map (mV z b)).toList ++ rest))) : W p l e R s m args below meth c H locs kc ks Q (F0 m pc ls st0) := by
  intro T hT X
  rcases hr T hT X with ⟨v', st₀, t, T', Lc, h0, X', hL, e1, e2, ⟨hv, hp, hF⟩, go⟩ | ⟨q, st₀, t, T', Lc, E, ce, h0, X', hL, e1, e2, hx, -⟩
  · cases hv
    obtain ⟨t2, a1, b1⟩ := kk T'.heap (locs ++ Lc) ⟨by rw [e1]; exact hp, run_keep h0 e1 hw.2 hL hF⟩ T' rfl X'
    exact ⟨t2, go t2 a1, b1⟩
  · exact absurd hx id
theorem run_thr {E' : String} (hr : vx_Run p l e R s m args below meth c H locs kc ks mc ms (F0 m pc ls st0) rest (mQr z b G cA (.inr E') w1 a) (mXr z b G cA (.inr E') w1) (fun q => z ≤ q)) (hw : mWR z b G cA w s H locs)
    (kk : ∀ (H1 : Heap) (locs1 : List Loc) (ce : Cell) (q9 : Addr), mWR z b G cA w1 s H1 locs1 → H1[q9]? = some ce → ce.vm = .none → s.vm.findClass E' = some ce.cls → vx_W p l e R s m args below meth c H1 locs1 (kc + mc) (ks + ms) Q (F0 m pc ls rest) q9) : W p l e R s m args below meth c H locs kc ks Q (F0 m pc ls st0) := by
  intro T hT X
  rcases hr T hT X with ⟨v', st₀, t, T', Lc, h0, X', hL, e1, e2, hq, -⟩ | ⟨q, st₀, t, T', Lc, E, ce, h0, X', hL, e1, e2, ⟨hE, hp, hF⟩, hce, hcv, hcl, go⟩
  · exact absurd hq id
  · subst hE
    obtain ⟨t2, a1, b1⟩ := kk T'.heap (locs ++ Lc) ce q ⟨by rw [e1]; exact hp, run_keep h0 e1 hw.2 hL hF⟩ (by rw [e1]; exact hce) hcv hcl T' rfl X'
    exact ⟨t2, go.trans a1, b1⟩
end RunEnds
/-- the receiver lies in the world -/
theorem ev_recv {z b : Nat} {G : va_G} {cA : Nat → ClassId} {p : Program} {l : Launch} {s : State} {m : MethodId} {args : Array Value} {meth : Method} {c : Code} {H : Heap} {locs : List Loc} {q ci : Nat} {fs : List Value} {r : vw_C} (C : mCX M z b G cA p l s m args meth c) (hw : mWR z b G cA w s H locs) (he : w[q]? = some (.inr (ci, fs))) (hc : vwCl[ci]? = some r) : ∃ cell : Cell, H[z + q]? = some cell ∧ cell.vm.isStatics = false ∧ s.vm.findClass r.1 = some cell.cls :=
  va_recv C.2.2.2.2.2.2.2.2.2.1 hw.1 hc (mR_get he)
abbrev mRun (K : mM) (res : Option Value ⊕ String) (w1 : mW) (L : List Value) (rest : List Value) (kc ks : Nat) (M : mM) (pc : Nat) (w : mW) (stk : List Value) (aa : Nat → Nat → Array Value) : Prop :=
  ∀ (z b : Nat) (G : va_G) (cA : Nat → ClassId) (p : Program) (l : Launch) (e : Env) (s : State) (m : MethodId) (args : Array Value) (below : List Frame) (meth : Method) (c : Code) (H : Heap) (locs : List Loc) (ls : Array Slot),
    mCX M z b G cA p l s m args meth c → mWR z b G cA w s H locs → mLs z b (mMn M) ls L → vx_Run p l e (mMR M) s m args below meth c H locs kc ks (mMR K).cells (mMR K).slots (F0 m pc ls (stk.map (mV z b))) (rest.map (mV z b)) (mQr z b G cA res w1 (aa z b)) (mXr z b G cA res w1) (fun q => z ≤ q)
theorem mRunV {K : mM} {idx q ci na : Nat} {As rest : List Value} {res : Option Value ⊕ String} {w1 : mW} {fs : List Value} {r : vw_C} (d : decode (mMc M) pc = .ok (.invokevirtual idx, 3)) (hC : mCv (mMy M).cls idx (mMy K) na) (hO : mOk K) (hh : mMh K = []) (hz : mMz K = none) (hF : mFit M K) (he : w[q]? = some (.inr (ci, fs))) (hc : vwCl[ci]? = some r) (hrc : r.1 = (mMy K).cls) (hna : As.length = na) (hst : (rest.map fun v => v.category).sum ≤ 8) (hR : kc + (mMR K).cells ≤ (mMR M).cells ∧ ks + (mMR K).slots ≤ (mMR M).slots) (hS : EvS K (.ref q :: As) w res w1) :
    mRun K res w1 L rest kc ks M pc w (As.reverse ++ .ref q :: rest) (fun z b => (Value.ref (z + q) :: As.map (mV z b)).toArray) := by
  intro z b G cA p l e s m args below meth c H locs ls C hw hL
  obtain ⟨c1, c2, c3, c4, c5, c6, c7⟩ := hC
  have hts := C.2.2.2.2.2.1
  have hGd : GoodIn WA (wsV (mMy M).cls idx (mMy K).cls (mMy K) (mWs K)) := fun x hx => by
    rcases List.mem_append.mp hx with h | h
    · simp only [List.mem_cons, List.not_mem_nil, or_false] at h
      rcases h with h | h | h | h <;> rw [h]
      · exact ⟨c1, good_of_word (wa_good c1)⟩
      · exact ⟨c2, good_of_word (wa_good c2)⟩
      · exact ⟨c3, good_of_word (wa_good c3)⟩
      · exact ⟨c4, good_of_word (wa_good c4)⟩
    · exact wa_ws hO x h
  have hhd : mHd K = .code (mMy K) (mMc K) (mMn K) (mMr K) := by unfold mHd; rw [hh]
  have hrv := ev_recv C hw he hc
  rw [hrc] at hrv
  have h9 := vx_runV (As := As.map (mV z b)) (rest := rest.map (mV z b)) (g := F0 m pc ls ((As.reverse ++ .ref q :: rest).map (mV z b))) (cells := kc) (slots := ks) (locs := locs) (below := below) (meth := meth) (e := e) (R := mMR M) (bytes := mMc K) (maxL := mMn K) (ret := mMr K)
    (Ts := WA) ⟨C.1, C.2.1, C.2.2.1, C.2.2.2.2.1, hts⟩ (hS l z b G cA C.2.2.2.2.2.2.2.2.2.2.2.1) (cwV na hts hGd (by show mHd K :: WA = _; rw [hhd]) rfl rfl ⟨rfl, c5, c6, c7⟩ hF)
    (b := z + q) ⟨mB_blind, hrv, fun U hU hW => ⟨rfl, mB_at C hw (fun n0 h => by rw [hz] at h; cases h) U hU hW⟩⟩ rfl (by rw [List.length_map]; exact hna) hL.1 (by simp [List.map_append, List.map_reverse, mV]) (lv_room (by rw [mV_sum]; exact hst)) d hR
  exact h9
theorem mRunS {K : mM} {idx na : Nat} {As rest : List Value} {res : Option Value ⊕ String} {w1 : mW} (d : decode (mMc M) pc = .ok (.invokestatic idx, 3)) (hC : mCs (mMy M).cls idx (mMy K) na) (hO : mOk K) (hh : mMh K = []) (hz : mMz K = none) (hF : mFit M K) (hna : As.length = na) (hst : (rest.map fun v => v.category).sum ≤ 8) (hR : kc + (mMR K).cells ≤ (mMR M).cells ∧ ks + (mMR K).slots ≤ (mMR M).slots) (hS : EvS K As w res w1) :
    mRun K res w1 L rest kc ks M pc w (As.reverse ++ rest) (fun z b => (As.map (mV z b)).toArray) := by
  intro z b G cA p l e s m args below meth c H locs ls C hw hL
  obtain ⟨c1, c2, c4, c5, c6, c7⟩ := hC
  have hts := C.2.2.2.2.2.1
  have hGd : GoodIn WA (va_wsS (mMy M).cls idx (mMy K) (mWs K)) := fun x hx => by
    rcases List.mem_append.mp hx with h | h
    · simp only [List.mem_cons, List.not_mem_nil, or_false] at h
      rcases h with h | h | h <;> rw [h]
      · exact ⟨c1, good_of_word (wa_good c1)⟩
      · exact ⟨c2, good_of_word (wa_good c2)⟩
      · exact ⟨c4, good_of_word (wa_good c4)⟩
    · exact wa_ws hO x h
  have hhd : mHd K = .code (mMy K) (mMc K) (mMn K) (mMr K) := by unfold mHd; rw [hh]
  have h9 := vx_runS (As := As.map (mV z b)) (rest := rest.map (mV z b)) (g := F0 m pc ls ((As.reverse ++ rest).map (mV z b))) (cells := kc) (slots := ks) (locs := locs) (below := below) (meth := meth) (e := e) (R := mMR M) (bytes := mMc K) (maxL := mMn K) (ret := mMr K)
    (Ts := WA) ⟨C.1, C.2.1, C.2.2.1, C.2.2.2.2.1, hts⟩ (hS l z b G cA C.2.2.2.2.2.2.2.2.2.2.2.1) (va_cwS na hts hGd (by show mHd K :: WA = _; rw [hhd]) rfl rfl ⟨c5, c6, c7⟩ hF)
    ⟨mB_blind, fun U hU hW => ⟨rfl, mB_at C hw (fun n0 h => by rw [hz] at h; cases h) U hU hW⟩⟩ rfl (by rw [List.length_map]; exact hna) hL.1 (by simp [List.map_append, List.map_reverse]) (lv_room (by rw [mV_sum]; exact hst)) d hR
  exact h9
/-- a static method with handlers -/
theorem mRunSX {K : mM} {idx na : Nat} {As rest : List Value} {res : Option Value ⊕ String} {w1 : mW} {h0 : Nat × Nat × Nat × Nat} {hs0 : List (Nat × Nat × Nat × Nat)} (d : decode (mMc M) pc = .ok (.invokestatic idx, 3)) (hC : mCs (mMy M).cls idx (mMy K) na) (hO : mOk K) (hh : mMh K = h0 :: hs0) (hz : mMz K = none) (hF : mFit M K) (hna : As.length = na) (hst : (rest.map fun v => v.category).sum ≤ 8) (hR : kc + (mMR K).cells ≤ (mMR M).cells ∧ ks + (mMR K).slots ≤ (mMR M).slots) (hS : EvS K As w res w1) :
    mRun K res w1 L rest kc ks M pc w (As.reverse ++ rest) (fun z b => (As.map (mV z b)).toArray) := by
  intro z b G cA p l e s m args below meth c H locs ls C hw hL
  obtain ⟨c1, c2, c4, c5, c6, c7⟩ := hC
  have hts := C.2.2.2.2.2.1
  have hGd : GoodIn WA (va_wsS (mMy M).cls idx (mMy K) (mWs K)) := fun x hx => by
    rcases List.mem_append.mp hx with h | h
    · simp only [List.mem_cons, List.not_mem_nil, or_false] at h
      rcases h with h | h | h <;> rw [h]
      · exact ⟨c1, good_of_word (wa_good c1)⟩
      · exact ⟨c2, good_of_word (wa_good c2)⟩
      · exact ⟨c4, good_of_word (wa_good c4)⟩
    · exact wa_ws hO x h
  have hhd : mHd K = .codeWith (mMy K) (mMc K) (mMn K) (mMr K) (h0 :: hs0) := by unfold mHd; rw [hh]
  have h9 := vx_runSX (As := As.map (mV z b)) (rest := rest.map (mV z b)) (g := F0 m pc ls ((As.reverse ++ rest).map (mV z b))) (cells := kc) (slots := ks) (locs := locs) (below := below) (meth := meth) (e := e) (R := mMR M) (bytes := mMc K) (maxL := mMn K) (ret := mMr K)
    (Ts := WA) ⟨C.1, C.2.1, C.2.2.1, C.2.2.2.2.1, hts⟩ (hS l z b G cA C.2.2.2.2.2.2.2.2.2.2.2.1) (vx_cwSW na hts hGd (by show mHd K :: WA = _; rw [hhd]) rfl rfl ⟨c5, c6, c7⟩ hF)
    ⟨mB_blind, fun U hU hW => ⟨rfl, mB_at C hw (fun n0 h => by rw [hz] at h; cases h) U hU hW⟩⟩ rfl (by rw [List.length_map]; exact hna) hL.1 (by simp [List.map_append, List.map_reverse]) (lv_room (by rw [mV_sum]; exact hst)) d hR
  exact h9
/-- the call returns -/
theorem ev_call {K : mM} {v : Option Value} {w1 : mW} {rest stk : List Value} {aa : Nat → Nat → Array Value} (hr : mRun K (.inl v) w1 L rest kc ks M pc w stk aa) (k : EvF M Qf (pc + 3) L (v.toList ++ rest) (kc + (mMR K).cells) (ks + (mMR K).slots) w1) : EvF M Qf pc L stk kc ks w := by
  intro z b G cA p l e s m args below meth c H locs ls C hw hL
  refine run_ret (hr z b G cA p l e s m args below meth c H locs ls C hw hL) hw (fun H1 locs1 hw1 => ?_)
  have h9 := k z b G cA p l e s m args below meth c H1 locs1 ls C hw1 hL
  have e9 : (v.toList ++ rest).map (mV z b) = (v.map (mV z b)).toList ++ rest.map (mV z b) := by cases v <;> rfl
  rw [e9] at h9
  exact h9
/-- the call throws, and no handler is here -/
theorem ev_callT {K : mM} {E : String} {w1 : mW} {rest stk : List Value} {aa : Nat → Nat → Array Value} (hr : mRun K (.inr E) w1 L rest kc ks M pc w stk aa) (hh : mMh M = []) (hR : kc + (mMR K).cells ≤ (mMR M).cells ∧ ks + (mMR K).slots ≤ (mMR M).slots) : EvF M (mQm M (.inr E) w1) pc L stk kc ks w := by
  intro z b G cA p l e s m args below meth c H locs ls C hw hL
  refine run_thr (hr z b G cA p l e s m args below meth c H locs ls C hw hL) hw (fun H1 locs1 ce q9 hw1 hce hcv hcl => ?_)
  refine vx_out (fun x hx => ?_) C.2.2.2.2.2.2.1 hce hcv hcl (fun t ht hA => ⟨rfl, by rw [ht]; exact hw1.1, hw1.2.F ht⟩) hw1.2.2.2 hR.1 hR.2
  rw [C.2.2.2.2.2.2.2.1, hh] at hx
  cases hx
end EN
end
section
/-! throws, catches -/
section TH
variable {M : mM} {Qf : mQ} {pc : Nat} {L st : List Value} {kc ks : Nat} {w : mW}
abbrev mNm : List String := ["java/lang/RuntimeException", "java/lang/Exception"]
/-- a place that throws E with a text -/
def mTh (own : String) (ik is ic : Nat) (E text : String) : Prop := E ∈ mX ∧ (is, text) ∈ mSt ∧ own = "Copperleaf" ∧ Bundle.fit E = true ∧ Jvm.Cond.classLink own ik E ∈ WA ∧ Jvm.Cond.initialized E ∈ WA ∧ (∀ x ∈ vx_atS own ic E mNm, x ∈ WA ∨ x = .castable E E) ∧ ∀ x ∈ Jvm.Cond.classLink own ik E :: Jvm.Cond.initialized E :: vx_atS own ic E mNm, vx_ot x = true
theorem mNm_fit : ∀ n ∈ mNm, Bundle.fit n = true := by decide +kernel
theorem ev_throw {ik is ic : Nat} {E text : String} (hT : mTh (mMy M).cls ik is ic E text) (d0 : decode (mMc M) pc = .ok (.new ik, 3)) (d3 : decode (mMc M) (pc + 3) = .ok (.dup, 1)) (d4 : decode (mMc M) (pc + 4) = .ok (.ldc is, 2)) (d6 : decode (mMc M) (pc + 6) = .ok (.invokespecial ic, 3)) (d9 : decode (mMc M) (pc + 9) = .ok (.athrow, 1)) (hh : mMh M = []) (hf : 5 < (mMR M).frames) (hlo : (st.map fun v => v.category).sum + 82 ≤ (mMR M).locals) (hc : kc + 1 ≤ (mMR M).cells) (hs : ks + 6 ≤ (mMR M).slots) : EvF M (mQm M (.inr E) w) pc L st kc ks w := by
  intro z b G cA p l e s m args below meth c H locs ls C hw hL
  obtain ⟨h1, h2, h3, h4, h5, h6, h7, h8⟩ := hT
  obtain ⟨sa, hsa⟩ := C.2.2.2.2.2.2.2.2.2.2.1.2.2.2.2.2 _ h2
  refine vx_throwS (A := fun q => z ≤ q) (own := (mMy M).cls) (cls := E) (text := text) (names := mNm) (ik := ik) (is := is) (ic := ic) (sa := sa) C.1 C.2.1 C.2.2.2.2.2.2.2.2.2.2.2.1 C.2.2.2.2.1 h4 mNm_fit (C.2.2.2.2.2.1 _ h5) (C.2.2.2.2.2.1 _ h6) (by rw [h3]; exact hsa) (fun x hx => ?_) h8 C.2.2.2.2.2.2.2.2.2.2.2.2.1 C.2.2.2.2.2.2.2.2.2.2.2.2.2.1 hw.2 (hL.1.trans C.2.2.1.symm) d0 d3 d4 d6 d9 (fun x hx => ?_) hf ?_ hc hs C.2.2.2.2.2.2.1 (fun t hA hz hk => ⟨rfl, hw.1.kept (fun k q hq => hk q.1 (hw.1 k q hq).lt), Nat.le_trans hw.2.1 hz, fun q hq hn => (hk q (Nat.lt_of_lt_of_le hq hw.2.1)).trans (hw.2.2.1 q hq hn)⟩) hw.2.2.2 hc hs
  · rcases h7 x hx with h | h
    · exact C.2.2.2.2.2.1 _ h
    · rw [h]; exact va_Nw.use rfl (C.2.2.2.2.2.2.2.2.2.2.1.1 E h1)
  · rw [C.2.2.2.2.2.2.2.1, hh] at hx
    cases hx
  · rw [mV_sum]
    exact hlo
theorem ev_throwW {ik is ic : Nat} {E text : String} (hT : mTh (mMy M).cls ik is ic E text) (d0 : decode (mMc M) pc = .ok (.new ik, 3)) (d3 : decode (mMc M) (pc + 3) = .ok (.dup, 1)) (d4 : decode (mMc M) (pc + 4) = .ok (.ldc_w is, 3)) (d6 : decode (mMc M) (pc + 7) = .ok (.invokespecial ic, 3)) (d9 : decode (mMc M) (pc + 10) = .ok (.athrow, 1)) (hh : mMh M = []) (hf : 5 < (mMR M).frames) (hlo : (st.map fun v => v.category).sum + 82 ≤ (mMR M).locals) (hc : kc + 1 ≤ (mMR M).cells) (hs : ks + 6 ≤ (mMR M).slots) : EvF M (mQm M (.inr E) w) pc L st kc ks w := by
  intro z b G cA p l e s m args below meth c H locs ls C hw hL
  obtain ⟨h1, h2, h3, h4, h5, h6, h7, h8⟩ := hT
  obtain ⟨sa, hsa⟩ := C.2.2.2.2.2.2.2.2.2.2.1.2.2.2.2.2 _ h2
  refine vx_throwSW (A := fun q => z ≤ q) (own := (mMy M).cls) (cls := E) (text := text) (names := mNm) (ik := ik) (is := is) (ic := ic) (sa := sa) C.1 C.2.1 C.2.2.2.2.2.2.2.2.2.2.2.1 C.2.2.2.2.1 h4 mNm_fit (C.2.2.2.2.2.1 _ h5) (C.2.2.2.2.2.1 _ h6) (by rw [h3]; exact hsa) (fun x hx => ?_) h8 C.2.2.2.2.2.2.2.2.2.2.2.2.1 C.2.2.2.2.2.2.2.2.2.2.2.2.2.1 hw.2 (hL.1.trans C.2.2.1.symm) d0 d3 d4 d6 d9 (fun x hx => ?_) hf ?_ hc hs C.2.2.2.2.2.2.1 (fun t hA hz hk => ⟨rfl, hw.1.kept (fun k q hq => hk q.1 (hw.1 k q hq).lt), Nat.le_trans hw.2.1 hz, fun q hq hn => (hk q (Nat.lt_of_lt_of_le hq hw.2.1)).trans (hw.2.2.1 q hq hn)⟩) hw.2.2.2 hc hs
  · rcases h7 x hx with h | h
    · exact C.2.2.2.2.2.1 _ h
    · rw [h]; exact va_Nw.use rfl (C.2.2.2.2.2.2.2.2.2.2.1.1 E h1)
  · rw [C.2.2.2.2.2.2.2.1, hh] at hx
    cases hx
  · rw [mV_sum]
    exact hlo
theorem mLs_setH {z b nL : Nat} {ls' : Array Slot} {L : List Value} {i : Nat} {u : Value} (hL : L.length = nL) (hm : mc1 L i = true)
    (h : lv_has ls' nL ((i, u) :: (mLo z b L).filter (fun q => !(q.1 == i) && !(q.1 + 1 == i && q.2.category == 2)))) : mLs z b nL ls' (L.set i hole) := by
  refine ⟨h.1, by rw [List.length_set, hL], h.2.1, fun j x hj hx => ?_⟩
  by_cases hij : i = j
  · subst hij
    rw [List.getElem?_set] at hj
    by_cases hl : i < L.length
    · simp only [if_pos rfl, if_pos hl] at hj
      cases hj
      exact absurd rfl hx
    · simp only [if_pos rfl, if_neg hl] at hj
      cases hj
  · rw [List.getElem?_set_ne hij] at hj
    refine h.2.2 (j, mV z b x) (List.mem_cons_of_mem _ (List.mem_filter.mpr ⟨mLo_mem.mpr ⟨x, hj, hx, rfl⟩, ?_⟩))
    simp only [Bool.and_eq_true, Bool.not_eq_true', beq_eq_false_iff_ne, ne_eq, Bool.and_eq_false_iff]
    refine ⟨fun q => hij q.symm, ?_⟩
    by_cases hc : j + 1 = i
    · right
      have h1 := mc1_ok (z := z) (b := b) hm (q := (j, mV z b x)) (mLo_mem.mpr ⟨x, hj, hx, rfl⟩) hc
      dsimp only at h1 ⊢
      omega
    · exact Or.inl hc
/-- caught by the row x of the table; the rows ahead name other classes -/
theorem ev_catch {K : mM} {E : String} {w1 : mW} {rest stk : List Value} {aa : Nat → Nat → Array Value} {pre suf : List (Nat × Nat × Nat × Nat)} {sp ep hp ct : Nat} (hr : mRun K (.inr E) w1 L rest kc ks M pc w stk aa) (hsplit : mMh M = pre ++ (sp, ep, hp, ct) :: suf) (hE : E ∈ mX) (hpre : ∀ q ∈ pre, q.2.2.2 ≠ 0 ∧ ∃ F ∈ mX, E ≠ F ∧ Jvm.Cond.classLink (mMy M).cls q.2.2.2 F ∈ WA) (hx : (decide (sp ≤ pc) && decide (pc < ep)) = true) (h0 : ct ≠ 0) (hl : Jvm.Cond.classLink (mMy M).cls ct E ∈ WA)
    {len i : Nat} {L' : List Value} (hd : (∃ j : Fin 4, (j : Nat) = i ∧ len = 1 ∧ decode (mMc M) hp = .ok (.astore_n j, 1)) ∨ (len = 2 ∧ decode (mMc M) hp = .ok (.astore i, 2))) (hm : (decide (i < mMn M) && mc1 L i) = true) (hL' : L.set i hole = L')
    (k : EvF M Qf (hp + len) L' [] (kc + (mMR K).cells) (ks + (mMR K).slots) w1) : EvF M Qf pc L stk kc ks w := by
  intro z b G cA p l e s m args below meth c H locs ls C hw hL
  simp only [Bool.and_eq_true, decide_eq_true_eq] at hm
  refine run_thr (hr z b G cA p l e s m args below meth c H locs ls C hw hL) hw (fun H1 locs1 ce q9 hw1 hce hcv hcl => ?_)
  refine vx_catch (own := (mMy M).cls) (name := E) C.2.2.2.2.1 (tableOf pre) ⟨sp, ep, hp, ct⟩ (tableOf suf) (by rw [C.2.2.2.2.2.2.2.1, hsplit]; simp [tableOf]) (fun x hx => ?_) hx h0 (C.2.2.2.2.2.1 _ hl) (va_Nw.use rfl (C.2.2.2.2.2.2.2.2.2.2.1.1 E hE)) hce hcv hcl ?_
  · obtain ⟨q, hq, rfl⟩ := List.mem_map.mp hx
    obtain ⟨h1, F, hF, hn, hl9⟩ := hpre q hq
    exact Or.inr ⟨h1, F, C.2.2.2.2.2.1 _ hl9, C.2.2.2.2.2.2.2.2.2.2.1.2.1 E hE F hF hn⟩
  · rcases hd with ⟨j, hj, rfl, hd⟩ | ⟨rfl, hd⟩
    · exact lv_astore_n C.1 C.2.1 hd hj (mLs_has hL) hm.1 rfl (fun ls' h' => k z b G cA p l e s m args below meth c H1 locs1 ls' C hw1 (by rw [← hL']; exact mLs_setH hL.2.1 hm.2 h'))
    · exact lv_astore C.1 C.2.1 hd (mLs_has hL) hm.1 rfl (fun ls' h' => k z b G cA p l e s m args below meth c H1 locs1 ls' C hw1 (by rw [← hL']; exact mLs_setH hL.2.1 hm.2 h'))
end TH
end
