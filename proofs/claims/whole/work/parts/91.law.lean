/-! THE LAW: its end, its script, what goes on behind a case -/
def R_law : String := "CopperleafLaw"
def lw_P (b : Addr) (xs : List Int32) (args : Array Value) (s : State) : Prop := args = #[.ref b] ∧ s.IntsAt b xs ∧ xs.length ≤ 1536 ∧ (Jvm.Cond.and given_1 narrow_1).before args s = true
def lw_Q (_ : Array Value) (s : State) (o : Outcome) (t : State) : Prop := o = .returned (some (.int 1)) ∧ Framed s o t [] 601024 7293034
def lw_Z (below : List Frame) (a : Array Value) (s : State) : State → Prop := fun t => ∃ o, t.status = .running ∧ Ended t below o ∧ lw_Q a s o t
/-- the law's own end, with 1 on the stack, nothing written that was there before, its room as the claim has it -/
theorem lw_ret {p : Program} {l : Launch} {e : Env} {s : State} {m : MethodId} {below : List Frame} {meth : Method} {c : Code} {b : Nat} (hx : p.tables.exec = Jvm.exec) (hb : c.code = code) (hr : meth.sig.returnType = ret) (hlocks : meth.locks = false) {pc : Nat} {H : Heap} {ls : Array Slot} (hdg : decode code pc = .ok (.ireturn, 1)) : W p l e room_1 s m #[Value.ref b] below meth c H [] 601024 7293034 (lw_Z below #[Value.ref b] s) (F0 m pc ls [.int 1]) := by
  intro T hT X
  obtain ⟨fs, hret, hrun, hended, hW, hframe⟩ := X.leave (v := some (.int 1)) (hlocks := hlocks) (fun h => by rw [hr] at h; cases h)
  have hmeth' : T.vm.method? m = some meth := X.method'
  refine ⟨T.setFrames fs, ?_, .returned (some (.int 1)), hrun, hended, rfl, ⟨_, rfl⟩, hW, hframe⟩
  jvm_step X.here [X.here.top, hx, hb, hdg, hmeth', hr, ret, narrow_b1]
  (try refine ⟨rfl, ?_⟩); (try refine ⟨rfl, ?_⟩)
  first | (intro acts; rw [hret _ acts rfl rfl rfl]) | rw [hret _ _ rfl rfl rfl]
  exact Steps.refl _
/-- where the law ends -/
def QL : mQ := fun _ _ _ _ below args s => lw_Z below args s
theorem ev_lawend {q : Nat × (Nat → Int32)} {L : List Value} {kc ks : Nat} {w : mW} (hk : kc ≤ 601024) (hs : ks ≤ 7293034) : EvF (m_L_law q) QL 1669 L [.int 1] kc ks w := by
  intro z b G cA p l e s m args below meth c H locs ls C hw hL
  have hsz := C.2.2.2.2.2.2.2.2.2.2.2.2.2.2.2.1 0 rfl
  obtain ⟨-, -, -, ha⟩ := C.2.2.2.2.2.2.2.2.2.2.2.2.2.2.2.2 q.1 q.2 rfl
  subst ha
  refine W.widen hk hs (va_forget (fun x hx => ?_) (lw_ret C.1 C.2.1 C.2.2.2.1 C.2.2.2.2.2.2.1 dL_law_1669))
  have h1 : z ≤ x.base := hw.2.2.2 x hx
  omega
theorem nI_a2 (n : Nat) : nI n + 2 = nI (n + 2) := nI_add n 2
theorem nI_i3 (n : Nat) : nI n + Int32.ofInt 3 = nI (n + 3) := nI_add n 3
/-- what goes on behind a case -/
def LK (q : Nat × (Nat → Int32)) (n j kc ks : Nat) : Prop := ∀ (A2 : List mC) (o2 : Nat → Int64) (v5 v6 v7 : Value) (kc2 ks2 : Nat), GI (n + 1) A2 → wf A2 → kc2 ≤ kc + 8 → ks2 ≤ ks + 64 → EvF (m_L_law q) QL 1662 [scr1, .ref 0, .ref 21, .ref 34, .int (nI j), v5, v6, v7] [] kc2 ks2 (A2 ++ [ouC o2])
