/-! RULES of new cells; contracts; calls; ends -/
section NW
variable {M : mM} {Qf : mQ} {pc : Nat} {L st : List Value} {kc ks : Nat} {w : mW}
/-- the new cell's address: the next one -/
theorem mR_next {z0 b : Nat} {cA : Nat → ClassId} {w : List mC} {q N : Nat} {e : va_E} (hD : va_D (fun q => z0 ≤ q) (mR (z0, fun k => z0 + k) b cA w ++ [(q, e)])) (hq : q < N) (hN : N ≤ z0 + w.length + 1) : q = z0 + w.length := by
  have hA : z0 ≤ q := by
    have h1 := hD.2 (mR (z0, fun k => z0 + k) b cA w).length (q, e) (by rw [List.getElem?_append_right (Nat.le_refl _), Nat.sub_self]; rfl)
    exact h1
  rcases Nat.lt_or_ge q (z0 + w.length) with h | h
  · exfalso
    have hl : q - z0 < w.length := by omega
    have h2 : (mR (z0, fun k => z0 + k) b cA w ++ [(q, e)])[q - z0]? = some (z0 + (q - z0), mE (z0, fun k => z0 + k) b cA w[q - z0]) := by
      rw [List.getElem?_append_left (by rw [mR_len]; exact hl)]
      exact mR_get (List.getElem?_eq_getElem hl)
    have h3 := hD.1 (q - z0) (mR (z0, fun k => z0 + k) b cA w).length _ (q, e) h2 (by rw [List.getElem?_append_right (Nat.le_refl _), Nat.sub_self]; rfl) (show z0 + (q - z0) = q by omega)
    rw [mR_len] at h3
    omega
  · omega
theorem ev_new {idx ci N n0 : Nat} {Cn : String} {T : u_T} {ty : Nat → FieldType} {fs : List Value} (d : decode (mMc M) pc = .ok (.new idx, 3)) (hc : vwCl[ci]? = some (Cn, T, N)) (hin : ∀ x ∈ u_ws Cn T N, x ∈ WA) (hty : ∀ k, k < N → parseFieldDescriptor (T k).2.2.1 = some (ty k))
    (h1 : Jvm.Cond.classLink (mMy M).cls idx Cn ∈ WA) (h2 : Jvm.Cond.instantiable Cn N ∈ WA) (h3 : Jvm.Cond.initialized Cn ∈ WA) (hfs : ∀ j, j < N → defaultValue (ty j) = vp_V fs j) (hfr : ∀ z b, fs.map (mV z b) = fs) (hz : mMz M = some n0) (hn : w.length = n0 + kc) (hR : kc + 1 ≤ (mMR M).cells ∧ ks + N ≤ (mMR M).slots)
    (kk : EvF M Qf (pc + 3) L (.ref w.length :: st) (kc + 1) (ks + N) (w ++ [.inr (ci, fs)])) : EvF M Qf pc L st kc ks w := by
  intro z b G cA p l e s m args below meth c H locs ls C hw hL
  obtain ⟨hs0, hz2⟩ := C.2.2.2.2.2.2.2.2.2.2.2.2.2.2.2.1 n0 hz
  obtain ⟨z0, zf⟩ := z
  dsimp only at hs0 hz2
  subst hz2
  refine va_new C.1 C.2.1 (Ts := WA) C.2.2.2.2.2.1 hin ty hty C.2.2.2.2.1 (C.2.2.2.2.2.1 _ h1) (C.2.2.2.2.2.1 _ h2) (C.2.2.2.2.2.1 _ h3) C.2.2.2.2.2.2.2.2.2.1 hw.1 (mR_D hw.2.2) hw.2.1 (fun q hq => Nat.le_trans C.2.2.2.2.2.2.2.2.2.2.2.2.2.2.1 hq) hc hfs hR.1 hR.2 d (fun q H1 hP hD hS => ?_)
  intro U hU X
  have hsz := X.same.2.2.1
  have hU1 : (U.setVm s.vm).heap.size = H1.size := by rw [← hU]; rfl
  rw [hU1, hs0] at hsz
  have hq : q < H1.size := (hP (mR (z0, fun k => z0 + k) b cA w).length _ (by rw [List.getElem?_append_right (Nat.le_refl _), Nat.sub_self]; rfl)).lt
  have e1 := mR_next hD hq (by omega)
  subst e1
  refine kk (z0, fun k => z0 + k) b G cA p l e s m args below meth c H1 locs ls C ⟨?_, hS, mOkz_x⟩ hL U hU X
  rw [mR_app]
  show va_P G vwCl (mR (z0, fun k => z0 + k) b cA w ++ [(z0 + w.length, Sum.inr (ci, fs.map (mV (z0, fun k => z0 + k) b)))]) H1
  rw [hfr]
  exact hP
/-- an array of numbers: its kind t in mT, its type -/
theorem ev_newa {atype : ArrayType} {t N n0 : Nat} {ty : FieldType} {v : Int32} {e0 : mC} {a0 : vp_A} (d : decode (mMc M) pc = .ok (.newarray atype, 2)) (hty : newarray.typeOf atype = ty) (hw1 : Jvm.Cond.arrayClass ty ∈ WA) (ht : ∀ cA, (mT cA)[t]? = some (cA t, ty)) (hne : ∀ Cn, ty ≠ .object Cn) (ha : ∀ cA : ClassId, vp_cell cA a0 = arrV cA N (fun _ => defaultValue ty)) (he : ∀ z b cA, mE z b cA e0 = .inl (cA t, a0))
    (hv : ¬ v < 0) (hN : v.toNatClampNeg = N) (hby : N * componentBytes ty ≤ 536870912) (hz : mMz M = some n0) (hn : w.length = n0 + kc) (hR : kc + 1 ≤ (mMR M).cells ∧ ks + N ≤ (mMR M).slots)
    (kk : EvF M Qf (pc + 2) L (.ref w.length :: st) (kc + 1) (ks + N) (w ++ [e0])) : EvF M Qf pc L (.int v :: st) kc ks w := by
  intro z b G cA p l e s m args below meth c H locs ls C hw hL
  obtain ⟨hs0, hz2⟩ := C.2.2.2.2.2.2.2.2.2.2.2.2.2.2.2.1 n0 hz
  obtain ⟨z0, zf⟩ := z
  dsimp only at hs0 hz2
  subst hz2
  refine va_newa C.1 C.2.1 (by rw [hty]; exact C.2.2.2.2.2.1 _ hw1) hty C.2.2.2.2.2.2.2.2.2.1 hw.1 (mR_D hw.2.2) hw.2.1 (fun q hq => Nat.le_trans C.2.2.2.2.2.2.2.2.2.2.2.2.2.2.1 hq) ha hv hN hby hR.1 hR.2 d (fun q cA1 H1 hK hP hD hS => ?_)
  have hc1 : cA1 = cA t := by
    have f1 := (hK.2 (mT cA).length (cA1, ty) (by rw [List.getElem?_append_right (Nat.le_refl _), Nat.sub_self]; rfl)).2
    have f2 := (C.2.2.2.2.2.2.2.2.2.1.2 t _ (ht cA)).2
    cases ty with
    | object Cn => exact absurd rfl (hne Cn)
    | _ => exact Option.some.inj (f1.symm.trans f2)
  subst hc1
  intro U hU X
  have hsz := X.same.2.2.1
  have hU1 : (U.setVm s.vm).heap.size = H1.size := by rw [← hU]; rfl
  rw [hU1, hs0] at hsz
  have hq : q < H1.size := (hP (mR (z0, fun k => z0 + k) b cA w).length _ (by rw [List.getElem?_append_right (Nat.le_refl _), Nat.sub_self]; rfl)).lt
  have e1 := mR_next hD hq (by omega)
  subst e1
  refine kk (z0, fun k => z0 + k) b G cA p l e s m args below meth c H1 locs ls C ⟨?_, hS, mOkz_x⟩ hL U hU X
  rw [mR_app, he]
  exact hP
theorem ev_newq {idx N n0 : Nat} {v : Int32} (d : decode (mMc M) pc = .ok (.anewarray idx, 3)) (h1 : Jvm.Cond.classLink (mMy M).cls idx "Copperleaf$State" ∈ WA)
    (hv : ¬ v < 0) (hN : v.toNatClampNeg = N) (hby : N * 4 ≤ 536870912) (hz : mMz M = some n0) (hn : w.length = n0 + kc) (hR : kc + 1 ≤ (mMR M).cells ∧ ks + N ≤ (mMR M).slots)
    (kk : EvF M Qf (pc + 3) L (.ref w.length :: st) (kc + 1) (ks + N) (w ++ [.inl (3, N, .inr (.inr (fun _ => none)))])) : EvF M Qf pc L (.int v :: st) kc ks w := by
  intro z b G cA p l e s m args below meth c H locs ls C hw hL
  obtain ⟨hs0, hz2⟩ := C.2.2.2.2.2.2.2.2.2.2.2.2.2.2.2.1 n0 hz
  obtain ⟨z0, zf⟩ := z
  dsimp only at hs0 hz2
  subst hz2
  refine va_newq C.1 C.2.1 C.2.2.2.2.1 (C.2.2.2.2.2.1 _ h1) C.2.2.2.2.2.2.2.2.2.2.1.2.2.2.2.1 C.2.2.2.2.2.2.2.2.2.1 hw.1 (mR_D hw.2.2) hw.2.1 (fun q hq => Nat.le_trans C.2.2.2.2.2.2.2.2.2.2.2.2.2.2.1 hq) hv hN hby hR.1 hR.2 d (fun q cA1 H1 hK hP hD hS => ?_)
  have hc1 : cA1 = cA 3 := by
    have f1 := (hK.2 (mT cA).length (cA1, .object "Copperleaf$State") (by rw [List.getElem?_append_right (Nat.le_refl _), Nat.sub_self]; rfl)).2
    have f2 := (C.2.2.2.2.2.2.2.2.2.1.2 3 _ rfl).2
    obtain ⟨-, -, -, -, -, g1⟩ := f1
    obtain ⟨-, -, -, -, -, g2⟩ := f2
    exact Option.some.inj (g1.symm.trans g2)
  subst hc1
  intro U hU X
  have hsz := X.same.2.2.1
  have hU1 : (U.setVm s.vm).heap.size = H1.size := by rw [← hU]; rfl
  rw [hU1, hs0] at hsz
  have hq : q < H1.size := (hP (mR (z0, fun k => z0 + k) b cA w).length _ (by rw [List.getElem?_append_right (Nat.le_refl _), Nat.sub_self]; rfl)).lt
  have e1 := mR_next hD hq (by omega)
  subst e1
  refine kk (z0, fun k => z0 + k) b G cA p l e s m args below meth c H1 locs ls C ⟨?_, hS, mOkz_x⟩ hL U hU X
  rw [mR_app]
  exact hP
end NW
/-! CONTRACTS -/
def mB (M : mM) (z : mZ) (b : Nat) (G : va_G) (cA : Nat → ClassId) (w : mW) (U : State) : Prop := va_P G vwCl (mR z b cA w) U.heap ∧ va_K G vwCl (mT cA) U ∧ mXF U ∧ mZ1 z U U.heap ∧ mZ2 z U U.heap ∧ z.1 ≤ U.heap.size ∧ (∀ n0 : Nat, mMz M = some n0 → U.heap.size = z.1 + n0 ∧ z.2 = fun k => z.1 + k) ∧ mOkz z w.length ∧ ∀ (Ls : Nat) (xs : Nat → Int32), mMs M = some (Ls, xs) → va_X b Ls xs U U.heap ∧ b < U.heap.size ∧ b < z.1
abbrev mPc (M : mM) (z : mZ) (b : Nat) (G : va_G) (cA : Nat → ClassId) (As : List Value) (w : mW) : Array Value → State → Prop := va_Pc (As.map (mV z b)) (mB M z b G cA w)
def mQr (z : mZ) (b : Nat) (G : va_G) (cA : Nat → ClassId) (res : Option Value ⊕ String) (w' : mW) : Array Value → State → Outcome → State → Prop := fun _ st o t => match res with
  | .inl v => o = .returned (v.map (mV z b)) ∧ (va_P G vwCl (mR z b cA w') t.heap ∧ mOkz z w'.length) ∧ va_F (fun q => z.1 ≤ q) st t
  | .inr _ => False
def mXr (z : mZ) (b : Nat) (G : va_G) (cA : Nat → ClassId) (res : Option Value ⊕ String) (w' : mW) : String → State → State → Prop := fun E st t => match res with
  | .inl _ => False
  | .inr E' => E = E' ∧ (va_P G vwCl (mR z b cA w') t.heap ∧ mOkz z w'.length) ∧ va_F (fun q => z.1 ≤ q) st t
def mHd (M : mM) : Jvm.Cond := match mMh M with
  | [] => .code (mMy M) (mMc M) (mMn M) (mMr M)
  | h :: hh => .codeWith (mMy M) (mMc M) (mMn M) (mMr M) (h :: hh)
abbrev mWs (M : mM) : List Jvm.Cond := mHd M :: WA
/-- THE CONTRACT: called with As in the world w the method ends with res in the world w' -/
def EvS (M : mM) (As : List Value) (w : mW) (res : Option Value ⊕ String) (w' : mW) : Prop :=
  ∀ (l : Launch) (z : mZ) (b : Nat) (G : va_G) (cA : Nat → ClassId), l.stackTraces = false → vx_Met l (mMy M) (mWs M) (mMR M) (mPc M z b G cA As w) (mQr z b G cA res w') (mXr z b G cA res w') (mMR M).cells (mMR M).slots (fun q => z.1 ≤ q)
/-- a method's own end -/
def mQm (M : mM) (res : Option Value ⊕ String) (w' : mW) : mQ := fun z b G cA below args s => vx_MQ below (mQr z b G cA res w') (mXr z b G cA res w') args s (mMR M).cells (mMR M).slots (fun q => z.1 ≤ q)
def mPad : List Value → List Value
  | [] => []
  | v :: vs => if v.category = 2 then v :: hole :: mPad vs else v :: mPad vs
theorem mPad_at {z : mZ} {b : Nat} : ∀ (As : List Value) (i : Nat) (v : Value), (mPad As)[i]? = some v → v ≠ hole → (lg_sl (As.map (mV z b)))[i]? = some (.val (mV z b v))
  | [], i, v, h, _ => by simp [mPad] at h
  | a :: As, i, v, h, hv => by
    have ih := mPad_at (z := z) (b := b) As
    unfold mPad at h
    simp only [List.map_cons, lg_sl, List.flatMap_cons, mV_cat]
    by_cases hc : a.category = 2
    · simp only [if_pos hc] at h ⊢
      match i, h with
      | 0, h => simp at h; rw [← h]; rfl
      | 1, h => simp at h; exact absurd h.symm hv
      | i + 2, h =>
        have h2 : (mPad As)[i]? = some v := by simpa using h
        have h3 := ih i v h2 hv
        simpa [lg_sl] using h3
    · simp only [if_neg hc] at h ⊢
      match i, h with
      | 0, h => simp at h; rw [← h]; rfl
      | i + 1, h =>
        have h2 : (mPad As)[i]? = some v := by simpa using h
        have h3 := ih i v h2 hv
        simpa [lg_sl] using h3
theorem mPad_len {z : mZ} {b : Nat} : ∀ (As : List Value), (lg_sl (As.map (mV z b))).length = (mPad As).length
  | [] => rfl
  | a :: As => by
    have ih := mPad_len (z := z) (b := b) As
    simp only [List.map_cons, lg_sl, List.flatMap_cons, mV_cat, mPad] at ih ⊢
    by_cases hc : a.category = 2
    · simp [if_pos hc, ih]
    · simp [if_neg hc, ih]
/-- the locals at the entry -/
abbrev mEn (M : mM) (As : List Value) : List Value := mPad As ++ List.replicate (mMn M - (mPad As).length) hole
theorem evs_of {M : mM} {As L0 : List Value} {w w' : mW} {res : Option Value ⊕ String} (hy : plainName (mMy M).cls = true) (hn : (mPad As).length ≤ mMn M) (hi : mMi M = true → (mMy M).name = "<init>") (hL0 : mEn M As = L0) (k : EvF M (mQm M res w') 0 L0 [] 0 0 w) : EvS M As w res w' := by
  intro l z b G cA hl
  have body : ∀ p e s m args below meth c s₁, BodyLoose p l (mMy M) (headSpec (mWs M) (mMR M)) (mMc M) (mMn M) (mMr M) e s m args below meth c s₁ → c.maxLocals = mMn M → c.exceptionTable.toList = tableOf (mMh M) → mPc M z b G cA As w args s →
      W p l e (headSpec (mWs M) (mMR M)).room s m args below meth c s.heap [] 0 0 (vx_MQ below (mQr z b G cA res w') (mXr z b G cA res w') args s (mMR M).cells (mMR M).slots (fun q => z.1 ≤ q)) (entryFrame m args (mMn M)) := by
    intro p e s m args below meth c s₁ B hml htab hP
    obtain ⟨rfl, hP, hK, hXF, hZ1, hZ2, hz, hn0, hzk, hsx⟩ := hP
    have hts := atoms_spec (ws := mWs M) B.pre
    have hent := lv_entry (As.map (mV z b)) (n := mMn M) (by rw [mPad_len]; exact hn)
    rw [lg_entry_eq]
    refine k z b G cA p l e s m _ below meth c s.heap [] _ ⟨B.exec, B.bytes, hml, B.returns, findClass_of_methodNamed B.named, fun x hx => hts x (List.mem_cons_of_mem _ hx), B.notSynchronized, htab, fun q => (name_of_methodNamed B.named B.method).1.trans (hi q), hK, hXF, hl, hZ1, hZ2, hz, hn0, hsx⟩ ⟨hP, va_S.rf, hzk⟩ ?_
    refine ⟨hent.1, ?_, hent.2.1, fun i v hi hv => ?_⟩
    · rw [← hL0]
      simp only [List.length_append, List.length_replicate]
      omega
    · rw [← hL0] at hi
      by_cases hl2 : i < (mPad As).length
      · rw [List.getElem?_append_left hl2] at hi
        have h5 := mPad_at (z := z) (b := b) As i v hi hv
        rw [List.getElem?_toArray, List.getElem?_append_left (by rw [mPad_len]; exact hl2)]
        exact h5
      · rw [List.getElem?_append_right (by omega)] at hi
        exact absurd (List.eq_of_mem_replicate (List.mem_of_getElem? hi)) hv
  cases hh : mMh M with
  | nil =>
    refine vx_ofW (cc := mMc M) (maxL := mMn M) (ret := mMr M) hy (ws' := WA) (by unfold mWs mHd; rw [hh]) ?_
    intro p e s m args below meth c s₁ B hml ht hP
    refine body p e s m args below meth c s₁ B hml ?_ hP
    rw [hh]
    cases htl : c.exceptionTable.toList with
    | nil => rfl
    | cons x xs => exact absurd (ht x (by rw [htl]; exact List.mem_cons_self)) id
  | cons h hs2 =>
    refine vx_ofWH (cc := mMc M) (maxL := mMn M) (ret := mMr M) (hh := h :: hs2) hy (ws' := WA) (by unfold mWs mHd; rw [hh]) ?_
    intro p e s m args below meth c s₁ B hml hP
    refine body p e s m args below meth c s₁ B hml ?_ hP
    rw [hh]
    refine vx_table (x := mMy M) B (bytes := mMc M) (maxL' := mMn M) (ret' := mMr M) ?_
    have hts := atoms_spec (ws := mWs M) B.pre
    have h1 := hts (mHd M) List.mem_cons_self
    unfold mHd at h1
    rw [hh] at h1
    exact h1
