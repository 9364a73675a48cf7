/-! THE ENTRY: what the tables and the Statement's start say, as the mini machine wants it -/
def lw_At (p : Program) (s : State) (m : MethodId) (meth : Method) (c : Code) (b L : Nat) (xs : Nat → Int32) : Prop :=
  p.tables.exec = Jvm.exec ∧ c.code = code ∧ meth.sig.returnType = ret ∧ c.maxLocals = 12 ∧ s.vm.findClass R_law = some m.cls ∧ (∀ w ∈ lw_tbl, w.before #[Value.ref b] s = true) ∧ va_X b L xs s s.heap ∧ b < s.heap.size ∧ meth.locks = false ∧ (Jvm.Cond.and given_1 narrow_1).before #[Value.ref b] s = true ∧ c.exceptionTable.toList = []
section ENT
variable {s : State} {args : Array Value}
theorem en_arr {t : FieldType} (h : (Cond.arrayClass t).before args s = true) : ∃ cA kA comp, s.vm.findClass ("[" ++ t.toString) = some cA ∧ s.vm.classes[cA]? = some kA ∧ kA.kind = .array comp t := Cond.arrayClass_spec h
theorem en_K (hW : ∀ w ∈ WA, w.before args s = true) (hAO : va_AO "Copperleaf$State" s) : ∃ (G : va_G) (cA : Nat → ClassId), va_K G vwCl (mT cA) s := by
  obtain ⟨c0, i0, h0⟩ := u_known (C := RX0) (T := TX0) (N := 8) (n := 8) hW inX0 (hW _ kn_X0)
  obtain ⟨c1, i1, h1⟩ := u_known (C := RX1) (T := TX1) (N := 4) (n := 4) hW inX1 (hW _ kn_X1)
  obtain ⟨c2, i2, h2⟩ := u_known (C := RX2) (T := TX2) (N := 5) (n := 5) hW inX2 (hW _ kn_X2)
  obtain ⟨c3, i3, h3⟩ := u_known (C := RX3) (T := TX3) (N := 7) (n := 7) hW inX3 (hW _ kn_X3)
  obtain ⟨a0, kA0, comp0, f0, g0, k0⟩ := en_arr (t := .int) (hW _ ka_int)
  obtain ⟨a1, kA1, comp1, f1, g1, k1⟩ := en_arr (t := .boolean) (hW _ ka_boolean)
  obtain ⟨a2, kA2, comp2, f2, g2, k2⟩ := en_arr (t := .long) (hW _ ka_long)
  obtain ⟨comp3, a3, kA3, n3, -, g3, k3, f3⟩ := Cond.arrayOver_spec (va_AO.use (A := #[]) hAO)
  refine ⟨(fun k => match k with | 0 => c0 | 1 => c1 | 2 => c2 | _ => c3, fun k => match k with | 0 => i0 | 1 => i1 | 2 => i2 | _ => i3), fun k => match k with | 0 => a0 | 1 => a1 | 2 => a2 | _ => a3, fun c q hq => ?_, fun k q hq => ?_⟩
  · match c, hq with
    | 0, hq => cases hq; exact h0
    | 1, hq => cases hq; exact h1
    | 2, hq => cases hq; exact h2
    | 3, hq => cases hq; exact h3
    | c + 4, hq => simp [vwCl] at hq
  · match k, hq with
    | 0, hq => cases hq; exact ⟨fun N z => ⟨(fun k h => by cases h), kA0, g0, comp0, k0⟩, f0⟩
    | 1, hq => cases hq; exact ⟨fun N z => ⟨(fun k h => by cases h), kA1, g1, comp1, k1⟩, f1⟩
    | 2, hq => cases hq; exact ⟨fun N z => ⟨(fun k h => by cases h), kA2, g2, comp2, k2⟩, f2⟩
    | 3, hq => cases hq; exact ⟨fun N z => ⟨(fun k h => by cases h), kA3, g3, comp3, k3⟩, kA3, comp3, g3, k3, n3, f3⟩
    | k + 4, hq => simp [mT] at hq
theorem en_str {k : Nat} {tx : String} (h1 : (Cond.stringRef "Copperleaf" k tx).before args s = true) (h2 : (Cond.exactly (.string "Copperleaf" k) "java/lang/String").before args s = true) : ∃ a, vk_R "Copperleaf" k tx a s := by
  obtain ⟨a, c, cell, kc, e1, -⟩ := Cond.exactly_spec h2
  exact ⟨a, vk_R.of h1 e1⟩
theorem en_XF {b : Nat} (hts : ∀ w ∈ lw_tbl, w.before #[Value.ref b] s = true) (hgv : (Jvm.Cond.and given_1 narrow_1).before #[Value.ref b] s = true) : mXF s := by
  have hN := flat_of_before _ hgv
  have cs : ∀ E : String, Cond.castable E E ∈ lw_tbl → va_Nw (.castable E E) s := fun E h => va_Nw.of rfl (hts _ h)
  have nc : ∀ E F : String, Cond.not (.castable E F) ∈ flatC (Jvm.Cond.and given_1 narrow_1) → va_Nc E F s := fun E F h => va_Nc.of (hN _ h)
  refine ⟨?_, ?_, va_Nw.of rfl (hts _ (by decide +kernel)), va_Nw.of rfl (hts _ (by decide +kernel)), va_AO.of (hts (.arrayOver (.object "Copperleaf$State")) (by decide +kernel)), ?_, ?_⟩
  · simp only [mX, List.forall_mem_cons]
    exact ⟨cs _ (by decide +kernel), cs _ (by decide +kernel), cs _ (by decide +kernel), cs _ (by decide +kernel), fun _ h => absurd h List.not_mem_nil⟩
  · simp only [mX, List.forall_mem_cons]
    refine ⟨⟨fun n => absurd rfl n, fun _ => nc _ _ (by decide +kernel), fun _ => nc _ _ (by decide +kernel), fun _ => nc _ _ (by decide +kernel), fun _ h => absurd h List.not_mem_nil⟩, ⟨fun _ => nc _ _ (by decide +kernel), fun n => absurd rfl n, fun _ => nc _ _ (by decide +kernel), fun _ => nc _ _ (by decide +kernel), fun _ h => absurd h List.not_mem_nil⟩, ⟨fun _ => nc _ _ (by decide +kernel), fun _ => nc _ _ (by decide +kernel), fun n => absurd rfl n, fun _ => nc _ _ (by decide +kernel), fun _ h => absurd h List.not_mem_nil⟩, ⟨fun _ => nc _ _ (by decide +kernel), fun _ => nc _ _ (by decide +kernel), fun _ => nc _ _ (by decide +kernel), fun n => absurd rfl n, fun _ h => absurd h List.not_mem_nil⟩, fun _ h => absurd h List.not_mem_nil⟩
  · have w1 : ∀ q ∈ mSt, Cond.stringRef "Copperleaf" q.1 q.2 ∈ lw_tbl := by decide +kernel
    have w2 : ∀ q ∈ mSt, Cond.exactly (.string "Copperleaf" q.1) "java/lang/String" ∈ flatC (Jvm.Cond.and given_1 narrow_1) := by decide +kernel
    exact fun q hq => en_str (hts _ (w1 q hq)) (hN _ (w2 q hq))
  · simp only [mDe, List.forall_mem_cons]
    exact ⟨va_Nw.of rfl (hts _ (by decide +kernel)), va_Nw.of rfl (hts _ (by decide +kernel)), va_Nw.of rfl (hts _ (by decide +kernel)), fun _ h => absurd h List.not_mem_nil⟩
end ENT
/-- from the entry, for every script of at most 260 ints, the law comes to its end with true -/
theorem whole_start {p : Program} {e : Env} {s : State} {m : MethodId} {below : List Frame} {meth : Method} {c : Code} (l : Launch) (hflags : l.flags = flags0) {b L : Nat} {xs : Nat → Int32} (hL : L ≤ 260) (C0 : lw_At p s m meth c b L xs) : W p l e room_1 s m #[Value.ref b] below meth c s.heap [] 0 0 (lw_Z below #[Value.ref b] s) (entryFrame m ([Value.ref b] : List Value).toArray 12) := by
  obtain ⟨hx, hb, hr, hml, hown, hts, hX, hbl, hlocks, hgv, htab⟩ := C0
  have hN := flat_of_before _ hgv
  have hW : ∀ w ∈ WA, w.before #[Value.ref b] s = true := fun w hw => hts w (List.mem_filter.mp hw).1
  have hXF := en_XF hts hgv
  obtain ⟨G, cA, hK⟩ := en_K hW hXF.2.2.2.2.1
  have hst : l.stackTraces = false := by
    unfold Launch.stackTraces
    rw [hflags]
    decide +kernel
  have hfr : ∀ a : Nat, a < s.heap.size → ¬ s.heap.size ≤ a := fun a h => Nat.not_le.mpr h
  have hini : (Cond.initialized Bundle.tN).before #[Value.ref b] s = true := hts _ (by decide +kernel)
  have hZ1 : mZ1 (s.heap.size, fun k => s.heap.size + k) s s.heap := vx_Zqof (hts _ (by decide +kernel)) hini (hN _ (by decide +kernel)) hfr
  have hZ2 : mZ2 (s.heap.size, fun k => s.heap.size + k) s s.heap := vx_Zqof (hts _ (by decide +kernel)) hini (hN _ (by decide +kernel)) hfr
  have hent := lv_entry ([Value.ref b]) (n := 12) (Nat.le_of_ble_eq_true rfl)
  rw [lg_entry_eq]
  refine l_start (q := (L, xs)) hL (s.heap.size, fun k => s.heap.size + k) b G cA p l e s m _ below meth c s.heap [] _ ⟨hx, hb, hml, hr, hown, hW, hlocks, htab, (fun h => by cases h), hK, hXF, hst, hZ1, hZ2, Nat.le_refl _, (fun n0 h => by cases h; exact ⟨rfl, rfl⟩), (fun Ls ys h => by cases h; exact ⟨hX, hbl, hbl⟩)⟩ ⟨fun k q h => by simp [mR] at h, va_S.rf, mOkz_x⟩ ⟨hent.1, rfl, hent.2.1, fun i v hi hv => ?_⟩
  match i, hi with
  | 0, hi => cases hi; exact hent.2.2 (0, .ref b) List.mem_cons_self
  | 1, hi => cases hi; exact absurd rfl hv
  | 2, hi => cases hi; exact absurd rfl hv
  | 3, hi => cases hi; exact absurd rfl hv
  | 4, hi => cases hi; exact absurd rfl hv
  | 5, hi => cases hi; exact absurd rfl hv
  | 6, hi => cases hi; exact absurd rfl hv
  | 7, hi => cases hi; exact absurd rfl hv
  | 8, hi => cases hi; exact absurd rfl hv
  | 9, hi => cases hi; exact absurd rfl hv
  | 10, hi => cases hi; exact absurd rfl hv
  | 11, hi => cases hi; exact absurd rfl hv
  | k + 12, hi => simp at hi
