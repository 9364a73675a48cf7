/-! more instructions; new cells where the heap's size isn't known: their address is any -/
section MO
variable {M : mM} {Qf : mQ} {pc : Nat} {L st : List Value} {kc ks : Nat} {w : mW}
theorem ev_ldc {i : Nat} {v : Int32} (d : decode (mMc M) pc = .ok (.ldc i, 2)) (hc : Jvm.Cond.constant (mMy M).cls i v ∈ WA) (k : EvF M Qf (pc + 2) L (.int v :: st) kc ks w) : EvF M Qf pc L st kc ks w :=
  fun z b G cA p l e s m args below meth c H locs ls C hw hL => lv_ldc C.1 C.2.1 C.2.2.2.2.1 (C.2.2.2.2.2.1 _ hc) d (k z b G cA p l e s m args below meth c H locs ls C hw hL)
theorem ev_irem {x y v : Int32} (d : decode (mMc M) pc = .ok (.irem, 1)) (hne : ¬ y = 0) (hv : x - x / y * y = v) (k : EvF M Qf (pc + 1) L (.int v :: st) kc ks w) : EvF M Qf pc L (.int y :: .int x :: st) kc ks w :=
  fun z b G cA p l e s m args below meth c H locs ls C hw hL => lv_irem C.1 C.2.1 d hne (by rw [hv]; exact k z b G cA p l e s m args below meth c H locs ls C hw hL)
theorem ev_idiv {x y v : Int32} (d : decode (mMc M) pc = .ok (.idiv, 1)) (hne : ¬ y = 0) (hv : x / y = v) (k : EvF M Qf (pc + 1) L (.int v :: st) kc ks w) : EvF M Qf pc L (.int y :: .int x :: st) kc ks w :=
  fun z b G cA p l e s m args below meth c H locs ls C hw hL => lv_idiv C.1 C.2.1 d hne (by rw [hv]; exact k z b G cA p l e s m args below meth c H locs ls C hw hL)
theorem ev_ishr {x y v : Int32} (d : decode (mMc M) pc = .ok (.ishr, 1)) (hv : x >>> (y &&& 31) = v) (k : EvF M Qf (pc + 1) L (.int v :: st) kc ks w) : EvF M Qf pc L (.int y :: .int x :: st) kc ks w :=
  fun z b G cA p l e s m args below meth c H locs ls C hw hL => lv_ishr C.1 C.2.1 d (by rw [hv]; exact k z b G cA p l e s m args below meth c H locs ls C hw hL)
theorem ev_lshl {x v : Int64} {y : Int32} (d : decode (mMc M) pc = .ok (.lshl, 1)) (hv : x <<< (y.toInt64 &&& 63) = v) (k : EvF M Qf (pc + 1) L (.long v :: st) kc ks w) : EvF M Qf pc L (.int y :: .long x :: st) kc ks w :=
  fun z b G cA p l e s m args below meth c H locs ls C hw hL => lv_lshl C.1 C.2.1 d hv (k z b G cA p l e s m args below meth c H locs ls C hw hL)
theorem ev_lshr {x v : Int64} {y : Int32} (d : decode (mMc M) pc = .ok (.lshr, 1)) (hv : x >>> (y.toInt64 &&& 63) = v) (k : EvF M Qf (pc + 1) L (.long v :: st) kc ks w) : EvF M Qf pc L (.int y :: .long x :: st) kc ks w :=
  fun z b G cA p l e s m args below meth c H locs ls C hw hL => lv_lshr C.1 C.2.1 d hv (k z b G cA p l e s m args below meth c H locs ls C hw hL)
theorem ev_land {x y v : Int64} (d : decode (mMc M) pc = .ok (.land, 1)) (hv : x &&& y = v) (k : EvF M Qf (pc + 1) L (.long v :: st) kc ks w) : EvF M Qf pc L (.long y :: .long x :: st) kc ks w :=
  fun z b G cA p l e s m args below meth c H locs ls C hw hL => lv_land C.1 C.2.1 d (by rw [hv]; exact k z b G cA p l e s m args below meth c H locs ls C hw hL)
theorem ev_lor {x y v : Int64} (d : decode (mMc M) pc = .ok (.lor, 1)) (hv : x ||| y = v) (k : EvF M Qf (pc + 1) L (.long v :: st) kc ks w) : EvF M Qf pc L (.long y :: .long x :: st) kc ks w :=
  fun z b G cA p l e s m args below meth c H locs ls C hw hL => lv_lor C.1 C.2.1 d (by rw [hv]; exact k z b G cA p l e s m args below meth c H locs ls C hw hL)
theorem ev_lxor {x y v : Int64} (d : decode (mMc M) pc = .ok (.lxor, 1)) (hv : x ^^^ y = v) (k : EvF M Qf (pc + 1) L (.long v :: st) kc ks w) : EvF M Qf pc L (.long y :: .long x :: st) kc ks w :=
  fun z b G cA p l e s m args below meth c H locs ls C hw hL => lv_lxor C.1 C.2.1 d (by rw [hv]; exact k z b G cA p l e s m args below meth c H locs ls C hw hL)
end MO
/-- refers to no cell from n on -/
def vOk (n : Nat) : Value → Bool
  | .ref k => decide (k < n)
  | _ => true
def cOk (n : Nat) (e : mC) : Prop := match e with
  | .inl (_, _, .inr (.inr f)) => ∀ k a, f k = some a → a < n
  | .inr (_, fs) => fs.all (vOk n) = true
  | _ => True
def wOk (n : Nat) (w : mW) : Prop := ∀ e ∈ w, cOk n e
section WO
variable {z z' : mZ} {b n : Nat} {cA : Nat → ClassId} {w : mW}
theorem mV_cg (h : ∀ k, k < n → z'.2 k = z.2 k) {v : Value} (hv : vOk n v = true) : mV z' b v = mV z b v := by
  cases v with
  | ref k => exact congrArg Value.ref (h k (of_decide_eq_true hv))
  | retAddr k => cases k <;> rfl
  | _ => rfl
theorem mE_cg (h : ∀ k, k < n → z'.2 k = z.2 k) {e : mC} (he : cOk n e) : mE z' b cA e = mE z b cA e := by
  match e, he with
  | .inl (t, N, .inl f), _ => rfl
  | .inl (t, N, .inr (.inl f)), _ => rfl
  | .inl (t, N, .inr (.inr f)), he =>
    show Sum.inl _ = Sum.inl _
    congr 7
    funext k
    cases hk : f k with
    | none => rfl
    | some a => exact congrArg some (h a (he k a hk))
  | .inr (ci, fs), he =>
    show Sum.inr (ci, fs.map (mV z' b)) = Sum.inr (ci, fs.map (mV z b))
    rw [List.map_congr_left (fun v hv => mV_cg h (List.all_eq_true.mp he v hv))]
theorem mR_cg (h : ∀ k, k < n → z'.2 k = z.2 k) (hl : w.length ≤ n) (hw : wOk n w) : mR z' b cA w = mR z b cA w := by
  unfold mR
  apply List.ext_getElem?
  intro j
  rw [List.getElem?_mapIdx, List.getElem?_mapIdx]
  cases hj : w[j]? with
  | none => rfl
  | some e =>
    have hlt := (List.getElem?_eq_some_iff.mp hj).1
    show some (z'.2 j, mE z' b cA e) = some (z.2 j, mE z b cA e)
    rw [h j (by omega), mE_cg h (hw e (List.mem_of_getElem? hj))]
theorem mOkz_cg (h0 : z'.1 = z.1) (h : ∀ k, k < n → z'.2 k = z.2 k) {m : Nat} (hm : m ≤ n) : mOkz z' m = mOkz z m := by
  unfold mOkz
  refine propext ⟨fun q => ⟨fun i hi => ?_, fun i j hi hj hij => ?_⟩, fun q => ⟨fun i hi => ?_, fun i j hi hj hij => ?_⟩⟩
  · have := q.1 i hi
    rw [h0, h i (by omega)] at this
    exact this
  · exact q.2 i j hi hj (by rw [h i (by omega), h j (by omega)]; exact hij)
  · rw [h0, h i (by omega)]
    exact q.1 i hi
  · exact q.2 i j hi hj (by rw [← h i (by omega), ← h j (by omega)]; exact hij)
end WO
/-- the end speaks of cells below n alone -/
def mQok (Qf : mQ) (n : Nat) : Prop := ∀ (z z' : mZ) (b : Nat) (G : va_G) (cA : Nat → ClassId) (below : List Frame) (args : Array Value) (s : State), z'.1 = z.1 → (∀ k, k < n → z'.2 k = z.2 k) → ∀ t, Qf z' b G cA below args s t → Qf z b G cA below args s t
def rOk (n : Nat) : Option Value ⊕ String → Bool
  | .inl (some v) => vOk n v
  | _ => true
theorem mQok_m {M : mM} {res : Option Value ⊕ String} {w1 : mW} {n : Nat} (hl : w1.length ≤ n) (hw : wOk n w1) (hr : rOk n res = true) : mQok (mQm M res w1) n := fun z z' b G cA below args s h0 h t ht => by
  have e1 : mQr z' b G cA res w1 = mQr z b G cA res w1 := by
    unfold mQr
    rw [mR_cg h hl hw, mOkz_cg h0 h hl, h0]
    match res, hr with
    | .inl none, _ => rfl
    | .inl (some v), hr =>
      funext x st o t
      show (o = Outcome.returned (some (mV z' b v)) ∧ _) = (o = Outcome.returned (some (mV z b v)) ∧ _)
      rw [mV_cg h hr]
    | .inr E, _ => rfl
  have e2 : mXr z' b G cA res w1 = mXr z b G cA res w1 := by
    unfold mXr
    rw [mR_cg h hl hw, mOkz_cg h0 h hl, h0]
  unfold mQm at ht ⊢
  rw [e1, e2, h0] at ht
  exact ht
section NF
variable {M : mM} {Qf : mQ} {pc : Nat} {L st : List Value} {kc ks : Nat} {w : mW}
theorem ev_newaF {atype : ArrayType} {t N n : Nat} {ty : FieldType} {v : Int32} {e0 : mC} {a0 : vp_A} (d : decode (mMc M) pc = .ok (.newarray atype, 2)) (hty : newarray.typeOf atype = ty) (hw1 : Jvm.Cond.arrayClass ty ∈ WA) (ht : ∀ cA, (mT cA)[t]? = some (cA t, ty)) (hne : ∀ Cn, ty ≠ .object Cn) (ha : ∀ cA : ClassId, vp_cell cA a0 = arrV cA N (fun _ => defaultValue ty)) (he : ∀ z b cA, mE z b cA e0 = .inl (cA t, a0))
    (hv : ¬ v < 0) (hN : v.toNatClampNeg = N) (hby : N * componentBytes ty ≤ 536870912) (hz : mMz M = none) (hn : w.length = n) (hwf : wOk n w) (hL9 : L.all (vOk n) = true) (hst9 : st.all (vOk n) = true) (hQ : mQok Qf n) (hR : kc + 1 ≤ (mMR M).cells ∧ ks + N ≤ (mMR M).slots)
    (kk : EvF M Qf (pc + 2) L (.ref n :: st) (kc + 1) (ks + N) (w ++ [e0])) : EvF M Qf pc L (.int v :: st) kc ks w := by
  subst hn
  intro z b G cA p l e s m args below meth c H locs ls C hw hL
  refine va_newa C.1 C.2.1 (by rw [hty]; exact C.2.2.2.2.2.1 _ hw1) hty C.2.2.2.2.2.2.2.2.2.1 hw.1 (mR_D hw.2.2) hw.2.1 (fun q hq => Nat.le_trans C.2.2.2.2.2.2.2.2.2.2.2.2.2.2.1 hq) ha hv hN hby hR.1 hR.2 d (fun q cA1 H1 hK hP hD hS => ?_)
  have hc1 : cA1 = cA t := by
    have f1 := (hK.2 (mT cA).length (cA1, ty) (by rw [List.getElem?_append_right (Nat.le_refl _), Nat.sub_self]; rfl)).2
    have f2 := (C.2.2.2.2.2.2.2.2.2.1.2 t _ (ht cA)).2
    cases ty with
    | object Cn => exact absurd rfl (hne Cn)
    | _ => exact Option.some.inj (f1.symm.trans f2)
  subst hc1
  obtain ⟨c1, c2, c3, c4, c5, c6, c7, c8, c9, c10, c11, c12, c13, c14, c15, c16, c17⟩ := C
  have hz' : ∀ k, k < w.length → (if k = w.length then q else z.2 k) = z.2 k := fun k hk => if_neg (by omega)
  have hlast : (mR z b cA w ++ [(q, Sum.inl (cA t, a0))])[w.length]? = some (q, Sum.inl (cA t, a0)) := by
    rw [List.getElem?_append_right (by rw [mR_len]; exact Nat.le_refl _), mR_len, Nat.sub_self]
    rfl
  have hin : ∀ i, (hi : i < w.length) → (mR z b cA w ++ [(q, Sum.inl (cA t, a0))])[i]? = some (z.2 i, mE z b cA w[i]) := fun i hi => by
    rw [List.getElem?_append_left (by rw [mR_len]; exact hi)]
    exact mR_get (List.getElem?_eq_getElem hi)
  have hok : mOkz (z.1, fun k => if k = w.length then q else z.2 k) (w ++ [e0]).length := by
    rw [List.length_append]
    refine ⟨fun i hi => ?_, fun i j hi hj hij => ?_⟩
    · show z.1 ≤ if i = w.length then q else z.2 i
      by_cases h : i = w.length
      · rw [if_pos h]
        exact hD.2 _ _ hlast
      · rw [if_neg h]
        exact hw.2.2.1 i (by simp at hi; omega)
    · simp only [List.length_singleton] at hi hj
      dsimp only at hij
      by_cases h1 : i = w.length
      · by_cases h2 : j = w.length
        · omega
        · rw [if_pos h1, if_neg h2] at hij
          have := hD.1 _ _ _ _ hlast (hin j (by omega)) hij
          omega
      · by_cases h2 : j = w.length
        · rw [if_neg h1, if_pos h2] at hij
          have := hD.1 _ _ _ _ (hin i (by omega)) hlast hij
          omega
        · rw [if_neg h1, if_neg h2] at hij
          exact hw.2.2.2 i j (by omega) (by omega) hij
  intro U hU X
  have k9 := kk (z.1, fun k => if k = w.length then q else z.2 k) b G cA p l e s m args below meth c H1 locs ls ⟨c1, c2, c3, c4, c5, c6, c7, c8, c9, c10, c11, c12, c13, c14, c15, fun n0 h => (by rw [hz] at h; cases h), c17⟩ ⟨?_, hS, hok⟩ ?_
  · have hs9 : (Value.ref w.length :: st).map (mV (z.1, fun k => if k = w.length then q else z.2 k) b) = Value.ref q :: st.map (mV z b) := by
      rw [List.map_cons, List.map_congr_left (fun v hv => mV_cg hz' (List.all_eq_true.mp hst9 v hv))]
      congr 1
      exact congrArg Value.ref (if_pos rfl)
    rw [hs9] at k9
    obtain ⟨t2, a1, b1⟩ := k9 U hU X
    exact ⟨t2, a1, hQ z (z.1, fun k => if k = w.length then q else z.2 k) b G cA below args s rfl hz' t2 b1⟩
  · rw [mR_app, mR_cg hz' (Nat.le_refl _) hwf, he]
    show va_P G vwCl (mR z b cA w ++ [(if w.length = w.length then q else z.2 w.length, _)]) H1
    rw [if_pos rfl]
    exact hP
  · refine ⟨hL.1, hL.2.1, hL.2.2.1, fun i v hi hv9 => ?_⟩
    rw [mV_cg hz' (List.all_eq_true.mp hL9 v (List.mem_of_getElem? hi))]
    exact hL.2.2.2 i v hi hv9
/-- what isn't wanted any more is left out of sight -/
theorem ev_dropG {w1 g : mW} (h : w = w1 ++ g) (k : EvF M Qf pc L st kc ks w1) : EvF M Qf pc L st kc ks w := by
  subst h
  intro z b G cA p l e s m args below meth c H locs ls C hw hL
  refine k z b G cA p l e s m args below meth c H locs ls C ⟨fun i q hq => ?_, hw.2.1, mOkz_le (by rw [List.length_append]; omega) hw.2.2⟩ hL
  refine hw.1 i q ?_
  have hlt : i < (mR z b cA w1).length := (List.getElem?_eq_some_iff.mp hq).1
  rw [mR_len] at hlt
  rw [← hq]
  simp only [mR, List.getElem?_mapIdx]
  rw [List.getElem?_append_left hlt]
theorem ev_naIF {N n : Nat} {v : Int32} {w' : mW} (d : decode (mMc M) pc = .ok (.newarray .int, 2)) (hv : v = nI N) (hN : N ≤ 4000) (hz : mMz M = none) (hn : w.length = n) (hwf : wOk n w) (hL9 : L.all (vOk n) = true) (hst9 : st.all (vOk n) = true) (hQ : mQok Qf n) (hR : kc + 1 ≤ (mMR M).cells ∧ ks + N ≤ (mMR M).slots) (hw' : w ++ [.inl (0, N, .inl (fun _ => 0))] = w') (kk : EvF M Qf (pc + 2) L (.ref n :: st) (kc + 1) (ks + N) w') : EvF M Qf pc L (.int v :: st) kc ks w := by
  subst hw'
  subst hv
  exact ev_newaF (t := 0) (ty := .int) (a0 := (N, .inl (fun _ => 0))) d rfl ka_int (fun cA => rfl) (fun Cn h => by cases h) (fun cA => vp_cell_i cA N _) (fun z b cA => rfl) (nI_pos (by omega)) (nI_clamp (by omega)) (by show N * 4 ≤ _; omega) hz hn hwf hL9 hst9 hQ hR kk
theorem ev_naLF {N n : Nat} {v : Int32} {w' : mW} (d : decode (mMc M) pc = .ok (.newarray .long, 2)) (hv : v = nI N) (hN : N ≤ 4000) (hz : mMz M = none) (hn : w.length = n) (hwf : wOk n w) (hL9 : L.all (vOk n) = true) (hst9 : st.all (vOk n) = true) (hQ : mQok Qf n) (hR : kc + 1 ≤ (mMR M).cells ∧ ks + N ≤ (mMR M).slots) (hw' : w ++ [.inl (2, N, .inr (.inl (fun _ => 0)))] = w') (kk : EvF M Qf (pc + 2) L (.ref n :: st) (kc + 1) (ks + N) w') : EvF M Qf pc L (.int v :: st) kc ks w := by
  subst hw'
  subst hv
  exact ev_newaF (t := 2) (ty := .long) (a0 := (N, .inr (.inl (fun _ => 0)))) d rfl ka_long (fun cA => rfl) (fun Cn h => by cases h) (fun cA => vp_cell_l cA N _) (fun z b cA => rfl) (nI_pos (by omega)) (nI_clamp (by omega)) (by show N * 8 ≤ _; omega) hz hn hwf hL9 hst9 hQ hR kk
end NF
