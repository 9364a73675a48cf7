/-! RULES of fields, arrays, new cells -/
/-- what the tables say of a getfield: the class's kind ci, its slot k -/
def mFd (own : String) (idx ci k : Nat) : Prop := ∃ (C : String) (T : u_T) (N : Nat), vwCl[ci]? = some (C, T, N) ∧ (∀ x ∈ u_ws C T N, x ∈ WA) ∧ k < N ∧ Jvm.Cond.fieldLink own idx (T k).1 (T k).2.1 (T k).2.2.1 ∈ WA
/-- .. and of a putfield: fin says if the field is final -/
def mFp (own : String) (idx ci k : Nat) (ty : FieldType) (fin : Bool) : Prop := ∃ (C : String) (T : u_T) (N : Nat) (ty0 : Nat → FieldType), vwCl[ci]? = some (C, T, N) ∧ (∀ x ∈ u_ws C T N, x ∈ WA) ∧ k < N ∧ Jvm.Cond.fieldLink own idx (T k).1 (T k).2.1 (T k).2.2.1 ∈ WA ∧
  (∀ k, k < N → parseFieldDescriptor (T k).2.2.1 = some (ty0 k)) ∧ (∀ a, a < N → ∀ b, b < N → a ≠ b → (T a).2.1 ≠ (T b).2.1) ∧ (T k).2.2.2 = fin ∧ parseFieldDescriptor (T k).2.2.1 = some ty ∧ (fin = true → (T k).1 = own)
theorem mR_len {z : mZ} {b : Nat} {cA : Nat → ClassId} {w : List mC} : (mR z b cA w).length = w.length := by simp [mR]
theorem mR_low {z0 b : Nat} {cA : Nat → ClassId} {G : va_G} {w : List mC} {H : Heap} (h : va_P G vwCl (mR (z0, fun k => z0 + k) b cA w) H) (h0 : z0 ≤ H.size) : z0 + w.length ≤ H.size := by
  cases hw : w.length with
  | zero => omega
  | succ n =>
    have hl : n < w.length := by omega
    have h1 := (h n _ (mR_get (z := (z0, fun k => z0 + k)) (b := b) (cA := cA) (List.getElem?_eq_getElem hl))).lt
    dsimp only at h1
    omega
theorem mV_fit {ty : FieldType} {v : Value} (h : narrow ty v = v ∧ fits ty v = true) (hr : ∀ a, v = .ref a → ∀ a', narrow ty (.ref a') = .ref a' ∧ fits ty (.ref a') = true) (hs : ∀ n, v ≠ .retAddr n) (z : mZ) (b : Nat) : narrow ty (mV z b v) = mV z b v ∧ fits ty (mV z b v) = true := by
  cases v with
  | ref a => exact hr a rfl _
  | retAddr n => exact absurd rfl (hs n)
  | _ => exact h
section HE
variable {M : mM} {Qf : mQ} {pc : Nat} {L st : List Value} {kc ks : Nat} {w : mW}
theorem ev_get {idx ci k q : Nat} {fs : List Value} {v : Value} (d : decode (mMc M) pc = .ok (.getfield idx, 3)) (hF : mFd (mMy M).cls idx ci k) (he : w[q]? = some (.inr (ci, fs))) (hv : fs[k]? = some v) (kk : EvF M Qf (pc + 3) L (v :: st) kc ks w) : EvF M Qf pc L (.ref q :: st) kc ks w := by
  intro z b G cA p l e s m args below meth c H locs ls C hw hL
  obtain ⟨Cn, T, N, hc, hin, hk, hl⟩ := hF
  exact va_get C.1 C.2.1 (Ts := WA) C.2.2.2.2.2.1 hin C.2.2.2.2.1 C.2.2.2.2.2.2.2.2.2.1 hw.1 q (mR_get he) hc k hk (C.2.2.2.2.2.1 _ hl) (fun _ h => h) (v := mV z b v) (by rw [List.getElem?_map, hv]; rfl) d (kk z b G cA p l e s m args below meth c H locs ls C hw hL)
theorem ev_put {idx ci k q : Nat} {ty : FieldType} {fs : List Value} {v : Value} {w' : mW} (d : decode (mMc M) pc = .ok (.putfield idx, 3)) (hF : mFp (mMy M).cls idx ci k ty false) (he : w[q]? = some (.inr (ci, fs))) (hk : k < fs.length) (hv : ∀ z b, narrow ty (mV z b v) = mV z b v ∧ fits ty (mV z b v) = true) (hw' : w.set q (.inr (ci, fs.set k v)) = w') (kk : EvF M Qf (pc + 3) L st kc ks w') : EvF M Qf pc L (v :: .ref q :: st) kc ks w := by
  intro z b G cA p l e s m args below meth c H locs ls C hw hL
  obtain ⟨Cn, T, N, ty0, hc, hin, hkN, hl, hty, hnm, hfin, hd, -⟩ := hF
  refine va_put C.1 C.2.1 (Ts := WA) C.2.2.2.2.2.1 hin ty0 hty hnm C.2.2.2.2.1 C.2.2.2.2.2.2.2.2.2.1 hw.1 (mR_D hw.2.2) hw.2.1 q (mR_get he) hc k hkN (C.2.2.2.2.2.1 _ hl) (fun _ h => h) hfin hd (hv z b).1 (hv z b).2 (by rw [List.length_map]; exact hk) d (fun H1 locs1 hP hD hS => ?_)
  refine kk z b G cA p l e s m args below meth c H1 locs1 ls C ⟨?_, hS, by rw [← hw', List.length_set]; exact hw.2.2⟩ hL
  rw [← hw', ← mR_set]
  have e1 : mE z b cA (.inr (ci, fs.set k v)) = .inr (ci, (fs.map (mV z b)).set k (mV z b v)) := by
    show Sum.inr (ci, (fs.set k v).map (mV z b)) = _
    rw [List.map_set]
  rw [e1]
  exact hP
theorem ev_putF {idx ci k q : Nat} {ty : FieldType} {fs : List Value} {v : Value} {w' : mW} (d : decode (mMc M) pc = .ok (.putfield idx, 3)) (hF : mFp (mMy M).cls idx ci k ty true) (hi : mMi M = true) (he : w[q]? = some (.inr (ci, fs))) (hk : k < fs.length) (hv : ∀ z b, narrow ty (mV z b v) = mV z b v ∧ fits ty (mV z b v) = true) (hw' : w.set q (.inr (ci, fs.set k v)) = w') (kk : EvF M Qf (pc + 3) L st kc ks w') : EvF M Qf pc L (v :: .ref q :: st) kc ks w := by
  intro z b G cA p l e s m args below meth c H locs ls C hw hL
  obtain ⟨Cn, T, N, ty0, hc, hin, hkN, hl, hty, hnm, hfin, hd, hdecl⟩ := hF
  refine va_putF C.1 C.2.1 (Ts := WA) C.2.2.2.2.2.1 hin ty0 hty hnm C.2.2.2.2.1 C.2.2.2.2.2.2.2.2.2.1 hw.1 (mR_D hw.2.2) hw.2.1 q (mR_get he) hc k hkN (C.2.2.2.2.2.1 _ hl) (fun _ h => h) hfin (C.2.2.2.2.2.2.2.2.1 hi) (hdecl rfl) hd (hv z b).1 (hv z b).2 (by rw [List.length_map]; exact hk) d (fun H1 locs1 hP hD hS => ?_)
  refine kk z b G cA p l e s m args below meth c H1 locs1 ls C ⟨?_, hS, by rw [← hw', List.length_set]; exact hw.2.2⟩ hL
  rw [← hw', ← mR_set]
  have e1 : mE z b cA (.inr (ci, fs.set k v)) = .inr (ci, (fs.map (mV z b)).set k (mV z b v)) := by
    show Sum.inr (ci, (fs.set k v).map (mV z b)) = _
    rw [List.map_set]
  rw [e1]
  exact hP
/-- an int array's place -/
theorem ev_iald {q n : Nat} {f : Nat → Int32} {i : Int32} (d : decode (mMc M) pc = .ok (.iaload, 1)) (he : w[q]? = some (.inl (0, n, .inl f))) (hi : vp_in i n) (kk : EvF M Qf (pc + 1) L (.int (f i.toNatClampNeg) :: st) kc ks w) : EvF M Qf pc L (.int i :: .ref q :: st) kc ks w := by
  intro z b G cA p l e s m args below meth c H locs ls C hw hL
  exact va_iald C.1 C.2.1 C.2.2.2.2.2.2.2.2.2.1 hw.1 q 0 (mR_get he) rfl hi d (kk z b G cA p l e s m args below meth c H locs ls C hw hL)
theorem ev_zald {q n : Nat} {f : Nat → Int32} {i : Int32} (d : decode (mMc M) pc = .ok (.baload, 1)) (he : w[q]? = some (.inl (1, n, .inl f))) (hi : vp_in i n) (kk : EvF M Qf (pc + 1) L (.int (f i.toNatClampNeg) :: st) kc ks w) : EvF M Qf pc L (.int i :: .ref q :: st) kc ks w := by
  intro z b G cA p l e s m args below meth c H locs ls C hw hL
  exact va_zald C.1 C.2.1 C.2.2.2.2.2.2.2.2.2.1 hw.1 q 1 (mR_get he) rfl hi d (kk z b G cA p l e s m args below meth c H locs ls C hw hL)
theorem ev_lald {q n : Nat} {f : Nat → Int64} {i : Int32} (d : decode (mMc M) pc = .ok (.laload, 1)) (he : w[q]? = some (.inl (2, n, .inr (.inl f)))) (hi : vp_in i n) (kk : EvF M Qf (pc + 1) L (.long (f i.toNatClampNeg) :: st) kc ks w) : EvF M Qf pc L (.int i :: .ref q :: st) kc ks w := by
  intro z b G cA p l e s m args below meth c H locs ls C hw hL
  exact va_lald C.1 C.2.1 C.2.2.2.2.2.2.2.2.2.1 hw.1 q 2 (mR_get he) rfl hi d (kk z b G cA p l e s m args below meth c H locs ls C hw hL)
theorem ev_aald {q n a : Nat} {f : Nat → Option Nat} {i : Int32} (d : decode (mMc M) pc = .ok (.aaload, 1)) (he : w[q]? = some (.inl (3, n, .inr (.inr f)))) (hi : vp_in i n) (ha : f i.toNatClampNeg = some a) (kk : EvF M Qf (pc + 1) L (.ref a :: st) kc ks w) : EvF M Qf pc L (.int i :: .ref q :: st) kc ks w := by
  intro z b G cA p l e s m args below meth c H locs ls C hw hL
  refine va_aldq C.1 C.2.1 C.2.2.2.2.2.2.2.2.2.1 hw.1 q 3 (mR_get he) rfl hi d ?_
  rw [ha]
  exact kk z b G cA p l e s m args below meth c H locs ls C hw hL
theorem ev_iast {q n : Nat} {f : Nat → Int32} {i x : Int32} {w' : mW} (d : decode (mMc M) pc = .ok (.iastore, 1)) (he : w[q]? = some (.inl (0, n, .inl f))) (hi : vp_in i n) (hw' : w.set q (.inl (0, n, .inl (upd f i.toNatClampNeg x))) = w') (kk : EvF M Qf (pc + 1) L st kc ks w') : EvF M Qf pc L (.int x :: .int i :: .ref q :: st) kc ks w := by
  intro z b G cA p l e s m args below meth c H locs ls C hw hL
  refine va_iast C.1 C.2.1 C.2.2.2.2.2.2.2.2.2.1 hw.1 (mR_D hw.2.2) hw.2.1 q 0 (mR_get he) rfl hi d (fun H1 locs1 hP hD hS => ?_)
  refine kk z b G cA p l e s m args below meth c H1 locs1 ls C ⟨?_, hS, by rw [← hw', List.length_set]; exact hw.2.2⟩ hL
  rw [← hw', ← mR_set]
  exact hP
theorem ev_zast {q n : Nat} {f : Nat → Int32} {i x : Int32} {w' : mW} (d : decode (mMc M) pc = .ok (.bastore, 1)) (he : w[q]? = some (.inl (1, n, .inl f))) (hi : vp_in i n) (hw' : w.set q (.inl (1, n, .inl (upd f i.toNatClampNeg (x &&& 1)))) = w') (kk : EvF M Qf (pc + 1) L st kc ks w') : EvF M Qf pc L (.int x :: .int i :: .ref q :: st) kc ks w := by
  intro z b G cA p l e s m args below meth c H locs ls C hw hL
  refine va_zast C.1 C.2.1 C.2.2.2.2.2.2.2.2.2.1 hw.1 (mR_D hw.2.2) hw.2.1 q 1 (mR_get he) rfl hi d (fun H1 locs1 hP hD hS => ?_)
  refine kk z b G cA p l e s m args below meth c H1 locs1 ls C ⟨?_, hS, by rw [← hw', List.length_set]; exact hw.2.2⟩ hL
  rw [← hw', ← mR_set]
  exact hP
theorem ev_last {q n : Nat} {f : Nat → Int64} {i : Int32} {x : Int64} {w' : mW} (d : decode (mMc M) pc = .ok (.lastore, 1)) (he : w[q]? = some (.inl (2, n, .inr (.inl f)))) (hi : vp_in i n) (hw' : w.set q (.inl (2, n, .inr (.inl (vp_updL f i.toNatClampNeg x)))) = w') (kk : EvF M Qf (pc + 1) L st kc ks w') : EvF M Qf pc L (.long x :: .int i :: .ref q :: st) kc ks w := by
  intro z b G cA p l e s m args below meth c H locs ls C hw hL
  refine va_last C.1 C.2.1 C.2.2.2.2.2.2.2.2.2.1 hw.1 (mR_D hw.2.2) hw.2.1 q 2 (mR_get he) rfl hi d (fun H1 locs1 hP hD hS => ?_)
  refine kk z b G cA p l e s m args below meth c H1 locs1 ls C ⟨?_, hS, by rw [← hw', List.length_set]; exact hw.2.2⟩ hL
  rw [← hw', ← mR_set]
  exact hP
theorem ev_aast {q n v : Nat} {f : Nat → Option Nat} {fs : List Value} {i : Int32} {w' : mW} (d : decode (mMc M) pc = .ok (.aastore, 1)) (he : w[q]? = some (.inl (3, n, .inr (.inr f)))) (hi : vp_in i n) (hv : w[v]? = some (.inr (1, fs))) (hw' : w.set q (.inl (3, n, .inr (.inr (va_up f i.toNatClampNeg (some v))))) = w') (kk : EvF M Qf (pc + 1) L st kc ks w') : EvF M Qf pc L (.ref v :: .int i :: .ref q :: st) kc ks w := by
  intro z b G cA p l e s m args below meth c H locs ls C hw hL
  refine va_astq C.1 C.2.1 C.2.2.2.2.2.2.2.2.2.1 hw.1 (mR_D hw.2.2) hw.2.1 q 3 (z.2 v |> fun _ => v) 1 (mR_get he) (r := (RX1, TX1, 4)) rfl (mR_get hv) rfl hi d (fun H1 locs1 hP hD hS => ?_)
  refine kk z b G cA p l e s m args below meth c H1 locs1 ls C ⟨?_, hS, by rw [← hw', List.length_set]; exact hw.2.2⟩ hL
  rw [← hw', ← mR_set]
  have e1 : mE z b cA (.inl (3, n, .inr (.inr (va_up f i.toNatClampNeg (some v))))) = .inl (cA 3, n, .inr (.inr (.inr (.inr (va_up (fun k => (f k).map (fun a => z.2 a)) i.toNatClampNeg (some (z.2 v))))))) := by
    show Sum.inl _ = Sum.inl _
    congr 7
    funext k
    by_cases hk : k = i.toNatClampNeg
    · simp [va_up, hk]
    · simp [va_up, hk]
  rw [e1]
  exact hP
theorem ev_alen {q n t : Nat} {a : (Nat → Int32) ⊕ ((Nat → Int64) ⊕ (Nat → Option Nat))} (d : decode (mMc M) pc = .ok (.arraylength, 1)) (he : w[q]? = some (.inl (t, n, a))) (ht : t < 4) (kk : EvF M Qf (pc + 1) L (.int (Int32.ofNat n) :: st) kc ks w) : EvF M Qf pc L (.ref q :: st) kc ks w := by
  intro z b G cA p l e s m args below meth c H locs ls C hw hL
  have k9 := kk z b G cA p l e s m args below meth c H locs ls C hw hL
  obtain ⟨ty, hty⟩ : ∃ ty, (mT cA)[t]? = some (cA t, ty) := by
    match t, ht with
    | 0, _ => exact ⟨_, rfl⟩
    | 1, _ => exact ⟨_, rfl⟩
    | 2, _ => exact ⟨_, rfl⟩
    | 3, _ => exact ⟨_, rfl⟩
  match a, he with
  | .inl f, he => exact va_alen C.1 C.2.1 C.2.2.2.2.2.2.2.2.2.1 hw.1 q t (mR_get he) hty rfl d k9
  | .inr (.inl f), he => exact va_alen C.1 C.2.1 C.2.2.2.2.2.2.2.2.2.1 hw.1 q t (mR_get he) hty rfl d k9
  | .inr (.inr f), he => exact va_alen C.1 C.2.1 C.2.2.2.2.2.2.2.2.2.1 hw.1 q t (mR_get he) hty rfl d k9
/-- the script -/
theorem ev_sld {Ls : Nat} {xs : Nat → Int32} {i : Int32} (d : decode (mMc M) pc = .ok (.iaload, 1)) (hs : mMs M = some (Ls, xs)) (hi : vp_in i Ls) (kk : EvF M Qf (pc + 1) L (.int (xs i.toNatClampNeg) :: st) kc ks w) : EvF M Qf pc L (.int i :: scr1 :: st) kc ks w := by
  intro z b G cA p l e s m args below meth c H locs ls C hw hL
  obtain ⟨h1, h2, h3⟩ := C.2.2.2.2.2.2.2.2.2.2.2.2.2.2.2.2 Ls xs hs
  exact va_sld C.1 C.2.1 h1 h2 (A := fun q => z.1 ≤ q) (Nat.not_le.mpr h3) hw.2.1 hi d (kk z b G cA p l e s m args below meth c H locs ls C hw hL)
theorem ev_slen {Ls : Nat} {xs : Nat → Int32} (d : decode (mMc M) pc = .ok (.arraylength, 1)) (hs : mMs M = some (Ls, xs)) (kk : EvF M Qf (pc + 1) L (.int (Int32.ofNat Ls) :: st) kc ks w) : EvF M Qf pc L (scr1 :: st) kc ks w := by
  intro z b G cA p l e s m args below meth c H locs ls C hw hL
  obtain ⟨h1, h2, h3⟩ := C.2.2.2.2.2.2.2.2.2.2.2.2.2.2.2.2 Ls xs hs
  exact va_slen C.1 C.2.1 h1 h2 (A := fun q => z.1 ≤ q) (Nat.not_le.mpr h3) hw.2.1 d (kk z b G cA p l e s m args below meth c H locs ls C hw hL)
theorem ev_widen {k2 s2 : Nat} (h1 : kc ≤ k2) (h2 : ks ≤ s2) (kk : EvF M Qf pc L st k2 s2 w) : EvF M Qf pc L st kc ks w :=
  fun z b G cA p l e s m args below meth c H locs ls C hw hL => W.widen h1 h2 (kk z b G cA p l e s m args below meth c H locs ls C hw hL)
end HE
