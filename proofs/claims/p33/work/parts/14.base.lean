/-! numbers; nodes; how the class's rows hold them; trees by their depth -/
theorem nI_i1 (n : Nat) : nI n + Int32.ofInt 1 = nI (n + 1) := nI_1 n
theorem nI_a1 (n : Nat) : nI n + 1 = nI (n + 1) := nI_1 n
theorem nI_im {n : Nat} (h : 0 < n) : nI n + Int32.ofInt (-1) = nI (n - 1) := by
  obtain ⟨m, rfl⟩ : ∃ m, n = m + 1 := ⟨n - 1, by omega⟩
  exact pk_m1 m
theorem nI_s1 {n : Nat} (h : 0 < n) : nI n - 1 = nI (n - 1) := by
  obtain ⟨m, rfl⟩ : ∃ m, n = m + 1 := ⟨n - 1, by omega⟩
  exact nI_pred m
theorem hp0 {p : Nat} (h : p < 800) : ¬ nI p < 0 := nI_pos (by omega)
theorem hp8 {p : Nat} (h : p < 800) : ¬ (800 : Int32) ≤ nI p := nI_ge h (by decide)
theorem he0 {e : Nat} (h : e < 5) : ¬ nI e < 0 := nI_pos (by omega)
theorem he5 {e : Nat} (h : e < 5) : ¬ (5 : Int32) ≤ nI e := nI_ge h (by decide)
theorem ix5 (p e : Nat) : nI p * 5 + nI e = nI (5 * p + e) := by
  rw [show (5 : Int32) = nI 5 from rfl, pk_mul, nI_add, Nat.mul_comm]
theorem ix5' (p : Nat) : nI p * 5 = nI (5 * p) := by
  rw [show (5 : Int32) = nI 5 from rfl, pk_mul, Nat.mul_comm]
theorem nI_inj {a b : Nat} (ha : a < 2147483648) (hb : b < 2147483648) (h : nI a = nI b) : a = b := (nI_eq ha hb).mp h
/-! int and boolean arrays at a known place -/
section AN
variable {M : mM} {Qf : mQ} {pc : Nat} {L st : List Value} {kc ks : Nat} {w w' : mW}
theorem ev_ialdN {q n j : Nat} {f : Nat → Int32} {i v : Int32} (d : decode (mMc M) pc = .ok (.iaload, 1)) (he : w[q]? = some (.inl (0, n, .inl f))) (h : i = nI j ∧ j < n ∧ n < 2147483648) (hv : f j = v) (kk : EvF M Qf (pc + 1) L (.int v :: st) kc ks w) : EvF M Qf pc L (.int i :: .ref q :: st) kc ks w := by
  obtain ⟨rfl, hj, hn⟩ := h
  refine ev_iald d he (vp_in_nI hj hn) ?_
  rw [nI_clamp (by omega), hv]
  exact kk
theorem ev_zaldN {q n j : Nat} {f : Nat → Int32} {i v : Int32} (d : decode (mMc M) pc = .ok (.baload, 1)) (he : w[q]? = some (.inl (1, n, .inl f))) (h : i = nI j ∧ j < n ∧ n < 2147483648) (hv : f j = v) (kk : EvF M Qf (pc + 1) L (.int v :: st) kc ks w) : EvF M Qf pc L (.int i :: .ref q :: st) kc ks w := by
  obtain ⟨rfl, hj, hn⟩ := h
  refine ev_zald d he (vp_in_nI hj hn) ?_
  rw [nI_clamp (by omega), hv]
  exact kk
theorem ev_laldN {q n j : Nat} {f : Nat → Int64} {i : Int32} {v : Int64} (d : decode (mMc M) pc = .ok (.laload, 1)) (he : w[q]? = some (.inl (2, n, .inr (.inl f)))) (h : i = nI j ∧ j < n ∧ n < 2147483648) (hv : f j = v) (kk : EvF M Qf (pc + 1) L (.long v :: st) kc ks w) : EvF M Qf pc L (.int i :: .ref q :: st) kc ks w := by
  obtain ⟨rfl, hj, hn⟩ := h
  refine ev_lald d he (vp_in_nI hj hn) ?_
  rw [nI_clamp (by omega), hv]
  exact kk
theorem ev_iastN {q n j : Nat} {f f' : Nat → Int32} {i x : Int32} (d : decode (mMc M) pc = .ok (.iastore, 1)) (he : w[q]? = some (.inl (0, n, .inl f))) (h : i = nI j ∧ j < n ∧ n < 2147483648) (hf : upd f j x = f') (hw' : w.set q (.inl (0, n, .inl f')) = w') (kk : EvF M Qf (pc + 1) L st kc ks w') : EvF M Qf pc L (.int x :: .int i :: .ref q :: st) kc ks w := by
  obtain ⟨rfl, hj, hn⟩ := h
  refine ev_iast d he (vp_in_nI hj hn) ?_ kk
  rw [nI_clamp (by omega), hf]
  exact hw'
theorem ev_zastN {q n j : Nat} {f f' : Nat → Int32} {i x : Int32} (d : decode (mMc M) pc = .ok (.bastore, 1)) (he : w[q]? = some (.inl (1, n, .inl f))) (h : i = nI j ∧ j < n ∧ n < 2147483648) (hf : upd f j (x &&& 1) = f') (hw' : w.set q (.inl (1, n, .inl f')) = w') (kk : EvF M Qf (pc + 1) L st kc ks w') : EvF M Qf pc L (.int x :: .int i :: .ref q :: st) kc ks w := by
  obtain ⟨rfl, hj, hn⟩ := h
  refine ev_zast d he (vp_in_nI hj hn) ?_ kk
  rw [nI_clamp (by omega), hf]
  exact hw'
theorem ev_lastN {q n j : Nat} {f f' : Nat → Int64} {i : Int32} {x : Int64} (d : decode (mMc M) pc = .ok (.lastore, 1)) (he : w[q]? = some (.inl (2, n, .inr (.inl f)))) (h : i = nI j ∧ j < n ∧ n < 2147483648) (hf : vp_updL f j x = f') (hw' : w.set q (.inl (2, n, .inr (.inl f'))) = w') (kk : EvF M Qf (pc + 1) L st kc ks w') : EvF M Qf pc L (.long x :: .int i :: .ref q :: st) kc ks w := by
  obtain ⟨rfl, hj, hn⟩ := h
  refine ev_last d he (vp_in_nI hj hn) ?_ kk
  rw [nI_clamp (by omega), hf]
  exact hw'
end AN
/-! nodes: a leaf's keys with their values; an inner page's pages -/
abbrev Nd : Type := List (Nat × Int32) ⊕ List Nat
def kids (n : Nd) : List Nat := match n with
  | .inl _ => []
  | .inr l => l
def nlen (n : Nd) : Nat := match n with
  | .inl l => l.length
  | .inr l => l.length
/-- the rows of page p hold the node n -/
def rpN (cnt inn lk wd : Nat → Int32) (p : Nat) (n : Nd) : Prop := match n with
  | .inl l => inn p = 0 ∧ l.length ≤ 5 ∧ cnt p = nI l.length ∧ ∀ (e : Nat) (x : Nat × Int32), l[e]? = some x → lk (5 * p + e) = nI x.1 ∧ wd (5 * p + e) = x.2 ∧ x.1 < 100
  | .inr l => inn p = 1 ∧ l.length ≤ 5 ∧ cnt p = nI l.length ∧ ∀ (e c : Nat), l[e]? = some c → wd (5 * p + e) = nI c ∧ c < 800
def Rp (cnt inn lk wd : Nat → Int32) (T : Nat → Nd) (U : Nat → Prop) : Prop := ∀ p, U p → p < 800 ∧ rpN cnt inn lk wd p (T p)
/-- a tree of depth d that is no root: 2 to 4 entries everywhere -/
def fl (T : Nat → Nd) (U : Nat → Prop) : Nat → Nat → Prop
  | 0, p => U p ∧ ∃ l, T p = .inl l ∧ 2 ≤ l.length ∧ l.length ≤ 4
  | d + 1, p => U p ∧ ∃ l, T p = .inr l ∧ 2 ≤ l.length ∧ l.length ≤ 4 ∧ ∀ c ∈ l, fl T U d c
def rt (T : Nat → Nd) (U : Nat → Prop) : Nat → Nat → Prop
  | 0, p => U p ∧ ∃ l, T p = .inl l ∧ l.length ≤ 4
  | d + 1, p => fl T U (d + 1) p
/-- the least key -/
def mkT (T : Nat → Nd) : Nat → Nat → Nat
  | 0, p => match T p with
    | .inl (x :: _) => x.1
    | _ => 0
  | d + 1, p => match T p with
    | .inr (c :: _) => mkT T d c
    | _ => 0
theorem fl_U {T : Nat → Nd} {U : Nat → Prop} : ∀ {d p : Nat}, fl T U d p → U p
  | 0, _, h => h.1
  | _ + 1, _, h => h.1
theorem rt_U {T : Nat → Nd} {U : Nat → Prop} : ∀ {d p : Nat}, rt T U d p → U p
  | 0, _, h => h.1
  | _ + 1, _, h => h.1
theorem Rp.leaf {cnt inn lk wd : Nat → Int32} {T : Nat → Nd} {U : Nat → Prop} (h : Rp cnt inn lk wd T U) {p : Nat} (hu : U p) {l : List (Nat × Int32)} (ht : T p = .inl l) : p < 800 ∧ inn p = 0 ∧ l.length ≤ 5 ∧ cnt p = nI l.length ∧ ∀ (e : Nat) (x : Nat × Int32), l[e]? = some x → lk (5 * p + e) = nI x.1 ∧ wd (5 * p + e) = x.2 ∧ x.1 < 100 := by
  obtain ⟨h1, h2⟩ := h p hu
  rw [ht] at h2
  exact ⟨h1, h2⟩
theorem Rp.inner {cnt inn lk wd : Nat → Int32} {T : Nat → Nd} {U : Nat → Prop} (h : Rp cnt inn lk wd T U) {p : Nat} (hu : U p) {l : List Nat} (ht : T p = .inr l) : p < 800 ∧ inn p = 1 ∧ l.length ≤ 5 ∧ cnt p = nI l.length ∧ ∀ (e c : Nat), l[e]? = some c → wd (5 * p + e) = nI c ∧ c < 800 := by
  obtain ⟨h1, h2⟩ := h p hu
  rw [ht] at h2
  exact ⟨h1, h2⟩
theorem Rp.cnt {cnt inn lk wd : Nat → Int32} {T : Nat → Nd} {U : Nat → Prop} (h : Rp cnt inn lk wd T U) {p : Nat} (hu : U p) : p < 800 ∧ cnt p = nI (nlen (T p)) ∧ nlen (T p) ≤ 5 := by
  obtain ⟨h1, h2⟩ := h p hu
  cases ht : T p with
  | inl l => rw [ht] at h2; exact ⟨h1, h2.2.2.1, h2.2.1⟩
  | inr l => rw [ht] at h2; exact ⟨h1, h2.2.2.1, h2.2.1⟩
