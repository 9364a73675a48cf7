/-! THE STORE'S STATE, and what its calls answer: the pages kept, those written, the pages' nodes, the current state, the batch, slots, readers, the slot in use, the slots' words -/
abbrev SS : Type := (Nat → Prop) × (Nat → Prop) × (Nat → Nd) × RS3 × Option RS3 × (Nat → Option RS3) × (Nat → Option RS3) × Nat × (Nat → Int64)
abbrev gK (σ : SS) : Nat → Prop := σ.1
abbrev gW (σ : SS) : Nat → Prop := σ.2.1
abbrev gT (σ : SS) : Nat → Nd := σ.2.2.1
abbrev gC (σ : SS) : RS3 := σ.2.2.2.1
abbrev gB (σ : SS) : Option RS3 := σ.2.2.2.2.1
abbrev gO (σ : SS) : Nat → Option RS3 := σ.2.2.2.2.2.1
abbrev gR (σ : SS) : Nat → Option RS3 := σ.2.2.2.2.2.2.1
abbrev gS (σ : SS) : Nat := σ.2.2.2.2.2.2.2.1
abbrev gD (σ : SS) : Nat → Int64 := σ.2.2.2.2.2.2.2.2
abbrev gU (σ : SS) : Nat → Prop := fun q => gK σ q ∨ gW σ q
abbrev gV (σ : SS) (i : Int32) : Option RS3 := vwF (gC σ) (gB σ) (gR σ) i
abbrev gI (N : Nat) (σ : SS) : Prop := AI N (gK σ) (gW σ) (gT σ) (gC σ) (gB σ) (gO σ) (gR σ) (gS σ) (gD σ)
def CG (N : Nat) (σ : SS) (tl : List mC) (w : mW) : Prop := ∃ (cu ba r0 r1 r2 r3 : Q4) (bt : Int32) (cnt inn lk wd kp wr mk ls pth tk : Nat → Int32), gI N σ ∧ CR (gK σ) (gW σ) (gT σ) cnt inn lk wd kp wr ∧ CS cu ba r0 r1 r2 r3 (gC σ) (gB σ) (gR σ) ∧ w = (cW (nI (gS σ)) cu ba r0 r1 r2 r3 (gD σ) bt cnt inn lk wd kp wr mk ls pth tk tl)
/-- a tree's keys with their values -/
def cN (T : Nat → Nd) (r : Nat) (L : List (Nat × Int32)) : Prop := ∃ d, dpt T d r ∧ kyl T d r = L
theorem dpt_un {T : Nat → Nd} : ∀ {d d' p : Nat}, dpt T d p → dpt T d' p → (∀ q l, T q = .inr l → l ≠ []) → d = d'
  | 0, 0, _, _, _, _ => rfl
  | 0, d' + 1, p, ⟨l, hl⟩, ⟨l', hl', _⟩, _ => by rw [hl] at hl'; cases hl'
  | d + 1, 0, p, ⟨l, hl, _⟩, ⟨l', hl'⟩, _ => by rw [hl] at hl'; cases hl'
  | d + 1, d' + 1, p, ⟨l, hl, hk⟩, ⟨l', hl', hk'⟩, hne => by
    rw [hl] at hl'
    cases hl'
    cases l with
    | nil => exact absurd rfl (hne p _ hl)
    | cons c l => rw [dpt_un (hk c List.mem_cons_self) (hk' c List.mem_cons_self) hne]
theorem fl_un {T : Nat → Nd} {U : Nat → Prop} : ∀ {d d' p : Nat}, fl T U d p → dpt T d' p → d = d'
  | 0, 0, _, _, _ => rfl
  | 0, d' + 1, p, ⟨_, l, hl, _⟩, ⟨l', hl', _⟩ => by rw [hl] at hl'; cases hl'
  | d + 1, 0, p, ⟨_, l, hl, _⟩, ⟨l', hl'⟩ => by rw [hl] at hl'; cases hl'
  | d + 1, d' + 1, p, ⟨_, l, hl, h2, _, hk⟩, ⟨l', hl', hk'⟩ => by
    rw [hl] at hl'
    cases hl'
    cases l with
    | nil => simp at h2
    | cons c l => rw [fl_un (hk c List.mem_cons_self) (hk' c List.mem_cons_self)]
theorem rt_un {T : Nat → Nd} {U : Nat → Prop} {d d' p : Nat} (h : rt T U d p) (h' : dpt T d' p) : d = d' := by
  cases d with
  | zero =>
    obtain ⟨_, l, hl, _⟩ := h
    cases d' with
    | zero => rfl
    | succ d' =>
      obtain ⟨l', hl', _⟩ := h'
      rw [hl] at hl'
      cases hl'
  | succ d => exact fl_un (d := d + 1) h h'
/-- with a good tree its content is that of the depth -/
theorem cN_at {T : Nat → Nd} {U : Nat → Prop} {d p : Nat} {L : List (Nat × Int32)} (h : rt T U d p) (hc : cN T p L) : kyl T d p = L := by
  obtain ⟨d', h1, h2⟩ := hc
  rw [rt_un h h1]
  exact h2
theorem cN_of {T : Nat → Nd} {U : Nat → Prop} {d p : Nat} (h : rt T U d p) : cN T p (kyl T d p) := ⟨d, sb_dpt (rt_sb h).1, rfl⟩
theorem dpt_fr {T T' : Nat → Nd} : ∀ {d p : Nat}, dpt T d p → (∀ q, inP T d p q → T' q = T q) → dpt T' d p
  | 0, p, ⟨l, hl⟩, h => ⟨l, (h p (in_self T _ p)).trans hl⟩
  | d + 1, p, ⟨l, hl, hk⟩, h => ⟨l, (h p (in_self T _ p)).trans hl, fun c hc => dpt_fr (hk c hc) (fun q hq => h q (in_kid (by rw [hl]; exact hc) hq))⟩
theorem cN_fr {T T' : Nat → Nd} {p : Nat} {L : List (Nat × Int32)} (h : cN T p L) (hf : ∀ q, Rch T p q → T' q = T q) : cN T' p L := by
  obtain ⟨d, h1, h2⟩ := h
  have hin : ∀ q, inP T d p q → T' q = T q := fun q hq => hf q ((in_Rch h1 q).mp hq)
  exact ⟨d, dpt_fr h1 hin, (kyl_fr hin).trans h2⟩
theorem Srt_fun : ∀ {L : List (Nat × Int32)} {k : Nat} {v v' : Int32}, Srt L → (k, v) ∈ L → (k, v') ∈ L → v = v'
  | [], _, _, _, _, h, _ => absurd h List.not_mem_nil
  | x :: L, k, v, v', hs, h, h' => by
    obtain ⟨s1, s2⟩ := Srt_cons.mp hs
    rcases List.mem_cons.mp h with hx | hx
    · rcases List.mem_cons.mp h' with hy | hy
      · exact congrArg Prod.snd (hx.trans hy.symm)
      · have := s1 _ hy
        rw [← hx] at this
        exact absurd this (Nat.lt_irrefl _)
    · rcases List.mem_cons.mp h' with hy | hy
      · have := s1 _ hx
        rw [← hy] at this
        exact absurd this (Nat.lt_irrefl _)
      · exact Srt_fun s2 hx hy
section CGW
variable {N : Nat} {σ : SS} {tl : List mC} {w : mW}
theorem cg_0 (h : CG N σ tl w) : ∃ fs, w[0]? = some (.inr (3, fs)) := by
  obtain ⟨cu, ba, r0, r1, r2, r3, bt, cnt, inn, lk, wd, kp, wr, mk, ls, pth, tk, hA, hC, hS, rfl⟩ := h
  exact ⟨_, rfl⟩
theorem cg_len (h : CG N σ tl w) : w.length = 21 + tl.length := by
  obtain ⟨cu, ba, r0, r1, r2, r3, bt, cnt, inn, lk, wd, kp, wr, mk, ls, pth, tk, hA, hC, hS, rfl⟩ := h
  show tl.length + 21 = _
  omega
theorem cg_at (h : CG N σ tl w) {j : Nat} {x : mC} (hx : tl[j]? = some x) : w[21 + j]? = some x := by
  obtain ⟨cu, ba, r0, r1, r2, r3, bt, cnt, inn, lk, wd, kp, wr, mk, ls, pth, tk, hA, hC, hS, rfl⟩ := h
  rw [Nat.add_comm]
  exact hx
theorem cg_set (h : CG N σ tl w) {j : Nat} {x : mC} : CG N σ (tl.set j x) (w.set (21 + j) x) := by
  obtain ⟨cu, ba, r0, r1, r2, r3, bt, cnt, inn, lk, wd, kp, wr, mk, ls, pth, tk, hA, hC, hS, rfl⟩ := h
  rw [Nat.add_comm]
  exact ⟨cu, ba, r0, r1, r2, r3, bt, cnt, inn, lk, wd, kp, wr, mk, ls, pth, tk, hA, hC, hS, rfl⟩
theorem cg_app (h : CG N σ tl w) (t : List mC) : CG N σ (tl ++ t) (w ++ t) := by
  obtain ⟨cu, ba, r0, r1, r2, r3, bt, cnt, inn, lk, wd, kp, wr, mk, ls, pth, tk, hA, hC, hS, rfl⟩ := h
  exact ⟨cu, ba, r0, r1, r2, r3, bt, cnt, inn, lk, wd, kp, wr, mk, ls, pth, tk, hA, hC, hS, rfl⟩
theorem cg_cut {t : List mC} (h : CG N σ (tl ++ t) w) : ∃ w1, w = w1 ++ t ∧ CG N σ tl w1 := by
  obtain ⟨cu, ba, r0, r1, r2, r3, bt, cnt, inn, lk, wd, kp, wr, mk, ls, pth, tk, hA, hC, hS, rfl⟩ := h
  exact ⟨(cW (nI (gS σ)) cu ba r0 r1 r2 r3 (gD σ) bt cnt inn lk wd kp wr mk ls pth tk tl), rfl, ⟨cu, ba, r0, r1, r2, r3, bt, cnt, inn, lk, wd, kp, wr, mk, ls, pth, tk, hA, hC, hS, rfl⟩⟩
theorem cg_I (h : CG N σ tl w) : gI N σ := by
  obtain ⟨cu, ba, r0, r1, r2, r3, bt, cnt, inn, lk, wd, kp, wr, mk, ls, pth, tk, hA, hC, hS, rfl⟩ := h
  exact hA
theorem cg_wf (h : CG N σ tl w) {n : Nat} (hn : 21 ≤ n) (ht : ∀ e ∈ tl, cOk n e) : wOk n w := by
  obtain ⟨cu, ba, r0, r1, r2, r3, bt, cnt, inn, lk, wd, kp, wr, mk, ls, pth, tk, hA, hC, hS, rfl⟩ := h
  have hv : ∀ {k : Nat}, k < 21 → vOk n (.ref k) = true := fun {k} hk => show decide (k < n) = true from decide_eq_true (by omega)
  have hr : ∀ k a, rsF k = some a → a < n := fun k a hk => by
    have : a < 21 := by
      unfold rsF at hk
      split at hk <;> cases hk <;> decide
    omega
  unfold cW
  simp only [wOk, List.forall_mem_cons]
  have e : ∀ fs : List Value, (∀ v ∈ fs, vOk n v = true) → fs.all (vOk n) = true := fun fs h => List.all_eq_true.mpr h
  refine ⟨e _ ?_, e _ ?_, trivial, trivial, trivial, trivial, trivial, trivial, trivial, trivial, e _ ?_, e _ ?_, e _ ?_, trivial, trivial, hr, e _ ?_, e _ ?_, e _ ?_, e _ ?_, trivial, ht⟩
  all_goals simp only [List.forall_mem_cons]
  all_goals first | exact ⟨hv (by decide), hv (by decide), hv (by decide), hv (by decide), hv (by decide), hv (by decide), rfl, fun _ h => absurd h List.not_mem_nil⟩ | exact ⟨hv (by decide), hv (by decide), hv (by decide), hv (by decide), hv (by decide), hv (by decide), hv (by decide), hv (by decide), fun _ h => absurd h List.not_mem_nil⟩ | exact ⟨hv (by decide), hv (by decide), hv (by decide), hv (by decide), rfl, fun _ h => absurd h List.not_mem_nil⟩ | exact ⟨rfl, rfl, rfl, rfl, fun _ h => absurd h List.not_mem_nil⟩
/-! what is told -/
theorem r_rootOf (h : CG N σ tl w) {i : Int32} {x : RS3} (hv : gV σ i = some x) : EvS m_L_rootOf [.ref 0, .int i] w (.inl (some (.int (nI x.2.1)))) w := by
  have h0 := cg_0 h
  obtain ⟨cu, ba, r0, r1, r2, r3, bt, cnt, inn, lk, wd, kp, wr, mk, ls, pth, tk, hA, hC, hS, rfl⟩ := h
  exact w_rootOf h0 (s_rootOf hS hv)
theorem r_rootOfT (h : CG N σ tl w) {i : Int32} (hv : gV σ i = none) : EvS m_L_rootOf [.ref 0, .int i] w (.inl (some (.int (-1000001)))) w := by
  have h0 := cg_0 h
  obtain ⟨cu, ba, r0, r1, r2, r3, bt, cnt, inn, lk, wd, kp, wr, mk, ls, pth, tk, hA, hC, hS, rfl⟩ := h
  exact w_rootOf_T1 h0 (s_rootOfT hS hv)
theorem r_epochOf (h : CG N σ tl w) {i : Int32} {x : RS3} (hv : gV σ i = some x) : EvS m_L_epochOf [.ref 0, .int i] w (.inl (some (.int (nI x.1)))) w := by
  have h0 := cg_0 h
  obtain ⟨cu, ba, r0, r1, r2, r3, bt, cnt, inn, lk, wd, kp, wr, mk, ls, pth, tk, hA, hC, hS, rfl⟩ := h
  exact w_epochOf h0 (s_epochOf hS hv)
theorem r_epochOfT (h : CG N σ tl w) {i : Int32} (hv : gV σ i = none) : EvS m_L_epochOf [.ref 0, .int i] w (.inl (some (.int (-1000001)))) w := by
  have h0 := cg_0 h
  obtain ⟨cu, ba, r0, r1, r2, r3, bt, cnt, inn, lk, wd, kp, wr, mk, ls, pth, tk, hA, hC, hS, rfl⟩ := h
  exact w_epochOf_T1 h0 (s_epochOfT hS hv)
theorem r_size (h : CG N σ tl w) {i : Int32} {x : RS3} (hv : gV σ i = some x) : EvS m_L_size [.ref 0, .int i] w (.inl (some (.int (nI x.2.2)))) w := by
  have h0 := cg_0 h
  obtain ⟨cu, ba, r0, r1, r2, r3, bt, cnt, inn, lk, wd, kp, wr, mk, ls, pth, tk, hA, hC, hS, rfl⟩ := h
  exact w_size h0 (s_sizeOf hS hv)
theorem r_sizeT (h : CG N σ tl w) {i : Int32} (hv : gV σ i = none) : EvS m_L_size [.ref 0, .int i] w (.inl (some (.int (-1000001)))) w := by
  have h0 := cg_0 h
  obtain ⟨cu, ba, r0, r1, r2, r3, bt, cnt, inn, lk, wd, kp, wr, mk, ls, pth, tk, hA, hC, hS, rfl⟩ := h
  exact w_size_T1 h0 (s_sizeOfT hS hv)
theorem r_depth (h : CG N σ tl w) {i : Int32} {x : RS3} (hv : gV σ i = some x) {d : Nat} (hd : d ≤ 6) (ht : rt (gT σ) (gU σ) d x.2.1) : EvS m_L_depth [.ref 0, .int i] w (.inl (some (.int (nI (d + 1))))) w := by
  have h0 := cg_0 h
  obtain ⟨cu, ba, r0, r1, r2, r3, bt, cnt, inn, lk, wd, kp, wr, mk, ls, pth, tk, hA, hC, hS, rfl⟩ := h
  exact w_depth h0 (s_depth hS hC.1 hv hd ht)
/-- a view's tree, its content -/
theorem g_view (h : gI N σ) {i : Int32} {x : RS3} (hv : gV σ i = some x) {L : List (Nat × Int32)} (hL : cN (gT σ) x.2.1 L) : ∃ d, rt (gT σ) (gU σ) d x.2.1 ∧ d ≤ 5 ∧ kyl (gT σ) d x.2.1 = L ∧ Srt L ∧ k100 L ∧ x.2.2 = L.length ∧ (bfs (gT σ) d [x.2.1]).length ≤ 99 ∧ x.2.1 < 720 := by
  obtain ⟨d, a1, a2, a3, a4, a5, a6, a7, a8⟩ := ai_view h hv
  have e := cN_at a1 hL
  rw [e] at a3 a4 a5
  exact ⟨d, a1, a2, e, a3, a4, a5, a7, a8⟩
theorem r_next (h : CG N σ tl w) {i a : Int32} {x : RS3} (hv : gV σ i = some x) {L : List (Nat × Int32)} (hL : cN (gT σ) x.2.1 L) : ∃ w', CG N σ tl w' ∧ EvS m_L_next [.ref 0, .int i, .int a] w (.inl (some (.int (lkL L a)))) w' := by
  have h0 := cg_0 h
  obtain ⟨d, a1, a2, a3, a4, a5, a6, a7, a8⟩ := g_view (cg_I h) hv hL
  obtain ⟨cu, ba, r0, r1, r2, r3, bt, cnt, inn, lk, wd, kp, wr, mk, ls, pth, tk, hA, hC, hS, rfl⟩ := h
  have e := s_next (sl := nI (gS σ)) (sw := gD σ) (bt := bt) (kp := kp) (wr := wr) (mk := mk) (ls := ls) (pth := pth) (tk := tk) (tl := tl) hS hC.1 (a := a) hv a1 (by omega)
  rw [lkf_keys (sb_dpt (rt_sb a1).1), a3] at e
  exact ⟨_, ⟨cu, ba, r0, r1, r2, r3, bt, cnt, inn, lk, wd, kp, wr, mk, (fillL ls (bfs (gT σ) d [x.2.1])), pth, tk, hA, hC, hS, rfl⟩, w_next h0 e⟩
theorem r_rank (h : CG N σ tl w) {i a : Int32} {x : RS3} (hv : gV σ i = some x) {L : List (Nat × Int32)} (hL : cN (gT σ) x.2.1 L) : ∃ w', CG N σ tl w' ∧ EvS m_L_rank [.ref 0, .int i, .int a] w (.inl (some (.int (nI (cnL L a))))) w' := by
  have h0 := cg_0 h
  obtain ⟨d, a1, a2, a3, a4, a5, a6, a7, a8⟩ := g_view (cg_I h) hv hL
  obtain ⟨cu, ba, r0, r1, r2, r3, bt, cnt, inn, lk, wd, kp, wr, mk, ls, pth, tk, hA, hC, hS, rfl⟩ := h
  have e := s_rank (sl := nI (gS σ)) (sw := gD σ) (bt := bt) (kp := kp) (wr := wr) (mk := mk) (ls := ls) (pth := pth) (tk := tk) (tl := tl) hS hC.1 (a := a) hv a1 (by omega)
  rw [ksb_wsm a1 (by rw [a3]; exact a4) (by rw [a3]; exact a5), wsm_keys a (sb_dpt (rt_sb a1).1), a3] at e
  exact ⟨_, ⟨cu, ba, r0, r1, r2, r3, bt, cnt, inn, lk, wd, kp, wr, mk, (fillL ls (bfs (gT σ) d [x.2.1])), pth, tk, hA, hC, hS, rfl⟩, w_rank h0 e⟩
theorem r_getT1 (h : CG N σ tl w) {i k : Int32} (hv : gV σ i = none) : EvS m_L_get [.ref 0, .int i, .int k] w (.inl (some (.int (-1000001)))) w := by
  have h0 := cg_0 h
  obtain ⟨cu, ba, r0, r1, r2, r3, bt, cnt, inn, lk, wd, kp, wr, mk, ls, pth, tk, hA, hC, hS, rfl⟩ := h
  exact w_get_T1 h0 (s_getT1 hS hv)
theorem r_getT2 (h : CG N σ tl w) {i k : Int32} {x : RS3} (hv : gV σ i = some x) (hk : k < 0 ∨ (100 : Int32) ≤ k) : EvS m_L_get [.ref 0, .int i, .int k] w (.inl (some (.int (-1000002)))) w := by
  have h0 := cg_0 h
  obtain ⟨cu, ba, r0, r1, r2, r3, bt, cnt, inn, lk, wd, kp, wr, mk, ls, pth, tk, hA, hC, hS, rfl⟩ := h
  exact w_get_T2 h0 (s_getT2 hS hv hk)
theorem r_get (h : CG N σ tl w) {i : Int32} {x : RS3} (hv : gV σ i = some x) {L : List (Nat × Int32)} (hL : cN (gT σ) x.2.1 L) {k : Nat} (hk : k < 100) {v : Int32} (hkv : (k, v) ∈ L) : EvS m_L_get [.ref 0, .int i, .int (nI k)] w (.inl (some (.int v))) w := by
  have h0 := cg_0 h
  obtain ⟨d, a1, a2, a3, a4, a5, a6, a7, a8⟩ := g_view (cg_I h) hv hL
  obtain ⟨P, l, A0, B0, f1, f2, f3, f4, f5⟩ := fd_ex hk a1 (by rw [a3]; exact a4) (by rw [a3]; exact a5)
  have hu := (fdR_U f1).1
  obtain ⟨cu, ba, r0, r1, r2, r3, bt, cnt, inn, lk, wd, kp, wr, mk, ls, pth, tk, hA, hC, hS, rfl⟩ := h
  rw [a3] at f3
  have hl9 : (k, v) ∈ l := by
    rw [f3] at hkv
    rcases List.mem_append.mp hkv with h | h
    · rcases List.mem_append.mp h with h | h
      · exact absurd (f4 _ h) (Nat.lt_irrefl _)
      · exact h
    · exact absurd (f5 _ h) (Nat.lt_irrefl _)
  rw [f3] at a4 a5
  have hh := (hld_iff hk (srt_leaf a4) (k100_leaf a5)).mpr ⟨_, hl9, rfl⟩
  obtain ⟨v', hv'⟩ := hld_key hk (k100_leaf a5) hh
  have hvv : v' = v := by
    have m' := List.mem_of_getElem? hv'
    exact Srt_fun (srt_leaf a4) m' hl9
  subst hvv
  exact w_get h0 (s_get hS hC.1 hv hk (by omega) a1 f2 hu hv' rfl)
theorem r_getT3 (h : CG N σ tl w) {i : Int32} {x : RS3} (hv : gV σ i = some x) {L : List (Nat × Int32)} (hL : cN (gT σ) x.2.1 L) {k : Nat} (hk : k < 100) (hno : ¬ ∃ y ∈ L, y.1 = k) : EvS m_L_get [.ref 0, .int i, .int (nI k)] w (.inl (some (.int (-1000003)))) w := by
  have h0 := cg_0 h
  obtain ⟨d, a1, a2, a3, a4, a5, a6, a7, a8⟩ := g_view (cg_I h) hv hL
  obtain ⟨P, l, A0, B0, f1, f2, f3, f4, f5⟩ := fd_ex hk a1 (by rw [a3]; exact a4) (by rw [a3]; exact a5)
  have hu := (fdR_U f1).1
  obtain ⟨cu, ba, r0, r1, r2, r3, bt, cnt, inn, lk, wd, kp, wr, mk, ls, pth, tk, hA, hC, hS, rfl⟩ := h
  rw [a3] at f3
  rw [f3] at a4 a5 hno
  exact w_get_T3 h0 (s_getT3 hS hC.1 hv hk (by omega) a1 f2 hu (fun hh => hno ((key_in f4 f5).mpr ((hld_iff hk (srt_leaf a4) (k100_leaf a5)).mp hh))))
theorem r_isFreeT (h : CG N σ tl w) {i : Int32} (hi : i < 0) : EvS m_L_isFree [.ref 0, .int i] w (.inl (some (.int (-1000001)))) w := by
  have h0 := cg_0 h
  obtain ⟨cu, ba, r0, r1, r2, r3, bt, cnt, inn, lk, wd, kp, wr, mk, ls, pth, tk, hA, hC, hS, rfl⟩ := h
  exact w_isFree_T1 h0 (s_isFreeT hi)
theorem r_isFree0 (h : CG N σ tl w) {q : Nat} (hq : q < 800) (hu : gU σ q) : EvS m_L_isFree [.ref 0, .int (nI q)] w (.inl (some (.int 0))) w := by
  have h0 := cg_0 h
  obtain ⟨cu, ba, r0, r1, r2, r3, bt, cnt, inn, lk, wd, kp, wr, mk, ls, pth, tk, hA, hC, hS, rfl⟩ := h
  exact w_isFree h0 (Or.inl rfl) (s_isFree (hp0 hq) (Or.inl rfl) (s_vac0 hC.2.1 hC.2.2 hq hu))
theorem r_isFree1 (h : CG N σ tl w) {q : Nat} (hq : q < 800) (hu : ¬ gU σ q) : EvS m_L_isFree [.ref 0, .int (nI q)] w (.inl (some (.int 1))) w := by
  have h0 := cg_0 h
  obtain ⟨cu, ba, r0, r1, r2, r3, bt, cnt, inn, lk, wd, kp, wr, mk, ls, pth, tk, hA, hC, hS, rfl⟩ := h
  exact w_isFree h0 (Or.inr rfl) (s_isFree (hp0 hq) (Or.inr rfl) (s_vac1 hC.2.1 hC.2.2 hq hu))
theorem r_inUse (h : CG N σ tl w) {n : Nat} (hn : cntR (gU σ) 800 n) : EvS m_X3_pagesInUse [.ref 0] w (.inl (some (.int (nI n)))) w := by
  obtain ⟨cu, ba, r0, r1, r2, r3, bt, cnt, inn, lk, wd, kp, wr, mk, ls, pth, tk, hA, hC, hS, rfl⟩ := h
  exact s_inUse hC.2.1 hC.2.2 hn
theorem r_leastFree (h : CG N σ tl w) {n : Nat} (hn : frs (gK σ) (gW σ) n) : EvS m_X3_leastFree [.ref 0] w (.inl (some (.int (nI n)))) w := by
  obtain ⟨cu, ba, r0, r1, r2, r3, bt, cnt, inn, lk, wd, kp, wr, mk, ls, pth, tk, hA, hC, hS, rfl⟩ := h
  exact s_leastFree hC.2.1 hC.2.2 hn
theorem r_readers (h : CG N σ tl w) : EvS m_X3_readers [.ref 0] w (.inl (some (.int (nI (rtsF (gR σ) 0 4).length)))) w := by
  obtain ⟨cu, ba, r0, r1, r2, r3, bt, cnt, inn, lk, wd, kp, wr, mk, ls, pth, tk, hA, hC, hS, rfl⟩ := h
  exact s_readers hS.2.2
theorem r_curSlot (h : CG N σ tl w) : EvS m_X3_currentSlot [.ref 0] w (.inl (some (.int (nI (gS σ))))) w := by
  obtain ⟨cu, ba, r0, r1, r2, r3, bt, cnt, inn, lk, wd, kp, wr, mk, ls, pth, tk, hA, hC, hS, rfl⟩ := h
  exact s_curSlot
theorem r_hasBatch0 (h : CG N σ tl w) (hb : gB σ = none) : EvS m_X3_hasBatch [.ref 0] w (.inl (some (.int 0))) w := by
  obtain ⟨cu, ba, r0, r1, r2, r3, bt, cnt, inn, lk, wd, kp, wr, mk, ls, pth, tk, hA, hC, hS, rfl⟩ := h
  obtain ⟨be, br, bk, bo⟩ := ba
  have hbo := hS.2.1
  rw [hb] at hbo
  have hbo : bo = 0 := hbo
  subst hbo
  exact s_hasBatch (ba := cu) (Or.inl rfl)
theorem r_hasBatch1 (h : CG N σ tl w) {x : RS3} (hb : gB σ = some x) : EvS m_X3_hasBatch [.ref 0] w (.inl (some (.int 1))) w := by
  obtain ⟨cu, ba, r0, r1, r2, r3, bt, cnt, inn, lk, wd, kp, wr, mk, ls, pth, tk, hA, hC, hS, rfl⟩ := h
  have hbo := hS.2.1
  rw [hb] at hbo
  have hbo : ba = (nI x.1, nI x.2.1, nI x.2.2, 1) := hbo
  subst hbo
  exact s_hasBatch (ba := cu) (Or.inr rfl)
theorem r_entries (h : CG N σ tl w) {q : Nat} (hu : gU σ q) : EvS m_L_entries [.ref 0, .int (nI q)] w (.inl (some (.int (nI (nlen (gT σ q)))))) w := by
  have h0 := cg_0 h
  obtain ⟨cu, ba, r0, r1, r2, r3, bt, cnt, inn, lk, wd, kp, wr, mk, ls, pth, tk, hA, hC, hS, rfl⟩ := h
  exact w_entries h0 (s_entries hC hu)
theorem r_entriesT (h : CG N σ tl w) {i : Int32} (hu : nUs (gK σ) (gW σ) i) : EvS m_L_entries [.ref 0, .int i] w (.inl (some (.int (-1000001)))) w := by
  have h0 := cg_0 h
  obtain ⟨cu, ba, r0, r1, r2, r3, bt, cnt, inn, lk, wd, kp, wr, mk, ls, pth, tk, hA, hC, hS, rfl⟩ := h
  exact w_entries_T1 h0 (s_entriesT hC hu)
theorem r_keyAt (h : CG N σ tl w) {q e k : Nat} (hu : gU σ q) (hk : kyR (gT σ) (gU σ) q e k) : EvS m_L_keyAt [.ref 0, .int (nI q), .int (nI e)] w (.inl (some (.int (nI k)))) w := by
  have h0 := cg_0 h
  obtain ⟨cu, ba, r0, r1, r2, r3, bt, cnt, inn, lk, wd, kp, wr, mk, ls, pth, tk, hA, hC, hS, rfl⟩ := h
  exact w_keyAt h0 (s_keyAt hC hu hk)
theorem r_keyAtT1 (h : CG N σ tl w) {i a : Int32} (hu : nUs (gK σ) (gW σ) i) : EvS m_L_keyAt [.ref 0, .int i, .int a] w (.inl (some (.int (-1000001)))) w := by
  have h0 := cg_0 h
  obtain ⟨cu, ba, r0, r1, r2, r3, bt, cnt, inn, lk, wd, kp, wr, mk, ls, pth, tk, hA, hC, hS, rfl⟩ := h
  exact w_keyAt_T1 h0 (s_keyAtT1 hC hu)
theorem r_keyAtT2 (h : CG N σ tl w) {q : Nat} {a : Int32} (hu : gU σ q) (ha : a < 0 ∨ nI (nlen (gT σ q)) ≤ a) : EvS m_L_keyAt [.ref 0, .int (nI q), .int a] w (.inl (some (.int (-1000001)))) w := by
  have h0 := cg_0 h
  obtain ⟨cu, ba, r0, r1, r2, r3, bt, cnt, inn, lk, wd, kp, wr, mk, ls, pth, tk, hA, hC, hS, rfl⟩ := h
  exact w_keyAt_T1 h0 (s_keyAtT2 hC hu ha)
theorem r_pageAtL (h : CG N σ tl w) {q e : Nat} {l : List (Nat × Int32)} (hu : gU σ q) (hl : gT σ q = .inl l) (he : e < l.length) : EvS m_L_pageAt [.ref 0, .int (nI q), .int (nI e)] w (.inl (some (.int (-1)))) w := by
  have h0 := cg_0 h
  obtain ⟨cu, ba, r0, r1, r2, r3, bt, cnt, inn, lk, wd, kp, wr, mk, ls, pth, tk, hA, hC, hS, rfl⟩ := h
  exact w_pageAt h0 (s_pageAtL hC hu hl (by rw [hl]; exact he))
theorem r_pageAtI (h : CG N σ tl w) {q e c : Nat} {l : List Nat} (hu : gU σ q) (hl : gT σ q = .inr l) (hx : l[e]? = some c) : EvS m_L_pageAt [.ref 0, .int (nI q), .int (nI e)] w (.inl (some (.int (nI c)))) w := by
  have h0 := cg_0 h
  obtain ⟨cu, ba, r0, r1, r2, r3, bt, cnt, inn, lk, wd, kp, wr, mk, ls, pth, tk, hA, hC, hS, rfl⟩ := h
  exact w_pageAt h0 (s_pageAtI hC hu hl hx)
theorem r_pageAtT1 (h : CG N σ tl w) {i a : Int32} (hu : nUs (gK σ) (gW σ) i) : EvS m_L_pageAt [.ref 0, .int i, .int a] w (.inl (some (.int (-1000001)))) w := by
  have h0 := cg_0 h
  obtain ⟨cu, ba, r0, r1, r2, r3, bt, cnt, inn, lk, wd, kp, wr, mk, ls, pth, tk, hA, hC, hS, rfl⟩ := h
  exact w_pageAt_T1 h0 (s_pageAtT1 hC hu)
theorem r_pageAtT2 (h : CG N σ tl w) {q : Nat} {a : Int32} (hu : gU σ q) (ha : a < 0 ∨ nI (nlen (gT σ q)) ≤ a) : EvS m_L_pageAt [.ref 0, .int (nI q), .int a] w (.inl (some (.int (-1000001)))) w := by
  have h0 := cg_0 h
  obtain ⟨cu, ba, r0, r1, r2, r3, bt, cnt, inn, lk, wd, kp, wr, mk, ls, pth, tk, hA, hC, hS, rfl⟩ := h
  exact w_pageAt_T1 h0 (s_pageAtT2 hC hu ha)
theorem r_slotWord (h : CG N σ tl w) {t j : Nat} (ht : t < 2) (hj : j < 4) : EvS m_L_slotWord [.ref 0, .int (nI t), .int (nI j)] w (.inl (some (.long (gD σ (4 * t + j))))) w := by
  have h0 := cg_0 h
  obtain ⟨cu, ba, r0, r1, r2, r3, bt, cnt, inn, lk, wd, kp, wr, mk, ls, pth, tk, hA, hC, hS, rfl⟩ := h
  exact w_slotWord h0 (s_slotWord ht hj)
theorem r_slotWordT (h : CG N σ tl w) {t : Nat} {a : Int32} (ht : t < 2) (ha : a < 0 ∨ (4 : Int32) ≤ a) : EvS m_L_slotWord [.ref 0, .int (nI t), .int a] w (.inl (some (.long (-1000001)))) w := by
  have h0 := cg_0 h
  obtain ⟨cu, ba, r0, r1, r2, r3, bt, cnt, inn, lk, wd, kp, wr, mk, ls, pth, tk, hA, hC, hS, rfl⟩ := h
  exact w_slotWord_T1 h0 (s_slotWordT2 ht ha)
theorem r_isWhole (h : CG N σ tl w) {t : Nat} (ht : t < 2) : EvS m_L_isWhole [.ref 0, .int (nI t)] w (.inl (some (.int (if (gO σ t).isSome then 1 else 0)))) w := by
  have h0 := cg_0 h
  obtain ⟨cu, ba, r0, r1, r2, r3, bt, cnt, inn, lk, wd, kp, wr, mk, ls, pth, tk, hA, hC, hS, rfl⟩ := h
  have hSL : SLR (gD σ) (gO σ) := hA.2.2.2.2.2.1
  cases hx : gO σ t with
  | none => exact w_isWhole h0 (Or.inl rfl) (s_isWhole0 ht (SLR_no hSL ht hx))
  | some x => exact w_isWhole h0 (Or.inr rfl) (s_isWhole1 ht (SLR_at hSL ht hx).1)
end CGW
