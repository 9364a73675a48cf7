/-! rows of values; what the raw changes do to nodes -/
def row (f : Nat → Int32) (b : Nat) (L : List Int32) : Prop := ∀ (j : Nat) (v : Int32), L[j]? = some v → f (b + j) = v
theorem row_ins {f : Nat → Int32} {b e : Nat} {L : List Int32} {x : Int32} (h : row f b L) (he : e ≤ L.length) : row (insF f b e L.length x) b (L.take e ++ x :: L.drop e) := by
  intro j v hj
  have hlt : (L.take e).length = e := by rw [List.length_take]; omega
  unfold insF upd shU
  rcases Nat.lt_trichotomy j e with h1 | h1 | h1
  · rw [List.getElem?_append_left (by omega), List.getElem?_take_of_lt h1] at hj
    rw [if_neg (by omega), if_neg (by omega)]
    exact h j v hj
  · subst h1
    rw [List.getElem?_append_right (by omega), hlt, Nat.sub_self] at hj
    rw [if_pos rfl]
    simpa using hj
  · rw [List.getElem?_append_right (by omega), hlt] at hj
    obtain ⟨m, hm⟩ : ∃ m, j - e = m + 1 := ⟨j - e - 1, by omega⟩
    rw [hm, List.getElem?_cons_succ, List.getElem?_drop] at hj
    have hm2 : e + m = j - 1 := by omega
    rw [hm2] at hj
    have hl := (List.getElem?_eq_some_iff.mp hj).1
    rw [if_neg (by omega), if_pos (by omega), show b + j - 1 = b + (j - 1) by omega]
    exact h (j - 1) v hj
theorem row_rm {f : Nat → Int32} {b e : Nat} {L : List Int32} (h : row f b L) (he : e < L.length) : row (shD f b e (L.length - 1)) b (L.take e ++ L.drop (e + 1)) := by
  intro j v hj
  have hlt : (L.take e).length = e := by rw [List.length_take]; omega
  unfold shD
  rcases Nat.lt_or_ge j e with h1 | h1
  · rw [List.getElem?_append_left (by omega), List.getElem?_take_of_lt h1] at hj
    rw [if_neg (by omega)]
    exact h j v hj
  · rw [List.getElem?_append_right (by omega), hlt, List.getElem?_drop] at hj
    have hm2 : e + 1 + (j - e) = j + 1 := by omega
    rw [hm2] at hj
    have hl := (List.getElem?_eq_some_iff.mp hj).1
    rw [if_pos (by omega), Nat.add_assoc]
    exact h (j + 1) v hj
theorem row_app {f : Nat → Int32} {b s : Nat} {L R : List Int32} (h : row f b L) (h2 : row f s R) : row (apF f (b + L.length) s R.length) b (L ++ R) := by
  intro j v hj
  unfold apF
  rcases Nat.lt_or_ge j L.length with h1 | h1
  · rw [List.getElem?_append_left h1] at hj
    rw [if_neg (by omega)]
    exact h j v hj
  · rw [List.getElem?_append_right h1] at hj
    have hl := (List.getElem?_eq_some_iff.mp hj).1
    rw [if_pos (by omega), show b + j - (b + L.length) = j - L.length by omega]
    exact h2 _ v hj
theorem row_set {f : Nat → Int32} {b e : Nat} {L : List Int32} {x : Int32} (h : row f b L) : row (upd f (b + e) x) b (L.set e x) := by
  intro j v hj
  unfold upd
  by_cases h1 : j = e
  · subst h1
    rw [if_pos rfl]
    rw [List.getElem?_set] at hj
    by_cases hl : j < L.length
    · simp [hl] at hj; exact hj
    · simp [hl] at hj
  · rw [if_neg (by omega)]
    rw [List.getElem?_set_ne (fun q => h1 q.symm)] at hj
    exact h j v hj
theorem row_kept {f g : Nat → Int32} {b : Nat} {L : List Int32} (h : row f b L) (hl : L.length ≤ 5) (hg : ∀ e, e < 5 → g (b + e) = f (b + e)) : row g b L := fun j v hj => by
  rw [hg j (Nat.lt_of_lt_of_le (List.getElem?_eq_some_iff.mp hj).1 hl)]
  exact h j v hj
theorem row_nil {f : Nat → Int32} {b : Nat} : row f b [] := fun j v hj => by simp at hj
def kyL (l : List (Nat × Int32)) : List Int32 := l.map (fun x => nI x.1)
def vaL (l : List (Nat × Int32)) : List Int32 := l.map (fun x => x.2)
def chL (l : List Nat) : List Int32 := l.map nI
theorem rpN_L {cnt inn lk wd : Nat → Int32} {p : Nat} {l : List (Nat × Int32)} : rpN cnt inn lk wd p (.inl l) ↔ inn p = 0 ∧ l.length ≤ 5 ∧ cnt p = nI l.length ∧ row lk (5 * p) (kyL l) ∧ row wd (5 * p) (vaL l) ∧ ∀ x ∈ l, x.1 < 100 := by
  unfold rpN
  constructor
  · rintro ⟨h1, h2, h3, h4⟩
    refine ⟨h1, h2, h3, fun j v hj => ?_, fun j v hj => ?_, fun x hx => ?_⟩
    · simp only [kyL, List.getElem?_map, Option.map_eq_some_iff] at hj
      obtain ⟨x, hx, rfl⟩ := hj
      exact (h4 j x hx).1
    · simp only [vaL, List.getElem?_map, Option.map_eq_some_iff] at hj
      obtain ⟨x, hx, rfl⟩ := hj
      exact (h4 j x hx).2.1
    · obtain ⟨j, hj⟩ := List.getElem?_of_mem hx
      exact (h4 j x hj).2.2
  · rintro ⟨h1, h2, h3, h4, h5, h6⟩
    refine ⟨h1, h2, h3, fun e x hx => ⟨h4 e _ ?_, h5 e _ ?_, h6 x (List.mem_of_getElem? hx)⟩⟩
    · simp [kyL, hx]
    · simp [vaL, hx]
theorem rpN_I {cnt inn lk wd : Nat → Int32} {p : Nat} {l : List Nat} : rpN cnt inn lk wd p (.inr l) ↔ inn p = 1 ∧ l.length ≤ 5 ∧ cnt p = nI l.length ∧ row wd (5 * p) (chL l) ∧ ∀ c ∈ l, c < 800 := by
  unfold rpN
  constructor
  · rintro ⟨h1, h2, h3, h4⟩
    refine ⟨h1, h2, h3, fun j v hj => ?_, fun c hc => ?_⟩
    · simp only [chL, List.getElem?_map, Option.map_eq_some_iff] at hj
      obtain ⟨x, hx, rfl⟩ := hj
      exact (h4 j x hx).1
    · obtain ⟨j, hj⟩ := List.getElem?_of_mem hc
      exact (h4 j c hj).2
  · rintro ⟨h1, h2, h3, h4, h6⟩
    refine ⟨h1, h2, h3, fun e x hx => ⟨h4 e _ ?_, h6 x (List.mem_of_getElem? hx)⟩⟩
    simp [chL, hx]
def upT (T : Nat → Nd) (p : Nat) (n : Nd) : Nat → Nd := fun q => if q = p then n else T q
theorem upT_s (T : Nat → Nd) (p : Nat) (n : Nd) : upT T p n p = n := if_pos rfl
theorem upT_n {T : Nat → Nd} {p q : Nat} {n : Nd} (h : q ≠ p) : upT T p n q = T q := if_neg h
theorem rpN_kept {cnt inn lk wd cnt' inn' lk' wd' : Nat → Int32} {q : Nat} {n : Nd} (h : rpN cnt inn lk wd q n) (h1 : cnt' q = cnt q) (h2 : inn' q = inn q) (h3 : ∀ e, e < 5 → lk' (5 * q + e) = lk (5 * q + e)) (h4 : ∀ e, e < 5 → wd' (5 * q + e) = wd (5 * q + e)) : rpN cnt' inn' lk' wd' q n := by
  cases n with
  | inl l =>
    obtain ⟨a1, a2, a3, a4, a5, a6⟩ := rpN_L.mp h
    exact rpN_L.mpr ⟨h2.trans a1, a2, h1.trans a3, row_kept a4 (by simp [kyL]; exact a2) h3, row_kept a5 (by simp [vaL]; exact a2) h4, a6⟩
  | inr l =>
    obtain ⟨a1, a2, a3, a5, a6⟩ := rpN_I.mp h
    exact rpN_I.mpr ⟨h2.trans a1, a2, h1.trans a3, row_kept a5 (by simp [chL]; exact a2) h4, a6⟩
/-- one page's rows changed -/
theorem Rp_up {cnt inn lk wd cnt' inn' lk' wd' : Nat → Int32} {T : Nat → Nd} {U U' : Nat → Prop} (h : Rp cnt inn lk wd T U) {p : Nat} {n : Nd} (hp : p < 800) (hn : rpN cnt' inn' lk' wd' p n) (hU : ∀ q, U' q → q = p ∨ U q) (h1 : ∀ q, q ≠ p → cnt' q = cnt q ∧ inn' q = inn q) (h3 : ∀ q e, q ≠ p → e < 5 → lk' (5 * q + e) = lk (5 * q + e) ∧ wd' (5 * q + e) = wd (5 * q + e)) : Rp cnt' inn' lk' wd' (upT T p n) U' := by
  intro q hq
  by_cases hqp : q = p
  · subst hqp
    rw [upT_s]
    exact ⟨hp, hn⟩
  · rw [upT_n hqp]
    have hq2 := (hU q hq).resolve_left hqp
    exact ⟨(h q hq2).1, rpN_kept (h q hq2).2 (h1 q hqp).1 (h1 q hqp).2 (fun e he => (h3 q e hqp he).1) (fun e he => (h3 q e hqp he).2)⟩
theorem Rp_mono {cnt inn lk wd : Nat → Int32} {T : Nat → Nd} {U U' : Nat → Prop} (h : Rp cnt inn lk wd T U) (hU : ∀ q, U' q → U q) : Rp cnt inn lk wd T U' := fun q hq => h q (hU q hq)
theorem upd_o {f : Nat → Int32} {p q : Nat} {x : Int32} (h : q ≠ p) : upd f p x q = f q := pk_un h
theorem insF_o (f : Nat → Int32) {p q e c j : Nat} (x : Int32) (h : q ≠ p) (hc : e ≤ c) (hc4 : c ≤ 4) (hj : j < 5) : insF f (5 * p) e c x (5 * q + j) = f (5 * q + j) := by
  unfold insF upd shU
  rw [if_neg (by omega), if_neg (by omega)]
theorem shD_o (f : Nat → Int32) {p q e c j : Nat} (h : q ≠ p) (hc4 : c ≤ 5) (hj : j < 5) : shD f (5 * p) e (c - 1) (5 * q + j) = f (5 * q + j) := by
  unfold shD
  rw [if_neg (by omega)]
theorem apF_o (f : Nat → Int32) {p q s c1 c2 j : Nat} (h : q ≠ p) (hc : c1 + c2 ≤ 5) (hj : j < 5) : apF f (5 * p + c1) s c2 (5 * q + j) = f (5 * q + j) := by
  unfold apF
  rw [if_neg (by omega)]
/-! nodes' changes -/
def nTake (n : Nd) (k : Nat) : Nd := match n with
  | .inl l => .inl (l.take k)
  | .inr l => .inr (l.take k)
def nDrop (n : Nd) (k : Nat) : Nd := match n with
  | .inl l => .inl (l.drop k)
  | .inr l => .inr (l.drop k)
def nApp (n m : Nd) : Nd := match n, m with
  | .inl l, .inl r => .inl (l ++ r)
  | .inr l, .inr r => .inr (l ++ r)
  | n, _ => n
def nLf (n : Nd) : Prop := ∃ l, n = .inl l
/-- an entry moved to another page: what stands there then, what stays -/
def nGet (n m : Nd) (place e : Nat) : Nd := nApp (nApp (nTake n place) (nTake (nDrop m e) 1)) (nDrop n place)
def nRem (m : Nd) (e : Nat) : Nd := nApp (nTake m e) (nDrop m (e + 1))
theorem kyL_len (l : List (Nat × Int32)) : (kyL l).length = l.length := by simp [kyL]
theorem vaL_len (l : List (Nat × Int32)) : (vaL l).length = l.length := by simp [vaL]
theorem chL_len (l : List Nat) : (chL l).length = l.length := by simp [chL]
/-- an entry laid into a leaf -/
theorem Rp_insL {cnt inn lk wd : Nat → Int32} {T : Nat → Nd} {U : Nat → Prop} (h : Rp cnt inn lk wd T U) {p e : Nat} {l : List (Nat × Int32)} (hu : U p) (ht : T p = .inl l) (he : e ≤ l.length) (h4 : l.length ≤ 4) {x : Nat × Int32} (hx : x.1 < 100) : Rp (upd cnt p (nI (l.length + 1))) inn (insF lk (5 * p) e l.length (nI x.1)) (insF wd (5 * p) e l.length x.2) (upT T p (.inl (l.take e ++ x :: l.drop e))) U := by
  obtain ⟨hp, hn⟩ := h p hu
  rw [ht] at hn
  obtain ⟨a1, a2, a3, a4, a5, a6⟩ := rpN_L.mp hn
  refine Rp_up h hp (rpN_L.mpr ⟨a1, ?_, ?_, ?_, ?_, ?_⟩) (fun q hq => Or.inr hq) (fun q hq => ⟨upd_o hq, rfl⟩) (fun q j hq hj => ⟨insF_o _ _ hq he h4 hj, insF_o _ _ hq he h4 hj⟩)
  · simp; omega
  · rw [show upd cnt p (nI (l.length + 1)) p = nI (l.length + 1) from pk_us]
    congr 1
    simp; omega
  · have h9 := row_ins (e := e) (x := nI x.1) a4 (by rw [kyL_len]; exact he)
    rw [kyL_len] at h9
    simpa [kyL, List.map_take, List.map_drop] using h9
  · have h9 := row_ins (e := e) (x := x.2) a5 (by rw [vaL_len]; exact he)
    rw [vaL_len] at h9
    simpa [vaL, List.map_take, List.map_drop] using h9
  · intro y hy
    rcases List.mem_append.mp hy with hy | hy
    · exact a6 y (List.mem_of_mem_take hy)
    · rcases List.mem_cons.mp hy with hy | hy
      · rw [hy]; exact hx
      · exact a6 y (List.mem_of_mem_drop hy)
/-- .. into an inner page -/
theorem Rp_insI {cnt inn lk wd : Nat → Int32} {T : Nat → Nd} {U : Nat → Prop} (h : Rp cnt inn lk wd T U) {p e c : Nat} {l : List Nat} {key : Int32} (hu : U p) (ht : T p = .inr l) (he : e ≤ l.length) (h4 : l.length ≤ 4) (hc : c < 800) : Rp (upd cnt p (nI (l.length + 1))) inn (insF lk (5 * p) e l.length key) (insF wd (5 * p) e l.length (nI c)) (upT T p (.inr (l.take e ++ c :: l.drop e))) U := by
  obtain ⟨hp, hn⟩ := h p hu
  rw [ht] at hn
  obtain ⟨a1, a2, a3, a5, a6⟩ := rpN_I.mp hn
  refine Rp_up h hp (rpN_I.mpr ⟨a1, ?_, ?_, ?_, ?_⟩) (fun q hq => Or.inr hq) (fun q hq => ⟨upd_o hq, rfl⟩) (fun q j hq hj => ⟨insF_o _ _ hq he h4 hj, insF_o _ _ hq he h4 hj⟩)
  · simp; omega
  · rw [show upd cnt p (nI (l.length + 1)) p = nI (l.length + 1) from pk_us]
    congr 1
    simp; omega
  · have h9 := row_ins (e := e) (x := nI c) a5 (by rw [chL_len]; exact he)
    rw [chL_len] at h9
    simpa [chL, List.map_take, List.map_drop] using h9
  · intro y hy
    rcases List.mem_append.mp hy with hy | hy
    · exact a6 y (List.mem_of_mem_take hy)
    · rcases List.mem_cons.mp hy with hy | hy
      · rw [hy]; exact hc
      · exact a6 y (List.mem_of_mem_drop hy)
/-- an entry dropped -/
theorem Rp_rm {cnt inn lk wd : Nat → Int32} {T : Nat → Nd} {U : Nat → Prop} (h : Rp cnt inn lk wd T U) {p e : Nat} (hu : U p) (he : e < nlen (T p)) : Rp (upd cnt p (nI (nlen (T p) - 1))) inn (shD lk (5 * p) e (nlen (T p) - 1)) (shD wd (5 * p) e (nlen (T p) - 1)) (upT T p (nRem (T p) e)) U := by
  obtain ⟨hp, hn⟩ := h p hu
  cases ht : T p with
  | inl l =>
    rw [ht] at hn he
    simp only [nlen] at he ⊢
    obtain ⟨a1, a2, a3, a4, a5, a6⟩ := rpN_L.mp hn
    have hN : nRem (.inl l) e = .inl (l.take e ++ l.drop (e + 1)) := rfl
    rw [hN]
    refine Rp_up h hp (rpN_L.mpr ⟨a1, ?_, ?_, ?_, ?_, ?_⟩) (fun q hq => Or.inr hq) (fun q hq => ⟨upd_o hq, rfl⟩) (fun q j hq hj => ⟨shD_o _ hq a2 hj, shD_o _ hq a2 hj⟩)
    · simp; omega
    · rw [show upd cnt p (nI (l.length - 1)) p = nI (l.length - 1) from pk_us]
      congr 1
      simp; omega
    · have h9 := row_rm (e := e) a4 (by rw [kyL_len]; exact he)
      rw [kyL_len] at h9
      simpa [kyL, List.map_take, List.map_drop] using h9
    · have h9 := row_rm (e := e) a5 (by rw [vaL_len]; exact he)
      rw [vaL_len] at h9
      simpa [vaL, List.map_take, List.map_drop] using h9
    · intro y hy
      rcases List.mem_append.mp hy with hy | hy
      · exact a6 y (List.mem_of_mem_take hy)
      · exact a6 y (List.mem_of_mem_drop hy)
  | inr l =>
    rw [ht] at hn he
    simp only [nlen] at he ⊢
    obtain ⟨a1, a2, a3, a5, a6⟩ := rpN_I.mp hn
    have hN : nRem (.inr l) e = .inr (l.take e ++ l.drop (e + 1)) := rfl
    rw [hN]
    refine Rp_up h hp (rpN_I.mpr ⟨a1, ?_, ?_, ?_, ?_⟩) (fun q hq => Or.inr hq) (fun q hq => ⟨upd_o hq, rfl⟩) (fun q j hq hj => ⟨shD_o _ hq a2 hj, shD_o _ hq a2 hj⟩)
    · simp; omega
    · rw [show upd cnt p (nI (l.length - 1)) p = nI (l.length - 1) from pk_us]
      congr 1
      simp; omega
    · have h9 := row_rm (e := e) a5 (by rw [chL_len]; exact he)
      rw [chL_len] at h9
      simpa [chL, List.map_take, List.map_drop] using h9
    · intro y hy
      rcases List.mem_append.mp hy with hy | hy
      · exact a6 y (List.mem_of_mem_take hy)
      · exact a6 y (List.mem_of_mem_drop hy)
/-- the entries of p put behind those of q -/
theorem Rp_app {cnt inn lk wd : Nat → Int32} {T : Nat → Nd} {U : Nat → Prop} (h : Rp cnt inn lk wd T U) {p q : Nat} (hu : U p) (huq : U q) (hpq : p ≠ q) (hk : nLf (T p) ↔ nLf (T q)) (h5 : nlen (T q) + nlen (T p) ≤ 5) : Rp (upd cnt q (nI (nlen (T q) + nlen (T p)))) inn (apF lk (5 * q + nlen (T q)) (5 * p) (nlen (T p))) (apF wd (5 * q + nlen (T q)) (5 * p) (nlen (T p))) (upT T q (nApp (T q) (T p))) U := by
  obtain ⟨hp, hn⟩ := h p hu
  obtain ⟨hq, hm⟩ := h q huq
  cases ht : T p with
  | inl l =>
    cases htq : T q with
    | inl r =>
      rw [ht] at hn h5
      rw [htq] at hm h5
      simp only [nlen, nApp] at h5 ⊢
      obtain ⟨a1, a2, a3, a4, a5, a6⟩ := rpN_L.mp hn
      obtain ⟨b1, b2, b3, b4, b5, b6⟩ := rpN_L.mp hm
      refine Rp_up h hq (rpN_L.mpr ⟨b1, ?_, ?_, ?_, ?_, ?_⟩) (fun q hq => Or.inr hq) (fun q hq => ⟨upd_o hq, rfl⟩) (fun q j hq hj => ⟨apF_o _ hq h5 hj, apF_o _ hq h5 hj⟩)
      · simpa using h5
      · rw [show upd cnt q (nI (r.length + l.length)) q = nI (r.length + l.length) from pk_us]
        simp
      · have h9 := row_app b4 a4
        rw [kyL_len, kyL_len] at h9
        simpa [kyL] using h9
      · have h9 := row_app b5 a5
        rw [vaL_len, vaL_len] at h9
        simpa [vaL] using h9
      · intro y hy
        exact (List.mem_append.mp hy).elim (b6 y) (a6 y)
    | inr r => exact absurd (hk.mp ⟨l, ht⟩) (fun ⟨x, hx⟩ => by rw [htq] at hx; cases hx)
  | inr l =>
    cases htq : T q with
    | inl r => exact absurd (hk.mpr ⟨r, htq⟩) (fun ⟨x, hx⟩ => by rw [ht] at hx; cases hx)
    | inr r =>
      rw [ht] at hn h5
      rw [htq] at hm h5
      simp only [nlen, nApp] at h5 ⊢
      obtain ⟨a1, a2, a3, a5, a6⟩ := rpN_I.mp hn
      obtain ⟨b1, b2, b3, b5, b6⟩ := rpN_I.mp hm
      refine Rp_up h hq (rpN_I.mpr ⟨b1, ?_, ?_, ?_, ?_⟩) (fun q hq => Or.inr hq) (fun q hq => ⟨upd_o hq, rfl⟩) (fun q j hq hj => ⟨apF_o _ hq h5 hj, apF_o _ hq h5 hj⟩)
      · simpa using h5
      · rw [show upd cnt q (nI (r.length + l.length)) q = nI (r.length + l.length) from pk_us]
        simp
      · have h9 := row_app b5 a5
        rw [chL_len, chL_len] at h9
        simpa [chL] using h9
      · intro y hy
        exact (List.mem_append.mp hy).elim (b6 y) (a6 y)
/-- a page below set -/
theorem Rp_setI {cnt inn lk wd : Nat → Int32} {T : Nat → Nd} {U : Nat → Prop} (h : Rp cnt inn lk wd T U) {p e c : Nat} {l : List Nat} (hu : U p) (ht : T p = .inr l) (he : e < 5) (hc : c < 800) : Rp cnt inn lk (upd wd (5 * p + e) (nI c)) (upT T p (.inr (l.set e c))) U := by
  obtain ⟨hp, hn⟩ := h p hu
  rw [ht] at hn
  obtain ⟨a1, a2, a3, a5, a6⟩ := rpN_I.mp hn
  refine Rp_up h hp (rpN_I.mpr ⟨a1, by simpa using a2, by simpa using a3, ?_, ?_⟩) (fun q hq => Or.inr hq) (fun q hq => ⟨rfl, rfl⟩) (fun q j hq hj => ⟨rfl, upd_o (by omega)⟩)
  · have h9 := row_set (e := e) (x := nI c) a5
    simpa [chL, List.map_set] using h9
  · intro y hy
    rcases List.mem_or_eq_of_mem_set hy with hy | hy
    · exact a6 y hy
    · rw [hy]; exact hc
/-- a value replaced -/
theorem Rp_setL {cnt inn lk wd : Nat → Int32} {T : Nat → Nd} {U : Nat → Prop} (h : Rp cnt inn lk wd T U) {p e : Nat} {v : Int32} {x : Nat × Int32} {l : List (Nat × Int32)} (hu : U p) (ht : T p = .inl l) (hx : l[e]? = some x) : Rp cnt inn lk (upd wd (5 * p + e) v) (upT T p (.inl (l.set e (x.1, v)))) U := by
  obtain ⟨hp, hn⟩ := h p hu
  rw [ht] at hn
  obtain ⟨a1, a2, a3, a4, a5, a6⟩ := rpN_L.mp hn
  have he : e < l.length := (List.getElem?_eq_some_iff.mp hx).1
  refine Rp_up h hp (rpN_L.mpr ⟨a1, by simpa using a2, by simpa using a3, ?_, ?_, ?_⟩) (fun q hq => Or.inr hq) (fun q hq => ⟨rfl, rfl⟩) (fun q j hq hj => ⟨rfl, upd_o (by omega)⟩)
  · have h9 : kyL (l.set e (x.1, v)) = kyL l := by
      unfold kyL
      rw [List.map_set]
      apply List.ext_getElem?
      intro j
      by_cases hj : e = j
      · subst hj
        rw [List.getElem?_set_self (by simpa using he), List.getElem?_map, hx]
        rfl
      · rw [List.getElem?_set_ne hj]
    rw [h9]
    exact a4
  · have h9 := row_set (e := e) (x := v) a5
    simpa [vaL, List.map_set] using h9
  · intro y hy
    rcases List.mem_or_eq_of_mem_set hy with hy | hy
    · exact a6 y hy
    · rw [hy]; exact a6 x (List.mem_of_getElem? hx)
/-- a page taken anew -/
theorem Rp_take {cnt inn lk wd : Nat → Int32} {T : Nat → Nd} {U : Nat → Prop} (h : Rp cnt inn lk wd T U) {n : Nat} {v : Int32} (hn : n < 800) {nd : Nd} (hv : (v = 0 ∧ nd = .inl []) ∨ (v = 1 ∧ nd = .inr [])) : Rp (upd cnt n 0) (upd inn n v) lk wd (upT T n nd) (fun q => q = n ∨ U q) := by
  refine Rp_up h hn ?_ (fun q hq => hq) (fun q hq => ⟨upd_o hq, upd_o hq⟩) (fun q j hq hj => ⟨rfl, rfl⟩)
  rcases hv with ⟨rfl, rfl⟩ | ⟨rfl, rfl⟩
  · exact rpN_L.mpr ⟨pk_us, by simp, pk_us, row_nil, row_nil, fun x hx => by simp at hx⟩
  · exact rpN_I.mpr ⟨pk_us, by simp, pk_us, row_nil, fun x hx => by simp at hx⟩
