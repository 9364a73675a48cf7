/-! WHAT A STATE HAS, out of the law's rows; sums over pages -/
def ctL (t : Nat → Nat) : Nat → List (Nat × Int32)
  | 0 => []
  | n + 1 => ctL t n ++ (if 0 < t n then [(3 * n + 6, valN (t n) n)] else [])
abbrev ct (t : Nat → Nat) : List (Nat × Int32) := ctL t 32
theorem ctL_s (t : Nat → Nat) (n : Nat) : ctL t (n + 1) = ctL t n ++ (if 0 < t n then [(3 * n + 6, valN (t n) n)] else []) := rfl
theorem ctL_mem {t : Nat → Nat} : ∀ {n : Nat} {y : Nat × Int32}, y ∈ ctL t n ↔ ∃ i, i < n ∧ 0 < t i ∧ y = (3 * i + 6, valN (t i) i)
  | 0, y => ⟨fun h => absurd h List.not_mem_nil, fun ⟨i, h, _⟩ => absurd h (Nat.not_lt_zero i)⟩
  | n + 1, y => by
    rw [ctL_s, List.mem_append, ctL_mem]
    constructor
    · rintro (⟨i, h1, h2, h3⟩ | h)
      · exact ⟨i, by omega, h2, h3⟩
      · by_cases ht : 0 < t n
        · rw [if_pos ht] at h
          exact ⟨n, by omega, ht, List.mem_singleton.mp h⟩
        · rw [if_neg ht] at h
          exact absurd h List.not_mem_nil
    · rintro ⟨i, h1, h2, h3⟩
      by_cases hi : i = n
      · subst hi
        rw [if_pos h2]
        exact Or.inr (List.mem_singleton.mpr h3)
      · exact Or.inl ⟨i, by omega, h2, h3⟩
theorem ctL_srt (t : Nat → Nat) : ∀ n, Srt (ctL t n)
  | 0 => List.Pairwise.nil
  | n + 1 => by
    rw [ctL_s]
    refine Srt_app.mpr ⟨ctL_srt t n, ?_, fun x hx y hy => ?_⟩
    · split
      · exact List.pairwise_singleton _ _
      · exact List.Pairwise.nil
    · obtain ⟨i, h1, h2, rfl⟩ := ctL_mem.mp hx
      by_cases ht : 0 < t n
      · rw [if_pos ht] at hy
        rw [List.mem_singleton.mp hy]
        show 3 * i + 6 < 3 * n + 6
        omega
      · rw [if_neg ht] at hy
        exact absurd hy List.not_mem_nil
theorem ctL_len (t : Nat → Nat) : ∀ n, (ctL t n).length ≤ n
  | 0 => Nat.le_refl _
  | n + 1 => by
    have := ctL_len t n
    rw [ctL_s, List.length_append]
    split <;> simp <;> omega
theorem ct_100 (t : Nat → Nat) : k100 (ct t) := fun x hx => by
  obtain ⟨i, h1, h2, rfl⟩ := ctL_mem.mp hx
  show 3 * i + 6 < 100
  omega
theorem ctL_cg {t t' : Nat → Nat} : ∀ {n : Nat}, (∀ i, i < n → t i = t' i) → ctL t n = ctL t' n
  | 0, _ => rfl
  | n + 1, h => by rw [ctL_s, ctL_s, ctL_cg (fun i hi => h i (by omega)), h n (by omega)]
theorem ctL_pre (t : Nat → Nat) {i : Nat} : ∀ {n : Nat}, i ≤ n → ∃ S, ctL t n = ctL t i ++ S
  | 0, h => ⟨[], by rw [Nat.le_zero.mp h]; rfl⟩
  | n + 1, h => by
    by_cases hi : i = n + 1
    · exact ⟨[], by rw [hi, List.append_nil]⟩
    · obtain ⟨S, hS⟩ := ctL_pre t (i := i) (n := n) (by omega)
      exact ⟨S ++ (if 0 < t n then [(3 * n + 6, valN (t n) n)] else []), by rw [ctL_s, hS, List.append_assoc]⟩
theorem ct_at {t : Nat → Nat} {i : Nat} (hi : i < 32) (ht : 0 < t i) : (ct t)[(ctL t i).length]? = some (3 * i + 6, valN (t i) i) := by
  obtain ⟨S, hS⟩ := ctL_pre t (i := i + 1) (n := 32) (by omega)
  rw [show ct t = _ from hS, ctL_s, if_pos ht, List.append_assoc, List.getElem?_append_right (Nat.le_refl _), Nat.sub_self]
  rfl
theorem ct_lt {t : Nat → Nat} {i : Nat} (hi : i < 32) (ht : 0 < t i) : (ctL t i).length < (ct t).length := (List.getElem?_eq_some_iff.mp (ct_at hi ht)).1
theorem ct_in {t : Nat → Nat} {i : Nat} (hi : i < 32) (ht : 0 < t i) : (3 * i + 6, valN (t i) i) ∈ ct t := ctL_mem.mpr ⟨i, hi, ht, rfl⟩
theorem ct_no {t : Nat → Nat} {i : Nat} (ht : ¬ 0 < t i) : ¬ ∃ y ∈ ct t, y.1 = 3 * i + 6 := by
  rintro ⟨y, hy, h⟩
  obtain ⟨j, h1, h2, rfl⟩ := ctL_mem.mp hy
  have : j = i := by
    have h : 3 * j + 6 = 3 * i + 6 := h
    omega
  subst this
  exact ht h2
theorem ct_no5 {t : Nat → Nat} {i : Nat} : ¬ ∃ y ∈ ct t, y.1 = 3 * i + 5 := by
  rintro ⟨y, hy, h⟩
  obtain ⟨j, h1, h2, rfl⟩ := ctL_mem.mp hy
  have h : 3 * j + 6 = 3 * i + 5 := h
  omega
/-- sorted lists of the same entries are one -/
theorem Srt_ext : ∀ {A B : List (Nat × Int32)}, Srt A → Srt B → (∀ y, y ∈ A ↔ y ∈ B) → A = B
  | [], [], _, _, _ => rfl
  | [], y :: B, _, _, h => absurd ((h y).mpr List.mem_cons_self) List.not_mem_nil
  | x :: A, [], _, _, h => absurd ((h x).mp List.mem_cons_self) List.not_mem_nil
  | x :: A, y :: B, hA, hB, h => by
    obtain ⟨a1, a2⟩ := Srt_cons.mp hA
    obtain ⟨b1, b2⟩ := Srt_cons.mp hB
    have hxy : x = y := by
      rcases List.mem_cons.mp ((h x).mp List.mem_cons_self) with e | hx
      · exact e
      · rcases List.mem_cons.mp ((h y).mpr List.mem_cons_self) with e | hy
        · exact e.symm
        · have c1 := b1 x hx
          have c2 := a1 y hy
          omega
    subst hxy
    rw [Srt_ext a2 b2 (fun z => by
      constructor
      · intro hz
        rcases List.mem_cons.mp ((h z).mp (List.mem_cons_of_mem _ hz)) with e | hz2
        · have := a1 z hz
          rw [e] at this
          exact absurd this (Nat.lt_irrefl _)
        · exact hz2
      · intro hz
        rcases List.mem_cons.mp ((h z).mpr (List.mem_cons_of_mem _ hz)) with e | hz2
        · have := b1 z hz
          rw [e] at this
          exact absurd this (Nat.lt_irrefl _)
        · exact hz2)]
/-- a key put -/
theorem ct_put {t t' : Nat → Nat} {i u : Nat} {L L' : List (Nat × Int32)} (hi : i < 32) (hu : 0 < u) (hL : L = ct t) (hs : Srt L') (hm : ∀ y, y ∈ L' ↔ (y = (3 * i + 6, valN u i) ∨ (y ∈ L ∧ y.1 ≠ 3 * i + 6))) (ht : ∀ j, j < 32 → t' j = if j = i then u else t j) : L' = ct t' := by
  refine Srt_ext hs (ctL_srt _ _) (fun y => ?_)
  rw [hm, hL, ctL_mem, ctL_mem]
  constructor
  · rintro (rfl | ⟨⟨j, h1, h2, rfl⟩, hn⟩)
    · exact ⟨i, hi, by rw [ht i hi, if_pos rfl]; exact hu, by rw [ht i hi, if_pos rfl]⟩
    · have hj : j ≠ i := fun e => hn (by rw [e])
      exact ⟨j, h1, by rw [ht j h1, if_neg hj]; exact h2, by rw [ht j h1, if_neg hj]⟩
  · rintro ⟨j, h1, h2, rfl⟩
    rw [ht j h1] at h2 ⊢
    by_cases hj : j = i
    · subst hj
      rw [if_pos rfl]
      exact Or.inl rfl
    · rw [if_neg hj] at h2 ⊢
      exact Or.inr ⟨⟨j, h1, h2, rfl⟩, fun e => hj (by have e : 3 * j + 6 = 3 * i + 6 := e; omega)⟩
/-- a key deleted -/
theorem ct_del {t t' : Nat → Nat} {i : Nat} {L L' : List (Nat × Int32)} (hL : L = ct t) (hs : Srt L') (hm : ∀ y, y ∈ L' ↔ (y ∈ L ∧ y.1 ≠ 3 * i + 6)) (ht : ∀ j, j < 32 → t' j = if j = i then 0 else t j) : L' = ct t' := by
  refine Srt_ext hs (ctL_srt _ _) (fun y => ?_)
  rw [hm, hL, ctL_mem, ctL_mem]
  constructor
  · rintro ⟨⟨j, h1, h2, rfl⟩, hn⟩
    have hj : j ≠ i := fun e => hn (by rw [e])
    exact ⟨j, h1, by rw [ht j h1, if_neg hj]; exact h2, by rw [ht j h1, if_neg hj]⟩
  · rintro ⟨j, h1, h2, rfl⟩
    rw [ht j h1] at h2 ⊢
    by_cases hj : j = i
    · rw [if_pos hj] at h2
      exact absurd h2 (Nat.lt_irrefl 0)
    · rw [if_neg hj] at h2 ⊢
      exact ⟨⟨j, h1, h2, rfl⟩, fun e => hj (by have e : 3 * j + 6 = 3 * i + 6 := e; omega)⟩
theorem ct_keep {t t' : Nat → Nat} {i : Nat} (hz : ¬ 0 < t i) (ht : ∀ j, j < 32 → t' j = if j = i then 0 else t j) : ct t' = ct t := ctL_cg (fun j hj => by
  rw [ht j hj]
  by_cases hji : j = i
  · subst hji
    rw [if_pos rfl]
    omega
  · rw [if_neg hji])
/-! the scan for the next key and the rank, at the ends -/
theorem lkL_s {x : Nat × Int32} {r : List (Nat × Int32)} {a : Int32} : lkL (x :: r) a = if nI x.1 < a then lkL r a else nI x.1 := rfl
theorem cnL_s {x : Nat × Int32} {r : List (Nat × Int32)} {a : Int32} : cnL (x :: r) a = (if nI x.1 < a then 1 else 0) + cnL r a := rfl
theorem lkL_all {a : Int32} : ∀ {L : List (Nat × Int32)}, (∀ x ∈ L, nI x.1 < a) → lkL L a = -1
  | [], _ => rfl
  | x :: L, h => by rw [lkL_s, if_pos (h x List.mem_cons_self), lkL_all (fun y hy => h y (List.mem_cons_of_mem _ hy))]
theorem cnL_all {a : Int32} : ∀ {L : List (Nat × Int32)}, (∀ x ∈ L, nI x.1 < a) → cnL L a = L.length
  | [], _ => rfl
  | x :: L, h => by
    rw [cnL_s, if_pos (h x List.mem_cons_self), cnL_all (fun y hy => h y (List.mem_cons_of_mem _ hy)), List.length_cons]
    omega
theorem nI_max {n : Nat} (h : n < 100) : nI n < 2147483647 := by
  rw [Int32.lt_iff_toInt_lt, nI_toInt (by omega)]
  have : (2147483647 : Int32).toInt = 2147483647 := by decide
  omega
theorem nI_min {n : Nat} (h : n < 100) : ¬ nI n < -2147483648 := by
  rw [Int32.lt_iff_toInt_lt, nI_toInt (by omega)]
  have : (-2147483648 : Int32).toInt = -2147483648 := by decide
  omega
/-! sums -/
def sumT (h : Nat → Nat) : Nat → Nat
  | 0 => 0
  | n + 1 => sumT h n + h n
theorem sumT_s (h : Nat → Nat) (n : Nat) : sumT h (n + 1) = sumT h n + h n := rfl
theorem sumT_cg {h g : Nat → Nat} : ∀ {n : Nat}, (∀ q, q < n → h q = g q) → sumT h n = sumT g n
  | 0, _ => rfl
  | n + 1, e => by rw [sumT_s, sumT_s, sumT_cg (fun q hq => e q (by omega)), e n (by omega)]
theorem sumT_le {h g : Nat → Nat} : ∀ {n : Nat}, (∀ q, q < n → h q ≤ g q) → sumT h n ≤ sumT g n
  | 0, _ => Nat.le_refl _
  | n + 1, e => by
    have := sumT_le (h := h) (g := g) (n := n) (fun q hq => e q (by omega))
    have := e n (by omega)
    rw [sumT_s, sumT_s]
    omega
theorem sumT_add (h : Nat → Nat) (a : Nat) : ∀ b, sumT h (a + b) = sumT h a + sumT (fun j => h (a + j)) b
  | 0 => rfl
  | b + 1 => by
    rw [← Nat.add_assoc, sumT_s, sumT_add h a b, sumT_s]
    omega
theorem sumT_0 : ∀ n, sumT (fun _ => 0) n = 0
  | 0 => rfl
  | n + 1 => by rw [sumT_s, sumT_0 n]
theorem sumT_one (h : Nat → Nat) (hh : ∀ q, h q ≤ 1) : ∀ n, sumT h n ≤ n
  | 0 => Nat.le_refl _
  | n + 1 => by
    have := sumT_one h hh n
    have := hh n
    rw [sumT_s]
    omega
theorem pop_sum (x : Int64) : ∀ n, popN x n = sumT (fun j => if lb x j then 1 else 0) n
  | 0 => rfl
  | n + 1 => by
    show popN x n + (if lb x n then 1 else 0) = _
    rw [sumT_s, pop_sum x n]
theorem dl_sum (g : Nat → Nat) (p : Nat) : ∀ n, sumT (fun q => dl q p * g q) n = if p < n then g p else 0
  | 0 => rfl
  | n + 1 => by
    rw [sumT_s, dl_sum g p n]
    by_cases h1 : p < n
    · rw [if_pos h1, if_pos (by omega), dl_n (by omega)]
      omega
    · by_cases h2 : p = n
      · subst h2
        rw [if_neg h1, if_pos (by omega), dl_s]
        omega
      · rw [if_neg h1, if_neg (by omega), dl_n h2]
        omega
theorem sumT_plus (h g : Nat → Nat) : ∀ n, sumT (fun q => h q + g q) n = sumT h n + sumT g n
  | 0 => rfl
  | n + 1 => by
    rw [sumT_s, sumT_s, sumT_s, sumT_plus h g n]
    omega
theorem smN_sum (g : Nat → Nat) (n : Nat) : ∀ {L : List Nat}, (∀ q ∈ L, q < n) → smN g L = sumT (fun q => smN (dl q) L * g q) n
  | [], _ => by
    rw [smN_nil]
    rw [sumT_cg (g := fun _ => 0) (fun q _ => by rw [smN_nil, Nat.zero_mul]), sumT_0]
  | p :: L, h => by
    rw [smN_cons, smN_sum g n (fun q hq => h q (List.mem_cons_of_mem _ hq))]
    have e : sumT (fun q => smN (dl q) (p :: L) * g q) n = sumT (fun q => dl q p * g q + smN (dl q) L * g q) n := sumT_cg (fun q _ => by rw [smN_cons, Nat.add_mul])
    rw [e, sumT_plus, dl_sum, if_pos (h p List.mem_cons_self)]
noncomputable def ind (S : Nat → Prop) : Nat → Nat := fun q => @ite Nat (S q) (Classical.propDecidable (S q)) 1 0
theorem cntR_sum {S : Nat → Prop} : ∀ {n k : Nat}, cntR S n k → k = sumT (ind S) n
  | 0, k, h => h
  | n + 1, k, h => by
    rcases h with ⟨ha, i, h1, rfl⟩ | ⟨ha, h1⟩
    · rw [sumT_s, ← cntR_sum h1]
      unfold ind
      rw [if_pos ha]
    · rw [sumT_s, ← cntR_sum h1]
      unfold ind
      rw [if_neg ha]
      rfl
theorem ind_1 {S : Nat → Prop} {q : Nat} (h : S q) : ind S q = 1 := if_pos h
theorem ind_0 {S : Nat → Prop} {q : Nat} (h : ¬ S q) : ind S q = 0 := if_neg h
/-- a tree's pages, each once -/
theorem smN_dl {L : List Nat} {q : Nat} (h : smN (dl q) L ≤ 1) : smN (dl q) L = if q ∈ L then 1 else 0 := by
  by_cases hq : q ∈ L
  · rw [if_pos hq]
    have := smN_mem (dl q) hq
    rw [dl_s] at this
    omega
  · rw [if_neg hq]
    rcases Nat.eq_zero_or_pos (smN (dl q) L) with h0 | h0
    · exact h0
    · obtain ⟨x, hx, h1⟩ := smN_pos h0
      rw [dl_1 h1] at hx
      exact absurd hx hq
