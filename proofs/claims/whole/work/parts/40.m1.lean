/-! the model: what it meets -/
def rpM (many inn item val : Nat → Int32) (p : Nat) (n : Nd) : Prop := match n with
  | .inl l => inn p = 0 ∧ l.length ≤ 5 ∧ many p = nI l.length ∧ row item (5 * p) (kyL l) ∧ row val (5 * p) (vaL l) ∧ ∀ x ∈ l, x.1 < 100
  | .inr l => inn p = 1 ∧ l.length ≤ 5 ∧ many p = nI l.length ∧ row item (5 * p) (chL l) ∧ ∀ c ∈ l, c < 720
def Rm (many inn item val : Nat → Int32) (T : Nat → Nd) (U : Nat → Prop) : Prop := ∀ p, U p → p < 720 ∧ rpM many inn item val p (T p)
theorem Rm.leaf {many inn item val : Nat → Int32} {T : Nat → Nd} {U : Nat → Prop} (h : Rm many inn item val T U) {p : Nat} (hu : U p) {l : List (Nat × Int32)} (ht : T p = .inl l) : p < 720 ∧ inn p = 0 ∧ l.length ≤ 5 ∧ many p = nI l.length ∧ row item (5 * p) (kyL l) ∧ row val (5 * p) (vaL l) ∧ ∀ x ∈ l, x.1 < 100 := by
  obtain ⟨h1, h2⟩ := h p hu
  rw [ht] at h2
  exact ⟨h1, h2⟩
theorem Rm.inner {many inn item val : Nat → Int32} {T : Nat → Nd} {U : Nat → Prop} (h : Rm many inn item val T U) {p : Nat} (hu : U p) {l : List Nat} (ht : T p = .inr l) : p < 720 ∧ inn p = 1 ∧ l.length ≤ 5 ∧ many p = nI l.length ∧ row item (5 * p) (chL l) ∧ ∀ c ∈ l, c < 720 := by
  obtain ⟨h1, h2⟩ := h p hu
  rw [ht] at h2
  exact ⟨h1, h2⟩
theorem Rm.many {many inn item val : Nat → Int32} {T : Nat → Nd} {U : Nat → Prop} (h : Rm many inn item val T U) {p : Nat} (hu : U p) : p < 720 ∧ many p = nI (nlen (T p)) ∧ nlen (T p) ≤ 5 := by
  obtain ⟨h1, h2⟩ := h p hu
  cases ht : T p with
  | inl l => rw [ht] at h2; exact ⟨h1, h2.2.2.1, h2.2.1⟩
  | inr l => rw [ht] at h2; exact ⟨h1, h2.2.2.1, h2.2.1⟩
theorem row_ch {f : Nat → Int32} {b e c : Nat} {l : List Nat} (h : row f b (chL l)) (hx : l[e]? = some c) : f (b + e) = nI c := h e (nI c) (by simp [chL, hx])
theorem row_ky {f : Nat → Int32} {b e : Nat} {x : Nat × Int32} {l : List (Nat × Int32)} (h : row f b (kyL l)) (hx : l[e]? = some x) : f (b + e) = nI x.1 := h e (nI x.1) (by simp [kyL, hx])
theorem row_va {f : Nat → Int32} {b e : Nat} {x : Nat × Int32} {l : List (Nat × Int32)} (h : row f b (vaL l)) (hx : l[e]? = some x) : f (b + e) = x.2 := h e x.2 (by simp [vaL, hx])
theorem ix5m (p e : Nat) : 5 * nI p + nI e = nI (5 * p + e) := by
  rw [show (5 : Int32) = nI 5 from rfl, pk_mul, nI_add]
theorem ix5n (p : Nat) : 5 * nI p = nI (5 * p) := by
  rw [show (5 : Int32) = nI 5 from rfl, pk_mul]
def MS (f : Nat → Int32) (S : Nat → Prop) : Prop := ∀ q, q < 720 → (f q ≠ 0 ↔ S q)
theorem MS_add {f : Nat → Int32} {S : Nat → Prop} {n : Nat} (h : MS f S) : MS (upd f n (1 &&& 1)) (addS S n) := fun q hq => by
  unfold upd addS
  by_cases hn : q = n
  · simp [hn]
  · rw [if_neg hn]
    exact (h q hq).trans ⟨Or.inr, fun h => h.resolve_left hn⟩
theorem MS_zr {f : Nat → Int32} : MS (zr f 720) (fun _ => False) := fun q hq => by
  unfold zr
  rw [if_pos hq]
  exact ⟨fun h => h rfl, fun h => h.elim⟩
theorem MS_0 {f : Nat → Int32} {S : Nat → Prop} {q : Nat} (h : MS f S) (hq : q < 720) (hS : ¬ S q) : f q = 0 := by
  by_cases h1 : f q = 0
  · exact h1
  · exact absurd ((h q hq).mp h1) hS
def stkR (rst : Nat → Int32) (S : List Nat) : Prop := ∀ (j x : Nat), S[j]? = some x → rst j = nI x
theorem stk_push {rst : Nat → Int32} {S : List Nat} {c : Nat} (h : stkR rst S) : stkR (upd rst S.length (nI c)) (S ++ [c]) := fun j x hj => by
  unfold upd
  by_cases hl : j = S.length
  · subst hl
    rw [if_pos rfl]
    rw [List.getElem?_append_right (Nat.le_refl _), Nat.sub_self] at hj
    simp at hj
    rw [hj]
  · rw [if_neg hl]
    have h1 := (List.getElem?_eq_some_iff.mp hj).1
    rw [List.length_append, List.length_singleton] at h1
    rw [List.getElem?_append_left (by omega)] at hj
    exact h j x hj
theorem stk_pop {rst : Nat → Int32} {S : List Nat} {c : Nat} (h : stkR rst (S ++ [c])) : stkR rst S ∧ rst S.length = nI c :=
  ⟨fun j x hj => h j x (by rw [List.getElem?_append_left (List.getElem?_eq_some_iff.mp hj).1]; exact hj), h S.length c (by rw [List.getElem?_append_right (Nat.le_refl _), Nat.sub_self]; rfl)⟩
theorem cntR_add {M : Nat → Prop} {c : Nat} : ∀ {n u : Nat}, cntR (fun q => ¬ M q) n u → c < n → ¬ M c → ∃ u', u = u' + 1 ∧ cntR (fun q => ¬ addS M c q) n u'
  | n + 1, u, h, hc, hM => by
    by_cases hcn : c = n
    · subst hcn
      rcases h with ⟨-, j, hj, rfl⟩ | ⟨h1, -⟩
      · refine ⟨j, rfl, Or.inr ⟨fun h => h (Or.inl rfl), cntR_cg (fun q hq => ?_) hj⟩⟩
        exact ⟨fun h h2 => h2.elim (fun h => by omega) h, fun h h2 => h (Or.inr h2)⟩
      · exact absurd hM h1
    · have hc' : c < n := by omega
      have hn : (¬ M n) ↔ ¬ addS M c n := ⟨fun h h2 => h2.elim (fun h => hcn h.symm) h, fun h h2 => h (Or.inr h2)⟩
      rcases h with ⟨h1, j, hj, rfl⟩ | ⟨h1, hj⟩
      · obtain ⟨u', rfl, hu⟩ := cntR_add hj hc' hM
        exact ⟨u' + 1, rfl, Or.inl ⟨hn.mp h1, u', hu, rfl⟩⟩
      · obtain ⟨u', rfl, hu⟩ := cntR_add hj hc' hM
        exact ⟨u', rfl, Or.inr ⟨fun h => h1 (hn.mpr h), hu⟩⟩
section M1
variable {U : Nat → Prop} {T : Nat → Nd}
theorem l_meetsK {cc : C21} {ep ro bb sl th dp : Int32} {many inn item val wr met rst : Nat → Int32} {wds : Nat → Int64} {opd ope way tk : Nat → Int32} {tl : List mC} (hR : Rm many inn item val T U) {p : Nat} {l : List Nat} (hu : U p) (ht : T p = .inr l) (a : Int32) : ∀ (r b : List Nat) (S : List Nat) (rst met : Nat → Int32) (M : Nat → Prop) (u : Nat), l = b ++ r → stkR rst S → MS met M → cntR (fun q => ¬ M q) 720 u → u + S.length ≤ 720 → ∃ (S' : List Nat) (rst' met' : Nat → Int32) (M' : Nat → Prop) (u' : Nat), stkR rst' S' ∧ MS met' M' ∧ cntR (fun q => ¬ M' q) 720 u' ∧ u' + S'.length ≤ 720 ∧ 2 * u' + S'.length ≤ 2 * u + S.length ∧ (∀ q, M q → M' q) ∧ (∀ q, M' q → M q ∨ q ∈ l) ∧ (∀ c ∈ r, M' c) ∧ (∀ x ∈ S, x ∈ S') ∧ (∀ q, M' q → M q ∨ q ∈ S') ∧ (∀ x ∈ S', x ∈ S ∨ (x ∈ l ∧ M' x)) ∧ ∀ (Qf : mQ) (v5 : Value), (∀ v4 v5, EvF m_X4_meets Qf 29 [.ref 21, .int a, .int (nI S'.length), .int (nI p), v4, v5] [] 0 0 (dW cc ep ro bb sl th dp many inn item val wr met' rst' wds opd ope way tk tl)) → EvF m_X4_meets Qf 46 [.ref 21, .int a, .int (nI S.length), .int (nI p), .int (nI b.length), v5] [] 0 0 (dW cc ep ro bb sl th dp many inn item val wr met rst wds opd ope way tk tl) := by
  obtain ⟨hp, hi, h5, hc, hrow, hk7⟩ := hR.inner hu ht
  intro r
  induction r with
  | nil =>
    intro b S rst met M u hb hst hM hcu hus
    rw [List.append_nil] at hb
    subst hb
    refine ⟨S, rst, met, M, u, hst, hM, hcu, hus, Nat.le_refl _, (fun q h => h), (fun q h => Or.inl h), (fun c h => absurd h List.not_mem_nil), (fun x h => h), (fun q h => Or.inl h), (fun x h => Or.inl h), fun Qf v5 k => ?_⟩
    refine ev_iload (pc := 46) dX4_meets_46 rfl ?_
    refine ev_aload_n (pc := 48) dX4_meets_48 rfl rfl ?_
    refine ev_get (pc := 49) dX4_meets_49 fd_X4_7 rfl rfl ?_
    refine ev_iload_n (pc := 52) dX4_meets_52 rfl rfl ?_
    refine ev_ialdN (pc := 53) dX4_meets_53 rfl ⟨rfl, hp, by decide⟩ hc ?_
    refine ev_ic_ge (pc := 54) (tgt := 114) dX4_meets_54 (by decide) (fun _ => ?_) (fun c_54 => absurd (by exact nI_le (Nat.le_refl _) (by omega)) c_54)
    refine ev_goto (pc := 114) (tgt := 29) dX4_meets_114 (by decide) ?_
    exact k _ _
  | cons c r ih =>
    intro b S rst met M u hb hst hM hcu hus
    have hlt : b.length < l.length := by rw [hb]; simp
    have hx : l[b.length]? = some c := by rw [hb, List.getElem?_append_right (Nat.le_refl _), Nat.sub_self]; rfl
    have hcl : c ∈ l := List.mem_of_getElem? hx
    have hc7 := hk7 c hcl
    have hb2 : l = (b ++ [c]) ++ r := by rw [hb]; simp
    have hbl : (b ++ [c]).length = b.length + 1 := by simp
    by_cases hMc : M c
    · have h1 : ¬ met c = 0 := (hM c hc7).mpr hMc
      obtain ⟨S', rst', met', M', u', a1, a2, a3, a4, a5, a6, a7, a8, a9, a10, a11, e⟩ := ih (b ++ [c]) S rst met M u hb2 hst hM hcu hus
      refine ⟨S', rst', met', M', u', a1, a2, a3, a4, a5, a6, a7, (fun x hx => (List.mem_cons.mp hx).elim (fun h => h ▸ a6 c hMc) (a8 x)), a9, a10, a11, fun Qf v5 k => ?_⟩
      have h9 := e Qf (.int (nI c)) k
      rw [hbl] at h9
      refine ev_iload (pc := 46) dX4_meets_46 rfl ?_
      refine ev_aload_n (pc := 48) dX4_meets_48 rfl rfl ?_
      refine ev_get (pc := 49) dX4_meets_49 fd_X4_7 rfl rfl ?_
      refine ev_iload_n (pc := 52) dX4_meets_52 rfl rfl ?_
      refine ev_ialdN (pc := 53) dX4_meets_53 rfl ⟨rfl, hp, by decide⟩ hc ?_
      refine ev_ic_ge (pc := 54) (tgt := 114) dX4_meets_54 (by decide) (fun c_54 => absurd c_54 (nI_ge hlt (by omega))) (fun _ => ?_)
      refine ev_aload_n (pc := 57) dX4_meets_57 rfl rfl ?_
      refine ev_get (pc := 58) dX4_meets_58 fd_X4_13 rfl rfl ?_
      refine ev_iload_n (pc := 61) dX4_meets_61 rfl rfl ?_
      refine ev_zaldN (pc := 62) dX4_meets_62 rfl ⟨rfl, hp, by decide⟩ hi ?_
      refine ev_if_eq (pc := 63) (tgt := 114) dX4_meets_63 (by decide) (fun c_63 => absurd c_63 (by decide)) (fun _ => ?_)
      refine ev_aload_n (pc := 66) dX4_meets_66 rfl rfl ?_
      refine ev_get (pc := 67) dX4_meets_67 fd_X4_17 rfl rfl ?_
      refine ev_iconst (pc := 70) (v := 5) dX4_meets_70 (by decide) ?_
      refine ev_iload_n (pc := 71) dX4_meets_71 rfl rfl ?_
      refine ev_imul (pc := 72) dX4_meets_72 ?_
      refine ev_iload (pc := 73) dX4_meets_73 rfl ?_
      refine ev_iadd (pc := 75) dX4_meets_75 ?_
      refine ev_ialdN (pc := 76) dX4_meets_76 rfl ⟨(ix5m p b.length), by omega, by decide⟩ (row_ch hrow hx) ?_
      refine ev_istore (pc := 77) dX4_meets_77 rfl rfl ?_
      refine ev_aload_n (pc := 79) dX4_meets_79 rfl rfl ?_
      refine ev_get (pc := 80) dX4_meets_80 fd_X4_26 rfl rfl ?_
      refine ev_iload (pc := 83) dX4_meets_83 rfl ?_
      refine ev_zaldN (pc := 85) dX4_meets_85 rfl ⟨rfl, hc7, by decide⟩ rfl ?_
      refine ev_if_ne (pc := 86) (tgt := 108) dX4_meets_86 (by decide) (fun _ => ?_) (fun c_86 => absurd c_86 h1)
      refine ev_iinc (pc := 108) dX4_meets_108 rfl rfl rfl ?_
      refine ev_goto (pc := 111) (tgt := 46) dX4_meets_111 (by decide) ?_
      rw [nI_i1]
      exact h9
    · have h1 : met c = 0 := MS_0 hM hc7 hMc
      obtain ⟨u1, rfl, hcu'⟩ := cntR_add hcu hc7 hMc
      obtain ⟨S', rst', met', M', u', a1, a2, a3, a4, a5, a6, a7, a8, a9, a10, a11, e⟩ := ih (b ++ [c]) (S ++ [c]) (upd rst S.length (nI c)) (upd met c (1 &&& 1)) (addS M c) u1 hb2 (stk_push hst) (MS_add hM) hcu' (by simp; omega)
      refine ⟨S', rst', met', M', u', a1, a2, a3, a4, (by simp at a5; omega), (fun q hq => a6 q (Or.inr hq)), (fun q hq => (a7 q hq).elim (fun h => h.elim (fun h => Or.inr (h ▸ hcl)) Or.inl) Or.inr), (fun x hx => (List.mem_cons.mp hx).elim (fun h => h ▸ a6 c (Or.inl rfl)) (a8 x)), (fun x hx => a9 x (List.mem_append_left _ hx)), (fun q hq => (a10 q hq).elim (fun h => h.elim (fun h => Or.inr (h ▸ a9 c (List.mem_append_right _ (List.mem_singleton.mpr rfl)))) Or.inl) Or.inr), (fun x hx => (a11 x hx).elim (fun h => (List.mem_append.mp h).elim Or.inl (fun h => Or.inr (by rw [List.mem_singleton.mp h]; exact ⟨hcl, a6 c (Or.inl rfl)⟩))) Or.inr), fun Qf v5 k => ?_⟩
      have h9 := e Qf (.int (nI c)) k
      rw [hbl, List.length_append, List.length_singleton] at h9
      refine ev_iload (pc := 46) dX4_meets_46 rfl ?_
      refine ev_aload_n (pc := 48) dX4_meets_48 rfl rfl ?_
      refine ev_get (pc := 49) dX4_meets_49 fd_X4_7 rfl rfl ?_
      refine ev_iload_n (pc := 52) dX4_meets_52 rfl rfl ?_
      refine ev_ialdN (pc := 53) dX4_meets_53 rfl ⟨rfl, hp, by decide⟩ hc ?_
      refine ev_ic_ge (pc := 54) (tgt := 114) dX4_meets_54 (by decide) (fun c_54 => absurd c_54 (nI_ge hlt (by omega))) (fun _ => ?_)
      refine ev_aload_n (pc := 57) dX4_meets_57 rfl rfl ?_
      refine ev_get (pc := 58) dX4_meets_58 fd_X4_13 rfl rfl ?_
      refine ev_iload_n (pc := 61) dX4_meets_61 rfl rfl ?_
      refine ev_zaldN (pc := 62) dX4_meets_62 rfl ⟨rfl, hp, by decide⟩ hi ?_
      refine ev_if_eq (pc := 63) (tgt := 114) dX4_meets_63 (by decide) (fun c_63 => absurd c_63 (by decide)) (fun _ => ?_)
      refine ev_aload_n (pc := 66) dX4_meets_66 rfl rfl ?_
      refine ev_get (pc := 67) dX4_meets_67 fd_X4_17 rfl rfl ?_
      refine ev_iconst (pc := 70) (v := 5) dX4_meets_70 (by decide) ?_
      refine ev_iload_n (pc := 71) dX4_meets_71 rfl rfl ?_
      refine ev_imul (pc := 72) dX4_meets_72 ?_
      refine ev_iload (pc := 73) dX4_meets_73 rfl ?_
      refine ev_iadd (pc := 75) dX4_meets_75 ?_
      refine ev_ialdN (pc := 76) dX4_meets_76 rfl ⟨(ix5m p b.length), by omega, by decide⟩ (row_ch hrow hx) ?_
      refine ev_istore (pc := 77) dX4_meets_77 rfl rfl ?_
      refine ev_aload_n (pc := 79) dX4_meets_79 rfl rfl ?_
      refine ev_get (pc := 80) dX4_meets_80 fd_X4_26 rfl rfl ?_
      refine ev_iload (pc := 83) dX4_meets_83 rfl ?_
      refine ev_zaldN (pc := 85) dX4_meets_85 rfl ⟨rfl, hc7, by decide⟩ rfl ?_
      refine ev_if_ne (pc := 86) (tgt := 108) dX4_meets_86 (by decide) (fun c_86 => absurd h1 c_86) (fun _ => ?_)
      refine ev_aload_n (pc := 89) dX4_meets_89 rfl rfl ?_
      refine ev_get (pc := 90) dX4_meets_90 fd_X4_26 rfl rfl ?_
      refine ev_iload (pc := 93) dX4_meets_93 rfl ?_
      refine ev_iconst (pc := 95) (v := 1) dX4_meets_95 (by decide) ?_
      refine ev_zastN (pc := 96) dX4_meets_96 rfl ⟨rfl, hc7, by decide⟩ rfl rfl ?_
      refine ev_aload_n (pc := 97) dX4_meets_97 rfl rfl ?_
      refine ev_get (pc := 98) dX4_meets_98 fd_X4_29 rfl rfl ?_
      refine ev_iload_n (pc := 101) dX4_meets_101 rfl rfl ?_
      refine ev_iload (pc := 102) dX4_meets_102 rfl ?_
      refine ev_iastN (pc := 104) dX4_meets_104 rfl ⟨rfl, by omega, by decide⟩ rfl rfl ?_
      refine ev_iinc (pc := 105) dX4_meets_105 rfl rfl rfl ?_
      refine ev_iinc (pc := 108) dX4_meets_108 rfl rfl rfl ?_
      refine ev_goto (pc := 111) (tgt := 46) dX4_meets_111 (by decide) ?_
      rw [nI_i1, nI_i1]
      exact h9
theorem lvl_cl {M : Nat → Prop} (hc : ∀ q, M q → ∀ c ∈ kids (T q), M c) {p q : Nat} : ∀ (n : Nat), M p → q ∈ lvl T p n → M q := by
  intro n
  induction n generalizing p with
  | zero =>
    intro hp hq
    have : q = p := by simpa [lvl] using hq
    rw [this]
    exact hp
  | succ n ih =>
    intro hp hq
    obtain ⟨c, hcc, hq⟩ := (lvl_kid n q).mp hq
    exact ih (hc p hp c hcc) hq
theorem l_meets {cc : C21} {ep ro bb sl th dp : Int32} {many inn item val wr met rst : Nat → Int32} {wds : Nat → Int64} {opd ope way tk : Nat → Int32} {tl : List mC} (hR : Rm many inn item val T U) (hU : ∀ q, U q → ∀ c ∈ kids (T q), U c) {M0 : Nat → Prop} {p : Nat} (h0 : ∀ q, M0 q → ∀ c ∈ kids (T q), M0 c) (a : Int32) : ∀ (N : Nat) (S : List Nat) (rst met : Nat → Int32) (M : Nat → Prop) (u : Nat), 2 * u + S.length ≤ N → stkR rst S → MS met M → cntR (fun q => ¬ M q) 720 u → u + S.length ≤ 720 → (∀ x ∈ S, U x) → (∀ q, M q → q ∈ S ∨ ∀ c ∈ kids (T q), M c) → (∀ q, M q → M0 q ∨ Rch T p q) → (∀ x ∈ S, Rch T p x) → (∀ q, M0 q → M q) → M p → ∃ met' rst', MS met' (fun q => M0 q ∨ Rch T p q) ∧ ∀ v3 v4 v5 : Value, EvF m_X4_meets (mQm m_X4_meets (.inl none) (dW cc ep ro bb sl th dp many inn item val wr met' rst' wds opd ope way tk tl)) 29 [.ref 21, .int a, .int (nI S.length), v3, v4, v5] [] 0 0 (dW cc ep ro bb sl th dp many inn item val wr met rst wds opd ope way tk tl) := by
  intro N
  induction N with
  | zero =>
    intro S rst met M u hN hst hM hcu hus hSU hcl hsub hSp h0M hMp
    have hS : S = [] := List.length_eq_zero_iff.mp (by omega)
    subst hS
    refine ⟨met, rst, fun q hq => (hM q hq).trans ⟨hsub q, ?_⟩, fun v3 v4 v5 => ?_⟩
    · rintro (h | ⟨n, hn⟩)
      · exact h0M q h
      · have hc : ∀ q, M q → ∀ c ∈ kids (T q), M c := fun q hq => (hcl q hq).resolve_left List.not_mem_nil
        exact lvl_cl hc n hMp hn
    · refine ev_iload_n (pc := 29) dX4_meets_29 rfl rfl ?_
      refine ev_if_le (pc := 30) (tgt := 117) dX4_meets_30 (by decide) (fun _ => ?_) (fun c_30 => absurd (by decide) c_30)
      exact ev_vretE (pc := 117) dX4_meets_117 rfl ⟨Nat.le_of_ble_eq_true rfl, Nat.le_of_ble_eq_true rfl⟩ rfl
  | succ N ih =>
    intro S rst met M u hN hst hM hcu hus hSU hcl hsub hSp h0M hMp
    rcases List.eq_nil_or_concat S with rfl | ⟨S1, x, rfl⟩
    · refine ⟨met, rst, fun q hq => (hM q hq).trans ⟨hsub q, ?_⟩, fun v3 v4 v5 => ?_⟩
      · rintro (h | ⟨n, hn⟩)
        · exact h0M q h
        · have hc : ∀ q, M q → ∀ c ∈ kids (T q), M c := fun q hq => (hcl q hq).resolve_left List.not_mem_nil
          exact lvl_cl hc n hMp hn
      · refine ev_iload_n (pc := 29) dX4_meets_29 rfl rfl ?_
        refine ev_if_le (pc := 30) (tgt := 117) dX4_meets_30 (by decide) (fun _ => ?_) (fun c_30 => absurd (by decide) c_30)
        exact ev_vretE (pc := 117) dX4_meets_117 rfl ⟨Nat.le_of_ble_eq_true rfl, Nat.le_of_ble_eq_true rfl⟩ rfl
    · rw [List.concat_eq_append] at *
      have hl1 : (S1 ++ [x]).length = S1.length + 1 := by simp
      rw [hl1] at hN hus
      obtain ⟨hst1, hx1⟩ := stk_pop hst
      have hux : U x := hSU x (List.mem_append_right _ (List.mem_singleton.mpr rfl))
      have hS1 : ∀ y ∈ S1, y ∈ S1 ++ [x] := fun y hy => List.mem_append_left _ hy
      have hpx : Rch T p x := hSp x (List.mem_append_right _ (List.mem_singleton.mpr rfl))
      cases ht : T x with
      | inl l =>
        obtain ⟨hp7, hi, h5, hc, -⟩ := hR.leaf hux ht
        obtain ⟨met', rst', hM', e1⟩ := ih S1 rst met M u (by omega) hst1 hM hcu (by omega) (fun y hy => hSU y (hS1 y hy)) (fun q hq => (hcl q hq).elim (fun h => (List.mem_append.mp h).elim Or.inl (fun h => Or.inr (fun c hc => by rw [List.mem_singleton.mp h, ht] at hc; exact absurd hc List.not_mem_nil))) Or.inr) hsub (fun y hy => hSp y (hS1 y hy)) h0M hMp
        refine ⟨met', rst', hM', fun v3 v4 v5 => ?_⟩
        rw [hl1]
        refine ev_iload_n (pc := 29) dX4_meets_29 rfl rfl ?_
        refine ev_if_le (pc := 30) (tgt := 117) dX4_meets_30 (by decide) (fun c_30 => absurd c_30 (by exact nI_nle (show 0 < S1.length + 1 by omega) (by omega))) (fun _ => ?_)
        refine ev_iinc (pc := 33) dX4_meets_33 rfl rfl rfl ?_
        rw [nI_im (show 0 < S1.length + 1 by omega), Nat.add_sub_cancel]
        refine ev_aload_n (pc := 36) dX4_meets_36 rfl rfl ?_
        refine ev_get (pc := 37) dX4_meets_37 fd_X4_29 rfl rfl ?_
        refine ev_iload_n (pc := 40) dX4_meets_40 rfl rfl ?_
        refine ev_ialdN (pc := 41) dX4_meets_41 rfl ⟨rfl, by omega, by decide⟩ hx1 ?_
        refine ev_istore_n (pc := 42) dX4_meets_42 rfl rfl rfl ?_
        refine ev_iconst (pc := 43) (v := 0) dX4_meets_43 (by decide) ?_
        refine ev_istore (pc := 44) dX4_meets_44 rfl rfl ?_
        refine ev_iload (pc := 46) dX4_meets_46 rfl ?_
        refine ev_aload_n (pc := 48) dX4_meets_48 rfl rfl ?_
        refine ev_get (pc := 49) dX4_meets_49 fd_X4_7 rfl rfl ?_
        refine ev_iload_n (pc := 52) dX4_meets_52 rfl rfl ?_
        refine ev_ialdN (pc := 53) dX4_meets_53 rfl ⟨rfl, hp7, by decide⟩ hc ?_
        refine ev_ic_ge (pc := 54) (tgt := 114) dX4_meets_54 (by decide) (fun c_54 => ?_) (fun c_54 => ?_)
        · refine ev_goto (pc := 114) (tgt := 29) dX4_meets_114 (by decide) ?_
          exact e1 _ _ _
        · refine ev_aload_n (pc := 57) dX4_meets_57 rfl rfl ?_
          refine ev_get (pc := 58) dX4_meets_58 fd_X4_13 rfl rfl ?_
          refine ev_iload_n (pc := 61) dX4_meets_61 rfl rfl ?_
          refine ev_zaldN (pc := 62) dX4_meets_62 rfl ⟨rfl, hp7, by decide⟩ hi ?_
          refine ev_if_eq (pc := 63) (tgt := 114) dX4_meets_63 (by decide) (fun _ => ?_) (fun c_63 => absurd rfl c_63)
          refine ev_goto (pc := 114) (tgt := 29) dX4_meets_114 (by decide) ?_
          exact e1 _ _ _
      | inr l =>
        obtain ⟨hp7, hi, h5, hc, hrow, hk7⟩ := hR.inner hux ht
        have hkl : kids (T x) = l := by rw [ht]; rfl
        obtain ⟨S', rst1, met1, M', u', a1, a2, a3, a4, a5, a6, a7, a8, a9, a10, a11, e⟩ := l_meetsK (cc := cc) (ep := ep) (ro := ro) (bb := bb) (sl := sl) (th := th) (dp := dp) (many := many) (inn := inn) (item := item) (val := val) (wr := wr) (met := met) (rst := rst) (wds := wds) (opd := opd) (ope := ope) (way := way) (tk := tk) (tl := tl) hR hux ht a l [] S1 rst met M u rfl hst1 hM hcu (by omega)
        have hclos : ∀ q, M' q → q ∈ S' ∨ ∀ c ∈ kids (T q), M' c := fun q hq => by
          rcases a10 q hq with h | h
          · rcases hcl q h with h | h
            · rcases List.mem_append.mp h with h | h
              · exact Or.inl (a9 q h)
              · rw [List.mem_singleton.mp h, hkl]
                exact Or.inr a8
            · exact Or.inr (fun c hc => a6 c (h c hc))
          · exact Or.inl h
        obtain ⟨met', rst', hM', e1⟩ := ih S' rst1 met1 M' u' (by omega) a1 a2 a3 a4 (fun y hy => (a11 y hy).elim (fun h => hSU y (hS1 y h)) (fun h => hU x hux y (hkl ▸ h.1))) hclos (fun q hq => (a7 q hq).elim (hsub q) (fun h => Or.inr (Rch_trans hpx (Rch_step.mpr (Or.inr ⟨q, hkl ▸ h, Rch_self⟩))))) (fun y hy => (a11 y hy).elim (fun h => hSp y (hS1 y h)) (fun h => Rch_trans hpx (Rch_step.mpr (Or.inr ⟨y, hkl ▸ h.1, Rch_self⟩)))) (fun q hq => a6 q (h0M q hq)) (a6 p hMp)
        refine ⟨met', rst', hM', fun v3 v4 v5 => ?_⟩
        rw [hl1]
        refine ev_iload_n (pc := 29) dX4_meets_29 rfl rfl ?_
        refine ev_if_le (pc := 30) (tgt := 117) dX4_meets_30 (by decide) (fun c_30 => absurd c_30 (by exact nI_nle (show 0 < S1.length + 1 by omega) (by omega))) (fun _ => ?_)
        refine ev_iinc (pc := 33) dX4_meets_33 rfl rfl rfl ?_
        rw [nI_im (show 0 < S1.length + 1 by omega), Nat.add_sub_cancel]
        refine ev_aload_n (pc := 36) dX4_meets_36 rfl rfl ?_
        refine ev_get (pc := 37) dX4_meets_37 fd_X4_29 rfl rfl ?_
        refine ev_iload_n (pc := 40) dX4_meets_40 rfl rfl ?_
        refine ev_ialdN (pc := 41) dX4_meets_41 rfl ⟨rfl, by omega, by decide⟩ hx1 ?_
        refine ev_istore_n (pc := 42) dX4_meets_42 rfl rfl rfl ?_
        refine ev_iconst (pc := 43) (v := 0) dX4_meets_43 (by decide) ?_
        refine ev_istore (pc := 44) dX4_meets_44 rfl rfl ?_
        exact e _ _ (fun v4 v5 => e1 _ _ _)
theorem s_meets {cc : C21} {ep ro bb sl th dp : Int32} {many inn item val wr met rst : Nat → Int32} {wds : Nat → Int64} {opd ope way tk : Nat → Int32} {tl : List mC} (hR : Rm many inn item val T U) (hU : ∀ q, U q → ∀ c ∈ kids (T q), U c) {M0 : Nat → Prop} {p : Nat} (h0 : ∀ q, M0 q → ∀ c ∈ kids (T q), M0 c) (hM : MS met M0) (hp : U p) : ∃ met' rst', MS met' (fun q => M0 q ∨ Rch T p q) ∧ EvS m_X4_meets [.ref 21, .int (nI p)] (dW cc ep ro bb sl th dp many inn item val wr met rst wds opd ope way tk tl) (.inl none) (dW cc ep ro bb sl th dp many inn item val wr met' rst' wds opd ope way tk tl) := by
  have hp7 : p < 720 := (hR p hp).1
  obtain ⟨u, hu⟩ := cntR_ex (fun q => ¬ M0 q) 720
  by_cases hMp : M0 p
  · have h1 : ¬ met p = 0 := (hM p hp7).mpr hMp
    have hA : ∀ q, addS M0 p q ↔ M0 q := fun q => ⟨fun h => h.elim (fun h => h ▸ hMp) id, Or.inr⟩
    obtain ⟨met', rst', hM', e1⟩ := l_meets (cc := cc) (ep := ep) (ro := ro) (bb := bb) (sl := sl) (th := th) (dp := dp) (many := many) (inn := inn) (item := item) (val := val) (wr := wr) (met := met) (rst := rst) (wds := wds) (opd := opd) (ope := ope) (way := way) (tk := tk) (tl := tl) hR hU (M0 := M0) (p := p) h0 (nI p) (2 * u) [] (upd rst 0 (nI p)) (upd met p (1 &&& 1)) (addS M0 p) u (by simp) (fun j x hj => by simp at hj) (MS_add hM) (cntR_cg (fun q _ => by rw [hA q]) hu) (by have := cntR_le hu; simpa using this) (fun x hx => absurd hx List.not_mem_nil) (fun q hq => Or.inr (fun c hc => Or.inr (h0 q ((hA q).mp hq) c hc))) (fun q hq => Or.inl ((hA q).mp hq)) (fun x hx => absurd hx List.not_mem_nil) (fun q hq => Or.inr hq) (Or.inl rfl)
    refine ⟨met', rst', hM', ?_⟩
    refine evs_of (by decide +kernel) (Nat.le_of_ble_eq_true rfl) (by decide) rfl rfl ?_
    refine ev_aload_n (pc := 0) dX4_meets_0 rfl rfl ?_
    refine ev_get (pc := 1) dX4_meets_1 fd_X4_26 rfl rfl ?_
    refine ev_iload_n (pc := 4) dX4_meets_4 rfl rfl ?_
    refine ev_zaldN (pc := 5) dX4_meets_5 rfl ⟨rfl, hp7, by decide⟩ rfl ?_
    refine ev_if_eq (pc := 6) (tgt := 13) dX4_meets_6 (by decide) (fun c_6 => absurd c_6 h1) (fun _ => ?_)
    refine ev_iconst (pc := 9) (v := 0) dX4_meets_9 (by decide) ?_
    refine ev_goto (pc := 10) (tgt := 14) dX4_meets_10 (by decide) ?_
    refine ev_istore_n (pc := 14) dX4_meets_14 rfl rfl rfl ?_
    refine ev_aload_n (pc := 15) dX4_meets_15 rfl rfl ?_
    refine ev_get (pc := 16) dX4_meets_16 fd_X4_29 rfl rfl ?_
    refine ev_iconst (pc := 19) (v := 0) dX4_meets_19 (by decide) ?_
    refine ev_iload_n (pc := 20) dX4_meets_20 rfl rfl ?_
    refine ev_iastN (pc := 21) dX4_meets_21 rfl ⟨rfl, by decide, by decide⟩ rfl rfl ?_
    refine ev_aload_n (pc := 22) dX4_meets_22 rfl rfl ?_
    refine ev_get (pc := 23) dX4_meets_23 fd_X4_26 rfl rfl ?_
    refine ev_iload_n (pc := 26) dX4_meets_26 rfl rfl ?_
    refine ev_iconst (pc := 27) (v := 1) dX4_meets_27 (by decide) ?_
    refine ev_zastN (pc := 28) dX4_meets_28 rfl ⟨rfl, hp7, by decide⟩ rfl rfl ?_
    exact e1 _ _ _
  · have h1 : met p = 0 := MS_0 hM hp7 hMp
    obtain ⟨u', rfl, hu'⟩ := cntR_add hu hp7 hMp
    have hle := cntR_le hu
    obtain ⟨met', rst', hM', e1⟩ := l_meets (cc := cc) (ep := ep) (ro := ro) (bb := bb) (sl := sl) (th := th) (dp := dp) (many := many) (inn := inn) (item := item) (val := val) (wr := wr) (met := met) (rst := rst) (wds := wds) (opd := opd) (ope := ope) (way := way) (tk := tk) (tl := tl) hR hU (M0 := M0) (p := p) h0 (nI p) (2 * u' + 1) [p] (upd rst 0 (nI p)) (upd met p (1 &&& 1)) (addS M0 p) u' (by simp) (fun j x hj => by cases j with
      | zero => simp at hj; rw [hj]; exact pk_us
      | succ j => simp at hj) (MS_add hM) hu' (by simp; omega) (fun x hx => by rw [List.mem_singleton.mp hx]; exact hp) (fun q hq => hq.elim (fun h => Or.inl (by rw [h]; exact List.mem_singleton.mpr rfl)) (fun h => Or.inr (fun c hc => Or.inr (h0 q h c hc)))) (fun q hq => hq.elim (fun h => Or.inr (h ▸ Rch_self)) Or.inl) (fun x hx => by rw [List.mem_singleton.mp hx]; exact Rch_self) (fun q hq => Or.inr hq) (Or.inl rfl)
    refine ⟨met', rst', hM', ?_⟩
    refine evs_of (by decide +kernel) (Nat.le_of_ble_eq_true rfl) (by decide) rfl rfl ?_
    refine ev_aload_n (pc := 0) dX4_meets_0 rfl rfl ?_
    refine ev_get (pc := 1) dX4_meets_1 fd_X4_26 rfl rfl ?_
    refine ev_iload_n (pc := 4) dX4_meets_4 rfl rfl ?_
    refine ev_zaldN (pc := 5) dX4_meets_5 rfl ⟨rfl, hp7, by decide⟩ rfl ?_
    refine ev_if_eq (pc := 6) (tgt := 13) dX4_meets_6 (by decide) (fun _ => ?_) (fun c_6 => absurd h1 c_6)
    refine ev_iconst (pc := 13) (v := 1) dX4_meets_13 (by decide) ?_
    refine ev_istore_n (pc := 14) dX4_meets_14 rfl rfl rfl ?_
    refine ev_aload_n (pc := 15) dX4_meets_15 rfl rfl ?_
    refine ev_get (pc := 16) dX4_meets_16 fd_X4_29 rfl rfl ?_
    refine ev_iconst (pc := 19) (v := 0) dX4_meets_19 (by decide) ?_
    refine ev_iload_n (pc := 20) dX4_meets_20 rfl rfl ?_
    refine ev_iastN (pc := 21) dX4_meets_21 rfl ⟨rfl, by decide, by decide⟩ rfl rfl ?_
    refine ev_aload_n (pc := 22) dX4_meets_22 rfl rfl ?_
    refine ev_get (pc := 23) dX4_meets_23 fd_X4_26 rfl rfl ?_
    refine ev_iload_n (pc := 26) dX4_meets_26 rfl rfl ?_
    refine ev_iconst (pc := 27) (v := 1) dX4_meets_27 (by decide) ?_
    refine ev_zastN (pc := 28) dX4_meets_28 rfl ⟨rfl, hp7, by decide⟩ rfl rfl ?_
    exact e1 _ _ _
theorem l_forgets {cc : C21} {ep ro bb sl th dp : Int32} {many inn item val wr met rst : Nat → Int32} {wds : Nat → Int64} {opd ope way tk : Nat → Int32} {tl : List mC} : ∀ (m i : Nat), 720 = i + m → EvF m_X4_forgets (mQm m_X4_forgets (.inl none) (dW cc ep ro bb sl th dp many inn item val wr (zr met 720) rst wds opd ope way tk tl)) 2 [.ref 21, .int (nI i)] [] 0 0 (dW cc ep ro bb sl th dp many inn item val wr (zr met i) rst wds opd ope way tk tl) := by
  intro m
  induction m with
  | zero =>
    intro i hi
    have : i = 720 := by omega
    subst this
    refine ev_iload_n (pc := 2) dX4_forgets_2 rfl rfl ?_
    refine ev_sipush (pc := 3) (v := 720) dX4_forgets_3 (by decide) ?_
    refine ev_ic_ge (pc := 6) (tgt := 22) dX4_forgets_6 (by decide) (fun _ => ?_) (fun c_6 => absurd (by decide) c_6)
    exact ev_vretE (pc := 22) dX4_forgets_22 rfl ⟨Nat.le_of_ble_eq_true rfl, Nat.le_of_ble_eq_true rfl⟩ rfl
  | succ m ih =>
    intro i hi
    have hi7 : i < 720 := by omega
    refine ev_iload_n (pc := 2) dX4_forgets_2 rfl rfl ?_
    refine ev_sipush (pc := 3) (v := 720) dX4_forgets_3 (by decide) ?_
    refine ev_ic_ge (pc := 6) (tgt := 22) dX4_forgets_6 (by decide) (fun c_6 => absurd c_6 (nI_ge hi7 (by decide))) (fun _ => ?_)
    refine ev_aload_n (pc := 9) dX4_forgets_9 rfl rfl ?_
    refine ev_get (pc := 10) dX4_forgets_10 fd_X4_26 rfl rfl ?_
    refine ev_iload_n (pc := 13) dX4_forgets_13 rfl rfl ?_
    refine ev_iconst (pc := 14) (v := 0) dX4_forgets_14 (by decide) ?_
    refine ev_zastN (pc := 15) dX4_forgets_15 rfl ⟨rfl, hi7, by decide⟩ (zr_up met i) rfl ?_
    refine ev_iinc (pc := 16) dX4_forgets_16 rfl rfl rfl ?_
    refine ev_goto (pc := 19) (tgt := 2) dX4_forgets_19 (by decide) ?_
    rw [nI_i1]
    exact ih (i + 1) (by omega)
theorem s_forgets {cc : C21} {ep ro bb sl th dp : Int32} {many inn item val wr met rst : Nat → Int32} {wds : Nat → Int64} {opd ope way tk : Nat → Int32} {tl : List mC} : EvS m_X4_forgets [.ref 21] (dW cc ep ro bb sl th dp many inn item val wr met rst wds opd ope way tk tl) (.inl none) (dW cc ep ro bb sl th dp many inn item val wr (zr met 720) rst wds opd ope way tk tl) := by
  have e1 := l_forgets (cc := cc) (ep := ep) (ro := ro) (bb := bb) (sl := sl) (th := th) (dp := dp) (many := many) (inn := inn) (item := item) (val := val) (wr := wr) (met := met) (rst := rst) (wds := wds) (opd := opd) (ope := ope) (way := way) (tk := tk) (tl := tl) 720 0 rfl
  rw [zr_0] at e1
  refine evs_of (by decide +kernel) (Nat.le_of_ble_eq_true rfl) (by decide) rfl rfl ?_
  refine ev_iconst (pc := 0) (v := 0) dX4_forgets_0 (by decide) ?_
  refine ev_istore_n (pc := 1) dX4_forgets_1 rfl rfl rfl ?_
  exact e1
end M1
