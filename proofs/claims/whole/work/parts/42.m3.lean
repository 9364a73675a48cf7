/-! the model: rows changed -/
theorem rpM_kept {many inn item val many' inn' item' val' : Nat → Int32} {q : Nat} {n : Nd} (h : rpM many inn item val q n) (h1 : many' q = many q) (h2 : inn' q = inn q) (h3 : ∀ e, e < 5 → item' (5 * q + e) = item (5 * q + e)) (h4 : ∀ e, e < 5 → val' (5 * q + e) = val (5 * q + e)) : rpM many' inn' item' val' q n := by
  cases n with
  | inl l =>
    obtain ⟨a1, a2, a3, a4, a5, a6⟩ := h
    exact ⟨h2.trans a1, a2, h1.trans a3, row_kept a4 (by simp [kyL]; exact a2) h3, row_kept a5 (by simp [vaL]; exact a2) h4, a6⟩
  | inr l =>
    obtain ⟨a1, a2, a3, a5, a6⟩ := h
    exact ⟨h2.trans a1, a2, h1.trans a3, row_kept a5 (by simp [chL]; exact a2) h3, a6⟩
theorem Rm_up {many inn item val many' inn' item' val' : Nat → Int32} {T : Nat → Nd} {U U' : Nat → Prop} (h : Rm many inn item val T U) {p : Nat} {n : Nd} (hp : p < 720) (hn : rpM many' inn' item' val' p n) (hU : ∀ q, U' q → q = p ∨ U q) (h1 : ∀ q, q ≠ p → many' q = many q ∧ inn' q = inn q) (h3 : ∀ q e, q ≠ p → e < 5 → item' (5 * q + e) = item (5 * q + e) ∧ val' (5 * q + e) = val (5 * q + e)) : Rm many' inn' item' val' (upT T p n) U' := by
  intro q hq
  by_cases hqp : q = p
  · subst hqp
    rw [upT_s]
    exact ⟨hp, hn⟩
  · rw [upT_n hqp]
    have hq2 := (hU q hq).resolve_left hqp
    exact ⟨(h q hq2).1, rpM_kept (h q hq2).2 (h1 q hqp).1 (h1 q hqp).2 (fun e he => (h3 q e hqp he).1) (fun e he => (h3 q e hqp he).2)⟩
theorem Rm_mono {many inn item val : Nat → Int32} {T : Nat → Nd} {U U' : Nat → Prop} (h : Rm many inn item val T U) (hU : ∀ q, U' q → U q) : Rm many inn item val T U' := fun q hq => h q (hU q hq)
theorem Rm_insL {many inn item val : Nat → Int32} {T : Nat → Nd} {U : Nat → Prop} (h : Rm many inn item val T U) {p e : Nat} {l : List (Nat × Int32)} (hu : U p) (ht : T p = .inl l) (he : e ≤ l.length) (h4 : l.length ≤ 4) {x : Nat × Int32} (hx : x.1 < 100) : Rm (upd many p (nI (l.length + 1))) inn (insF item (5 * p) e l.length (nI x.1)) (insF val (5 * p) e l.length x.2) (upT T p (.inl (l.take e ++ x :: l.drop e))) U := by
  obtain ⟨hp, a1, a2, a3, a4, a5, a6⟩ := h.leaf hu ht
  refine Rm_up h hp ⟨a1, ?_, ?_, ?_, ?_, ?_⟩ (fun q hq => Or.inr hq) (fun q hq => ⟨upd_o hq, rfl⟩) (fun q j hq hj => ⟨insF_o _ _ hq he h4 hj, insF_o _ _ hq he h4 hj⟩)
  · simp; omega
  · rw [show upd many p (nI (l.length + 1)) p = nI (l.length + 1) from pk_us]
    congr 1
    simp; omega
  · have h9 := row_ins (e := e) (x := nI x.1) a4 (by rw [kyL_len]; exact he)
    rw [kyL_len] at h9
    simpa [kyL, List.map_take, List.map_drop] using h9
  · have h9 := row_ins (e := e) (x := x.2) a5 (by rw [vaL_len]; exact he)
    rw [vaL_len] at h9
    simpa [vaL, List.map_take, List.map_drop] using h9
  · intro y hy
    rcases List.mem_append.mp hy with hy | hy
    · exact a6 y (List.mem_of_mem_take hy)
    · rcases List.mem_cons.mp hy with hy | hy
      · rw [hy]; exact hx
      · exact a6 y (List.mem_of_mem_drop hy)
theorem Rm_insI {many inn item val : Nat → Int32} {T : Nat → Nd} {U : Nat → Prop} (h : Rm many inn item val T U) {p e c : Nat} {l : List Nat} {v : Int32} (hu : U p) (ht : T p = .inr l) (he : e ≤ l.length) (h4 : l.length ≤ 4) (hc : c < 720) : Rm (upd many p (nI (l.length + 1))) inn (insF item (5 * p) e l.length (nI c)) (insF val (5 * p) e l.length v) (upT T p (.inr (l.take e ++ c :: l.drop e))) U := by
  obtain ⟨hp, a1, a2, a3, a5, a6⟩ := h.inner hu ht
  refine Rm_up h hp ⟨a1, ?_, ?_, ?_, ?_⟩ (fun q hq => Or.inr hq) (fun q hq => ⟨upd_o hq, rfl⟩) (fun q j hq hj => ⟨insF_o _ _ hq he h4 hj, insF_o _ _ hq he h4 hj⟩)
  · simp; omega
  · rw [show upd many p (nI (l.length + 1)) p = nI (l.length + 1) from pk_us]
    congr 1
    simp; omega
  · have h9 := row_ins (e := e) (x := nI c) a5 (by rw [chL_len]; exact he)
    rw [chL_len] at h9
    simpa [chL, List.map_take, List.map_drop] using h9
  · intro y hy
    rcases List.mem_append.mp hy with hy | hy
    · exact a6 y (List.mem_of_mem_take hy)
    · rcases List.mem_cons.mp hy with hy | hy
      · rw [hy]; exact hc
      · exact a6 y (List.mem_of_mem_drop hy)
theorem Rm_rm {many inn item val : Nat → Int32} {T : Nat → Nd} {U : Nat → Prop} (h : Rm many inn item val T U) {p e : Nat} (hu : U p) (he : e < nlen (T p)) : Rm (upd many p (nI (nlen (T p) - 1))) inn (shD item (5 * p) e (nlen (T p) - 1)) (shD val (5 * p) e (nlen (T p) - 1)) (upT T p (nRem (T p) e)) U := by
  cases ht : T p with
  | inl l =>
    obtain ⟨hp, a1, a2, a3, a4, a5, a6⟩ := h.leaf hu ht
    rw [ht] at he
    simp only [nlen] at he ⊢
    have hN : nRem (.inl l) e = .inl (l.take e ++ l.drop (e + 1)) := rfl
    rw [hN]
    refine Rm_up h hp ⟨a1, ?_, ?_, ?_, ?_, ?_⟩ (fun q hq => Or.inr hq) (fun q hq => ⟨upd_o hq, rfl⟩) (fun q j hq hj => ⟨shD_o _ hq a2 hj, shD_o _ hq a2 hj⟩)
    · simp; omega
    · rw [show upd many p (nI (l.length - 1)) p = nI (l.length - 1) from pk_us]
      congr 1
      simp; omega
    · have h9 := row_rm (e := e) a4 (by rw [kyL_len]; exact he)
      rw [kyL_len] at h9
      simpa [kyL, List.map_take, List.map_drop] using h9
    · have h9 := row_rm (e := e) a5 (by rw [vaL_len]; exact he)
      rw [vaL_len] at h9
      simpa [vaL, List.map_take, List.map_drop] using h9
    · intro y hy
      rcases List.mem_append.mp hy with hy | hy
      · exact a6 y (List.mem_of_mem_take hy)
      · exact a6 y (List.mem_of_mem_drop hy)
  | inr l =>
    obtain ⟨hp, a1, a2, a3, a5, a6⟩ := h.inner hu ht
    rw [ht] at he
    simp only [nlen] at he ⊢
    have hN : nRem (.inr l) e = .inr (l.take e ++ l.drop (e + 1)) := rfl
    rw [hN]
    refine Rm_up h hp ⟨a1, ?_, ?_, ?_, ?_⟩ (fun q hq => Or.inr hq) (fun q hq => ⟨upd_o hq, rfl⟩) (fun q j hq hj => ⟨shD_o _ hq a2 hj, shD_o _ hq a2 hj⟩)
    · simp; omega
    · rw [show upd many p (nI (l.length - 1)) p = nI (l.length - 1) from pk_us]
      congr 1
      simp; omega
    · have h9 := row_rm (e := e) a5 (by rw [chL_len]; exact he)
      rw [chL_len] at h9
      simpa [chL, List.map_take, List.map_drop] using h9
    · intro y hy
      rcases List.mem_append.mp hy with hy | hy
      · exact a6 y (List.mem_of_mem_take hy)
      · exact a6 y (List.mem_of_mem_drop hy)
theorem Rm_setI {many inn item val : Nat → Int32} {T : Nat → Nd} {U : Nat → Prop} (h : Rm many inn item val T U) {p e c : Nat} {l : List Nat} (hu : U p) (ht : T p = .inr l) (he : e < 5) (hc : c < 720) : Rm many inn (upd item (5 * p + e) (nI c)) val (upT T p (.inr (l.set e c))) U := by
  obtain ⟨hp, a1, a2, a3, a5, a6⟩ := h.inner hu ht
  refine Rm_up h hp ⟨a1, by simpa using a2, by simpa using a3, ?_, ?_⟩ (fun q hq => Or.inr hq) (fun q hq => ⟨rfl, rfl⟩) (fun q j hq hj => ⟨upd_o (by omega), rfl⟩)
  · have h9 := row_set (e := e) (x := nI c) a5
    simpa [chL, List.map_set] using h9
  · intro y hy
    rcases List.mem_or_eq_of_mem_set hy with hy | hy
    · exact a6 y hy
    · rw [hy]; exact hc
theorem Rm_setL {many inn item val : Nat → Int32} {T : Nat → Nd} {U : Nat → Prop} (h : Rm many inn item val T U) {p e : Nat} {v : Int32} {x : Nat × Int32} {l : List (Nat × Int32)} (hu : U p) (ht : T p = .inl l) (hx : l[e]? = some x) : Rm many inn item (upd val (5 * p + e) v) (upT T p (.inl (l.set e (x.1, v)))) U := by
  obtain ⟨hp, a1, a2, a3, a4, a5, a6⟩ := h.leaf hu ht
  have he : e < l.length := (List.getElem?_eq_some_iff.mp hx).1
  refine Rm_up h hp ⟨a1, by simpa using a2, by simpa using a3, ?_, ?_, ?_⟩ (fun q hq => Or.inr hq) (fun q hq => ⟨rfl, rfl⟩) (fun q j hq hj => ⟨rfl, upd_o (by omega)⟩)
  · have h9 : kyL (l.set e (x.1, v)) = kyL l := by
      unfold kyL
      rw [List.map_set]
      apply List.ext_getElem?
      intro j
      by_cases hj : e = j
      · subst hj
        rw [List.getElem?_set_self (by simpa using he), List.getElem?_map, hx]
        rfl
      · rw [List.getElem?_set_ne hj]
    rw [h9]
    exact a4
  · have h9 := row_set (e := e) (x := v) a5
    simpa [vaL, List.map_set] using h9
  · intro y hy
    rcases List.mem_or_eq_of_mem_set hy with hy | hy
    · exact a6 y hy
    · rw [hy]; exact a6 x (List.mem_of_getElem? hx)
/-- only the first k stay -/
theorem Rm_cut {many inn item val : Nat → Int32} {T : Nat → Nd} {U : Nat → Prop} (h : Rm many inn item val T U) {p k : Nat} (hu : U p) (hk : k ≤ nlen (T p)) : Rm (upd many p (nI k)) inn item val (upT T p (nTake (T p) k)) U := by
  cases ht : T p with
  | inl l =>
    obtain ⟨hp, a1, a2, a3, a4, a5, a6⟩ := h.leaf hu ht
    rw [ht] at hk
    have hk2 : k ≤ l.length := hk
    refine Rm_up h hp ⟨a1, ?_, ?_, ?_, ?_, ?_⟩ (fun q hq => Or.inr hq) (fun q hq => ⟨upd_o hq, rfl⟩) (fun q j hq hj => ⟨rfl, rfl⟩)
    · simp; omega
    · rw [show upd many p (nI k) p = nI k from pk_us]
      congr 1
      simp; omega
    · intro j v hj
      refine a4 j v ?_
      simp only [kyL, List.map_take] at hj ⊢
      rw [List.getElem?_take] at hj
      split at hj
      · exact hj
      · cases hj
    · intro j v hj
      refine a5 j v ?_
      simp only [vaL, List.map_take] at hj ⊢
      rw [List.getElem?_take] at hj
      split at hj
      · exact hj
      · cases hj
    · intro y hy
      exact a6 y (List.mem_of_mem_take hy)
  | inr l =>
    obtain ⟨hp, a1, a2, a3, a5, a6⟩ := h.inner hu ht
    rw [ht] at hk
    have hk2 : k ≤ l.length := hk
    refine Rm_up h hp ⟨a1, ?_, ?_, ?_, ?_⟩ (fun q hq => Or.inr hq) (fun q hq => ⟨upd_o hq, rfl⟩) (fun q j hq hj => ⟨rfl, rfl⟩)
    · simp; omega
    · rw [show upd many p (nI k) p = nI k from pk_us]
      congr 1
      simp; omega
    · intro j v hj
      refine a5 j v ?_
      simp only [chL, List.map_take] at hj ⊢
      rw [List.getElem?_take] at hj
      split at hj
      · exact hj
      · cases hj
    · intro y hy
      exact a6 y (List.mem_of_mem_take hy)
/-- a page made anew, empty -/
theorem Rm_new {many inn item val : Nat → Int32} {T : Nat → Nd} {U : Nat → Prop} (h : Rm many inn item val T U) {n : Nat} {v : Int32} (hn : n < 720) {nd : Nd} (hv : (v = 0 ∧ nd = .inl []) ∨ (v = 1 ∧ nd = .inr [])) (hm : many n = 0) : Rm many (upd inn n v) item val (upT T n nd) (fun q => q = n ∨ U q) := by
  refine Rm_up h hn ?_ (fun q hq => hq) (fun q hq => ⟨rfl, upd_o hq⟩) (fun q j hq hj => ⟨rfl, rfl⟩)
  rcases hv with ⟨rfl, rfl⟩ | ⟨rfl, rfl⟩
  · exact ⟨pk_us, by simp, hm, row_nil, row_nil, fun x hx => by simp at hx⟩
  · exact ⟨pk_us, by simp, hm, row_nil, fun x hx => by simp at hx⟩
/-- a page copied to another -/
theorem Rm_copy {many inn item val : Nat → Int32} {T : Nat → Nd} {U : Nat → Prop} (h : Rm many inn item val T U) {p n : Nat} (hu : U p) (hn : n < 720) : Rm (upd many n (many p)) (upd inn n (inn p &&& 1)) (apF item (5 * n) (5 * p) 5) (apF val (5 * n) (5 * p) 5) (upT T n (T p)) (fun q => q = n ∨ U q) := by
  have hr : ∀ (f : Nat → Int32) (L : List Int32), L.length ≤ 5 → row f (5 * p) L → row (apF f (5 * n) (5 * p) 5) (5 * n) L := fun f L hL hf j v hj => by
    have hl := (List.getElem?_eq_some_iff.mp hj).1
    unfold apF
    rw [if_pos (by omega), Nat.add_sub_cancel_left]
    exact hf j v hj
  refine Rm_up h hn ?_ (fun q hq => hq) (fun q hq => ⟨upd_o hq, upd_o hq⟩) (fun q j hq hj => ⟨by unfold apF; rw [if_neg (by omega)], by unfold apF; rw [if_neg (by omega)]⟩)
  cases ht : T p with
  | inl l =>
    obtain ⟨hp, a1, a2, a3, a4, a5, a6⟩ := h.leaf hu ht
    exact ⟨by rw [show upd inn n (inn p &&& 1) n = inn p &&& 1 from pk_us, a1]; decide, a2, by rw [show upd many n (many p) n = many p from pk_us]; exact a3, hr _ _ (by rw [kyL_len]; exact a2) a4, hr _ _ (by rw [vaL_len]; exact a2) a5, a6⟩
  | inr l =>
    obtain ⟨hp, a1, a2, a3, a5, a6⟩ := h.inner hu ht
    exact ⟨by rw [show upd inn n (inn p &&& 1) n = inn p &&& 1 from pk_us, a1]; decide, a2, by rw [show upd many n (many p) n = many p from pk_us]; exact a3, hr _ _ (by rw [chL_len]; exact a2) a5, a6⟩
theorem ix5s (p e : Nat) (h : 0 < e) : 5 * nI p + nI e - 1 = nI (5 * p + e - 1) := by
  rw [ix5m, nI_s1 (by omega)]
theorem ix5p (p e : Nat) : 5 * nI p + nI e + 1 = nI (5 * p + e + 1) := by
  rw [ix5m, nI_a1]
section M3
theorem l_lays {cc : C21} {ep ro bb sl th dp : Int32} {many inn item val wr met rst : Nat → Int32} {wds : Nat → Int64} {opd ope way tk : Nat → Int32} {tl : List mC} {p e c : Nat} {key v : Int32} (hp : p < 720) (hm : many p = nI c) (he : e ≤ c) (hc : c ≤ 4) : ∀ (m i : Nat), i = e + m → i ≤ c → EvF m_X4_lays (mQm m_X4_lays (.inl none) (dW cc ep ro bb sl th dp (upd many p (nI (c + 1))) inn (insF item (5 * p) e c key) (insF val (5 * p) e c v) wr met rst wds opd ope way tk tl)) 8 [.ref 21, .int (nI p), .int (nI e), .int key, .int v, .int (nI i)] [] 0 0 (dW cc ep ro bb sl th dp many inn (shU item (5 * p) i c) (shU val (5 * p) i c) wr met rst wds opd ope way tk tl) := by
  intro m
  induction m with
  | zero =>
    intro i hi hic
    rw [Nat.add_zero] at hi
    subst hi
    refine ev_iload (pc := 8) dX4_lays_8 rfl ?_
    refine ev_iload_n (pc := 10) dX4_lays_10 rfl rfl ?_
    refine ev_ic_le (pc := 11) (tgt := 68) dX4_lays_11 (by decide) (fun _ => ?_) (fun c_11 => absurd (by exact nI_le (Nat.le_refl _) (by omega)) c_11)
    refine ev_aload_n (pc := 68) dX4_lays_68 rfl rfl ?_
    refine ev_get (pc := 69) dX4_lays_69 fd_X4_17 rfl rfl ?_
    refine ev_iconst (pc := 72) (v := 5) dX4_lays_72 (by decide) ?_
    refine ev_iload_n (pc := 73) dX4_lays_73 rfl rfl ?_
    refine ev_imul (pc := 74) dX4_lays_74 ?_
    refine ev_iload_n (pc := 75) dX4_lays_75 rfl rfl ?_
    refine ev_iadd (pc := 76) dX4_lays_76 ?_
    refine ev_iload_n (pc := 77) dX4_lays_77 rfl rfl ?_
    refine ev_iastN (pc := 78) dX4_lays_78 rfl ⟨(ix5m p i), by omega, by decide⟩ rfl rfl ?_
    refine ev_aload_n (pc := 79) dX4_lays_79 rfl rfl ?_
    refine ev_get (pc := 80) dX4_lays_80 fd_X4_20 rfl rfl ?_
    refine ev_iconst (pc := 83) (v := 5) dX4_lays_83 (by decide) ?_
    refine ev_iload_n (pc := 84) dX4_lays_84 rfl rfl ?_
    refine ev_imul (pc := 85) dX4_lays_85 ?_
    refine ev_iload_n (pc := 86) dX4_lays_86 rfl rfl ?_
    refine ev_iadd (pc := 87) dX4_lays_87 ?_
    refine ev_iload (pc := 88) dX4_lays_88 rfl ?_
    refine ev_iastN (pc := 90) dX4_lays_90 rfl ⟨(ix5m p i), by omega, by decide⟩ rfl rfl ?_
    refine ev_aload_n (pc := 91) dX4_lays_91 rfl rfl ?_
    refine ev_get (pc := 92) dX4_lays_92 fd_X4_7 rfl rfl ?_
    refine ev_iload_n (pc := 95) dX4_lays_95 rfl rfl ?_
    refine ev_dup2 (pc := 96) dX4_lays_96 rfl rfl ?_
    refine ev_ialdN (pc := 97) dX4_lays_97 rfl ⟨rfl, hp, by decide⟩ hm ?_
    refine ev_iconst (pc := 98) (v := 1) dX4_lays_98 (by decide) ?_
    refine ev_iadd (pc := 99) dX4_lays_99 ?_
    refine ev_iastN (pc := 100) dX4_lays_100 rfl ⟨rfl, hp, by decide⟩ (by rw [nI_a1]) rfl ?_
    exact ev_vretE (pc := 101) dX4_lays_101 rfl ⟨Nat.le_of_ble_eq_true rfl, Nat.le_of_ble_eq_true rfl⟩ rfl
  | succ m ih =>
    intro i hi hic
    refine ev_iload (pc := 8) dX4_lays_8 rfl ?_
    refine ev_iload_n (pc := 10) dX4_lays_10 rfl rfl ?_
    refine ev_ic_le (pc := 11) (tgt := 68) dX4_lays_11 (by decide) (fun c_11 => absurd c_11 (nI_ge (show e < i by omega) (by omega))) (fun _ => ?_)
    refine ev_aload_n (pc := 14) dX4_lays_14 rfl rfl ?_
    refine ev_get (pc := 15) dX4_lays_15 fd_X4_17 rfl rfl ?_
    refine ev_iconst (pc := 18) (v := 5) dX4_lays_18 (by decide) ?_
    refine ev_iload_n (pc := 19) dX4_lays_19 rfl rfl ?_
    refine ev_imul (pc := 20) dX4_lays_20 ?_
    refine ev_iload (pc := 21) dX4_lays_21 rfl ?_
    refine ev_iadd (pc := 23) dX4_lays_23 ?_
    refine ev_aload_n (pc := 24) dX4_lays_24 rfl rfl ?_
    refine ev_get (pc := 25) dX4_lays_25 fd_X4_17 rfl rfl ?_
    refine ev_iconst (pc := 28) (v := 5) dX4_lays_28 (by decide) ?_
    refine ev_iload_n (pc := 29) dX4_lays_29 rfl rfl ?_
    refine ev_imul (pc := 30) dX4_lays_30 ?_
    refine ev_iload (pc := 31) dX4_lays_31 rfl ?_
    refine ev_iadd (pc := 33) dX4_lays_33 ?_
    refine ev_iconst (pc := 34) (v := 1) dX4_lays_34 (by decide) ?_
    refine ev_isub (pc := 35) dX4_lays_35 ?_
    refine ev_ialdN (pc := 36) dX4_lays_36 rfl ⟨(ix5s p i (by omega)), by omega, by decide⟩ (shU_at item (5 * p) c (by omega)) ?_
    refine ev_iastN (pc := 37) dX4_lays_37 rfl ⟨(ix5m p i), by omega, by decide⟩ (shU_step item (5 * p) c (by omega) hic) rfl ?_
    refine ev_aload_n (pc := 38) dX4_lays_38 rfl rfl ?_
    refine ev_get (pc := 39) dX4_lays_39 fd_X4_20 rfl rfl ?_
    refine ev_iconst (pc := 42) (v := 5) dX4_lays_42 (by decide) ?_
    refine ev_iload_n (pc := 43) dX4_lays_43 rfl rfl ?_
    refine ev_imul (pc := 44) dX4_lays_44 ?_
    refine ev_iload (pc := 45) dX4_lays_45 rfl ?_
    refine ev_iadd (pc := 47) dX4_lays_47 ?_
    refine ev_aload_n (pc := 48) dX4_lays_48 rfl rfl ?_
    refine ev_get (pc := 49) dX4_lays_49 fd_X4_20 rfl rfl ?_
    refine ev_iconst (pc := 52) (v := 5) dX4_lays_52 (by decide) ?_
    refine ev_iload_n (pc := 53) dX4_lays_53 rfl rfl ?_
    refine ev_imul (pc := 54) dX4_lays_54 ?_
    refine ev_iload (pc := 55) dX4_lays_55 rfl ?_
    refine ev_iadd (pc := 57) dX4_lays_57 ?_
    refine ev_iconst (pc := 58) (v := 1) dX4_lays_58 (by decide) ?_
    refine ev_isub (pc := 59) dX4_lays_59 ?_
    refine ev_ialdN (pc := 60) dX4_lays_60 rfl ⟨(ix5s p i (by omega)), by omega, by decide⟩ (shU_at val (5 * p) c (by omega)) ?_
    refine ev_iastN (pc := 61) dX4_lays_61 rfl ⟨(ix5m p i), by omega, by decide⟩ (shU_step val (5 * p) c (by omega) hic) rfl ?_
    refine ev_iinc (pc := 62) dX4_lays_62 rfl rfl rfl ?_
    refine ev_goto (pc := 65) (tgt := 8) dX4_lays_65 (by decide) ?_
    rw [nI_im (by omega)]
    exact ih (i - 1) (by omega) (by omega)
theorem s_lays {cc : C21} {ep ro bb sl th dp : Int32} {many inn item val wr met rst : Nat → Int32} {wds : Nat → Int64} {opd ope way tk : Nat → Int32} {tl : List mC} {p e c : Nat} {key v : Int32} (hp : p < 720) (hm : many p = nI c) (he : e ≤ c) (hc : c ≤ 4) : EvS m_X4_lays [.ref 21, .int (nI p), .int (nI e), .int key, .int v] (dW cc ep ro bb sl th dp many inn item val wr met rst wds opd ope way tk tl) (.inl none) (dW cc ep ro bb sl th dp (upd many p (nI (c + 1))) inn (insF item (5 * p) e c key) (insF val (5 * p) e c v) wr met rst wds opd ope way tk tl) := by
  have h9 := l_lays (cc := cc) (ep := ep) (ro := ro) (bb := bb) (sl := sl) (th := th) (dp := dp) (many := many) (inn := inn) (item := item) (val := val) (wr := wr) (met := met) (rst := rst) (wds := wds) (opd := opd) (ope := ope) (way := way) (tk := tk) (tl := tl) (key := key) (v := v) hp hm he hc (c - e) c (by omega) (Nat.le_refl _)
  rw [shU_c, shU_c] at h9
  refine evs_of (by decide +kernel) (Nat.le_of_ble_eq_true rfl) (by decide) rfl rfl ?_
  refine ev_aload_n (pc := 0) dX4_lays_0 rfl rfl ?_
  refine ev_get (pc := 1) dX4_lays_1 fd_X4_7 rfl rfl ?_
  refine ev_iload_n (pc := 4) dX4_lays_4 rfl rfl ?_
  refine ev_ialdN (pc := 5) dX4_lays_5 rfl ⟨rfl, hp, by decide⟩ hm ?_
  refine ev_istore (pc := 6) dX4_lays_6 rfl rfl ?_
  exact h9
theorem l_drops {cc : C21} {ep ro bb sl th dp : Int32} {many inn item val wr met rst : Nat → Int32} {wds : Nat → Int64} {opd ope way tk : Nat → Int32} {tl : List mC} {p e c : Nat} (hp : p < 720) (hm : many p = nI (c - 1)) (he : e < c) (hc : c ≤ 5) : ∀ (m i : Nat), c = i + 1 + m → e ≤ i → EvF m_X4_drops (mQm m_X4_drops (.inl none) (dW cc ep ro bb sl th dp many inn (shD item (5 * p) e (c - 1)) (shD val (5 * p) e (c - 1)) wr met rst wds opd ope way tk tl)) 12 [.ref 21, .int (nI p), .int (nI e), .int (nI i)] [] 0 0 (dW cc ep ro bb sl th dp many inn (shD item (5 * p) e i) (shD val (5 * p) e i) wr met rst wds opd ope way tk tl) := by
  intro m
  induction m with
  | zero =>
    intro i hi hie
    have e9 : i = c - 1 := by omega
    subst e9
    refine ev_iload_n (pc := 12) dX4_drops_12 rfl rfl ?_
    refine ev_aload_n (pc := 13) dX4_drops_13 rfl rfl ?_
    refine ev_get (pc := 14) dX4_drops_14 fd_X4_7 rfl rfl ?_
    refine ev_iload_n (pc := 17) dX4_drops_17 rfl rfl ?_
    refine ev_ialdN (pc := 18) dX4_drops_18 rfl ⟨rfl, hp, by decide⟩ hm ?_
    refine ev_ic_ge (pc := 19) (tgt := 72) dX4_drops_19 (by decide) (fun _ => ?_) (fun c_19 => absurd (by exact nI_le (Nat.le_refl _) (by omega)) c_19)
    exact ev_vretE (pc := 72) dX4_drops_72 rfl ⟨Nat.le_of_ble_eq_true rfl, Nat.le_of_ble_eq_true rfl⟩ rfl
  | succ m ih =>
    intro i hi hie
    refine ev_iload_n (pc := 12) dX4_drops_12 rfl rfl ?_
    refine ev_aload_n (pc := 13) dX4_drops_13 rfl rfl ?_
    refine ev_get (pc := 14) dX4_drops_14 fd_X4_7 rfl rfl ?_
    refine ev_iload_n (pc := 17) dX4_drops_17 rfl rfl ?_
    refine ev_ialdN (pc := 18) dX4_drops_18 rfl ⟨rfl, hp, by decide⟩ hm ?_
    refine ev_ic_ge (pc := 19) (tgt := 72) dX4_drops_19 (by decide) (fun c_19 => absurd c_19 (nI_ge (show i < c - 1 by omega) (by omega))) (fun _ => ?_)
    refine ev_aload_n (pc := 22) dX4_drops_22 rfl rfl ?_
    refine ev_get (pc := 23) dX4_drops_23 fd_X4_17 rfl rfl ?_
    refine ev_iconst (pc := 26) (v := 5) dX4_drops_26 (by decide) ?_
    refine ev_iload_n (pc := 27) dX4_drops_27 rfl rfl ?_
    refine ev_imul (pc := 28) dX4_drops_28 ?_
    refine ev_iload_n (pc := 29) dX4_drops_29 rfl rfl ?_
    refine ev_iadd (pc := 30) dX4_drops_30 ?_
    refine ev_aload_n (pc := 31) dX4_drops_31 rfl rfl ?_
    refine ev_get (pc := 32) dX4_drops_32 fd_X4_17 rfl rfl ?_
    refine ev_iconst (pc := 35) (v := 5) dX4_drops_35 (by decide) ?_
    refine ev_iload_n (pc := 36) dX4_drops_36 rfl rfl ?_
    refine ev_imul (pc := 37) dX4_drops_37 ?_
    refine ev_iload_n (pc := 38) dX4_drops_38 rfl rfl ?_
    refine ev_iadd (pc := 39) dX4_drops_39 ?_
    refine ev_iconst (pc := 40) (v := 1) dX4_drops_40 (by decide) ?_
    refine ev_iadd (pc := 41) dX4_drops_41 ?_
    refine ev_ialdN (pc := 42) dX4_drops_42 rfl ⟨(ix5p p i), by omega, by decide⟩ (shD_at item (5 * p) e i) ?_
    refine ev_iastN (pc := 43) dX4_drops_43 rfl ⟨(ix5m p i), by omega, by decide⟩ (shD_step item (5 * p) hie) rfl ?_
    refine ev_aload_n (pc := 44) dX4_drops_44 rfl rfl ?_
    refine ev_get (pc := 45) dX4_drops_45 fd_X4_20 rfl rfl ?_
    refine ev_iconst (pc := 48) (v := 5) dX4_drops_48 (by decide) ?_
    refine ev_iload_n (pc := 49) dX4_drops_49 rfl rfl ?_
    refine ev_imul (pc := 50) dX4_drops_50 ?_
    refine ev_iload_n (pc := 51) dX4_drops_51 rfl rfl ?_
    refine ev_iadd (pc := 52) dX4_drops_52 ?_
    refine ev_aload_n (pc := 53) dX4_drops_53 rfl rfl ?_
    refine ev_get (pc := 54) dX4_drops_54 fd_X4_20 rfl rfl ?_
    refine ev_iconst (pc := 57) (v := 5) dX4_drops_57 (by decide) ?_
    refine ev_iload_n (pc := 58) dX4_drops_58 rfl rfl ?_
    refine ev_imul (pc := 59) dX4_drops_59 ?_
    refine ev_iload_n (pc := 60) dX4_drops_60 rfl rfl ?_
    refine ev_iadd (pc := 61) dX4_drops_61 ?_
    refine ev_iconst (pc := 62) (v := 1) dX4_drops_62 (by decide) ?_
    refine ev_iadd (pc := 63) dX4_drops_63 ?_
    refine ev_ialdN (pc := 64) dX4_drops_64 rfl ⟨(ix5p p i), by omega, by decide⟩ (shD_at val (5 * p) e i) ?_
    refine ev_iastN (pc := 65) dX4_drops_65 rfl ⟨(ix5m p i), by omega, by decide⟩ (shD_step val (5 * p) hie) rfl ?_
    refine ev_iinc (pc := 66) dX4_drops_66 rfl rfl rfl ?_
    refine ev_goto (pc := 69) (tgt := 12) dX4_drops_69 (by decide) ?_
    rw [nI_i1]
    exact ih (i + 1) (by omega) (by omega)
theorem s_drops {cc : C21} {ep ro bb sl th dp : Int32} {many inn item val wr met rst : Nat → Int32} {wds : Nat → Int64} {opd ope way tk : Nat → Int32} {tl : List mC} {p e c : Nat} (hp : p < 720) (hm : many p = nI c) (he : e < c) (hc : c ≤ 5) : EvS m_X4_drops [.ref 21, .int (nI p), .int (nI e)] (dW cc ep ro bb sl th dp many inn item val wr met rst wds opd ope way tk tl) (.inl none) (dW cc ep ro bb sl th dp (upd many p (nI (c - 1))) inn (shD item (5 * p) e (c - 1)) (shD val (5 * p) e (c - 1)) wr met rst wds opd ope way tk tl) := by
  have h9 := l_drops (cc := cc) (ep := ep) (ro := ro) (bb := bb) (sl := sl) (th := th) (dp := dp) (many := (upd many p (nI (c - 1)))) (inn := inn) (item := item) (val := val) (wr := wr) (met := met) (rst := rst) (wds := wds) (opd := opd) (ope := ope) (way := way) (tk := tk) (tl := tl) hp pk_us he hc (c - 1 - e) e (by omega) (Nat.le_refl _)
  rw [shD_e, shD_e] at h9
  refine evs_of (by decide +kernel) (Nat.le_of_ble_eq_true rfl) (by decide) rfl rfl ?_
  refine ev_aload_n (pc := 0) dX4_drops_0 rfl rfl ?_
  refine ev_get (pc := 1) dX4_drops_1 fd_X4_7 rfl rfl ?_
  refine ev_iload_n (pc := 4) dX4_drops_4 rfl rfl ?_
  refine ev_dup2 (pc := 5) dX4_drops_5 rfl rfl ?_
  refine ev_ialdN (pc := 6) dX4_drops_6 rfl ⟨rfl, hp, by decide⟩ hm ?_
  refine ev_iconst (pc := 7) (v := 1) dX4_drops_7 (by decide) ?_
  refine ev_isub (pc := 8) dX4_drops_8 ?_
  refine ev_iastN (pc := 9) dX4_drops_9 rfl ⟨rfl, hp, by decide⟩ (by rw [nI_s1 (by omega)]) rfl ?_
  refine ev_iload_n (pc := 10) dX4_drops_10 rfl rfl ?_
  refine ev_istore_n (pc := 11) dX4_drops_11 rfl rfl rfl ?_
  exact h9
theorem l_copies {cc : C21} {ep ro bb sl th dp : Int32} {many inn item val wr met rst : Nat → Int32} {wds : Nat → Int64} {opd ope way tk : Nat → Int32} {tl : List mC} {p n : Nat} (hp : p < 720) (hn : n < 720) (hpn : p ≠ n) : ∀ (m i : Nat), 5 = i + m → EvF m_X4_copies (mQm m_X4_copies (.inl none) (dW cc ep ro bb sl th dp many inn (apF item (5 * n) (5 * p) 5) (apF val (5 * n) (5 * p) 5) wr met rst wds opd ope way tk tl)) 26 [.ref 21, .int (nI p), .int (nI n), .int (nI i)] [] 0 0 (dW cc ep ro bb sl th dp many inn (apF item (5 * n) (5 * p) i) (apF val (5 * n) (5 * p) i) wr met rst wds opd ope way tk tl) := by
  intro m
  induction m with
  | zero =>
    intro i hi
    have : i = 5 := by omega
    subst this
    refine ev_iload_n (pc := 26) dX4_copies_26 rfl rfl ?_
    refine ev_iconst (pc := 27) (v := 5) dX4_copies_27 (by decide) ?_
    refine ev_ic_ge (pc := 28) (tgt := 77) dX4_copies_28 (by decide) (fun _ => ?_) (fun c_28 => absurd (by decide) c_28)
    exact ev_vretE (pc := 77) dX4_copies_77 rfl ⟨Nat.le_of_ble_eq_true rfl, Nat.le_of_ble_eq_true rfl⟩ rfl
  | succ m ih =>
    intro i hi
    refine ev_iload_n (pc := 26) dX4_copies_26 rfl rfl ?_
    refine ev_iconst (pc := 27) (v := 5) dX4_copies_27 (by decide) ?_
    refine ev_ic_ge (pc := 28) (tgt := 77) dX4_copies_28 (by decide) (fun c_28 => absurd c_28 (nI_ge (show i < 5 by omega) (by decide))) (fun _ => ?_)
    refine ev_aload_n (pc := 31) dX4_copies_31 rfl rfl ?_
    refine ev_get (pc := 32) dX4_copies_32 fd_X4_17 rfl rfl ?_
    refine ev_iconst (pc := 35) (v := 5) dX4_copies_35 (by decide) ?_
    refine ev_iload_n (pc := 36) dX4_copies_36 rfl rfl ?_
    refine ev_imul (pc := 37) dX4_copies_37 ?_
    refine ev_iload_n (pc := 38) dX4_copies_38 rfl rfl ?_
    refine ev_iadd (pc := 39) dX4_copies_39 ?_
    refine ev_aload_n (pc := 40) dX4_copies_40 rfl rfl ?_
    refine ev_get (pc := 41) dX4_copies_41 fd_X4_17 rfl rfl ?_
    refine ev_iconst (pc := 44) (v := 5) dX4_copies_44 (by decide) ?_
    refine ev_iload_n (pc := 45) dX4_copies_45 rfl rfl ?_
    refine ev_imul (pc := 46) dX4_copies_46 ?_
    refine ev_iload_n (pc := 47) dX4_copies_47 rfl rfl ?_
    refine ev_iadd (pc := 48) dX4_copies_48 ?_
    refine ev_ialdN (pc := 49) dX4_copies_49 rfl ⟨(ix5m p i), by omega, by decide⟩ (apF_at (c := 5) item (by omega) (by omega)) ?_
    refine ev_iastN (pc := 50) dX4_copies_50 rfl ⟨(ix5m n i), by omega, by decide⟩ (apF_step item (5 * n) (5 * p) i) rfl ?_
    refine ev_aload_n (pc := 51) dX4_copies_51 rfl rfl ?_
    refine ev_get (pc := 52) dX4_copies_52 fd_X4_20 rfl rfl ?_
    refine ev_iconst (pc := 55) (v := 5) dX4_copies_55 (by decide) ?_
    refine ev_iload_n (pc := 56) dX4_copies_56 rfl rfl ?_
    refine ev_imul (pc := 57) dX4_copies_57 ?_
    refine ev_iload_n (pc := 58) dX4_copies_58 rfl rfl ?_
    refine ev_iadd (pc := 59) dX4_copies_59 ?_
    refine ev_aload_n (pc := 60) dX4_copies_60 rfl rfl ?_
    refine ev_get (pc := 61) dX4_copies_61 fd_X4_20 rfl rfl ?_
    refine ev_iconst (pc := 64) (v := 5) dX4_copies_64 (by decide) ?_
    refine ev_iload_n (pc := 65) dX4_copies_65 rfl rfl ?_
    refine ev_imul (pc := 66) dX4_copies_66 ?_
    refine ev_iload_n (pc := 67) dX4_copies_67 rfl rfl ?_
    refine ev_iadd (pc := 68) dX4_copies_68 ?_
    refine ev_ialdN (pc := 69) dX4_copies_69 rfl ⟨(ix5m p i), by omega, by decide⟩ (apF_at (c := 5) val (by omega) (by omega)) ?_
    refine ev_iastN (pc := 70) dX4_copies_70 rfl ⟨(ix5m n i), by omega, by decide⟩ (apF_step val (5 * n) (5 * p) i) rfl ?_
    refine ev_iinc (pc := 71) dX4_copies_71 rfl rfl rfl ?_
    refine ev_goto (pc := 74) (tgt := 26) dX4_copies_74 (by decide) ?_
    rw [nI_i1]
    exact ih (i + 1) (by omega)
theorem s_copies {cc : C21} {ep ro bb sl th dp : Int32} {many inn item val wr met rst : Nat → Int32} {wds : Nat → Int64} {opd ope way tk : Nat → Int32} {tl : List mC} {p n : Nat} (hp : p < 720) (hn : n < 720) (hpn : p ≠ n) : EvS m_X4_copies [.ref 21, .int (nI p), .int (nI n)] (dW cc ep ro bb sl th dp many inn item val wr met rst wds opd ope way tk tl) (.inl none) (dW cc ep ro bb sl th dp (upd many n (many p)) (upd inn n (inn p &&& 1)) (apF item (5 * n) (5 * p) 5) (apF val (5 * n) (5 * p) 5) wr met rst wds opd ope way tk tl) := by
  have h9 := l_copies (cc := cc) (ep := ep) (ro := ro) (bb := bb) (sl := sl) (th := th) (dp := dp) (many := (upd many n (many p))) (inn := (upd inn n (inn p &&& 1))) (item := item) (val := val) (wr := wr) (met := met) (rst := rst) (wds := wds) (opd := opd) (ope := ope) (way := way) (tk := tk) (tl := tl) hp hn hpn 5 0 rfl
  rw [apF_0, apF_0] at h9
  refine evs_of (by decide +kernel) (Nat.le_of_ble_eq_true rfl) (by decide) rfl rfl ?_
  refine ev_aload_n (pc := 0) dX4_copies_0 rfl rfl ?_
  refine ev_get (pc := 1) dX4_copies_1 fd_X4_13 rfl rfl ?_
  refine ev_iload_n (pc := 4) dX4_copies_4 rfl rfl ?_
  refine ev_aload_n (pc := 5) dX4_copies_5 rfl rfl ?_
  refine ev_get (pc := 6) dX4_copies_6 fd_X4_13 rfl rfl ?_
  refine ev_iload_n (pc := 9) dX4_copies_9 rfl rfl ?_
  refine ev_zaldN (pc := 10) dX4_copies_10 rfl ⟨rfl, hp, by decide⟩ rfl ?_
  refine ev_zastN (pc := 11) dX4_copies_11 rfl ⟨rfl, hn, by decide⟩ rfl rfl ?_
  refine ev_aload_n (pc := 12) dX4_copies_12 rfl rfl ?_
  refine ev_get (pc := 13) dX4_copies_13 fd_X4_7 rfl rfl ?_
  refine ev_iload_n (pc := 16) dX4_copies_16 rfl rfl ?_
  refine ev_aload_n (pc := 17) dX4_copies_17 rfl rfl ?_
  refine ev_get (pc := 18) dX4_copies_18 fd_X4_7 rfl rfl ?_
  refine ev_iload_n (pc := 21) dX4_copies_21 rfl rfl ?_
  refine ev_ialdN (pc := 22) dX4_copies_22 rfl ⟨rfl, hp, by decide⟩ rfl ?_
  refine ev_iastN (pc := 23) dX4_copies_23 rfl ⟨rfl, hn, by decide⟩ rfl rfl ?_
  refine ev_iconst (pc := 24) (v := 0) dX4_copies_24 (by decide) ?_
  refine ev_istore_n (pc := 25) dX4_copies_25 rfl rfl rfl ?_
  exact h9
end M3
