/-! Copperleaf$Pages: lists of trees, marks -/
theorem l_leastVacant {sl : Int32} {cu ba r0 r1 r2 r3 : Q4} {sw : Nat → Int64} {bt : Int32} {cnt inn lk wd kp wr mk ls pth tk : Nat → Int32} {tl : List mC} {n : Nat} (hn : n ≤ 800) (h1 : ∀ j, j < n → ¬ (kp j = 0 ∧ wr j = 0)) (h2 : n < 800 → kp n = 0 ∧ wr n = 0) : ∀ (m i : Nat), n = i + m → EvF m_X0_leastVacant (mQm m_X0_leastVacant (.inl (some (.int (nI n)))) (cW sl cu ba r0 r1 r2 r3 sw bt cnt inn lk wd kp wr mk ls pth tk tl)) 2 [.ref 1, .int (nI i)] [] 0 0 (cW sl cu ba r0 r1 r2 r3 sw bt cnt inn lk wd kp wr mk ls pth tk tl) := by
  intro m
  induction m with
  | zero =>
    intro i hi
    rw [Nat.add_zero] at hi
    subst hi
    rcases Nat.lt_or_ge n 800 with hlt | hge
    · obtain ⟨h3, h4⟩ := h2 hlt
      refine ev_iload_n (pc := 2) dX0_leastVacant_2 rfl rfl ?_
      refine ev_sipush (pc := 3) (v := 800) dX0_leastVacant_3 (by decide) ?_
      refine ev_ic_ge (pc := 6) (tgt := 35) dX0_leastVacant_6 (by decide) (fun c_6 => absurd c_6 (hp8 hlt)) (fun _ => ?_)
      refine ev_aload_n (pc := 9) dX0_leastVacant_9 rfl rfl ?_
      refine ev_get (pc := 10) dX0_leastVacant_10 fd_X0_25 rfl rfl ?_
      refine ev_iload_n (pc := 13) dX0_leastVacant_13 rfl rfl ?_
      refine ev_zaldN (pc := 14) dX0_leastVacant_14 rfl ⟨rfl, hlt, by decide⟩ h3 ?_
      refine ev_if_ne (pc := 15) (tgt := 29) dX0_leastVacant_15 (by decide) (fun c_15 => absurd rfl c_15) (fun _ => ?_)
      refine ev_aload_n (pc := 18) dX0_leastVacant_18 rfl rfl ?_
      refine ev_get (pc := 19) dX0_leastVacant_19 fd_X0_28 rfl rfl ?_
      refine ev_iload_n (pc := 22) dX0_leastVacant_22 rfl rfl ?_
      refine ev_zaldN (pc := 23) dX0_leastVacant_23 rfl ⟨rfl, hlt, by decide⟩ h4 ?_
      refine ev_if_ne (pc := 24) (tgt := 29) dX0_leastVacant_24 (by decide) (fun c_24 => absurd rfl c_24) (fun _ => ?_)
      refine ev_iload_n (pc := 27) dX0_leastVacant_27 rfl rfl ?_
      exact ev_iretE (pc := 28) dX0_leastVacant_28 rfl ⟨Nat.le_of_ble_eq_true rfl, Nat.le_of_ble_eq_true rfl⟩ rfl rfl
    · have h9 : n = 800 := by omega
      subst h9
      refine ev_iload_n (pc := 2) dX0_leastVacant_2 rfl rfl ?_
      refine ev_sipush (pc := 3) (v := 800) dX0_leastVacant_3 (by decide) ?_
      refine ev_ic_ge (pc := 6) (tgt := 35) dX0_leastVacant_6 (by decide) (fun _ => ?_) (fun c_6 => absurd (by decide) c_6)
      refine ev_sipush (pc := 35) (v := 800) dX0_leastVacant_35 (by decide) ?_
      exact ev_iretE (pc := 38) dX0_leastVacant_38 rfl ⟨Nat.le_of_ble_eq_true rfl, Nat.le_of_ble_eq_true rfl⟩ rfl rfl
  | succ m ih =>
    intro i hi
    have hlt : i < 800 := by omega
    have h9 := h1 i (by omega)
    refine ev_iload_n (pc := 2) dX0_leastVacant_2 rfl rfl ?_
    refine ev_sipush (pc := 3) (v := 800) dX0_leastVacant_3 (by decide) ?_
    refine ev_ic_ge (pc := 6) (tgt := 35) dX0_leastVacant_6 (by decide) (fun c_6 => absurd c_6 (hp8 hlt)) (fun _ => ?_)
    refine ev_aload_n (pc := 9) dX0_leastVacant_9 rfl rfl ?_
    refine ev_get (pc := 10) dX0_leastVacant_10 fd_X0_25 rfl rfl ?_
    refine ev_iload_n (pc := 13) dX0_leastVacant_13 rfl rfl ?_
    refine ev_zaldN (pc := 14) dX0_leastVacant_14 rfl ⟨rfl, hlt, by decide⟩ rfl ?_
    refine ev_if_ne (pc := 15) (tgt := 29) dX0_leastVacant_15 (by decide) (fun c_15 => ?_) (fun c_15 => ?_)
    · refine ev_iinc (pc := 29) dX0_leastVacant_29 rfl rfl rfl ?_
      refine ev_goto (pc := 32) (tgt := 2) dX0_leastVacant_32 (by decide) ?_
      rw [nI_i1]
      exact ih (i + 1) (by omega)
    · refine ev_aload_n (pc := 18) dX0_leastVacant_18 rfl rfl ?_
      refine ev_get (pc := 19) dX0_leastVacant_19 fd_X0_28 rfl rfl ?_
      refine ev_iload_n (pc := 22) dX0_leastVacant_22 rfl rfl ?_
      refine ev_zaldN (pc := 23) dX0_leastVacant_23 rfl ⟨rfl, hlt, by decide⟩ rfl ?_
      refine ev_if_ne (pc := 24) (tgt := 29) dX0_leastVacant_24 (by decide) (fun _ => ?_) (fun c_24 => absurd c_24 (fun q => h9 ⟨c_15, q⟩))
      refine ev_iinc (pc := 29) dX0_leastVacant_29 rfl rfl rfl ?_
      refine ev_goto (pc := 32) (tgt := 2) dX0_leastVacant_32 (by decide) ?_
      rw [nI_i1]
      exact ih (i + 1) (by omega)
theorem s_leastVacant {sl : Int32} {cu ba r0 r1 r2 r3 : Q4} {sw : Nat → Int64} {bt : Int32} {cnt inn lk wd kp wr mk ls pth tk : Nat → Int32} {tl : List mC} {n : Nat} (hn : n ≤ 800) (h1 : ∀ j, j < n → ¬ (kp j = 0 ∧ wr j = 0)) (h2 : n < 800 → kp n = 0 ∧ wr n = 0) : EvS m_X0_leastVacant [.ref 1] (cW sl cu ba r0 r1 r2 r3 sw bt cnt inn lk wd kp wr mk ls pth tk tl) (.inl (some (.int (nI n)))) (cW sl cu ba r0 r1 r2 r3 sw bt cnt inn lk wd kp wr mk ls pth tk tl) := by
  refine evs_of (by decide +kernel) (Nat.le_of_ble_eq_true rfl) (by decide) rfl ?_
  refine ev_iconst (pc := 0) (v := 0) dX0_leastVacant_0 (by decide) ?_
  refine ev_istore_n (pc := 1) dX0_leastVacant_1 rfl rfl rfl ?_
  exact l_leastVacant hn h1 h2 n 0 (by omega)
/-- all of a row's 800 places are 0 -/
def zr (f : Nat → Int32) (i : Nat) : Nat → Int32 := fun j => if j < i then 0 else f j
theorem zr_up (f : Nat → Int32) (i : Nat) : upd (zr f i) i (0 &&& 1) = zr f (i + 1) := by
  funext j
  unfold upd zr
  by_cases h : j = i
  · subst h
    rw [if_pos rfl, if_pos (by omega)]
    rfl
  · rw [if_neg h]
    by_cases h2 : j < i
    · rw [if_pos h2, if_pos (by omega)]
    · rw [if_neg h2, if_neg (by omega)]
theorem zr_0 (f : Nat → Int32) : zr f 0 = f := by funext j; simp [zr]
theorem l_unmark {w : mW} {q : Nat} {f : Nat → Int32} (hq : q < w.length) : ∀ (m i : Nat), 800 = i + m → EvF m_X0_unmark (mQm m_X0_unmark (.inl none) (w.set q (.inl (1, 800, .inl (zr f 800))))) 2 [.ref q, .int (nI i)] [] 0 0 (w.set q (.inl (1, 800, .inl (zr f i)))) := by
  intro m
  have hg : ∀ g : Nat → Int32, (w.set q (.inl (1, 800, .inl g)))[q]? = some (.inl (1, 800, .inl g)) := fun g => by rw [List.getElem?_set_self hq]
  induction m with
  | zero =>
    intro i hi
    have h9 : i = 800 := by omega
    subst h9
    refine ev_iload_n (pc := 2) dX0_unmark_2 rfl rfl ?_
    refine ev_aload_n (pc := 3) dX0_unmark_3 rfl rfl ?_
    refine ev_alen (pc := 4) dX0_unmark_4 (hg _) (by decide) ?_
    refine ev_ic_ge (pc := 5) (tgt := 18) dX0_unmark_5 (by decide) (fun _ => ?_) (fun c_5 => absurd (by decide) c_5)
    exact ev_vretE (pc := 18) dX0_unmark_18 rfl ⟨Nat.le_of_ble_eq_true rfl, Nat.le_of_ble_eq_true rfl⟩ rfl
  | succ m ih =>
    intro i hi
    have hlt : i < 800 := by omega
    refine ev_iload_n (pc := 2) dX0_unmark_2 rfl rfl ?_
    refine ev_aload_n (pc := 3) dX0_unmark_3 rfl rfl ?_
    refine ev_alen (pc := 4) dX0_unmark_4 (hg _) (by decide) ?_
    refine ev_ic_ge (pc := 5) (tgt := 18) dX0_unmark_5 (by decide) (fun c_5 => absurd c_5 (hp8 hlt)) (fun _ => ?_)
    refine ev_aload_n (pc := 8) dX0_unmark_8 rfl rfl ?_
    refine ev_iload_n (pc := 9) dX0_unmark_9 rfl rfl ?_
    refine ev_iconst (pc := 10) (v := 0) dX0_unmark_10 (by decide) ?_
    refine ev_zastN (pc := 11) dX0_unmark_11 (hg _) ⟨rfl, hlt, by decide⟩ (zr_up f i) (List.set_set ..) ?_
    refine ev_iinc (pc := 12) dX0_unmark_12 rfl rfl rfl ?_
    refine ev_goto (pc := 15) (tgt := 2) dX0_unmark_15 (by decide) ?_
    rw [nI_i1]
    exact ih (i + 1) (by omega)
theorem s_unmark {w w' : mW} {q : Nat} {f : Nat → Int32} (hq : w[q]? = some (.inl (1, 800, .inl f))) (hw' : w.set q (.inl (1, 800, .inl (zr f 800))) = w') : EvS m_X0_unmark [.ref q] w (.inl none) w' := by
  subst hw'
  have hl : q < w.length := (List.getElem?_eq_some_iff.mp hq).1
  have h9 : w.set q (.inl (1, 800, .inl (zr f 0))) = w := by
    rw [zr_0]
    apply List.ext_getElem?
    intro j
    by_cases hj : q = j
    · subst hj; rw [List.getElem?_set_self hl, hq]
    · rw [List.getElem?_set_ne hj]
  refine evs_of (by decide +kernel) (Nat.le_of_ble_eq_true rfl) (by decide) rfl ?_
  refine ev_iconst (pc := 0) (v := 0) dX0_unmark_0 (by decide) ?_
  refine ev_istore_n (pc := 1) dX0_unmark_1 rfl rfl rfl ?_
  have h8 := l_unmark (f := f) hl 800 0 (by omega)
  rw [h9] at h8
  exact h8
/-- the tree's pages level by level -/
def bfs (T : Nat → Nd) : Nat → List Nat → List Nat
  | 0, ps => ps
  | d + 1, ps => ps ++ bfs T d (ps.flatMap (fun p => kids (T p)))
def fillL (ls : Nat → Int32) (L : List Nat) : Nat → Int32 := fun j => match L[j]? with
  | some c => nI c
  | none => ls j
theorem fillL_snoc (ls : Nat → Int32) (L : List Nat) (c : Nat) : upd (fillL ls L) L.length (nI c) = fillL ls (L ++ [c]) := by
  funext j
  unfold upd fillL
  by_cases h : j = L.length
  · subst h
    rw [if_pos rfl, List.getElem?_append_right (Nat.le_refl _), Nat.sub_self]
    rfl
  · rw [if_neg h]
    by_cases h2 : j < L.length
    · rw [List.getElem?_append_left h2]
    · rw [List.getElem?_append_right (by omega), List.getElem?_eq_none (by omega), List.getElem?_eq_none (by simp; omega)]
theorem fillL_at {ls : Nat → Int32} {L : List Nat} {j c : Nat} (h : L[j]? = some c) : fillL ls L j = nI c := by simp [fillL, h]
section P3
variable {T : Nat → Nd} {U : Nat → Prop}
/-- pages that are roots of trees of depth d -/
theorem l_list0 {sl : Int32} {cu ba r0 r1 r2 r3 : Q4} {sw : Nat → Int64} {bt : Int32} {cnt inn lk wd kp wr mk ls pth tk : Nat → Int32} {tl : List mC} (hR : Rp cnt inn lk wd T U) (a : Int32) : ∀ (ps dn : List Nat) (v4 v5 v6 : Value), (∀ p ∈ ps, rt T U 0 p) → (dn ++ ps).length ≤ 800 → EvF m_X0_listTree (mQm m_X0_listTree (.inl (some (.int (nI (dn ++ ps).length)))) (cW sl cu ba r0 r1 r2 r3 sw bt cnt inn lk wd kp wr mk (fillL ls (dn ++ ps)) pth tk tl)) 11 [.ref 1, .int a, .int (nI (dn ++ ps).length), .int (nI dn.length), v4, v5, v6] [] 0 0 (cW sl cu ba r0 r1 r2 r3 sw bt cnt inn lk wd kp wr mk (fillL ls (dn ++ ps)) pth tk tl) := by
  intro ps
  induction ps with
  | nil =>
    intro dn v4 v5 v6 hps hlen
    refine ev_iload_n (pc := 11) dX0_listTree_11 rfl rfl ?_
    refine ev_sipush (pc := 12) (v := 800) dX0_listTree_12 (by decide) ?_
    refine ev_ic_ge (pc := 15) (tgt := 98) dX0_listTree_15 (by decide) (fun c_15 => ?_) (fun c_15 => ?_)
    · refine ev_iload_n (pc := 98) dX0_listTree_98 rfl rfl ?_
      exact ev_iretE (pc := 99) dX0_listTree_99 rfl ⟨Nat.le_of_ble_eq_true rfl, Nat.le_of_ble_eq_true rfl⟩ rfl rfl
    · refine ev_iload_n (pc := 18) dX0_listTree_18 rfl rfl ?_
      refine ev_iload_n (pc := 19) dX0_listTree_19 rfl rfl ?_
      refine ev_ic_ge (pc := 20) (tgt := 98) dX0_listTree_20 (by decide) (fun _ => ?_) (fun c_20 => absurd (by rw [List.append_nil]; exact nI_le (Nat.le_refl _) (by rw [List.append_nil] at hlen; omega)) c_20)
      refine ev_iload_n (pc := 98) dX0_listTree_98 rfl rfl ?_
      exact ev_iretE (pc := 99) dX0_listTree_99 rfl ⟨Nat.le_of_ble_eq_true rfl, Nat.le_of_ble_eq_true rfl⟩ rfl rfl
  | cons p ps ih =>
    intro dn v4 v5 v6 hps hlen
    obtain ⟨hu, l, ht, -⟩ := hps p List.mem_cons_self
    obtain ⟨hp, hi, hl5, hc, hr⟩ := hR.leaf hu ht
    have hl9 : dn.length < (dn ++ p :: ps).length := by simp
    have hat : (dn ++ p :: ps)[dn.length]? = some p := by rw [List.getElem?_append_right (Nat.le_refl _), Nat.sub_self]; rfl
    refine ev_iload_n (pc := 11) dX0_listTree_11 rfl rfl ?_
    refine ev_sipush (pc := 12) (v := 800) dX0_listTree_12 (by decide) ?_
    refine ev_ic_ge (pc := 15) (tgt := 98) dX0_listTree_15 (by decide) (fun c_15 => absurd c_15 (hp8 (show dn.length < 800 by omega))) (fun _ => ?_)
    refine ev_iload_n (pc := 18) dX0_listTree_18 rfl rfl ?_
    refine ev_iload_n (pc := 19) dX0_listTree_19 rfl rfl ?_
    refine ev_ic_ge (pc := 20) (tgt := 98) dX0_listTree_20 (by decide) (fun c_20 => absurd c_20 (nI_ge hl9 (by omega))) (fun _ => ?_)
    refine ev_aload_n (pc := 23) dX0_listTree_23 rfl rfl ?_
    refine ev_get (pc := 24) dX0_listTree_24 fd_X0_34 rfl rfl ?_
    refine ev_iload_n (pc := 27) dX0_listTree_27 rfl rfl ?_
    refine ev_ialdN (pc := 28) dX0_listTree_28 rfl ⟨rfl, by omega, by decide⟩ (fillL_at hat) ?_
    refine ev_istore (pc := 29) dX0_listTree_29 rfl rfl ?_
    refine ev_aload_n (pc := 31) dX0_listTree_31 rfl rfl ?_
    refine ev_iload (pc := 32) dX0_listTree_32 rfl ?_
    refine cV1 (pc := 34) lk_X0_listTree_34 rfl rfl rfl (Nat.le_of_ble_eq_true rfl) ⟨Nat.le_of_ble_eq_true rfl, Nat.le_of_ble_eq_true rfl⟩ (s_isLeafT hp hi) ?_
    refine ev_if_eq (pc := 37) (tgt := 44) dX0_listTree_37 (by decide) (fun c_37 => absurd c_37 (by decide)) (fun _ => ?_)
    refine ev_iconst (pc := 40) (v := 0) dX0_listTree_40 (by decide) ?_
    refine ev_goto (pc := 41) (tgt := 50) dX0_listTree_41 (by decide) ?_
    refine ev_istore (pc := 50) dX0_listTree_50 rfl rfl ?_
    refine ev_iconst (pc := 52) (v := 0) dX0_listTree_52 (by decide) ?_
    refine ev_istore (pc := 53) dX0_listTree_53 rfl rfl ?_
    refine ev_iload (pc := 55) dX0_listTree_55 rfl ?_
    refine ev_iload (pc := 57) dX0_listTree_57 rfl ?_
    refine ev_ic_ge (pc := 59) (tgt := 92) dX0_listTree_59 (by decide) (fun _ => ?_) (fun c_59 => absurd (by decide) c_59)
    refine ev_iinc (pc := 92) dX0_listTree_92 rfl rfl rfl ?_
    refine ev_goto (pc := 95) (tgt := 11) dX0_listTree_95 (by decide) ?_
    rw [nI_i1]
    have h9 := ih (dn ++ [p]) (.int (nI p)) (.int 0) (.int 0) (fun q hq => hps q (List.mem_cons_of_mem _ hq)) (by simpa using hlen)
    rw [List.append_assoc, List.singleton_append, List.length_append (as := dn) (bs := [p]), List.length_singleton] at h9
    exact h9
/-- the loop over a page's pages -/
theorem l_listK {sl : Int32} {cu ba r0 r1 r2 r3 : Q4} {sw : Nat → Int64} {bt : Int32} {cnt inn lk wd kp wr mk ls pth tk : Nat → Int32} {tl : List mC} (hR : Rp cnt inn lk wd T U) {p i : Nat} {l : List Nat} (hu : U p) (ht : T p = .inr l) {Qf : mQ} (a : Int32) (Q : List Nat) (hlen : (Q ++ l).length ≤ 800) (k : ∀ v6 : Value, EvF m_X0_listTree Qf 92 [.ref 1, .int a, .int (nI (Q ++ l).length), .int (nI i), .int (nI p), .int (nI l.length), v6] [] 0 0 (cW sl cu ba r0 r1 r2 r3 sw bt cnt inn lk wd kp wr mk (fillL ls (Q ++ l)) pth tk tl)) : ∀ (r b : List Nat), l = b ++ r → EvF m_X0_listTree Qf 55 [.ref 1, .int a, .int (nI (Q ++ b).length), .int (nI i), .int (nI p), .int (nI l.length), .int (nI b.length)] [] 0 0 (cW sl cu ba r0 r1 r2 r3 sw bt cnt inn lk wd kp wr mk (fillL ls (Q ++ b)) pth tk tl) := by
  obtain ⟨hp, hi, hl5, hc, hr⟩ := hR.inner hu ht
  intro r
  induction r with
  | nil =>
    intro b hb
    rw [List.append_nil] at hb
    subst hb
    refine ev_iload (pc := 55) dX0_listTree_55 rfl ?_
    refine ev_iload (pc := 57) dX0_listTree_57 rfl ?_
    refine ev_ic_ge (pc := 59) (tgt := 92) dX0_listTree_59 (by decide) (fun _ => ?_) (fun c_59 => absurd (by exact nI_le (Nat.le_refl _) (by omega)) c_59)
    exact k _
  | cons c r ih =>
    intro b hb
    have hle : b.length < l.length := by rw [hb]; simp
    have hx : l[b.length]? = some c := by rw [hb, List.getElem?_append_right (Nat.le_refl _), Nat.sub_self]; rfl
    have hl9 : (Q ++ b).length < 800 := by simp only [List.length_append] at hlen ⊢; omega
    refine ev_iload (pc := 55) dX0_listTree_55 rfl ?_
    refine ev_iload (pc := 57) dX0_listTree_57 rfl ?_
    refine ev_ic_ge (pc := 59) (tgt := 92) dX0_listTree_59 (by decide) (fun c_59 => absurd c_59 (nI_ge hle (by omega))) (fun _ => ?_)
    refine ev_iload_n (pc := 62) dX0_listTree_62 rfl rfl ?_
    refine ev_sipush (pc := 63) (v := 800) dX0_listTree_63 (by decide) ?_
    refine ev_ic_ge (pc := 66) (tgt := 92) dX0_listTree_66 (by decide) (fun c_66 => absurd c_66 (hp8 hl9)) (fun _ => ?_)
    refine ev_aload_n (pc := 69) dX0_listTree_69 rfl rfl ?_
    refine ev_get (pc := 70) dX0_listTree_70 fd_X0_34 rfl rfl ?_
    refine ev_iload_n (pc := 73) dX0_listTree_73 rfl rfl ?_
    refine ev_aload_n (pc := 74) dX0_listTree_74 rfl rfl ?_
    refine ev_iload (pc := 75) dX0_listTree_75 rfl ?_
    refine ev_iload (pc := 77) dX0_listTree_77 rfl ?_
    refine cV2 (pc := 79) lk_X0_listTree_79 rfl rfl rfl (Nat.le_of_ble_eq_true rfl) ⟨Nat.le_of_ble_eq_true rfl, Nat.le_of_ble_eq_true rfl⟩ (s_wordOf hp (by omega) (hr _ _ hx).1) ?_
    refine ev_iastN (pc := 82) dX0_listTree_82 rfl ⟨rfl, hl9, by decide⟩ (fillL_snoc ls (Q ++ b) c) rfl ?_
    refine ev_iinc (pc := 83) dX0_listTree_83 rfl rfl rfl ?_
    refine ev_iinc (pc := 86) dX0_listTree_86 rfl rfl rfl ?_
    refine ev_goto (pc := 89) (tgt := 55) dX0_listTree_89 (by decide) ?_
    rw [nI_i1, nI_i1]
    have h9 := ih (b ++ [c]) (by rw [hb]; simp)
    rw [← List.append_assoc, List.length_append (as := Q ++ b), List.length_append (as := b), List.length_singleton] at h9
    exact h9
def PList (T : Nat → Nd) (U : Nat → Prop) (d : Nat) (Z : (Nat → Int32) → mW) (ls : Nat → Int32) (a : Int32) : Prop := ∀ (ns dn : List Nat) (v4 v5 v6 : Value), (∀ p ∈ ns, rt T U d p) → (dn ++ bfs T d ns).length ≤ 800 → EvF m_X0_listTree (mQm m_X0_listTree (.inl (some (.int (nI (dn ++ bfs T d ns).length)))) (Z (fillL ls (dn ++ bfs T d ns)))) 11 [.ref 1, .int a, .int (nI (dn ++ ns).length), .int (nI dn.length), v4, v5, v6] [] 0 0 (Z (fillL ls (dn ++ ns)))
theorem l_listI {sl : Int32} {cu ba r0 r1 r2 r3 : Q4} {sw : Nat → Int64} {bt : Int32} {cnt inn lk wd kp wr mk ls pth tk : Nat → Int32} {tl : List mC} (hR : Rp cnt inn lk wd T U) (a : Int32) (d : Nat) (hP : PList T U d (fun ls => (cW sl cu ba r0 r1 r2 r3 sw bt cnt inn lk wd kp wr mk ls pth tk tl)) ls a) : ∀ (ps ns dn : List Nat) (v4 v5 v6 : Value), (∀ p ∈ ps, rt T U (d + 1) p) → (∀ p ∈ ns, rt T U d p) → ∀ F : List Nat, dn ++ ps ++ bfs T d (ns ++ ps.flatMap (fun p => kids (T p))) = F → F.length ≤ 800 → EvF m_X0_listTree (mQm m_X0_listTree (.inl (some (.int (nI F.length)))) (cW sl cu ba r0 r1 r2 r3 sw bt cnt inn lk wd kp wr mk (fillL ls F) pth tk tl)) 11 [.ref 1, .int a, .int (nI (dn ++ ps ++ ns).length), .int (nI dn.length), v4, v5, v6] [] 0 0 (cW sl cu ba r0 r1 r2 r3 sw bt cnt inn lk wd kp wr mk (fillL ls (dn ++ ps ++ ns)) pth tk tl) := by
  intro ps
  induction ps with
  | nil =>
    intro ns dn v4 v5 v6 hps hns F hF hlen
    simp only [List.flatMap_nil, List.append_nil] at hF ⊢
    subst hF
    exact hP ns dn v4 v5 v6 hns hlen
  | cons p ps ih =>
    intro ns dn v4 v5 v6 hps hns F hF hlen
    obtain ⟨hu, l, ht, h2, h4, h3⟩ := hps p List.mem_cons_self
    obtain ⟨hp, hi, hl5, hc, hr⟩ := hR.inner hu ht
    have hk : kids (T p) = l := by rw [ht]; rfl
    have hge : ∀ (d : Nat) (x : List Nat), x.length ≤ (bfs T d x).length := fun d x => by
      cases d with
      | zero => exact Nat.le_refl _
      | succ d => simp [bfs]
    have hlen2 : (dn ++ (p :: ps) ++ ns ++ l).length ≤ 800 := by
      have h8 := hge d (ns ++ (p :: ps).flatMap (fun p => kids (T p)))
      rw [← hF] at hlen
      simp only [List.flatMap_cons, hk, List.length_append, List.length_cons] at hlen h8 ⊢
      omega
    have hl9 : dn.length < (dn ++ (p :: ps) ++ ns).length := by simp
    have hl8 : (dn ++ (p :: ps) ++ ns).length ≤ 800 := by simp only [List.length_append] at hlen2 ⊢; omega
    have hat : (dn ++ (p :: ps) ++ ns)[dn.length]? = some p := by rw [List.append_assoc, List.getElem?_append_right (Nat.le_refl _), Nat.sub_self]; rfl
    have hrt : ∀ c ∈ l, rt T U d c := fun c hcl => by
      have h9 := h3 c hcl
      cases d with
      | zero => exact ⟨h9.1, h9.2.choose, h9.2.choose_spec.1, h9.2.choose_spec.2.2⟩
      | succ d => exact h9
    refine ev_iload_n (pc := 11) dX0_listTree_11 rfl rfl ?_
    refine ev_sipush (pc := 12) (v := 800) dX0_listTree_12 (by decide) ?_
    refine ev_ic_ge (pc := 15) (tgt := 98) dX0_listTree_15 (by decide) (fun c_15 => absurd c_15 (hp8 (show dn.length < 800 by omega))) (fun _ => ?_)
    refine ev_iload_n (pc := 18) dX0_listTree_18 rfl rfl ?_
    refine ev_iload_n (pc := 19) dX0_listTree_19 rfl rfl ?_
    refine ev_ic_ge (pc := 20) (tgt := 98) dX0_listTree_20 (by decide) (fun c_20 => absurd c_20 (nI_ge hl9 (by omega))) (fun _ => ?_)
    refine ev_aload_n (pc := 23) dX0_listTree_23 rfl rfl ?_
    refine ev_get (pc := 24) dX0_listTree_24 fd_X0_34 rfl rfl ?_
    refine ev_iload_n (pc := 27) dX0_listTree_27 rfl rfl ?_
    refine ev_ialdN (pc := 28) dX0_listTree_28 rfl ⟨rfl, by omega, by decide⟩ (fillL_at hat) ?_
    refine ev_istore (pc := 29) dX0_listTree_29 rfl rfl ?_
    refine ev_aload_n (pc := 31) dX0_listTree_31 rfl rfl ?_
    refine ev_iload (pc := 32) dX0_listTree_32 rfl ?_
    refine cV1 (pc := 34) lk_X0_listTree_34 rfl rfl rfl (Nat.le_of_ble_eq_true rfl) ⟨Nat.le_of_ble_eq_true rfl, Nat.le_of_ble_eq_true rfl⟩ (s_isLeafF hp hi) ?_
    refine ev_if_eq (pc := 37) (tgt := 44) dX0_listTree_37 (by decide) (fun _ => ?_) (fun c_37 => absurd rfl c_37)
    refine ev_aload_n (pc := 44) dX0_listTree_44 rfl rfl ?_
    refine ev_iload (pc := 45) dX0_listTree_45 rfl ?_
    refine cV1 (pc := 47) lk_X0_listTree_47 rfl rfl rfl (Nat.le_of_ble_eq_true rfl) ⟨Nat.le_of_ble_eq_true rfl, Nat.le_of_ble_eq_true rfl⟩ (s_countOf hp hc) ?_
    refine ev_istore (pc := 50) dX0_listTree_50 rfl rfl ?_
    refine ev_iconst (pc := 52) (v := 0) dX0_listTree_52 (by decide) ?_
    refine ev_istore (pc := 53) dX0_listTree_53 rfl rfl ?_
    have h7 := l_listK (i := dn.length) (Qf := mQm m_X0_listTree (.inl (some (.int (nI F.length)))) (cW sl cu ba r0 r1 r2 r3 sw bt cnt inn lk wd kp wr mk (fillL ls F) pth tk tl)) (sl := sl) (cu := cu) (ba := ba) (r0 := r0) (r1 := r1) (r2 := r2) (r3 := r3) (sw := sw) (bt := bt) (kp := kp) (wr := wr) (mk := mk) (ls := ls) (pth := pth) (tk := tk) (tl := tl) hR hu ht a (dn ++ (p :: ps) ++ ns) hlen2 (fun v6 => ?_) l [] rfl
    · rw [List.append_nil] at h7
      exact h7
    · refine ev_iinc (pc := 92) dX0_listTree_92 rfl rfl rfl ?_
      refine ev_goto (pc := 95) (tgt := 11) dX0_listTree_95 (by decide) ?_
      rw [nI_i1]
      have h9 := ih (ns ++ l) (dn ++ [p]) (.int (nI p)) (.int (nI l.length)) v6 (fun q hq => hps q (List.mem_cons_of_mem _ hq)) (fun q hq => (List.mem_append.mp hq).elim (hns q) (hrt q)) F (by rw [← hF]; simp [hk]) hlen
      have e1 : dn ++ [p] ++ ps ++ (ns ++ l) = dn ++ (p :: ps) ++ ns ++ l := by simp
      rw [e1, List.length_append (as := dn) (bs := [p]), List.length_singleton] at h9
      exact h9
theorem l_listAll {sl : Int32} {cu ba r0 r1 r2 r3 : Q4} {sw : Nat → Int64} {bt : Int32} {cnt inn lk wd kp wr mk ls pth tk : Nat → Int32} {tl : List mC} (hR : Rp cnt inn lk wd T U) (a : Int32) : ∀ (d : Nat), PList T U d (fun ls => (cW sl cu ba r0 r1 r2 r3 sw bt cnt inn lk wd kp wr mk ls pth tk tl)) ls a := by
  intro d
  induction d with
  | zero => exact fun ns dn v4 v5 v6 hns hlen => l_list0 hR a ns dn v4 v5 v6 hns hlen
  | succ d ih =>
    intro ns dn v4 v5 v6 hns hlen
    have h9 := l_listI hR a d ih ns [] dn v4 v5 v6 hns (fun _ h => absurd h List.not_mem_nil) (dn ++ bfs T (d + 1) ns) (by simp [bfs]) hlen
    rw [List.append_nil] at h9
    exact h9
theorem s_listTree {sl : Int32} {cu ba r0 r1 r2 r3 : Q4} {sw : Nat → Int64} {bt : Int32} {cnt inn lk wd kp wr mk ls pth tk : Nat → Int32} {tl : List mC} (hR : Rp cnt inn lk wd T U) {d p : Nat} (hf : rt T U d p) (hlen : (bfs T d [p]).length ≤ 800) : EvS m_X0_listTree [.ref 1, .int (nI p)] (cW sl cu ba r0 r1 r2 r3 sw bt cnt inn lk wd kp wr mk ls pth tk tl) (.inl (some (.int (nI (bfs T d [p]).length)))) (cW sl cu ba r0 r1 r2 r3 sw bt cnt inn lk wd kp wr mk (fillL ls (bfs T d [p])) pth tk tl) := by
  refine evs_of (by decide +kernel) (Nat.le_of_ble_eq_true rfl) (by decide) rfl ?_
  refine ev_aload_n (pc := 0) dX0_listTree_0 rfl rfl ?_
  refine ev_get (pc := 1) dX0_listTree_1 fd_X0_34 rfl rfl ?_
  refine ev_iconst (pc := 4) (v := 0) dX0_listTree_4 (by decide) ?_
  refine ev_iload_n (pc := 5) dX0_listTree_5 rfl rfl ?_
  refine ev_iastN (pc := 6) dX0_listTree_6 rfl ⟨rfl, by decide, by decide⟩ (show upd ls 0 (nI p) = fillL ls [p] from fillL_snoc ls [] p |> fun h => by rw [← List.nil_append [p], ← h]; rfl) rfl ?_
  refine ev_iconst (pc := 7) (v := 1) dX0_listTree_7 (by decide) ?_
  refine ev_istore_n (pc := 8) dX0_listTree_8 rfl rfl rfl ?_
  refine ev_iconst (pc := 9) (v := 0) dX0_listTree_9 (by decide) ?_
  refine ev_istore_n (pc := 10) dX0_listTree_10 rfl rfl rfl ?_
  exact l_listAll hR (nI p) d [p] [] hole hole hole (fun q hq => by rw [List.mem_singleton.mp hq]; exact hf) hlen
theorem bfs_U : ∀ (d : Nat) (ps : List Nat), (∀ p ∈ ps, rt T U d p) → ∀ q ∈ bfs T d ps, U q ∧ ∃ d', d' ≤ d ∧ rt T U d' q
  | 0, ps, h, q, hq => ⟨(h q hq).1, 0, Nat.le_refl _, h q hq⟩
  | d + 1, ps, h, q, hq => by
    rcases List.mem_append.mp hq with hq | hq
    · exact ⟨(h q hq).1, d + 1, Nat.le_refl _, h q hq⟩
    · have h9 := bfs_U d (ps.flatMap (fun p => kids (T p))) (fun c hc => by
        obtain ⟨p, hp, hc⟩ := List.mem_flatMap.mp hc
        obtain ⟨-, l, ht, -, -, h3⟩ := h p hp
        rw [ht] at hc
        have h8 := h3 c hc
        cases d with
        | zero => exact ⟨h8.1, h8.2.choose, h8.2.choose_spec.1, h8.2.choose_spec.2.2⟩
        | succ d => exact h8) q hq
      obtain ⟨h1, d', h2, h3⟩ := h9
      exact ⟨h1, d', by omega, h3⟩
def mkF (f : Nat → Int32) (L : List Nat) : Nat → Int32 := fun j => if j ∈ L then 1 else f j
theorem mkF_snoc (f : Nat → Int32) (L : List Nat) (c : Nat) : upd (mkF f L) c (1 &&& 1) = mkF f (L ++ [c]) := by
  funext j
  unfold upd mkF
  by_cases h : j = c
  · subst h
    rw [if_pos rfl, if_pos (by simp)]
    rfl
  · rw [if_neg h]
    by_cases h2 : j ∈ L
    · rw [if_pos h2, if_pos (List.mem_append_left _ h2)]
    · rw [if_neg h2, if_neg (by simp [h2, h])]
theorem mkF_nil (f : Nat → Int32) : mkF f [] = f := by funext j; simp [mkF]
theorem l_markK {sl : Int32} {cu ba r0 r1 r2 r3 : Q4} {sw : Nat → Int64} {bt : Int32} {cnt inn lk wd kp wr mk ls pth tk : Nat → Int32} {tl : List mC} {L : List Nat} (hL : ∀ c ∈ L, c < 800) (hlen : L.length ≤ 800) (a : Int32) : ∀ (r b : List Nat) (v5 : Value), L = b ++ r → EvF m_X0_markTree (mQm m_X0_markTree (.inl none) (cW sl cu ba r0 r1 r2 r3 sw bt cnt inn lk wd (mkF kp L) wr mk (fillL ls L) pth tk tl)) 9 [.ref 1, .ref 6, .int a, .int (nI L.length), .int (nI b.length), v5] [] 0 0 (cW sl cu ba r0 r1 r2 r3 sw bt cnt inn lk wd (mkF kp b) wr mk (fillL ls L) pth tk tl) := by
  intro r
  induction r with
  | nil =>
    intro b v5 hb
    rw [List.append_nil] at hb
    subst hb
    refine ev_iload (pc := 9) dX0_markTree_9 rfl ?_
    refine ev_sipush (pc := 11) (v := 800) dX0_markTree_11 (by decide) ?_
    refine ev_ic_ge (pc := 14) (tgt := 55) dX0_markTree_14 (by decide) (fun c_14 => ?_) (fun c_14 => ?_)
    · exact ev_vretE (pc := 55) dX0_markTree_55 rfl ⟨Nat.le_of_ble_eq_true rfl, Nat.le_of_ble_eq_true rfl⟩ rfl
    · refine ev_iload (pc := 17) dX0_markTree_17 rfl ?_
      refine ev_iload_n (pc := 19) dX0_markTree_19 rfl rfl ?_
      refine ev_ic_ge (pc := 20) (tgt := 55) dX0_markTree_20 (by decide) (fun _ => ?_) (fun c_20 => absurd (by exact nI_le (Nat.le_refl _) (by omega)) c_20)
      exact ev_vretE (pc := 55) dX0_markTree_55 rfl ⟨Nat.le_of_ble_eq_true rfl, Nat.le_of_ble_eq_true rfl⟩ rfl
  | cons c r ih =>
    intro b v5 hb
    have hle : b.length < L.length := by rw [hb]; simp
    have hx : L[b.length]? = some c := by rw [hb, List.getElem?_append_right (Nat.le_refl _), Nat.sub_self]; rfl
    have hc := hL c (List.mem_of_getElem? hx)
    refine ev_iload (pc := 9) dX0_markTree_9 rfl ?_
    refine ev_sipush (pc := 11) (v := 800) dX0_markTree_11 (by decide) ?_
    refine ev_ic_ge (pc := 14) (tgt := 55) dX0_markTree_14 (by decide) (fun c_14 => absurd c_14 (hp8 (show b.length < 800 by omega))) (fun _ => ?_)
    refine ev_iload (pc := 17) dX0_markTree_17 rfl ?_
    refine ev_iload_n (pc := 19) dX0_markTree_19 rfl rfl ?_
    refine ev_ic_ge (pc := 20) (tgt := 55) dX0_markTree_20 (by decide) (fun c_20 => absurd c_20 (nI_ge hle (by omega))) (fun _ => ?_)
    refine ev_aload_n (pc := 23) dX0_markTree_23 rfl rfl ?_
    refine ev_get (pc := 24) dX0_markTree_24 fd_X0_34 rfl rfl ?_
    refine ev_iload (pc := 27) dX0_markTree_27 rfl ?_
    refine ev_ialdN (pc := 29) dX0_markTree_29 rfl ⟨rfl, by omega, by decide⟩ (fillL_at hx) ?_
    refine ev_istore (pc := 30) dX0_markTree_30 rfl rfl ?_
    refine ev_iload (pc := 32) dX0_markTree_32 rfl ?_
    refine ev_if_lt (pc := 34) (tgt := 49) dX0_markTree_34 (by decide) (fun c_34 => absurd c_34 (hp0 hc)) (fun _ => ?_)
    refine ev_iload (pc := 37) dX0_markTree_37 rfl ?_
    refine ev_aload_n (pc := 39) dX0_markTree_39 rfl rfl ?_
    refine ev_alen (pc := 40) dX0_markTree_40 rfl (by decide) ?_
    refine ev_ic_ge (pc := 41) (tgt := 49) dX0_markTree_41 (by decide) (fun c_41 => absurd c_41 (hp8 hc)) (fun _ => ?_)
    refine ev_aload_n (pc := 44) dX0_markTree_44 rfl rfl ?_
    refine ev_iload (pc := 45) dX0_markTree_45 rfl ?_
    refine ev_iconst (pc := 47) (v := 1) dX0_markTree_47 (by decide) ?_
    refine ev_zastN (pc := 48) dX0_markTree_48 rfl ⟨rfl, hc, by decide⟩ (mkF_snoc kp b c) rfl ?_
    refine ev_iinc (pc := 49) dX0_markTree_49 rfl rfl rfl ?_
    refine ev_goto (pc := 52) (tgt := 9) dX0_markTree_52 (by decide) ?_
    rw [nI_i1]
    have h9 := ih (b ++ [c]) (.int (nI c)) (by rw [hb]; simp)
    rw [List.length_append (as := b), List.length_singleton] at h9
    exact h9
theorem s_markK {sl : Int32} {cu ba r0 r1 r2 r3 : Q4} {sw : Nat → Int64} {bt : Int32} {cnt inn lk wd kp wr mk ls pth tk : Nat → Int32} {tl : List mC} (hR : Rp cnt inn lk wd T U) {d p : Nat} (hf : rt T U d p) (hlen : (bfs T d [p]).length ≤ 800) : EvS m_X0_markTree [.ref 1, .ref 6, .int (nI p)] (cW sl cu ba r0 r1 r2 r3 sw bt cnt inn lk wd kp wr mk ls pth tk tl) (.inl none) (cW sl cu ba r0 r1 r2 r3 sw bt cnt inn lk wd (mkF kp (bfs T d [p])) wr mk (fillL ls (bfs T d [p])) pth tk tl) := by
  have hL : ∀ c ∈ bfs T d [p], c < 800 := fun c hc => (hR c (bfs_U d [p] (fun q hq => by rw [List.mem_singleton.mp hq]; exact hf) c hc).1).1
  refine evs_of (by decide +kernel) (Nat.le_of_ble_eq_true rfl) (by decide) rfl ?_
  refine ev_aload_n (pc := 0) dX0_markTree_0 rfl rfl ?_
  refine ev_iload_n (pc := 1) dX0_markTree_1 rfl rfl ?_
  refine cV1 (pc := 2) lk_X0_markTree_2 rfl rfl rfl (Nat.le_of_ble_eq_true rfl) ⟨Nat.le_of_ble_eq_true rfl, Nat.le_of_ble_eq_true rfl⟩ (s_listTree hR hf hlen) ?_
  refine ev_istore_n (pc := 5) dX0_markTree_5 rfl rfl rfl ?_
  refine ev_iconst (pc := 6) (v := 0) dX0_markTree_6 (by decide) ?_
  refine ev_istore (pc := 7) dX0_markTree_7 rfl rfl ?_
  have h9 := l_markK (sl := sl) (cu := cu) (ba := ba) (r0 := r0) (r1 := r1) (r2 := r2) (r3 := r3) (sw := sw) (bt := bt) (cnt := cnt) (inn := inn) (lk := lk) (wd := wd) (kp := kp) (wr := wr) (mk := mk) (ls := ls) (pth := pth) (tk := tk) (tl := tl) hL hlen (nI p) (bfs T d [p]) [] hole rfl
  rw [mkF_nil] at h9
  exact h9
theorem l_markM {sl : Int32} {cu ba r0 r1 r2 r3 : Q4} {sw : Nat → Int64} {bt : Int32} {cnt inn lk wd kp wr mk ls pth tk : Nat → Int32} {tl : List mC} {L : List Nat} (hL : ∀ c ∈ L, c < 800) (hlen : L.length ≤ 800) (a : Int32) : ∀ (r b : List Nat) (v5 : Value), L = b ++ r → EvF m_X0_markTree (mQm m_X0_markTree (.inl none) (cW sl cu ba r0 r1 r2 r3 sw bt cnt inn lk wd kp wr (mkF mk L) (fillL ls L) pth tk tl)) 9 [.ref 1, .ref 8, .int a, .int (nI L.length), .int (nI b.length), v5] [] 0 0 (cW sl cu ba r0 r1 r2 r3 sw bt cnt inn lk wd kp wr (mkF mk b) (fillL ls L) pth tk tl) := by
  intro r
  induction r with
  | nil =>
    intro b v5 hb
    rw [List.append_nil] at hb
    subst hb
    refine ev_iload (pc := 9) dX0_markTree_9 rfl ?_
    refine ev_sipush (pc := 11) (v := 800) dX0_markTree_11 (by decide) ?_
    refine ev_ic_ge (pc := 14) (tgt := 55) dX0_markTree_14 (by decide) (fun c_14 => ?_) (fun c_14 => ?_)
    · exact ev_vretE (pc := 55) dX0_markTree_55 rfl ⟨Nat.le_of_ble_eq_true rfl, Nat.le_of_ble_eq_true rfl⟩ rfl
    · refine ev_iload (pc := 17) dX0_markTree_17 rfl ?_
      refine ev_iload_n (pc := 19) dX0_markTree_19 rfl rfl ?_
      refine ev_ic_ge (pc := 20) (tgt := 55) dX0_markTree_20 (by decide) (fun _ => ?_) (fun c_20 => absurd (by exact nI_le (Nat.le_refl _) (by omega)) c_20)
      exact ev_vretE (pc := 55) dX0_markTree_55 rfl ⟨Nat.le_of_ble_eq_true rfl, Nat.le_of_ble_eq_true rfl⟩ rfl
  | cons c r ih =>
    intro b v5 hb
    have hle : b.length < L.length := by rw [hb]; simp
    have hx : L[b.length]? = some c := by rw [hb, List.getElem?_append_right (Nat.le_refl _), Nat.sub_self]; rfl
    have hc := hL c (List.mem_of_getElem? hx)
    refine ev_iload (pc := 9) dX0_markTree_9 rfl ?_
    refine ev_sipush (pc := 11) (v := 800) dX0_markTree_11 (by decide) ?_
    refine ev_ic_ge (pc := 14) (tgt := 55) dX0_markTree_14 (by decide) (fun c_14 => absurd c_14 (hp8 (show b.length < 800 by omega))) (fun _ => ?_)
    refine ev_iload (pc := 17) dX0_markTree_17 rfl ?_
    refine ev_iload_n (pc := 19) dX0_markTree_19 rfl rfl ?_
    refine ev_ic_ge (pc := 20) (tgt := 55) dX0_markTree_20 (by decide) (fun c_20 => absurd c_20 (nI_ge hle (by omega))) (fun _ => ?_)
    refine ev_aload_n (pc := 23) dX0_markTree_23 rfl rfl ?_
    refine ev_get (pc := 24) dX0_markTree_24 fd_X0_34 rfl rfl ?_
    refine ev_iload (pc := 27) dX0_markTree_27 rfl ?_
    refine ev_ialdN (pc := 29) dX0_markTree_29 rfl ⟨rfl, by omega, by decide⟩ (fillL_at hx) ?_
    refine ev_istore (pc := 30) dX0_markTree_30 rfl rfl ?_
    refine ev_iload (pc := 32) dX0_markTree_32 rfl ?_
    refine ev_if_lt (pc := 34) (tgt := 49) dX0_markTree_34 (by decide) (fun c_34 => absurd c_34 (hp0 hc)) (fun _ => ?_)
    refine ev_iload (pc := 37) dX0_markTree_37 rfl ?_
    refine ev_aload_n (pc := 39) dX0_markTree_39 rfl rfl ?_
    refine ev_alen (pc := 40) dX0_markTree_40 rfl (by decide) ?_
    refine ev_ic_ge (pc := 41) (tgt := 49) dX0_markTree_41 (by decide) (fun c_41 => absurd c_41 (hp8 hc)) (fun _ => ?_)
    refine ev_aload_n (pc := 44) dX0_markTree_44 rfl rfl ?_
    refine ev_iload (pc := 45) dX0_markTree_45 rfl ?_
    refine ev_iconst (pc := 47) (v := 1) dX0_markTree_47 (by decide) ?_
    refine ev_zastN (pc := 48) dX0_markTree_48 rfl ⟨rfl, hc, by decide⟩ (mkF_snoc mk b c) rfl ?_
    refine ev_iinc (pc := 49) dX0_markTree_49 rfl rfl rfl ?_
    refine ev_goto (pc := 52) (tgt := 9) dX0_markTree_52 (by decide) ?_
    rw [nI_i1]
    have h9 := ih (b ++ [c]) (.int (nI c)) (by rw [hb]; simp)
    rw [List.length_append (as := b), List.length_singleton] at h9
    exact h9
theorem s_markM {sl : Int32} {cu ba r0 r1 r2 r3 : Q4} {sw : Nat → Int64} {bt : Int32} {cnt inn lk wd kp wr mk ls pth tk : Nat → Int32} {tl : List mC} (hR : Rp cnt inn lk wd T U) {d p : Nat} (hf : rt T U d p) (hlen : (bfs T d [p]).length ≤ 800) : EvS m_X0_markTree [.ref 1, .ref 8, .int (nI p)] (cW sl cu ba r0 r1 r2 r3 sw bt cnt inn lk wd kp wr mk ls pth tk tl) (.inl none) (cW sl cu ba r0 r1 r2 r3 sw bt cnt inn lk wd kp wr (mkF mk (bfs T d [p])) (fillL ls (bfs T d [p])) pth tk tl) := by
  have hL : ∀ c ∈ bfs T d [p], c < 800 := fun c hc => (hR c (bfs_U d [p] (fun q hq => by rw [List.mem_singleton.mp hq]; exact hf) c hc).1).1
  refine evs_of (by decide +kernel) (Nat.le_of_ble_eq_true rfl) (by decide) rfl ?_
  refine ev_aload_n (pc := 0) dX0_markTree_0 rfl rfl ?_
  refine ev_iload_n (pc := 1) dX0_markTree_1 rfl rfl ?_
  refine cV1 (pc := 2) lk_X0_markTree_2 rfl rfl rfl (Nat.le_of_ble_eq_true rfl) ⟨Nat.le_of_ble_eq_true rfl, Nat.le_of_ble_eq_true rfl⟩ (s_listTree hR hf hlen) ?_
  refine ev_istore_n (pc := 5) dX0_markTree_5 rfl rfl rfl ?_
  refine ev_iconst (pc := 6) (v := 0) dX0_markTree_6 (by decide) ?_
  refine ev_istore (pc := 7) dX0_markTree_7 rfl rfl ?_
  have h9 := l_markM (sl := sl) (cu := cu) (ba := ba) (r0 := r0) (r1 := r1) (r2 := r2) (r3 := r3) (sw := sw) (bt := bt) (cnt := cnt) (inn := inn) (lk := lk) (wd := wd) (kp := kp) (wr := wr) (mk := mk) (ls := ls) (pth := pth) (tk := tk) (tl := tl) hL hlen (nI p) (bfs T d [p]) [] hole rfl
  rw [mkF_nil] at h9
  exact h9
/-- how many of the listed pages are marked -/
def cmk (mk : Nat → Int32) : List Nat → Nat
  | [] => 0
  | c :: r => (if mk c = 0 then 0 else 1) + cmk mk r
theorem cmk_le (mk : Nat → Int32) : ∀ L : List Nat, cmk mk L ≤ L.length
  | [] => Nat.le_refl _
  | c :: r => by
    have := cmk_le mk r
    unfold cmk
    split <;> simp only [List.length_cons] <;> omega
theorem l_countMarked {sl : Int32} {cu ba r0 r1 r2 r3 : Q4} {sw : Nat → Int64} {bt : Int32} {cnt inn lk wd kp wr mk ls pth tk : Nat → Int32} {tl : List mC} {L : List Nat} (hL : ∀ c ∈ L, c < 800) (hlen : L.length ≤ 800) (a : Int32) : ∀ (r b : List Nat) (v5 : Value) (s : Nat), L = b ++ r → EvF m_X0_countMarked (mQm m_X0_countMarked (.inl (some (.int (nI (s + cmk mk r))))) (cW sl cu ba r0 r1 r2 r3 sw bt cnt inn lk wd kp wr mk (fillL ls L) pth tk tl)) 11 [.ref 1, .int a, .int (nI L.length), .int (nI s), .int (nI b.length), v5] [] 0 0 (cW sl cu ba r0 r1 r2 r3 sw bt cnt inn lk wd kp wr mk (fillL ls L) pth tk tl) := by
  intro r
  induction r with
  | nil =>
    intro b v5 s hb
    rw [List.append_nil] at hb
    subst hb
    refine ev_iload (pc := 11) dX0_countMarked_11 rfl ?_
    refine ev_sipush (pc := 13) (v := 800) dX0_countMarked_13 (by decide) ?_
    refine ev_ic_ge (pc := 16) (tgt := 66) dX0_countMarked_16 (by decide) (fun c_16 => ?_) (fun c_16 => ?_)
    · refine ev_iload_n (pc := 66) dX0_countMarked_66 rfl rfl ?_
      exact ev_iretE (pc := 67) dX0_countMarked_67 rfl ⟨Nat.le_of_ble_eq_true rfl, Nat.le_of_ble_eq_true rfl⟩ rfl rfl
    · refine ev_iload (pc := 19) dX0_countMarked_19 rfl ?_
      refine ev_iload_n (pc := 21) dX0_countMarked_21 rfl rfl ?_
      refine ev_ic_ge (pc := 22) (tgt := 66) dX0_countMarked_22 (by decide) (fun _ => ?_) (fun c_22 => absurd (by exact nI_le (Nat.le_refl _) (by omega)) c_22)
      refine ev_iload_n (pc := 66) dX0_countMarked_66 rfl rfl ?_
      exact ev_iretE (pc := 67) dX0_countMarked_67 rfl ⟨Nat.le_of_ble_eq_true rfl, Nat.le_of_ble_eq_true rfl⟩ rfl rfl
  | cons c r ih =>
    intro b v5 s hb
    have hle : b.length < L.length := by rw [hb]; simp
    have hx : L[b.length]? = some c := by rw [hb, List.getElem?_append_right (Nat.le_refl _), Nat.sub_self]; rfl
    have hc := hL c (List.mem_of_getElem? hx)
    have h8 := fun s => ih (b ++ [c]) (.int (nI c)) s (by rw [hb]; simp)
    simp only [List.length_append (as := b), List.length_singleton] at h8
    refine ev_iload (pc := 11) dX0_countMarked_11 rfl ?_
    refine ev_sipush (pc := 13) (v := 800) dX0_countMarked_13 (by decide) ?_
    refine ev_ic_ge (pc := 16) (tgt := 66) dX0_countMarked_16 (by decide) (fun c_16 => absurd c_16 (hp8 (show b.length < 800 by omega))) (fun _ => ?_)
    refine ev_iload (pc := 19) dX0_countMarked_19 rfl ?_
    refine ev_iload_n (pc := 21) dX0_countMarked_21 rfl rfl ?_
    refine ev_ic_ge (pc := 22) (tgt := 66) dX0_countMarked_22 (by decide) (fun c_22 => absurd c_22 (nI_ge hle (by omega))) (fun _ => ?_)
    refine ev_aload_n (pc := 25) dX0_countMarked_25 rfl rfl ?_
    refine ev_get (pc := 26) dX0_countMarked_26 fd_X0_34 rfl rfl ?_
    refine ev_iload (pc := 29) dX0_countMarked_29 rfl ?_
    refine ev_ialdN (pc := 31) dX0_countMarked_31 rfl ⟨rfl, by omega, by decide⟩ (fillL_at hx) ?_
    refine ev_istore (pc := 32) dX0_countMarked_32 rfl rfl ?_
    refine ev_iload (pc := 34) dX0_countMarked_34 rfl ?_
    refine ev_if_lt (pc := 36) (tgt := 60) dX0_countMarked_36 (by decide) (fun c_36 => absurd c_36 (hp0 hc)) (fun _ => ?_)
    refine ev_iload (pc := 39) dX0_countMarked_39 rfl ?_
    refine ev_sipush (pc := 41) (v := 800) dX0_countMarked_41 (by decide) ?_
    refine ev_ic_ge (pc := 44) (tgt := 60) dX0_countMarked_44 (by decide) (fun c_44 => absurd c_44 (hp8 hc)) (fun _ => ?_)
    refine ev_aload_n (pc := 47) dX0_countMarked_47 rfl rfl ?_
    refine ev_get (pc := 48) dX0_countMarked_48 fd_X0_31 rfl rfl ?_
    refine ev_iload (pc := 51) dX0_countMarked_51 rfl ?_
    refine ev_zaldN (pc := 53) dX0_countMarked_53 rfl ⟨rfl, hc, by decide⟩ rfl ?_
    refine ev_if_eq (pc := 54) (tgt := 60) dX0_countMarked_54 (by decide) (fun c_54 => ?_) (fun c_54 => ?_)
    · refine ev_iinc (pc := 60) dX0_countMarked_60 rfl rfl rfl ?_
      refine ev_goto (pc := 63) (tgt := 11) dX0_countMarked_63 (by decide) ?_
      rw [nI_i1]
      have e9 : cmk mk (c :: r) = cmk mk r := by simp only [cmk]; rw [if_pos c_54, Nat.zero_add]
      rw [e9]
      exact h8 s
    · refine ev_iinc (pc := 57) dX0_countMarked_57 rfl rfl rfl ?_
      refine ev_iinc (pc := 60) dX0_countMarked_60 rfl rfl rfl ?_
      refine ev_goto (pc := 63) (tgt := 11) dX0_countMarked_63 (by decide) ?_
      rw [nI_i1, nI_i1]
      have e9 : s + cmk mk (c :: r) = s + 1 + cmk mk r := by simp only [cmk]; rw [if_neg c_54]; omega
      rw [e9]
      exact h8 (s + 1)
theorem s_countMarked {sl : Int32} {cu ba r0 r1 r2 r3 : Q4} {sw : Nat → Int64} {bt : Int32} {cnt inn lk wd kp wr mk ls pth tk : Nat → Int32} {tl : List mC} (hR : Rp cnt inn lk wd T U) {d p : Nat} (hf : rt T U d p) (hlen : (bfs T d [p]).length ≤ 800) : EvS m_X0_countMarked [.ref 1, .int (nI p)] (cW sl cu ba r0 r1 r2 r3 sw bt cnt inn lk wd kp wr mk ls pth tk tl) (.inl (some (.int (nI (cmk mk (bfs T d [p])))))) (cW sl cu ba r0 r1 r2 r3 sw bt cnt inn lk wd kp wr mk (fillL ls (bfs T d [p])) pth tk tl) := by
  have hL : ∀ c ∈ bfs T d [p], c < 800 := fun c hc => (hR c (bfs_U d [p] (fun q hq => by rw [List.mem_singleton.mp hq]; exact hf) c hc).1).1
  refine evs_of (by decide +kernel) (Nat.le_of_ble_eq_true rfl) (by decide) rfl ?_
  refine ev_aload_n (pc := 0) dX0_countMarked_0 rfl rfl ?_
  refine ev_iload_n (pc := 1) dX0_countMarked_1 rfl rfl ?_
  refine cV1 (pc := 2) lk_X0_countMarked_2 rfl rfl rfl (Nat.le_of_ble_eq_true rfl) ⟨Nat.le_of_ble_eq_true rfl, Nat.le_of_ble_eq_true rfl⟩ (s_listTree hR hf hlen) ?_
  refine ev_istore_n (pc := 5) dX0_countMarked_5 rfl rfl rfl ?_
  refine ev_iconst (pc := 6) (v := 0) dX0_countMarked_6 (by decide) ?_
  refine ev_istore_n (pc := 7) dX0_countMarked_7 rfl rfl rfl ?_
  refine ev_iconst (pc := 8) (v := 0) dX0_countMarked_8 (by decide) ?_
  refine ev_istore (pc := 9) dX0_countMarked_9 rfl rfl ?_
  have h9 := l_countMarked (sl := sl) (cu := cu) (ba := ba) (r0 := r0) (r1 := r1) (r2 := r2) (r3 := r3) (sw := sw) (bt := bt) (cnt := cnt) (inn := inn) (lk := lk) (wd := wd) (kp := kp) (wr := wr) (mk := mk) (ls := ls) (pth := pth) (tk := tk) (tl := tl) hL hlen (nI p) (bfs T d [p]) [] hole 0 rfl
  rw [Nat.zero_add] at h9
  exact h9
/-- the least key from one on, over a tree's listed pages -/
def lkf (T : Nat → Nd) : List Nat → Int32 → Int32
  | [], _ => -1
  | p :: r, key => match T p with
    | .inr _ => lkf T r key
    | .inl l => match l[plc l key]? with
      | some x => nI x.1
      | none => lkf T r key
def ksb (T : Nat → Nd) : List Nat → Int32 → Nat
  | [], _ => 0
  | p :: r, key => (match T p with
    | .inr _ => 0
    | .inl l => plc l key) + ksb T r key
theorem l_leastKeyFrom {sl : Int32} {cu ba r0 r1 r2 r3 : Q4} {sw : Nat → Int64} {bt : Int32} {cnt inn lk wd kp wr mk ls pth tk : Nat → Int32} {tl : List mC} (hR : Rp cnt inn lk wd T U) {L : List Nat} (hL : ∀ c ∈ L, U c) (hlen : L.length ≤ 800) (a key : Int32) : ∀ (r b : List Nat) (v5 v6 : Value), L = b ++ r → EvF m_X0_leastKeyFrom (mQm m_X0_leastKeyFrom (.inl (some (.int (lkf T r key)))) (cW sl cu ba r0 r1 r2 r3 sw bt cnt inn lk wd kp wr mk (fillL ls L) pth tk tl)) 9 [.ref 1, .int a, .int key, .int (nI L.length), .int (nI b.length), v5, v6] [] 0 0 (cW sl cu ba r0 r1 r2 r3 sw bt cnt inn lk wd kp wr mk (fillL ls L) pth tk tl) := by
  intro r
  induction r with
  | nil =>
    intro b v5 v6 hb
    rw [List.append_nil] at hb
    subst hb
    refine ev_iload (pc := 9) dX0_leastKeyFrom_9 rfl ?_
    refine ev_sipush (pc := 11) (v := 800) dX0_leastKeyFrom_11 (by decide) ?_
    refine ev_ic_ge (pc := 14) (tgt := 80) dX0_leastKeyFrom_14 (by decide) (fun c_14 => ?_) (fun c_14 => ?_)
    · refine ev_iconst (pc := 80) (v := (-1)) dX0_leastKeyFrom_80 (by decide) ?_
      exact ev_iretE (pc := 81) dX0_leastKeyFrom_81 rfl ⟨Nat.le_of_ble_eq_true rfl, Nat.le_of_ble_eq_true rfl⟩ rfl rfl
    · refine ev_iload (pc := 17) dX0_leastKeyFrom_17 rfl ?_
      refine ev_iload_n (pc := 19) dX0_leastKeyFrom_19 rfl rfl ?_
      refine ev_ic_ge (pc := 20) (tgt := 80) dX0_leastKeyFrom_20 (by decide) (fun _ => ?_) (fun c_20 => absurd (by exact nI_le (Nat.le_refl _) (by omega)) c_20)
      refine ev_iconst (pc := 80) (v := (-1)) dX0_leastKeyFrom_80 (by decide) ?_
      exact ev_iretE (pc := 81) dX0_leastKeyFrom_81 rfl ⟨Nat.le_of_ble_eq_true rfl, Nat.le_of_ble_eq_true rfl⟩ rfl rfl
  | cons c r ih =>
    intro b v5 v6 hb
    have hle : b.length < L.length := by rw [hb]; simp
    have hx : L[b.length]? = some c := by rw [hb, List.getElem?_append_right (Nat.le_refl _), Nat.sub_self]; rfl
    have hu := hL c (List.mem_of_getElem? hx)
    have h8 := fun v6 => ih (b ++ [c]) (.int (nI c)) v6 (by rw [hb]; simp)
    simp only [List.length_append (as := b), List.length_singleton] at h8
    cases ht : T c with
    | inl l =>
      obtain ⟨hp, hi, hl5, hc, hr⟩ := hR.leaf hu ht
      have hpl := plc_le l key
      cases hg : l[plc l key]? with
      | none =>
        have e9 : lkf T (c :: r) key = lkf T r key := by simp [lkf, ht, hg]
        rw [e9]
        have hge := List.getElem?_eq_none_iff.mp hg
        refine ev_iload (pc := 9) dX0_leastKeyFrom_9 rfl ?_
        refine ev_sipush (pc := 11) (v := 800) dX0_leastKeyFrom_11 (by decide) ?_
        refine ev_ic_ge (pc := 14) (tgt := 80) dX0_leastKeyFrom_14 (by decide) (fun c_14 => absurd c_14 (hp8 (show b.length < 800 by omega))) (fun _ => ?_)
        refine ev_iload (pc := 17) dX0_leastKeyFrom_17 rfl ?_
        refine ev_iload_n (pc := 19) dX0_leastKeyFrom_19 rfl rfl ?_
        refine ev_ic_ge (pc := 20) (tgt := 80) dX0_leastKeyFrom_20 (by decide) (fun c_20 => absurd c_20 (nI_ge hle (by omega))) (fun _ => ?_)
        refine ev_aload_n (pc := 23) dX0_leastKeyFrom_23 rfl rfl ?_
        refine ev_get (pc := 24) dX0_leastKeyFrom_24 fd_X0_34 rfl rfl ?_
        refine ev_iload (pc := 27) dX0_leastKeyFrom_27 rfl ?_
        refine ev_ialdN (pc := 29) dX0_leastKeyFrom_29 rfl ⟨rfl, by omega, by decide⟩ (fillL_at hx) ?_
        refine ev_istore (pc := 30) dX0_leastKeyFrom_30 rfl rfl ?_
        refine ev_aload_n (pc := 32) dX0_leastKeyFrom_32 rfl rfl ?_
        refine ev_iload (pc := 33) dX0_leastKeyFrom_33 rfl ?_
        refine cV1 (pc := 35) lk_X0_leastKeyFrom_35 rfl rfl rfl (Nat.le_of_ble_eq_true rfl) ⟨Nat.le_of_ble_eq_true rfl, Nat.le_of_ble_eq_true rfl⟩ (s_isLeafT hp hi) ?_
        refine ev_if_eq (pc := 38) (tgt := 51) dX0_leastKeyFrom_38 (by decide) (fun c_38 => absurd c_38 (by decide)) (fun _ => ?_)
        refine ev_aload_n (pc := 41) dX0_leastKeyFrom_41 rfl rfl ?_
        refine ev_iload (pc := 42) dX0_leastKeyFrom_42 rfl ?_
        refine ev_iload_n (pc := 44) dX0_leastKeyFrom_44 rfl rfl ?_
        refine cV2 (pc := 45) lk_X0_leastKeyFrom_45 rfl rfl rfl (Nat.le_of_ble_eq_true rfl) ⟨Nat.le_of_ble_eq_true rfl, Nat.le_of_ble_eq_true rfl⟩ (s_placeOf hR hu ht key) ?_
        refine ev_goto (pc := 48) (tgt := 52) dX0_leastKeyFrom_48 (by decide) ?_
        refine ev_istore (pc := 52) dX0_leastKeyFrom_52 rfl rfl ?_
        refine ev_iload (pc := 54) dX0_leastKeyFrom_54 rfl ?_
        refine ev_aload_n (pc := 56) dX0_leastKeyFrom_56 rfl rfl ?_
        refine ev_iload (pc := 57) dX0_leastKeyFrom_57 rfl ?_
        refine cV1 (pc := 59) lk_X0_leastKeyFrom_59 rfl rfl rfl (Nat.le_of_ble_eq_true rfl) ⟨Nat.le_of_ble_eq_true rfl, Nat.le_of_ble_eq_true rfl⟩ (s_countOf hp hc) ?_
        refine ev_ic_ge (pc := 62) (tgt := 74) dX0_leastKeyFrom_62 (by decide) (fun _ => ?_) (fun c_62 => absurd (by exact nI_le hge (by omega)) c_62)
        refine ev_iinc (pc := 74) dX0_leastKeyFrom_74 rfl rfl rfl ?_
        refine ev_goto (pc := 77) (tgt := 9) dX0_leastKeyFrom_77 (by decide) ?_
        rw [nI_i1]
        exact h8 _
      | some x =>
        have e9 : lkf T (c :: r) key = nI x.1 := by simp [lkf, ht, hg]
        rw [e9]
        have hlt := (List.getElem?_eq_some_iff.mp hg).1
        refine ev_iload (pc := 9) dX0_leastKeyFrom_9 rfl ?_
        refine ev_sipush (pc := 11) (v := 800) dX0_leastKeyFrom_11 (by decide) ?_
        refine ev_ic_ge (pc := 14) (tgt := 80) dX0_leastKeyFrom_14 (by decide) (fun c_14 => absurd c_14 (hp8 (show b.length < 800 by omega))) (fun _ => ?_)
        refine ev_iload (pc := 17) dX0_leastKeyFrom_17 rfl ?_
        refine ev_iload_n (pc := 19) dX0_leastKeyFrom_19 rfl rfl ?_
        refine ev_ic_ge (pc := 20) (tgt := 80) dX0_leastKeyFrom_20 (by decide) (fun c_20 => absurd c_20 (nI_ge hle (by omega))) (fun _ => ?_)
        refine ev_aload_n (pc := 23) dX0_leastKeyFrom_23 rfl rfl ?_
        refine ev_get (pc := 24) dX0_leastKeyFrom_24 fd_X0_34 rfl rfl ?_
        refine ev_iload (pc := 27) dX0_leastKeyFrom_27 rfl ?_
        refine ev_ialdN (pc := 29) dX0_leastKeyFrom_29 rfl ⟨rfl, by omega, by decide⟩ (fillL_at hx) ?_
        refine ev_istore (pc := 30) dX0_leastKeyFrom_30 rfl rfl ?_
        refine ev_aload_n (pc := 32) dX0_leastKeyFrom_32 rfl rfl ?_
        refine ev_iload (pc := 33) dX0_leastKeyFrom_33 rfl ?_
        refine cV1 (pc := 35) lk_X0_leastKeyFrom_35 rfl rfl rfl (Nat.le_of_ble_eq_true rfl) ⟨Nat.le_of_ble_eq_true rfl, Nat.le_of_ble_eq_true rfl⟩ (s_isLeafT hp hi) ?_
        refine ev_if_eq (pc := 38) (tgt := 51) dX0_leastKeyFrom_38 (by decide) (fun c_38 => absurd c_38 (by decide)) (fun _ => ?_)
        refine ev_aload_n (pc := 41) dX0_leastKeyFrom_41 rfl rfl ?_
        refine ev_iload (pc := 42) dX0_leastKeyFrom_42 rfl ?_
        refine ev_iload_n (pc := 44) dX0_leastKeyFrom_44 rfl rfl ?_
        refine cV2 (pc := 45) lk_X0_leastKeyFrom_45 rfl rfl rfl (Nat.le_of_ble_eq_true rfl) ⟨Nat.le_of_ble_eq_true rfl, Nat.le_of_ble_eq_true rfl⟩ (s_placeOf hR hu ht key) ?_
        refine ev_goto (pc := 48) (tgt := 52) dX0_leastKeyFrom_48 (by decide) ?_
        refine ev_istore (pc := 52) dX0_leastKeyFrom_52 rfl rfl ?_
        refine ev_iload (pc := 54) dX0_leastKeyFrom_54 rfl ?_
        refine ev_aload_n (pc := 56) dX0_leastKeyFrom_56 rfl rfl ?_
        refine ev_iload (pc := 57) dX0_leastKeyFrom_57 rfl ?_
        refine cV1 (pc := 59) lk_X0_leastKeyFrom_59 rfl rfl rfl (Nat.le_of_ble_eq_true rfl) ⟨Nat.le_of_ble_eq_true rfl, Nat.le_of_ble_eq_true rfl⟩ (s_countOf hp hc) ?_
        refine ev_ic_ge (pc := 62) (tgt := 74) dX0_leastKeyFrom_62 (by decide) (fun c_62 => absurd c_62 (nI_ge hlt (by omega))) (fun _ => ?_)
        refine ev_aload_n (pc := 65) dX0_leastKeyFrom_65 rfl rfl ?_
        refine ev_iload (pc := 66) dX0_leastKeyFrom_66 rfl ?_
        refine ev_iload (pc := 68) dX0_leastKeyFrom_68 rfl ?_
        refine cV2 (pc := 70) lk_X0_leastKeyFrom_70 rfl rfl rfl (Nat.le_of_ble_eq_true rfl) ⟨Nat.le_of_ble_eq_true rfl, Nat.le_of_ble_eq_true rfl⟩ (s_keyOfL hR hu ht hg) ?_
        exact ev_iretE (pc := 73) dX0_leastKeyFrom_73 rfl ⟨Nat.le_of_ble_eq_true rfl, Nat.le_of_ble_eq_true rfl⟩ rfl rfl
    | inr l =>
      obtain ⟨hp, hi, hl5, hc, hr⟩ := hR.inner hu ht
      have e9 : lkf T (c :: r) key = lkf T r key := by simp [lkf, ht]
      rw [e9]
      refine ev_iload (pc := 9) dX0_leastKeyFrom_9 rfl ?_
      refine ev_sipush (pc := 11) (v := 800) dX0_leastKeyFrom_11 (by decide) ?_
      refine ev_ic_ge (pc := 14) (tgt := 80) dX0_leastKeyFrom_14 (by decide) (fun c_14 => absurd c_14 (hp8 (show b.length < 800 by omega))) (fun _ => ?_)
      refine ev_iload (pc := 17) dX0_leastKeyFrom_17 rfl ?_
      refine ev_iload_n (pc := 19) dX0_leastKeyFrom_19 rfl rfl ?_
      refine ev_ic_ge (pc := 20) (tgt := 80) dX0_leastKeyFrom_20 (by decide) (fun c_20 => absurd c_20 (nI_ge hle (by omega))) (fun _ => ?_)
      refine ev_aload_n (pc := 23) dX0_leastKeyFrom_23 rfl rfl ?_
      refine ev_get (pc := 24) dX0_leastKeyFrom_24 fd_X0_34 rfl rfl ?_
      refine ev_iload (pc := 27) dX0_leastKeyFrom_27 rfl ?_
      refine ev_ialdN (pc := 29) dX0_leastKeyFrom_29 rfl ⟨rfl, by omega, by decide⟩ (fillL_at hx) ?_
      refine ev_istore (pc := 30) dX0_leastKeyFrom_30 rfl rfl ?_
      refine ev_aload_n (pc := 32) dX0_leastKeyFrom_32 rfl rfl ?_
      refine ev_iload (pc := 33) dX0_leastKeyFrom_33 rfl ?_
      refine cV1 (pc := 35) lk_X0_leastKeyFrom_35 rfl rfl rfl (Nat.le_of_ble_eq_true rfl) ⟨Nat.le_of_ble_eq_true rfl, Nat.le_of_ble_eq_true rfl⟩ (s_isLeafF hp hi) ?_
      refine ev_if_eq (pc := 38) (tgt := 51) dX0_leastKeyFrom_38 (by decide) (fun _ => ?_) (fun c_38 => absurd rfl c_38)
      refine ev_iconst (pc := 51) (v := 5) dX0_leastKeyFrom_51 (by decide) ?_
      refine ev_istore (pc := 52) dX0_leastKeyFrom_52 rfl rfl ?_
      refine ev_iload (pc := 54) dX0_leastKeyFrom_54 rfl ?_
      refine ev_aload_n (pc := 56) dX0_leastKeyFrom_56 rfl rfl ?_
      refine ev_iload (pc := 57) dX0_leastKeyFrom_57 rfl ?_
      refine cV1 (pc := 59) lk_X0_leastKeyFrom_59 rfl rfl rfl (Nat.le_of_ble_eq_true rfl) ⟨Nat.le_of_ble_eq_true rfl, Nat.le_of_ble_eq_true rfl⟩ (s_countOf hp hc) ?_
      refine ev_ic_ge (pc := 62) (tgt := 74) dX0_leastKeyFrom_62 (by decide) (fun _ => ?_) (fun c_62 => absurd (by exact nI_le hl5 (by decide)) c_62)
      refine ev_iinc (pc := 74) dX0_leastKeyFrom_74 rfl rfl rfl ?_
      refine ev_goto (pc := 77) (tgt := 9) dX0_leastKeyFrom_77 (by decide) ?_
      rw [nI_i1]
      exact h8 _
theorem s_leastKeyFrom {sl : Int32} {cu ba r0 r1 r2 r3 : Q4} {sw : Nat → Int64} {bt : Int32} {cnt inn lk wd kp wr mk ls pth tk : Nat → Int32} {tl : List mC} (hR : Rp cnt inn lk wd T U) {d p : Nat} (hf : rt T U d p) (hlen : (bfs T d [p]).length ≤ 800) (key : Int32) : EvS m_X0_leastKeyFrom [.ref 1, .int (nI p), .int key] (cW sl cu ba r0 r1 r2 r3 sw bt cnt inn lk wd kp wr mk ls pth tk tl) (.inl (some (.int (lkf T (bfs T d [p]) key)))) (cW sl cu ba r0 r1 r2 r3 sw bt cnt inn lk wd kp wr mk (fillL ls (bfs T d [p])) pth tk tl) := by
  have hL : ∀ c ∈ bfs T d [p], U c := fun c hc => (bfs_U d [p] (fun q hq => by rw [List.mem_singleton.mp hq]; exact hf) c hc).1
  refine evs_of (by decide +kernel) (Nat.le_of_ble_eq_true rfl) (by decide) rfl ?_
  refine ev_aload_n (pc := 0) dX0_leastKeyFrom_0 rfl rfl ?_
  refine ev_iload_n (pc := 1) dX0_leastKeyFrom_1 rfl rfl ?_
  refine cV1 (pc := 2) lk_X0_leastKeyFrom_2 rfl rfl rfl (Nat.le_of_ble_eq_true rfl) ⟨Nat.le_of_ble_eq_true rfl, Nat.le_of_ble_eq_true rfl⟩ (s_listTree hR hf hlen) ?_
  refine ev_istore_n (pc := 5) dX0_leastKeyFrom_5 rfl rfl rfl ?_
  refine ev_iconst (pc := 6) (v := 0) dX0_leastKeyFrom_6 (by decide) ?_
  refine ev_istore (pc := 7) dX0_leastKeyFrom_7 rfl rfl ?_
  exact l_leastKeyFrom hR hL hlen (nI p) key (bfs T d [p]) [] hole hole rfl
theorem l_keysBelow {sl : Int32} {cu ba r0 r1 r2 r3 : Q4} {sw : Nat → Int64} {bt : Int32} {cnt inn lk wd kp wr mk ls pth tk : Nat → Int32} {tl : List mC} (hR : Rp cnt inn lk wd T U) {L : List Nat} (hL : ∀ c ∈ L, U c) (hlen : L.length ≤ 800) (a key : Int32) : ∀ (r b : List Nat) (s : Nat), L = b ++ r → EvF m_X0_keysBelow (mQm m_X0_keysBelow (.inl (some (.int (nI (s + ksb T r key))))) (cW sl cu ba r0 r1 r2 r3 sw bt cnt inn lk wd kp wr mk (fillL ls L) pth tk tl)) 12 [.ref 1, .int a, .int key, .int (nI L.length), .int (nI s), .int (nI b.length)] [] 0 0 (cW sl cu ba r0 r1 r2 r3 sw bt cnt inn lk wd kp wr mk (fillL ls L) pth tk tl) := by
  intro r
  induction r with
  | nil =>
    intro b s hb
    rw [List.append_nil] at hb
    subst hb
    refine ev_iload (pc := 12) dX0_keysBelow_12 rfl ?_
    refine ev_sipush (pc := 14) (v := 800) dX0_keysBelow_14 (by decide) ?_
    refine ev_ic_ge (pc := 17) (tgt := 63) dX0_keysBelow_17 (by decide) (fun c_17 => ?_) (fun c_17 => ?_)
    · refine ev_iload (pc := 63) dX0_keysBelow_63 rfl ?_
      exact ev_iretE (pc := 65) dX0_keysBelow_65 rfl ⟨Nat.le_of_ble_eq_true rfl, Nat.le_of_ble_eq_true rfl⟩ rfl rfl
    · refine ev_iload (pc := 20) dX0_keysBelow_20 rfl ?_
      refine ev_iload_n (pc := 22) dX0_keysBelow_22 rfl rfl ?_
      refine ev_ic_ge (pc := 23) (tgt := 63) dX0_keysBelow_23 (by decide) (fun _ => ?_) (fun c_23 => absurd (by exact nI_le (Nat.le_refl _) (by omega)) c_23)
      refine ev_iload (pc := 63) dX0_keysBelow_63 rfl ?_
      exact ev_iretE (pc := 65) dX0_keysBelow_65 rfl ⟨Nat.le_of_ble_eq_true rfl, Nat.le_of_ble_eq_true rfl⟩ rfl rfl
  | cons c r ih =>
    intro b s hb
    have hle : b.length < L.length := by rw [hb]; simp
    have hx : L[b.length]? = some c := by rw [hb, List.getElem?_append_right (Nat.le_refl _), Nat.sub_self]; rfl
    have hu := hL c (List.mem_of_getElem? hx)
    have h8 := fun s => ih (b ++ [c]) s (by rw [hb]; simp)
    simp only [List.length_append (as := b), List.length_singleton] at h8
    cases ht : T c with
    | inl l =>
      obtain ⟨hp, hi, hl5, hc, hr⟩ := hR.leaf hu ht
      have e9 : s + ksb T (c :: r) key = s + plc l key + ksb T r key := by simp only [ksb, ht]; omega
      rw [e9]
      refine ev_iload (pc := 12) dX0_keysBelow_12 rfl ?_
      refine ev_sipush (pc := 14) (v := 800) dX0_keysBelow_14 (by decide) ?_
      refine ev_ic_ge (pc := 17) (tgt := 63) dX0_keysBelow_17 (by decide) (fun c_17 => absurd c_17 (hp8 (show b.length < 800 by omega))) (fun _ => ?_)
      refine ev_iload (pc := 20) dX0_keysBelow_20 rfl ?_
      refine ev_iload_n (pc := 22) dX0_keysBelow_22 rfl rfl ?_
      refine ev_ic_ge (pc := 23) (tgt := 63) dX0_keysBelow_23 (by decide) (fun c_23 => absurd c_23 (nI_ge hle (by omega))) (fun _ => ?_)
      refine ev_aload_n (pc := 26) dX0_keysBelow_26 rfl rfl ?_
      refine ev_aload_n (pc := 27) dX0_keysBelow_27 rfl rfl ?_
      refine ev_get (pc := 28) dX0_keysBelow_28 fd_X0_34 rfl rfl ?_
      refine ev_iload (pc := 31) dX0_keysBelow_31 rfl ?_
      refine ev_ialdN (pc := 33) dX0_keysBelow_33 rfl ⟨rfl, by omega, by decide⟩ (fillL_at hx) ?_
      refine cV1 (pc := 34) lk_X0_keysBelow_34 rfl rfl rfl (Nat.le_of_ble_eq_true rfl) ⟨Nat.le_of_ble_eq_true rfl, Nat.le_of_ble_eq_true rfl⟩ (s_isLeafT hp hi) ?_
      refine ev_if_eq (pc := 37) (tgt := 57) dX0_keysBelow_37 (by decide) (fun c_37 => absurd c_37 (by decide)) (fun _ => ?_)
      refine ev_iload (pc := 40) dX0_keysBelow_40 rfl ?_
      refine ev_aload_n (pc := 42) dX0_keysBelow_42 rfl rfl ?_
      refine ev_aload_n (pc := 43) dX0_keysBelow_43 rfl rfl ?_
      refine ev_get (pc := 44) dX0_keysBelow_44 fd_X0_34 rfl rfl ?_
      refine ev_iload (pc := 47) dX0_keysBelow_47 rfl ?_
      refine ev_ialdN (pc := 49) dX0_keysBelow_49 rfl ⟨rfl, by omega, by decide⟩ (fillL_at hx) ?_
      refine ev_iload_n (pc := 50) dX0_keysBelow_50 rfl rfl ?_
      refine cV2 (pc := 51) lk_X0_keysBelow_51 rfl rfl rfl (Nat.le_of_ble_eq_true rfl) ⟨Nat.le_of_ble_eq_true rfl, Nat.le_of_ble_eq_true rfl⟩ (s_placeOf hR hu ht key) ?_
      refine ev_iadd (pc := 54) dX0_keysBelow_54 ?_
      refine ev_istore (pc := 55) dX0_keysBelow_55 rfl rfl ?_
      refine ev_iinc (pc := 57) dX0_keysBelow_57 rfl rfl rfl ?_
      refine ev_goto (pc := 60) (tgt := 12) dX0_keysBelow_60 (by decide) ?_
      rw [nI_i1, nI_add]
      exact h8 _
    | inr l =>
      obtain ⟨hp, hi, hl5, hc, hr⟩ := hR.inner hu ht
      have e9 : s + ksb T (c :: r) key = s + ksb T r key := by simp only [ksb, ht]; omega
      rw [e9]
      refine ev_iload (pc := 12) dX0_keysBelow_12 rfl ?_
      refine ev_sipush (pc := 14) (v := 800) dX0_keysBelow_14 (by decide) ?_
      refine ev_ic_ge (pc := 17) (tgt := 63) dX0_keysBelow_17 (by decide) (fun c_17 => absurd c_17 (hp8 (show b.length < 800 by omega))) (fun _ => ?_)
      refine ev_iload (pc := 20) dX0_keysBelow_20 rfl ?_
      refine ev_iload_n (pc := 22) dX0_keysBelow_22 rfl rfl ?_
      refine ev_ic_ge (pc := 23) (tgt := 63) dX0_keysBelow_23 (by decide) (fun c_23 => absurd c_23 (nI_ge hle (by omega))) (fun _ => ?_)
      refine ev_aload_n (pc := 26) dX0_keysBelow_26 rfl rfl ?_
      refine ev_aload_n (pc := 27) dX0_keysBelow_27 rfl rfl ?_
      refine ev_get (pc := 28) dX0_keysBelow_28 fd_X0_34 rfl rfl ?_
      refine ev_iload (pc := 31) dX0_keysBelow_31 rfl ?_
      refine ev_ialdN (pc := 33) dX0_keysBelow_33 rfl ⟨rfl, by omega, by decide⟩ (fillL_at hx) ?_
      refine cV1 (pc := 34) lk_X0_keysBelow_34 rfl rfl rfl (Nat.le_of_ble_eq_true rfl) ⟨Nat.le_of_ble_eq_true rfl, Nat.le_of_ble_eq_true rfl⟩ (s_isLeafF hp hi) ?_
      refine ev_if_eq (pc := 37) (tgt := 57) dX0_keysBelow_37 (by decide) (fun _ => ?_) (fun c_37 => absurd rfl c_37)
      refine ev_iinc (pc := 57) dX0_keysBelow_57 rfl rfl rfl ?_
      refine ev_goto (pc := 60) (tgt := 12) dX0_keysBelow_60 (by decide) ?_
      rw [nI_i1]
      exact h8 _
theorem s_keysBelow {sl : Int32} {cu ba r0 r1 r2 r3 : Q4} {sw : Nat → Int64} {bt : Int32} {cnt inn lk wd kp wr mk ls pth tk : Nat → Int32} {tl : List mC} (hR : Rp cnt inn lk wd T U) {d p : Nat} (hf : rt T U d p) (hlen : (bfs T d [p]).length ≤ 800) (key : Int32) : EvS m_X0_keysBelow [.ref 1, .int (nI p), .int key] (cW sl cu ba r0 r1 r2 r3 sw bt cnt inn lk wd kp wr mk ls pth tk tl) (.inl (some (.int (nI (ksb T (bfs T d [p]) key))))) (cW sl cu ba r0 r1 r2 r3 sw bt cnt inn lk wd kp wr mk (fillL ls (bfs T d [p])) pth tk tl) := by
  have hL : ∀ c ∈ bfs T d [p], U c := fun c hc => (bfs_U d [p] (fun q hq => by rw [List.mem_singleton.mp hq]; exact hf) c hc).1
  refine evs_of (by decide +kernel) (Nat.le_of_ble_eq_true rfl) (by decide) rfl ?_
  refine ev_aload_n (pc := 0) dX0_keysBelow_0 rfl rfl ?_
  refine ev_iload_n (pc := 1) dX0_keysBelow_1 rfl rfl ?_
  refine cV1 (pc := 2) lk_X0_keysBelow_2 rfl rfl rfl (Nat.le_of_ble_eq_true rfl) ⟨Nat.le_of_ble_eq_true rfl, Nat.le_of_ble_eq_true rfl⟩ (s_listTree hR hf hlen) ?_
  refine ev_istore_n (pc := 5) dX0_keysBelow_5 rfl rfl rfl ?_
  refine ev_iconst (pc := 6) (v := 0) dX0_keysBelow_6 (by decide) ?_
  refine ev_istore (pc := 7) dX0_keysBelow_7 rfl rfl ?_
  refine ev_iconst (pc := 9) (v := 0) dX0_keysBelow_9 (by decide) ?_
  refine ev_istore (pc := 10) dX0_keysBelow_10 rfl rfl ?_
  have h9 := l_keysBelow (sl := sl) (cu := cu) (ba := ba) (r0 := r0) (r1 := r1) (r2 := r2) (r3 := r3) (sw := sw) (bt := bt) (kp := kp) (wr := wr) (mk := mk) (ls := ls) (pth := pth) (tk := tk) (tl := tl) hR hL hlen (nI p) key (bfs T d [p]) [] 0 rfl
  rw [Nat.zero_add] at h9
  exact h9
end P3
