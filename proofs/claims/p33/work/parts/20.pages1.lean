/-! Copperleaf$Pages: the small ones -/
theorem t800 : ∀ {p : Int32}, ¬ p < 0 → ¬ (800 : Int32) ≤ p → vp_in p 800 := fun h0 h1 => vp_in_iff.mpr ⟨by
  have := Int32.not_lt.mp h0
  exact Int32.le_iff_toInt_le.mp this, by
  have := Int32.lt_iff_toInt_lt.mp (Int32.not_le.mp h1)
  exact this⟩
abbrev vac (kp wr : Nat → Int32) (p : Int32) : Prop := p < 0 ∨ 800 ≤ p ∨ (kp p.toNatClampNeg = 0 ∧ wr p.toNatClampNeg = 0)
/-- isVacant(page), any page -/
theorem s_isVacant {sl : Int32} {cu ba r0 r1 r2 r3 : Q4} {sw : Nat → Int64} {bt : Int32} {cnt inn lk wd kp wr mk ls pth tk : Nat → Int32} {tl : List mC} (p : Int32) : EvS m_X0_isVacant [.ref 1, .int p] (cW sl cu ba r0 r1 r2 r3 sw bt cnt inn lk wd kp wr mk ls pth tk tl) (.inl (some (.int (if vac kp wr p then 1 else 0)))) (cW sl cu ba r0 r1 r2 r3 sw bt cnt inn lk wd kp wr mk ls pth tk tl) := by
  refine evs_of (by decide +kernel) (Nat.le_of_ble_eq_true rfl) (by decide) rfl ?_
  refine ev_iload_n (pc := 0) dX0_isVacant_0 rfl rfl ?_
  refine ev_if_lt (pc := 1) (tgt := 29) dX0_isVacant_1 (by decide) (fun c_1 => ?_) (fun c_1 => ?_)
  · refine ev_iconst (pc := 29) (v := 1) dX0_isVacant_29 (by decide) ?_
    refine ev_goto (pc := 30) (tgt := 34) dX0_isVacant_30 (by decide) ?_
    exact ev_zretE (pc := 34) dX0_isVacant_34 rfl ⟨Nat.le_of_ble_eq_true rfl, Nat.le_of_ble_eq_true rfl⟩ (by first | exact Or.inl rfl | exact Or.inr rfl | assumption | exact i10_o) (by rw [if_pos (Or.inl c_1)]) rfl
  · refine ev_iload_n (pc := 4) dX0_isVacant_4 rfl rfl ?_
    refine ev_sipush (pc := 5) (v := 800) dX0_isVacant_5 (by decide) ?_
    refine ev_ic_ge (pc := 8) (tgt := 29) dX0_isVacant_8 (by decide) (fun c_8 => ?_) (fun c_8 => ?_)
    · refine ev_iconst (pc := 29) (v := 1) dX0_isVacant_29 (by decide) ?_
      refine ev_goto (pc := 30) (tgt := 34) dX0_isVacant_30 (by decide) ?_
      exact ev_zretE (pc := 34) dX0_isVacant_34 rfl ⟨Nat.le_of_ble_eq_true rfl, Nat.le_of_ble_eq_true rfl⟩ (by first | exact Or.inl rfl | exact Or.inr rfl | assumption | exact i10_o) (by rw [if_pos (Or.inr (Or.inl c_8))]) rfl
    · refine ev_aload_n (pc := 11) dX0_isVacant_11 rfl rfl ?_
      refine ev_get (pc := 12) dX0_isVacant_12 fd_X0_25 rfl rfl ?_
      refine ev_iload_n (pc := 15) dX0_isVacant_15 rfl rfl ?_
      refine ev_zald (pc := 16) dX0_isVacant_16 rfl (t800 c_1 c_8) ?_
      refine ev_if_ne (pc := 17) (tgt := 33) dX0_isVacant_17 (by decide) (fun c_17 => ?_) (fun c_17 => ?_)
      · refine ev_iconst (pc := 33) (v := 0) dX0_isVacant_33 (by decide) ?_
        exact ev_zretE (pc := 34) dX0_isVacant_34 rfl ⟨Nat.le_of_ble_eq_true rfl, Nat.le_of_ble_eq_true rfl⟩ (by first | exact Or.inl rfl | exact Or.inr rfl | assumption | exact i10_o) (by rw [if_neg (fun h => h.elim c_1 (fun h => h.elim c_8 (fun h => c_17 h.1)))]) rfl
      · refine ev_aload_n (pc := 20) dX0_isVacant_20 rfl rfl ?_
        refine ev_get (pc := 21) dX0_isVacant_21 fd_X0_28 rfl rfl ?_
        refine ev_iload_n (pc := 24) dX0_isVacant_24 rfl rfl ?_
        refine ev_zald (pc := 25) dX0_isVacant_25 rfl (t800 c_1 c_8) ?_
        refine ev_if_ne (pc := 26) (tgt := 33) dX0_isVacant_26 (by decide) (fun c_26 => ?_) (fun c_26 => ?_)
        · refine ev_iconst (pc := 33) (v := 0) dX0_isVacant_33 (by decide) ?_
          exact ev_zretE (pc := 34) dX0_isVacant_34 rfl ⟨Nat.le_of_ble_eq_true rfl, Nat.le_of_ble_eq_true rfl⟩ (by first | exact Or.inl rfl | exact Or.inr rfl | assumption | exact i10_o) (by rw [if_neg (fun h => h.elim c_1 (fun h => h.elim c_8 (fun h => c_26 h.2)))]) rfl
        · refine ev_iconst (pc := 29) (v := 1) dX0_isVacant_29 (by decide) ?_
          refine ev_goto (pc := 30) (tgt := 34) dX0_isVacant_30 (by decide) ?_
          exact ev_zretE (pc := 34) dX0_isVacant_34 rfl ⟨Nat.le_of_ble_eq_true rfl, Nat.le_of_ble_eq_true rfl⟩ (by first | exact Or.inl rfl | exact Or.inr rfl | assumption | exact i10_o) (by rw [if_pos (Or.inr (Or.inr ⟨c_17, c_26⟩))]) rfl
theorem s_isCell1 {w : mW} {p e : Nat} (hp : p < 800) (he : e < 5) : EvS m_X0_isCell [.int (nI p), .int (nI e)] w (.inl (some (.int 1))) w := by
  refine evs_of (by decide +kernel) (Nat.le_of_ble_eq_true rfl) (by decide) rfl ?_
  refine ev_iload_n (pc := 0) dX0_isCell_0 rfl rfl ?_
  refine ev_if_lt (pc := 1) (tgt := 24) dX0_isCell_1 (by decide) (fun c_1 => absurd c_1 (hp0 hp)) (fun _ => ?_)
  refine ev_iload_n (pc := 4) dX0_isCell_4 rfl rfl ?_
  refine ev_sipush (pc := 5) (v := 800) dX0_isCell_5 (by decide) ?_
  refine ev_ic_ge (pc := 8) (tgt := 24) dX0_isCell_8 (by decide) (fun c_8 => absurd c_8 (hp8 hp)) (fun _ => ?_)
  refine ev_iload_n (pc := 11) dX0_isCell_11 rfl rfl ?_
  refine ev_if_lt (pc := 12) (tgt := 24) dX0_isCell_12 (by decide) (fun c_12 => absurd c_12 (he0 he)) (fun _ => ?_)
  refine ev_iload_n (pc := 15) dX0_isCell_15 rfl rfl ?_
  refine ev_iconst (pc := 16) (v := 5) dX0_isCell_16 (by decide) ?_
  refine ev_ic_ge (pc := 17) (tgt := 24) dX0_isCell_17 (by decide) (fun c_17 => absurd c_17 (he5 he)) (fun _ => ?_)
  refine ev_iconst (pc := 20) (v := 1) dX0_isCell_20 (by decide) ?_
  refine ev_goto (pc := 21) (tgt := 25) dX0_isCell_21 (by decide) ?_
  exact ev_zretE (pc := 25) dX0_isCell_25 rfl ⟨Nat.le_of_ble_eq_true rfl, Nat.le_of_ble_eq_true rfl⟩ (by first | exact Or.inl rfl | exact Or.inr rfl | assumption | exact i10_o) rfl rfl
theorem s_isCell0 {w : mW} {p : Nat} (hp : p < 800) : EvS m_X0_isCell [.int (nI p), .int (-1)] w (.inl (some (.int 0))) w := by
  refine evs_of (by decide +kernel) (Nat.le_of_ble_eq_true rfl) (by decide) rfl ?_
  refine ev_iload_n (pc := 0) dX0_isCell_0 rfl rfl ?_
  refine ev_if_lt (pc := 1) (tgt := 24) dX0_isCell_1 (by decide) (fun c_1 => absurd c_1 (hp0 hp)) (fun _ => ?_)
  refine ev_iload_n (pc := 4) dX0_isCell_4 rfl rfl ?_
  refine ev_sipush (pc := 5) (v := 800) dX0_isCell_5 (by decide) ?_
  refine ev_ic_ge (pc := 8) (tgt := 24) dX0_isCell_8 (by decide) (fun c_8 => absurd c_8 (hp8 hp)) (fun _ => ?_)
  refine ev_iload_n (pc := 11) dX0_isCell_11 rfl rfl ?_
  refine ev_if_lt (pc := 12) (tgt := 24) dX0_isCell_12 (by decide) (fun _ => ?_) (fun c_12 => absurd (by decide) c_12)
  refine ev_iconst (pc := 24) (v := 0) dX0_isCell_24 (by decide) ?_
  exact ev_zretE (pc := 25) dX0_isCell_25 rfl ⟨Nat.le_of_ble_eq_true rfl, Nat.le_of_ble_eq_true rfl⟩ (by first | exact Or.inl rfl | exact Or.inr rfl | assumption | exact i10_o) rfl rfl
theorem s_countOf {sl : Int32} {cu ba r0 r1 r2 r3 : Q4} {sw : Nat → Int64} {bt : Int32} {cnt inn lk wd kp wr mk ls pth tk : Nat → Int32} {tl : List mC} {p : Nat} {v : Int32} (hp : p < 800) (hv : cnt p = v) : EvS m_X0_countOf [.ref 1, .int (nI p)] (cW sl cu ba r0 r1 r2 r3 sw bt cnt inn lk wd kp wr mk ls pth tk tl) (.inl (some (.int v))) (cW sl cu ba r0 r1 r2 r3 sw bt cnt inn lk wd kp wr mk ls pth tk tl) := by
  refine evs_of (by decide +kernel) (Nat.le_of_ble_eq_true rfl) (by decide) rfl ?_
  refine ev_iload_n (pc := 0) dX0_countOf_0 rfl rfl ?_
  refine ev_if_lt (pc := 1) (tgt := 20) dX0_countOf_1 (by decide) (fun c_1 => absurd c_1 (hp0 hp)) (fun _ => ?_)
  refine ev_iload_n (pc := 4) dX0_countOf_4 rfl rfl ?_
  refine ev_sipush (pc := 5) (v := 800) dX0_countOf_5 (by decide) ?_
  refine ev_ic_ge (pc := 8) (tgt := 20) dX0_countOf_8 (by decide) (fun c_8 => absurd c_8 (hp8 hp)) (fun _ => ?_)
  refine ev_aload_n (pc := 11) dX0_countOf_11 rfl rfl ?_
  refine ev_get (pc := 12) dX0_countOf_12 fd_X0_9 rfl rfl ?_
  refine ev_iload_n (pc := 15) dX0_countOf_15 rfl rfl ?_
  refine ev_ialdN (pc := 16) dX0_countOf_16 rfl ⟨rfl, hp, by decide⟩ hv ?_
  refine ev_goto (pc := 17) (tgt := 21) dX0_countOf_17 (by decide) ?_
  exact ev_iretE (pc := 21) dX0_countOf_21 rfl ⟨Nat.le_of_ble_eq_true rfl, Nat.le_of_ble_eq_true rfl⟩ rfl rfl
theorem s_isLeafT {sl : Int32} {cu ba r0 r1 r2 r3 : Q4} {sw : Nat → Int64} {bt : Int32} {cnt inn lk wd kp wr mk ls pth tk : Nat → Int32} {tl : List mC} {p : Nat} (hp : p < 800) (h : inn p = 0) : EvS m_X0_isLeaf [.ref 1, .int (nI p)] (cW sl cu ba r0 r1 r2 r3 sw bt cnt inn lk wd kp wr mk ls pth tk tl) (.inl (some (.int 1))) (cW sl cu ba r0 r1 r2 r3 sw bt cnt inn lk wd kp wr mk ls pth tk tl) := by
  refine evs_of (by decide +kernel) (Nat.le_of_ble_eq_true rfl) (by decide) rfl ?_
  refine ev_iload_n (pc := 0) dX0_isLeaf_0 rfl rfl ?_
  refine ev_if_lt (pc := 1) (tgt := 20) dX0_isLeaf_1 (by decide) (fun c_1 => absurd c_1 (hp0 hp)) (fun _ => ?_)
  refine ev_iload_n (pc := 4) dX0_isLeaf_4 rfl rfl ?_
  refine ev_sipush (pc := 5) (v := 800) dX0_isLeaf_5 (by decide) ?_
  refine ev_ic_ge (pc := 8) (tgt := 20) dX0_isLeaf_8 (by decide) (fun c_8 => absurd c_8 (hp8 hp)) (fun _ => ?_)
  refine ev_aload_n (pc := 11) dX0_isLeaf_11 rfl rfl ?_
  refine ev_get (pc := 12) dX0_isLeaf_12 fd_X0_15 rfl rfl ?_
  refine ev_iload_n (pc := 15) dX0_isLeaf_15 rfl rfl ?_
  refine ev_zaldN (pc := 16) dX0_isLeaf_16 rfl ⟨rfl, hp, by decide⟩ rfl ?_
  refine ev_if_ne (pc := 17) (tgt := 24) dX0_isLeaf_17 (by decide) (fun c_17 => absurd h c_17) (fun _ => ?_)
  refine ev_iconst (pc := 20) (v := 1) dX0_isLeaf_20 (by decide) ?_
  refine ev_goto (pc := 21) (tgt := 25) dX0_isLeaf_21 (by decide) ?_
  exact ev_zretE (pc := 25) dX0_isLeaf_25 rfl ⟨Nat.le_of_ble_eq_true rfl, Nat.le_of_ble_eq_true rfl⟩ (by first | exact Or.inl rfl | exact Or.inr rfl | assumption | exact i10_o) rfl rfl
theorem s_isLeafF {sl : Int32} {cu ba r0 r1 r2 r3 : Q4} {sw : Nat → Int64} {bt : Int32} {cnt inn lk wd kp wr mk ls pth tk : Nat → Int32} {tl : List mC} {p : Nat} (hp : p < 800) (h : inn p = 1) : EvS m_X0_isLeaf [.ref 1, .int (nI p)] (cW sl cu ba r0 r1 r2 r3 sw bt cnt inn lk wd kp wr mk ls pth tk tl) (.inl (some (.int 0))) (cW sl cu ba r0 r1 r2 r3 sw bt cnt inn lk wd kp wr mk ls pth tk tl) := by
  refine evs_of (by decide +kernel) (Nat.le_of_ble_eq_true rfl) (by decide) rfl ?_
  refine ev_iload_n (pc := 0) dX0_isLeaf_0 rfl rfl ?_
  refine ev_if_lt (pc := 1) (tgt := 20) dX0_isLeaf_1 (by decide) (fun c_1 => absurd c_1 (hp0 hp)) (fun _ => ?_)
  refine ev_iload_n (pc := 4) dX0_isLeaf_4 rfl rfl ?_
  refine ev_sipush (pc := 5) (v := 800) dX0_isLeaf_5 (by decide) ?_
  refine ev_ic_ge (pc := 8) (tgt := 20) dX0_isLeaf_8 (by decide) (fun c_8 => absurd c_8 (hp8 hp)) (fun _ => ?_)
  refine ev_aload_n (pc := 11) dX0_isLeaf_11 rfl rfl ?_
  refine ev_get (pc := 12) dX0_isLeaf_12 fd_X0_15 rfl rfl ?_
  refine ev_iload_n (pc := 15) dX0_isLeaf_15 rfl rfl ?_
  refine ev_zaldN (pc := 16) dX0_isLeaf_16 rfl ⟨rfl, hp, by decide⟩ h ?_
  refine ev_if_ne (pc := 17) (tgt := 24) dX0_isLeaf_17 (by decide) (fun _ => ?_) (fun c_17 => absurd c_17 (by decide))
  refine ev_iconst (pc := 24) (v := 0) dX0_isLeaf_24 (by decide) ?_
  exact ev_zretE (pc := 25) dX0_isLeaf_25 rfl ⟨Nat.le_of_ble_eq_true rfl, Nat.le_of_ble_eq_true rfl⟩ (by first | exact Or.inl rfl | exact Or.inr rfl | assumption | exact i10_o) rfl rfl
theorem s_wordOf {sl : Int32} {cu ba r0 r1 r2 r3 : Q4} {sw : Nat → Int64} {bt : Int32} {cnt inn lk wd kp wr mk ls pth tk : Nat → Int32} {tl : List mC} {p e : Nat} {v : Int32} (hp : p < 800) (he : e < 5) (hv : wd (5 * p + e) = v) : EvS m_X0_wordOf [.ref 1, .int (nI p), .int (nI e)] (cW sl cu ba r0 r1 r2 r3 sw bt cnt inn lk wd kp wr mk ls pth tk tl) (.inl (some (.int v))) (cW sl cu ba r0 r1 r2 r3 sw bt cnt inn lk wd kp wr mk ls pth tk tl) := by
  refine evs_of (by decide +kernel) (Nat.le_of_ble_eq_true rfl) (by decide) rfl ?_
  refine ev_iload_n (pc := 0) dX0_wordOf_0 rfl rfl ?_
  refine ev_if_lt (pc := 1) (tgt := 24) dX0_wordOf_1 (by decide) (fun c_1 => absurd c_1 (hp0 hp)) (fun _ => ?_)
  refine ev_iload_n (pc := 4) dX0_wordOf_4 rfl rfl ?_
  refine ev_sipush (pc := 5) (v := 800) dX0_wordOf_5 (by decide) ?_
  refine ev_ic_ge (pc := 8) (tgt := 24) dX0_wordOf_8 (by decide) (fun c_8 => absurd c_8 (hp8 hp)) (fun _ => ?_)
  refine ev_iload_n (pc := 11) dX0_wordOf_11 rfl rfl ?_
  refine ev_if_lt (pc := 12) (tgt := 24) dX0_wordOf_12 (by decide) (fun c_12 => absurd c_12 (he0 he)) (fun _ => ?_)
  refine ev_iload_n (pc := 15) dX0_wordOf_15 rfl rfl ?_
  refine ev_iconst (pc := 16) (v := 5) dX0_wordOf_16 (by decide) ?_
  refine ev_ic_ge (pc := 17) (tgt := 24) dX0_wordOf_17 (by decide) (fun c_17 => absurd c_17 (he5 he)) (fun _ => ?_)
  refine ev_iconst (pc := 20) (v := 1) dX0_wordOf_20 (by decide) ?_
  refine ev_goto (pc := 21) (tgt := 25) dX0_wordOf_21 (by decide) ?_
  refine ev_istore_n (pc := 25) dX0_wordOf_25 rfl rfl rfl ?_
  refine ev_iload_n (pc := 26) dX0_wordOf_26 rfl rfl ?_
  refine ev_if_eq (pc := 27) (tgt := 43) dX0_wordOf_27 (by decide) (fun c_27 => absurd c_27 (by decide)) (fun _ => ?_)
  refine ev_aload_n (pc := 30) dX0_wordOf_30 rfl rfl ?_
  refine ev_get (pc := 31) dX0_wordOf_31 fd_X0_22 rfl rfl ?_
  refine ev_iload_n (pc := 34) dX0_wordOf_34 rfl rfl ?_
  refine ev_iconst (pc := 35) (v := 5) dX0_wordOf_35 (by decide) ?_
  refine ev_imul (pc := 36) dX0_wordOf_36 ?_
  refine ev_iload_n (pc := 37) dX0_wordOf_37 rfl rfl ?_
  refine ev_iadd (pc := 38) dX0_wordOf_38 ?_
  refine ev_ialdN (pc := 39) dX0_wordOf_39 rfl ⟨ix5 p e, by omega, by decide⟩ hv ?_
  refine ev_goto (pc := 40) (tgt := 44) dX0_wordOf_40 (by decide) ?_
  exact ev_iretE (pc := 44) dX0_wordOf_44 rfl ⟨Nat.le_of_ble_eq_true rfl, Nat.le_of_ble_eq_true rfl⟩ rfl rfl
theorem s_setWord {sl : Int32} {cu ba r0 r1 r2 r3 : Q4} {sw : Nat → Int64} {bt : Int32} {cnt inn lk wd kp wr mk ls pth tk : Nat → Int32} {tl : List mC} {p e : Nat} {v : Int32} (hp : p < 800) (he : e < 5) : EvS m_X0_setWord [.ref 1, .int (nI p), .int (nI e), .int v] (cW sl cu ba r0 r1 r2 r3 sw bt cnt inn lk wd kp wr mk ls pth tk tl) (.inl none) (cW sl cu ba r0 r1 r2 r3 sw bt cnt inn lk (upd wd (5 * p + e) v) kp wr mk ls pth tk tl) := by
  refine evs_of (by decide +kernel) (Nat.le_of_ble_eq_true rfl) (by decide) rfl ?_
  refine ev_iload_n (pc := 0) dX0_setWord_0 rfl rfl ?_
  refine ev_iload_n (pc := 1) dX0_setWord_1 rfl rfl ?_
  refine cS2 (pc := 2) lk_X0_setWord_2 (Nat.le_of_ble_eq_true rfl) ⟨Nat.le_of_ble_eq_true rfl, Nat.le_of_ble_eq_true rfl⟩ (s_isCell1 hp he) ?_
  refine ev_if_eq (pc := 5) (tgt := 19) dX0_setWord_5 (by decide) (fun c_5 => absurd c_5 (by decide)) (fun _ => ?_)
  refine ev_aload_n (pc := 8) dX0_setWord_8 rfl rfl ?_
  refine ev_get (pc := 9) dX0_setWord_9 fd_X0_22 rfl rfl ?_
  refine ev_iload_n (pc := 12) dX0_setWord_12 rfl rfl ?_
  refine ev_iconst (pc := 13) (v := 5) dX0_setWord_13 (by decide) ?_
  refine ev_imul (pc := 14) dX0_setWord_14 ?_
  refine ev_iload_n (pc := 15) dX0_setWord_15 rfl rfl ?_
  refine ev_iadd (pc := 16) dX0_setWord_16 ?_
  refine ev_iload_n (pc := 17) dX0_setWord_17 rfl rfl ?_
  refine ev_iastN (pc := 18) dX0_setWord_18 rfl ⟨ix5 p e, by omega, by decide⟩ rfl rfl ?_
  exact ev_vretE (pc := 19) dX0_setWord_19 rfl ⟨Nat.le_of_ble_eq_true rfl, Nat.le_of_ble_eq_true rfl⟩ rfl
