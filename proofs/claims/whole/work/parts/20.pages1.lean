/-! Copperleaf$Pages: the small ones -/
theorem t800 : ∀ {p : Int32}, ¬ p < 0 → ¬ (800 : Int32) ≤ p → vp_in p 800 := fun h0 h1 => vp_in_iff.mpr ⟨by
  have := Int32.not_lt.mp h0
  exact Int32.le_iff_toInt_le.mp this, by
  have := Int32.lt_iff_toInt_lt.mp (Int32.not_le.mp h1)
  exact this⟩
abbrev vac (kp wr : Nat → Int32) (p : Int32) : Prop := p < 0 ∨ 800 ≤ p ∨ (kp p.toNatClampNeg = 0 ∧ wr p.toNatClampNeg = 0)
/-- isVacant(page), any page -/
theorem s_isVacant {sl : Int32} {cu ba r0 r1 r2 r3 : Q4} {sw : Nat → Int64} {bt : Int32} {cnt inn lk wd kp wr mk ls pth tk : Nat → Int32} {tl : List mC} (p : Int32) : EvS m_X0_isVacant [.ref 1, .int p] (cW sl cu ba r0 r1 r2 r3 sw bt cnt inn lk wd kp wr mk ls pth tk tl) (.inl (some (.int (if vac kp wr p then 1 else 0)))) (cW sl cu ba r0 r1 r2 r3 sw bt cnt inn lk wd kp wr mk ls pth tk tl) := by
  refine evs_of (by decide +kernel) (Nat.le_of_ble_eq_true rfl) (by decide) rfl rfl ?_
  refine ev_iload_n (pc := 0) dX0_isVacant_0 rfl rfl ?_
  refine ev_if_lt (pc := 1) (tgt := 29) dX0_isVacant_1 (by decide) (fun c_1 => ?_) (fun c_1 => ?_)
  · refine ev_iconst (pc := 29) (v := 1) dX0_isVacant_29 (by decide) ?_
    refine ev_goto (pc := 30) (tgt := 34) dX0_isVacant_30 (by decide) ?_
    exact ev_zretE (pc := 34) dX0_isVacant_34 rfl ⟨Nat.le_of_ble_eq_true rfl, Nat.le_of_ble_eq_true rfl⟩ (by first | exact Or.inl rfl | exact Or.inr rfl | assumption | exact i10_o) (by rw [if_pos (Or.inl c_1)]) rfl
  · refine ev_iload_n (pc := 4) dX0_isVacant_4 rfl rfl ?_
    refine ev_sipush (pc := 5) (v := 800) dX0_isVacant_5 (by decide) ?_
    refine ev_ic_ge (pc := 8) (tgt := 29) dX0_isVacant_8 (by decide) (fun c_8 => ?_) (fun c_8 => ?_)
    · refine ev_iconst (pc := 29) (v := 1) dX0_isVacant_29 (by decide) ?_
      refine ev_goto (pc := 30) (tgt := 34) dX0_isVacant_30 (by decide) ?_
      exact ev_zretE (pc := 34) dX0_isVacant_34 rfl ⟨Nat.le_of_ble_eq_true rfl, Nat.le_of_ble_eq_true rfl⟩ (by first | exact Or.inl rfl | exact Or.inr rfl | assumption | exact i10_o) (by rw [if_pos (Or.inr (Or.inl c_8))]) rfl
    · refine ev_aload_n (pc := 11) dX0_isVacant_11 rfl rfl ?_
      refine ev_get (pc := 12) dX0_isVacant_12 fd_X0_25 rfl rfl ?_
      refine ev_iload_n (pc := 15) dX0_isVacant_15 rfl rfl ?_
      refine ev_zald (pc := 16) dX0_isVacant_16 rfl (t800 c_1 c_8) ?_
      refine ev_if_ne (pc := 17) (tgt := 33) dX0_isVacant_17 (by decide) (fun c_17 => ?_) (fun c_17 => ?_)
      · refine ev_iconst (pc := 33) (v := 0) dX0_isVacant_33 (by decide) ?_
        exact ev_zretE (pc := 34) dX0_isVacant_34 rfl ⟨Nat.le_of_ble_eq_true rfl, Nat.le_of_ble_eq_true rfl⟩ (by first | exact Or.inl rfl | exact Or.inr rfl | assumption | exact i10_o) (by rw [if_neg (fun h => h.elim c_1 (fun h => h.elim c_8 (fun h => c_17 h.1)))]) rfl
      · refine ev_aload_n (pc := 20) dX0_isVacant_20 rfl rfl ?_
        refine ev_get (pc := 21) dX0_isVacant_21 fd_X0_28 rfl rfl ?_
        refine ev_iload_n (pc := 24) dX0_isVacant_24 rfl rfl ?_
        refine ev_zald (pc := 25) dX0_isVacant_25 rfl (t800 c_1 c_8) ?_
        refine ev_if_ne (pc := 26) (tgt := 33) dX0_isVacant_26 (by decide) (fun c_26 => ?_) (fun c_26 => ?_)
        · refine ev_iconst (pc := 33) (v := 0) dX0_isVacant_33 (by decide) ?_
          exact ev_zretE (pc := 34) dX0_isVacant_34 rfl ⟨Nat.le_of_ble_eq_true rfl, Nat.le_of_ble_eq_true rfl⟩ (by first | exact Or.inl rfl | exact Or.inr rfl | assumption | exact i10_o) (by rw [if_neg (fun h => h.elim c_1 (fun h => h.elim c_8 (fun h => c_26 h.2)))]) rfl
        · refine ev_iconst (pc := 29) (v := 1) dX0_isVacant_29 (by decide) ?_
          refine ev_goto (pc := 30) (tgt := 34) dX0_isVacant_30 (by decide) ?_
          exact ev_zretE (pc := 34) dX0_isVacant_34 rfl ⟨Nat.le_of_ble_eq_true rfl, Nat.le_of_ble_eq_true rfl⟩ (by first | exact Or.inl rfl | exact Or.inr rfl | assumption | exact i10_o) (by rw [if_pos (Or.inr (Or.inr ⟨c_17, c_26⟩))]) rfl
