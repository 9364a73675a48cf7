/-! the changes of state -/
def wdB (x : RS3) (j : Nat) : Int64 := if j = 0 then (nI x.1).toInt64 else if j = 1 then (nI x.2.1).toInt64 else if j = 2 then (nI x.2.2).toInt64 else sumW (nI x.1).toInt64 (nI x.2.1).toInt64 (nI x.2.2).toInt64
/-- a slot after its first n words are written -/
def wrS (sw : Nat → Int64) (s : Nat) (x : RS3) (n : Nat) : Nat → Int64 := fun i => if 4 * s ≤ i ∧ i < 4 * s + n then wdB x (i - 4 * s) else sw i
theorem wrS_0 (sw : Nat → Int64) (s : Nat) (x : RS3) : wrS sw s x 0 = sw := by
  funext i
  unfold wrS
  rw [if_neg (by omega)]
theorem wrS_up (sw : Nat → Int64) (s : Nat) (x : RS3) (n : Nat) : vp_updL (wrS sw s x n) (4 * s + n) (wdB x n) = wrS sw s x (n + 1) := by
  funext i
  unfold vp_updL wrS
  by_cases h : i = 4 * s + n
  · subst h
    rw [if_pos rfl, if_pos (by omega), Nat.add_sub_cancel_left]
  · rw [if_neg h]
    by_cases h2 : 4 * s ≤ i ∧ i < 4 * s + n
    · rw [if_pos h2, if_pos (by omega)]
    · rw [if_neg h2, if_neg (by omega)]
section XE
variable {K W U : Nat → Prop} {T : Nat → Nd} {so rd : Nat → Option RS3} {c : RS3} {b : Option RS3}
theorem s_becomeB {sl : Int32} {cu ba r0 r1 r2 r3 : Q4} {sw : Nat → Int64} {bt : Int32} {cnt inn lk wd kp wr mk ls pth tk : Nat → Int32} {tl : List mC} : EvS m_X1_become [.ref 11, .ref 10] (cW sl cu ba r0 r1 r2 r3 sw bt cnt inn lk wd kp wr mk ls pth tk tl) (.inl none) (cW sl cu (cu.1, cu.2.1, cu.2.2.1, 1) r0 r1 r2 r3 sw bt cnt inn lk wd kp wr mk ls pth tk tl) := by
  refine evs_of (by decide +kernel) (Nat.le_of_ble_eq_true rfl) (by decide) rfl ?_
  refine ev_aload_n (pc := 0) dX1_become_0 rfl rfl ?_
  refine ev_aload_n (pc := 1) dX1_become_1 rfl rfl ?_
  refine ev_get (pc := 2) dX1_become_2 fd_X1_7 rfl rfl ?_
  refine ev_put (pc := 5) dX1_become_5 fp_X1_7 rfl (Nat.le_of_ble_eq_true rfl) (fun _ _ => ⟨rfl, rfl⟩) rfl ?_
  refine ev_aload_n (pc := 8) dX1_become_8 rfl rfl ?_
  refine ev_aload_n (pc := 9) dX1_become_9 rfl rfl ?_
  refine ev_get (pc := 10) dX1_become_10 fd_X1_13 rfl rfl ?_
  refine ev_put (pc := 13) dX1_become_13 fp_X1_13 rfl (Nat.le_of_ble_eq_true rfl) (fun _ _ => ⟨rfl, rfl⟩) rfl ?_
  refine ev_aload_n (pc := 16) dX1_become_16 rfl rfl ?_
  refine ev_aload_n (pc := 17) dX1_become_17 rfl rfl ?_
  refine ev_get (pc := 18) dX1_become_18 fd_X1_16 rfl rfl ?_
  refine ev_put (pc := 21) dX1_become_21 fp_X1_16 rfl (Nat.le_of_ble_eq_true rfl) (fun _ _ => ⟨rfl, rfl⟩) rfl ?_
  refine ev_aload_n (pc := 24) dX1_become_24 rfl rfl ?_
  refine ev_iconst (pc := 25) (v := 1) dX1_become_25 (by decide) ?_
  refine ev_put (pc := 26) dX1_become_26 fp_X1_19 rfl (Nat.le_of_ble_eq_true rfl) (fun _ _ => ⟨rfl, rfl⟩) rfl ?_
  exact ev_vretE (pc := 29) dX1_become_29 rfl ⟨Nat.le_of_ble_eq_true rfl, Nat.le_of_ble_eq_true rfl⟩ rfl
theorem s_become0 {sl : Int32} {cu ba r0 r1 r2 r3 : Q4} {sw : Nat → Int64} {bt : Int32} {cnt inn lk wd kp wr mk ls pth tk : Nat → Int32} {tl : List mC} : EvS m_X1_become [.ref 16, .ref 10] (cW sl cu ba r0 r1 r2 r3 sw bt cnt inn lk wd kp wr mk ls pth tk tl) (.inl none) (cW sl cu ba (cu.1, cu.2.1, cu.2.2.1, 1) r1 r2 r3 sw bt cnt inn lk wd kp wr mk ls pth tk tl) := by
  refine evs_of (by decide +kernel) (Nat.le_of_ble_eq_true rfl) (by decide) rfl ?_
  refine ev_aload_n (pc := 0) dX1_become_0 rfl rfl ?_
  refine ev_aload_n (pc := 1) dX1_become_1 rfl rfl ?_
  refine ev_get (pc := 2) dX1_become_2 fd_X1_7 rfl rfl ?_
  refine ev_put (pc := 5) dX1_become_5 fp_X1_7 rfl (Nat.le_of_ble_eq_true rfl) (fun _ _ => ⟨rfl, rfl⟩) rfl ?_
  refine ev_aload_n (pc := 8) dX1_become_8 rfl rfl ?_
  refine ev_aload_n (pc := 9) dX1_become_9 rfl rfl ?_
  refine ev_get (pc := 10) dX1_become_10 fd_X1_13 rfl rfl ?_
  refine ev_put (pc := 13) dX1_become_13 fp_X1_13 rfl (Nat.le_of_ble_eq_true rfl) (fun _ _ => ⟨rfl, rfl⟩) rfl ?_
  refine ev_aload_n (pc := 16) dX1_become_16 rfl rfl ?_
  refine ev_aload_n (pc := 17) dX1_become_17 rfl rfl ?_
  refine ev_get (pc := 18) dX1_become_18 fd_X1_16 rfl rfl ?_
  refine ev_put (pc := 21) dX1_become_21 fp_X1_16 rfl (Nat.le_of_ble_eq_true rfl) (fun _ _ => ⟨rfl, rfl⟩) rfl ?_
  refine ev_aload_n (pc := 24) dX1_become_24 rfl rfl ?_
  refine ev_iconst (pc := 25) (v := 1) dX1_become_25 (by decide) ?_
  refine ev_put (pc := 26) dX1_become_26 fp_X1_19 rfl (Nat.le_of_ble_eq_true rfl) (fun _ _ => ⟨rfl, rfl⟩) rfl ?_
  exact ev_vretE (pc := 29) dX1_become_29 rfl ⟨Nat.le_of_ble_eq_true rfl, Nat.le_of_ble_eq_true rfl⟩ rfl
theorem s_becomeR1 {sl : Int32} {cu ba r0 r1 r2 r3 : Q4} {sw : Nat → Int64} {bt : Int32} {cnt inn lk wd kp wr mk ls pth tk : Nat → Int32} {tl : List mC} : EvS m_X1_become [.ref 17, .ref 10] (cW sl cu ba r0 r1 r2 r3 sw bt cnt inn lk wd kp wr mk ls pth tk tl) (.inl none) (cW sl cu ba r0 (cu.1, cu.2.1, cu.2.2.1, 1) r2 r3 sw bt cnt inn lk wd kp wr mk ls pth tk tl) := by
  refine evs_of (by decide +kernel) (Nat.le_of_ble_eq_true rfl) (by decide) rfl ?_
  refine ev_aload_n (pc := 0) dX1_become_0 rfl rfl ?_
  refine ev_aload_n (pc := 1) dX1_become_1 rfl rfl ?_
  refine ev_get (pc := 2) dX1_become_2 fd_X1_7 rfl rfl ?_
  refine ev_put (pc := 5) dX1_become_5 fp_X1_7 rfl (Nat.le_of_ble_eq_true rfl) (fun _ _ => ⟨rfl, rfl⟩) rfl ?_
  refine ev_aload_n (pc := 8) dX1_become_8 rfl rfl ?_
  refine ev_aload_n (pc := 9) dX1_become_9 rfl rfl ?_
  refine ev_get (pc := 10) dX1_become_10 fd_X1_13 rfl rfl ?_
  refine ev_put (pc := 13) dX1_become_13 fp_X1_13 rfl (Nat.le_of_ble_eq_true rfl) (fun _ _ => ⟨rfl, rfl⟩) rfl ?_
  refine ev_aload_n (pc := 16) dX1_become_16 rfl rfl ?_
  refine ev_aload_n (pc := 17) dX1_become_17 rfl rfl ?_
  refine ev_get (pc := 18) dX1_become_18 fd_X1_16 rfl rfl ?_
  refine ev_put (pc := 21) dX1_become_21 fp_X1_16 rfl (Nat.le_of_ble_eq_true rfl) (fun _ _ => ⟨rfl, rfl⟩) rfl ?_
  refine ev_aload_n (pc := 24) dX1_become_24 rfl rfl ?_
  refine ev_iconst (pc := 25) (v := 1) dX1_become_25 (by decide) ?_
  refine ev_put (pc := 26) dX1_become_26 fp_X1_19 rfl (Nat.le_of_ble_eq_true rfl) (fun _ _ => ⟨rfl, rfl⟩) rfl ?_
  exact ev_vretE (pc := 29) dX1_become_29 rfl ⟨Nat.le_of_ble_eq_true rfl, Nat.le_of_ble_eq_true rfl⟩ rfl
theorem s_become2 {sl : Int32} {cu ba r0 r1 r2 r3 : Q4} {sw : Nat → Int64} {bt : Int32} {cnt inn lk wd kp wr mk ls pth tk : Nat → Int32} {tl : List mC} : EvS m_X1_become [.ref 18, .ref 10] (cW sl cu ba r0 r1 r2 r3 sw bt cnt inn lk wd kp wr mk ls pth tk tl) (.inl none) (cW sl cu ba r0 r1 (cu.1, cu.2.1, cu.2.2.1, 1) r3 sw bt cnt inn lk wd kp wr mk ls pth tk tl) := by
  refine evs_of (by decide +kernel) (Nat.le_of_ble_eq_true rfl) (by decide) rfl ?_
  refine ev_aload_n (pc := 0) dX1_become_0 rfl rfl ?_
  refine ev_aload_n (pc := 1) dX1_become_1 rfl rfl ?_
  refine ev_get (pc := 2) dX1_become_2 fd_X1_7 rfl rfl ?_
  refine ev_put (pc := 5) dX1_become_5 fp_X1_7 rfl (Nat.le_of_ble_eq_true rfl) (fun _ _ => ⟨rfl, rfl⟩) rfl ?_
  refine ev_aload_n (pc := 8) dX1_become_8 rfl rfl ?_
  refine ev_aload_n (pc := 9) dX1_become_9 rfl rfl ?_
  refine ev_get (pc := 10) dX1_become_10 fd_X1_13 rfl rfl ?_
  refine ev_put (pc := 13) dX1_become_13 fp_X1_13 rfl (Nat.le_of_ble_eq_true rfl) (fun _ _ => ⟨rfl, rfl⟩) rfl ?_
  refine ev_aload_n (pc := 16) dX1_become_16 rfl rfl ?_
  refine ev_aload_n (pc := 17) dX1_become_17 rfl rfl ?_
  refine ev_get (pc := 18) dX1_become_18 fd_X1_16 rfl rfl ?_
  refine ev_put (pc := 21) dX1_become_21 fp_X1_16 rfl (Nat.le_of_ble_eq_true rfl) (fun _ _ => ⟨rfl, rfl⟩) rfl ?_
  refine ev_aload_n (pc := 24) dX1_become_24 rfl rfl ?_
  refine ev_iconst (pc := 25) (v := 1) dX1_become_25 (by decide) ?_
  refine ev_put (pc := 26) dX1_become_26 fp_X1_19 rfl (Nat.le_of_ble_eq_true rfl) (fun _ _ => ⟨rfl, rfl⟩) rfl ?_
  exact ev_vretE (pc := 29) dX1_become_29 rfl ⟨Nat.le_of_ble_eq_true rfl, Nat.le_of_ble_eq_true rfl⟩ rfl
theorem s_become3 {sl : Int32} {cu ba r0 r1 r2 r3 : Q4} {sw : Nat → Int64} {bt : Int32} {cnt inn lk wd kp wr mk ls pth tk : Nat → Int32} {tl : List mC} : EvS m_X1_become [.ref 19, .ref 10] (cW sl cu ba r0 r1 r2 r3 sw bt cnt inn lk wd kp wr mk ls pth tk tl) (.inl none) (cW sl cu ba r0 r1 r2 (cu.1, cu.2.1, cu.2.2.1, 1) sw bt cnt inn lk wd kp wr mk ls pth tk tl) := by
  refine evs_of (by decide +kernel) (Nat.le_of_ble_eq_true rfl) (by decide) rfl ?_
  refine ev_aload_n (pc := 0) dX1_become_0 rfl rfl ?_
  refine ev_aload_n (pc := 1) dX1_become_1 rfl rfl ?_
  refine ev_get (pc := 2) dX1_become_2 fd_X1_7 rfl rfl ?_
  refine ev_put (pc := 5) dX1_become_5 fp_X1_7 rfl (Nat.le_of_ble_eq_true rfl) (fun _ _ => ⟨rfl, rfl⟩) rfl ?_
  refine ev_aload_n (pc := 8) dX1_become_8 rfl rfl ?_
  refine ev_aload_n (pc := 9) dX1_become_9 rfl rfl ?_
  refine ev_get (pc := 10) dX1_become_10 fd_X1_13 rfl rfl ?_
  refine ev_put (pc := 13) dX1_become_13 fp_X1_13 rfl (Nat.le_of_ble_eq_true rfl) (fun _ _ => ⟨rfl, rfl⟩) rfl ?_
  refine ev_aload_n (pc := 16) dX1_become_16 rfl rfl ?_
  refine ev_aload_n (pc := 17) dX1_become_17 rfl rfl ?_
  refine ev_get (pc := 18) dX1_become_18 fd_X1_16 rfl rfl ?_
  refine ev_put (pc := 21) dX1_become_21 fp_X1_16 rfl (Nat.le_of_ble_eq_true rfl) (fun _ _ => ⟨rfl, rfl⟩) rfl ?_
  refine ev_aload_n (pc := 24) dX1_become_24 rfl rfl ?_
  refine ev_iconst (pc := 25) (v := 1) dX1_become_25 (by decide) ?_
  refine ev_put (pc := 26) dX1_become_26 fp_X1_19 rfl (Nat.le_of_ble_eq_true rfl) (fun _ _ => ⟨rfl, rfl⟩) rfl ?_
  exact ev_vretE (pc := 29) dX1_become_29 rfl ⟨Nat.le_of_ble_eq_true rfl, Nat.le_of_ble_eq_true rfl⟩ rfl
theorem s_wordOfBatch {sl : Int32} {cu ba r0 r1 r2 r3 : Q4} {sw : Nat → Int64} {bt : Int32} {cnt inn lk wd kp wr mk ls pth tk : Nat → Int32} {tl : List mC} {x : RS3} {o : Int32} {j : Nat} (hj : j < 4) : EvS m_X3_wordOfBatch [.ref 0, .int (nI j)] (cW sl cu (nI x.1, nI x.2.1, nI x.2.2, o) r0 r1 r2 r3 sw bt cnt inn lk wd kp wr mk ls pth tk tl) (.inl (some (.long (wdB x j)))) (cW sl cu (nI x.1, nI x.2.1, nI x.2.2, o) r0 r1 r2 r3 sw bt cnt inn lk wd kp wr mk ls pth tk tl) := by
  rcases lt4 hj with rfl | rfl | rfl | rfl
  · refine evs_of (by decide +kernel) (Nat.le_of_ble_eq_true rfl) (by decide) rfl ?_
    refine ev_iload_n (pc := 0) dX3_wordOfBatch_0 rfl rfl ?_
    refine ev_tabIn (pc := 1) (tgt := 28) dX3_wordOfBatch_1 (by decide) (by decide) rfl (by decide) ?_
    refine ev_aload_n (pc := 28) dX3_wordOfBatch_28 rfl rfl ?_
    refine ev_get (pc := 29) dX3_wordOfBatch_29 fd_X3_23 rfl rfl ?_
    refine ev_get (pc := 32) dX3_wordOfBatch_32 fd_X3_73 rfl rfl ?_
    refine ev_i2l (pc := 35) dX3_wordOfBatch_35 ?_
    exact ev_lretE (pc := 36) dX3_wordOfBatch_36 rfl ⟨Nat.le_of_ble_eq_true rfl, Nat.le_of_ble_eq_true rfl⟩ rfl rfl
  · refine evs_of (by decide +kernel) (Nat.le_of_ble_eq_true rfl) (by decide) rfl ?_
    refine ev_iload_n (pc := 0) dX3_wordOfBatch_0 rfl rfl ?_
    refine ev_tabIn (pc := 1) (tgt := 37) dX3_wordOfBatch_1 (by decide) (by decide) rfl (by decide) ?_
    refine ev_aload_n (pc := 37) dX3_wordOfBatch_37 rfl rfl ?_
    refine ev_get (pc := 38) dX3_wordOfBatch_38 fd_X3_23 rfl rfl ?_
    refine ev_get (pc := 41) dX3_wordOfBatch_41 fd_X3_51 rfl rfl ?_
    refine ev_i2l (pc := 44) dX3_wordOfBatch_44 ?_
    exact ev_lretE (pc := 45) dX3_wordOfBatch_45 rfl ⟨Nat.le_of_ble_eq_true rfl, Nat.le_of_ble_eq_true rfl⟩ rfl rfl
  · refine evs_of (by decide +kernel) (Nat.le_of_ble_eq_true rfl) (by decide) rfl ?_
    refine ev_iload_n (pc := 0) dX3_wordOfBatch_0 rfl rfl ?_
    refine ev_tabIn (pc := 1) (tgt := 46) dX3_wordOfBatch_1 (by decide) (by decide) rfl (by decide) ?_
    refine ev_aload_n (pc := 46) dX3_wordOfBatch_46 rfl rfl ?_
    refine ev_get (pc := 47) dX3_wordOfBatch_47 fd_X3_23 rfl rfl ?_
    refine ev_get (pc := 50) dX3_wordOfBatch_50 fd_X3_135 rfl rfl ?_
    refine ev_i2l (pc := 53) dX3_wordOfBatch_53 ?_
    exact ev_lretE (pc := 54) dX3_wordOfBatch_54 rfl ⟨Nat.le_of_ble_eq_true rfl, Nat.le_of_ble_eq_true rfl⟩ rfl rfl
  · refine evs_of (by decide +kernel) (Nat.le_of_ble_eq_true rfl) (by decide) rfl ?_
    refine ev_iload_n (pc := 0) dX3_wordOfBatch_0 rfl rfl ?_
    refine ev_tabOut (pc := 1) (tgt := 55) dX3_wordOfBatch_1 (Or.inr (by decide)) (by decide) ?_
    refine ev_aload_n (pc := 55) dX3_wordOfBatch_55 rfl rfl ?_
    refine ev_get (pc := 56) dX3_wordOfBatch_56 fd_X3_23 rfl rfl ?_
    refine ev_get (pc := 59) dX3_wordOfBatch_59 fd_X3_73 rfl rfl ?_
    refine ev_i2l (pc := 62) dX3_wordOfBatch_62 ?_
    refine ev_aload_n (pc := 63) dX3_wordOfBatch_63 rfl rfl ?_
    refine ev_get (pc := 64) dX3_wordOfBatch_64 fd_X3_23 rfl rfl ?_
    refine ev_get (pc := 67) dX3_wordOfBatch_67 fd_X3_51 rfl rfl ?_
    refine ev_i2l (pc := 70) dX3_wordOfBatch_70 ?_
    refine ev_aload_n (pc := 71) dX3_wordOfBatch_71 rfl rfl ?_
    refine ev_get (pc := 72) dX3_wordOfBatch_72 fd_X3_23 rfl rfl ?_
    refine ev_get (pc := 75) dX3_wordOfBatch_75 fd_X3_135 rfl rfl ?_
    refine ev_i2l (pc := 78) dX3_wordOfBatch_78 ?_
    refine cS3 (pc := 79) lk_X3_wordOfBatch_79 (Nat.le_of_ble_eq_true rfl) ⟨Nat.le_of_ble_eq_true rfl, Nat.le_of_ble_eq_true rfl⟩ s_sumOf ?_
    exact ev_lretE (pc := 82) dX3_wordOfBatch_82 rfl ⟨Nat.le_of_ble_eq_true rfl, Nat.le_of_ble_eq_true rfl⟩ rfl rfl
theorem l_writeSlot {sl : Int32} {cu ba r0 r1 r2 r3 : Q4} {sw : Nat → Int64} {bt : Int32} {cnt inn lk wd kp wr mk ls pth tk : Nat → Int32} {tl : List mC} {x : RS3} {o : Int32} {s n : Nat} (hs : s < 2) (hn : n ≤ 4) : ∀ (m j : Nat) (v4 : Value), n = j + m → EvF m_X3_writeSlot (mQm m_X3_writeSlot (.inl none) (cW sl cu (nI x.1, nI x.2.1, nI x.2.2, o) r0 r1 r2 r3 (wrS sw s x n) bt cnt inn lk wd kp wr mk ls pth tk tl)) 2 [.ref 0, .int (nI s), .int (nI n), .int (nI j), v4] [] 0 0 (cW sl cu (nI x.1, nI x.2.1, nI x.2.2, o) r0 r1 r2 r3 (wrS sw s x j) bt cnt inn lk wd kp wr mk ls pth tk tl) := by
  intro m
  induction m with
  | zero =>
    intro j v4 hj
    have : j = n := by omega
    subst this
    by_cases h4 : j = 4
    · subst h4
      refine ev_iload_n (pc := 2) dX3_writeSlot_2 rfl rfl ?_
      refine ev_iconst (pc := 3) (v := 4) dX3_writeSlot_3 (by decide) ?_
      refine ev_ic_ge (pc := 4) (tgt := 49) dX3_writeSlot_4 (by decide) (fun _ => ?_) (fun c_4 => absurd (by decide) c_4)
      exact ev_vretE (pc := 49) dX3_writeSlot_49 rfl ⟨Nat.le_of_ble_eq_true rfl, Nat.le_of_ble_eq_true rfl⟩ rfl
    · refine ev_iload_n (pc := 2) dX3_writeSlot_2 rfl rfl ?_
      refine ev_iconst (pc := 3) (v := 4) dX3_writeSlot_3 (by decide) ?_
      refine ev_ic_ge (pc := 4) (tgt := 49) dX3_writeSlot_4 (by decide) (fun c_4 => absurd c_4 (nI_ge (show j < 4 by omega) (by decide))) (fun _ => ?_)
      refine ev_iload_n (pc := 7) dX3_writeSlot_7 rfl rfl ?_
      refine ev_iload_n (pc := 8) dX3_writeSlot_8 rfl rfl ?_
      refine ev_ic_ge (pc := 9) (tgt := 49) dX3_writeSlot_9 (by decide) (fun _ => ?_) (fun c_9 => absurd (by exact nI_le (Nat.le_refl _) (by omega)) c_9)
      exact ev_vretE (pc := 49) dX3_writeSlot_49 rfl ⟨Nat.le_of_ble_eq_true rfl, Nat.le_of_ble_eq_true rfl⟩ rfl
  | succ m ih =>
    intro j v4 hj
    have hj4 : j < 4 := by omega
    have hjn : j < n := by omega
    refine ev_iload_n (pc := 2) dX3_writeSlot_2 rfl rfl ?_
    refine ev_iconst (pc := 3) (v := 4) dX3_writeSlot_3 (by decide) ?_
    refine ev_ic_ge (pc := 4) (tgt := 49) dX3_writeSlot_4 (by decide) (fun c_4 => absurd c_4 (nI_ge hj4 (by decide))) (fun _ => ?_)
    refine ev_iload_n (pc := 7) dX3_writeSlot_7 rfl rfl ?_
    refine ev_iload_n (pc := 8) dX3_writeSlot_8 rfl rfl ?_
    refine ev_ic_ge (pc := 9) (tgt := 49) dX3_writeSlot_9 (by decide) (fun c_9 => absurd c_9 (nI_ge hjn (by omega))) (fun _ => ?_)
    refine ev_iload_n (pc := 12) dX3_writeSlot_12 rfl rfl ?_
    refine ev_iconst (pc := 13) (v := 4) dX3_writeSlot_13 (by decide) ?_
    refine ev_imul (pc := 14) dX3_writeSlot_14 ?_
    refine ev_iload_n (pc := 15) dX3_writeSlot_15 rfl rfl ?_
    refine ev_iadd (pc := 16) dX3_writeSlot_16 ?_
    rw [ix4]
    refine ev_istore (pc := 17) dX3_writeSlot_17 rfl rfl ?_
    refine ev_iload (pc := 19) dX3_writeSlot_19 rfl ?_
    refine ev_if_lt (pc := 21) (tgt := 43) dX3_writeSlot_21 (by decide) (fun c_21 => absurd c_21 (nI_pos (show 4 * s + j < 2147483648 by omega))) (fun _ => ?_)
    refine ev_iload (pc := 24) dX3_writeSlot_24 rfl ?_
    refine ev_bipush (pc := 26) (v := 8) dX3_writeSlot_26 (by decide) ?_
    refine ev_ic_ge (pc := 28) (tgt := 43) dX3_writeSlot_28 (by decide) (fun c_28 => absurd c_28 (nI_ge (show 4 * s + j < 8 by omega) (by decide))) (fun _ => ?_)
    refine ev_aload_n (pc := 31) dX3_writeSlot_31 rfl rfl ?_
    refine ev_get (pc := 32) dX3_writeSlot_32 fd_X3_39 rfl rfl ?_
    refine ev_iload (pc := 35) dX3_writeSlot_35 rfl ?_
    refine ev_aload_n (pc := 37) dX3_writeSlot_37 rfl rfl ?_
    refine ev_iload_n (pc := 38) dX3_writeSlot_38 rfl rfl ?_
    refine cV1 (pc := 39) lk_X3_writeSlot_39 rfl rfl rfl (Nat.le_of_ble_eq_true rfl) ⟨Nat.le_of_ble_eq_true rfl, Nat.le_of_ble_eq_true rfl⟩ (s_wordOfBatch (ba := ba) hj4) ?_
    refine ev_lastN (pc := 42) dX3_writeSlot_42 rfl ⟨rfl, by omega, by decide⟩ (wrS_up sw s x j) rfl ?_
    refine ev_iinc (pc := 43) dX3_writeSlot_43 rfl rfl rfl ?_
    refine ev_goto (pc := 46) (tgt := 2) dX3_writeSlot_46 (by decide) ?_
    rw [nI_i1]
    exact ih (j + 1) _ (by omega)
theorem s_writeSlot {sl : Int32} {cu ba r0 r1 r2 r3 : Q4} {sw : Nat → Int64} {bt : Int32} {cnt inn lk wd kp wr mk ls pth tk : Nat → Int32} {tl : List mC} {x : RS3} {o : Int32} {s n : Nat} (hs : s < 2) (hn : n ≤ 4) : EvS m_X3_writeSlot [.ref 0, .int (nI s), .int (nI n)] (cW sl cu (nI x.1, nI x.2.1, nI x.2.2, o) r0 r1 r2 r3 sw bt cnt inn lk wd kp wr mk ls pth tk tl) (.inl none) (cW sl cu (nI x.1, nI x.2.1, nI x.2.2, o) r0 r1 r2 r3 (wrS sw s x n) bt cnt inn lk wd kp wr mk ls pth tk tl) := by
  have e1 := l_writeSlot (sl := sl) (cu := cu) (ba := (nI 0, nI 0, nI 0, 0)) (r0 := r0) (r1 := r1) (r2 := r2) (r3 := r3) (sw := sw) (bt := bt) (cnt := cnt) (inn := inn) (lk := lk) (wd := wd) (kp := kp) (wr := wr) (mk := mk) (ls := ls) (pth := pth) (tk := tk) (tl := tl) (x := x) (o := o) hs hn n 0 hole (by omega)
  rw [wrS_0] at e1
  refine evs_of (by decide +kernel) (Nat.le_of_ble_eq_true rfl) (by decide) rfl ?_
  refine ev_iconst (pc := 0) (v := 0) dX3_writeSlot_0 (by decide) ?_
  refine ev_istore_n (pc := 1) dX3_writeSlot_1 rfl rfl rfl ?_
  exact e1
theorem rts_no : rts c so (rdW rd (-1)) = rts c so rd := by
  have h : ∀ j, j < 4 → rdW rd (-1) j = rd j := fun j hj => by
    unfold rdW
    rw [if_neg (by rcases lt4 hj with rfl | rfl | rfl | rfl <;> decide)]
  simp [rts, rtsF, h 0 (by decide), h 1 (by decide), h 2 (by decide), h 3 (by decide)]
theorem kS_0 {f : Nat → Int32} : kS (zr f 800) (fun _ => False) := kS_zr
theorem s_endBatch {sl : Int32} {cu ba r0 r1 r2 r3 : Q4} {sw : Nat → Int64} {bt : Int32} {cnt inn lk wd kp wr mk ls pth tk : Nat → Int32} {tl : List mC} (hR : Rp cnt inn lk wd T U) {o be br bk bo : Int32} (hRD : RD r0 r1 r2 r3 rd) (hSL : SLR sw so) (hok : ∀ r ∈ rts c so rd, okR T U r) : ∃ kp' ls', kS kp' (RS T (rts c so rd)) ∧ EvS m_X3_endBatch [.ref 0] (cW sl (nI c.1, nI c.2.1, nI c.2.2, o) (be, br, bk, bo) r0 r1 r2 r3 sw bt cnt inn lk wd kp wr mk ls pth tk tl) (.inl none) (cW sl (nI c.1, nI c.2.1, nI c.2.2, o) (be, br, bk, 0) r0 r1 r2 r3 sw bt cnt inn lk wd kp' (zr wr 800) mk ls' pth tk tl) := by
  obtain ⟨k1, l1, hS1, e1⟩ := s_keepK (sl := sl) (cu := (nI c.1, nI c.2.1, nI c.2.2, o)) (ba := (be, br, bk, 0)) (r0 := r0) (r1 := r1) (r2 := r2) (r3 := r3) (sw := sw) (bt := bt) (cnt := cnt) (inn := inn) (lk := lk) (wd := wd) (kp := kp) (wr := (zr wr 800)) (mk := mk) (ls := ls) (pth := pth) (tk := tk) (tl := tl) hR (c := c) rfl hRD hSL (wo := -1) (by rw [rts_no]; exact hok)
  rw [rts_no] at hS1
  refine ⟨k1, l1, hS1, ?_⟩
  refine evs_of (by decide +kernel) (Nat.le_of_ble_eq_true rfl) (by decide) rfl ?_
  refine ev_aload_n (pc := 0) dX3_endBatch_0 rfl rfl ?_
  refine ev_get (pc := 1) dX3_endBatch_1 fd_X3_23 rfl rfl ?_
  refine ev_iconst (pc := 4) (v := 0) dX3_endBatch_4 (by decide) ?_
  refine ev_put (pc := 5) dX3_endBatch_5 fp_X3_58 rfl (Nat.le_of_ble_eq_true rfl) (fun _ _ => ⟨rfl, rfl⟩) rfl ?_
  refine ev_aload_n (pc := 8) dX3_endBatch_8 rfl rfl ?_
  refine ev_get (pc := 9) dX3_endBatch_9 fd_X3_12 rfl rfl ?_
  refine ev_get (pc := 12) dX3_endBatch_12 fd_X3_233 rfl rfl ?_
  refine cS1 (pc := 15) lk_X3_endBatch_15 (Nat.le_of_ble_eq_true rfl) ⟨Nat.le_of_ble_eq_true rfl, Nat.le_of_ble_eq_true rfl⟩ (s_unmark rfl rfl) ?_
  refine ev_aload_n (pc := 18) dX3_endBatch_18 rfl rfl ?_
  refine ev_aload_n (pc := 19) dX3_endBatch_19 rfl rfl ?_
  refine ev_get (pc := 20) dX3_endBatch_20 fd_X3_12 rfl rfl ?_
  refine ev_get (pc := 23) dX3_endBatch_23 fd_X3_47 rfl rfl ?_
  refine ev_iconst (pc := 26) (v := (-1)) dX3_endBatch_26 (by decide) ?_
  refine cV2 (pc := 27) lk_X3_endBatch_27 rfl rfl rfl (Nat.le_of_ble_eq_true rfl) ⟨Nat.le_of_ble_eq_true rfl, Nat.le_of_ble_eq_true rfl⟩ e1 ?_
  exact ev_vretE (pc := 30) dX3_endBatch_30 rfl ⟨Nat.le_of_ble_eq_true rfl, Nat.le_of_ble_eq_true rfl⟩ rfl
theorem s_beginBatch {sl : Int32} {cu ba r0 r1 r2 r3 : Q4} {sw : Nat → Int64} {bt : Int32} {cnt inn lk wd kp wr mk ls pth tk : Nat → Int32} {tl : List mC} {o be br bk : Int32} : EvS m_X3_beginBatch [.ref 0] (cW sl (nI c.1, nI c.2.1, nI c.2.2, o) (be, br, bk, 0) r0 r1 r2 r3 sw bt cnt inn lk wd kp wr mk ls pth tk tl) (.inl (some (.int (nI (c.1 + 1))))) (cW sl (nI c.1, nI c.2.1, nI c.2.2, o) (nI (c.1 + 1), nI c.2.1, nI c.2.2, 1) r0 r1 r2 r3 sw bt cnt inn lk wd kp wr mk ls pth tk tl) := by
  refine evs_of (by decide +kernel) (Nat.le_of_ble_eq_true rfl) (by decide) rfl ?_
  refine ev_aload_n (pc := 0) dX3_beginBatch_0 rfl rfl ?_
  refine ev_get (pc := 1) dX3_beginBatch_1 fd_X3_23 rfl rfl ?_
  refine ev_get (pc := 4) dX3_beginBatch_4 fd_X3_58 rfl rfl ?_
  refine ev_if_eq (pc := 7) (tgt := 20) dX3_beginBatch_7 (by decide) (fun _ => ?_) (fun c_7 => absurd rfl c_7)
  refine ev_aload_n (pc := 20) dX3_beginBatch_20 rfl rfl ?_
  refine ev_get (pc := 21) dX3_beginBatch_21 fd_X3_23 rfl rfl ?_
  refine ev_aload_n (pc := 24) dX3_beginBatch_24 rfl rfl ?_
  refine ev_get (pc := 25) dX3_beginBatch_25 fd_X3_19 rfl rfl ?_
  refine cV1 (pc := 28) lk_X3_beginBatch_28 rfl rfl rfl (Nat.le_of_ble_eq_true rfl) ⟨Nat.le_of_ble_eq_true rfl, Nat.le_of_ble_eq_true rfl⟩ (s_becomeB (sl := sl) (cu := (nI c.1, nI c.2.1, nI c.2.2, o)) (ba := (be, br, bk, 0)) (r0 := r0) (r1 := r1) (r2 := r2) (r3 := r3) (sw := sw) (bt := bt) (cnt := cnt) (inn := inn) (lk := lk) (wd := wd) (kp := kp) (wr := wr) (mk := mk) (ls := ls) (pth := pth) (tk := tk) (tl := tl)) ?_
  refine ev_aload_n (pc := 31) dX3_beginBatch_31 rfl rfl ?_
  refine ev_get (pc := 32) dX3_beginBatch_32 fd_X3_23 rfl rfl ?_
  refine ev_aload_n (pc := 35) dX3_beginBatch_35 rfl rfl ?_
  refine ev_get (pc := 36) dX3_beginBatch_36 fd_X3_19 rfl rfl ?_
  refine ev_get (pc := 39) dX3_beginBatch_39 fd_X3_73 rfl rfl ?_
  refine ev_iconst (pc := 42) (v := 1) dX3_beginBatch_42 (by decide) ?_
  refine ev_iadd (pc := 43) dX3_beginBatch_43 ?_
  rw [nI_a1]
  refine ev_put (pc := 44) dX3_beginBatch_44 fp_X3_73 rfl (Nat.le_of_ble_eq_true rfl) (fun _ _ => ⟨rfl, rfl⟩) rfl ?_
  refine ev_aload_n (pc := 47) dX3_beginBatch_47 rfl rfl ?_
  refine ev_get (pc := 48) dX3_beginBatch_48 fd_X3_23 rfl rfl ?_
  refine ev_get (pc := 51) dX3_beginBatch_51 fd_X3_73 rfl rfl ?_
  exact ev_iretE (pc := 54) dX3_beginBatch_54 rfl ⟨Nat.le_of_ble_eq_true rfl, Nat.le_of_ble_eq_true rfl⟩ rfl rfl
theorem s_beginBatchT {sl : Int32} {cu ba r0 r1 r2 r3 : Q4} {sw : Nat → Int64} {bt : Int32} {cnt inn lk wd kp wr mk ls pth tk : Nat → Int32} {tl : List mC} {be br bk : Int32} : EvS m_X3_beginBatch [.ref 0] (cW sl cu (be, br, bk, 1) r0 r1 r2 r3 sw bt cnt inn lk wd kp wr mk ls pth tk tl) (.inr xIS) (cW sl cu (be, br, bk, 1) r0 r1 r2 r3 sw bt cnt inn lk wd kp wr mk ls pth tk tl) := by
  refine evs_of (by decide +kernel) (Nat.le_of_ble_eq_true rfl) (by decide) rfl ?_
  refine ev_aload_n (pc := 0) dX3_beginBatch_0 rfl rfl ?_
  refine ev_get (pc := 1) dX3_beginBatch_1 fd_X3_23 rfl rfl ?_
  refine ev_get (pc := 4) dX3_beginBatch_4 fd_X3_58 rfl rfl ?_
  refine ev_if_eq (pc := 7) (tgt := 20) dX3_beginBatch_7 (by decide) (fun c_7 => absurd c_7 (show ¬ (1 : Int32) = 0 by decide)) (fun _ => ?_)
  exact ev_throw th_X3_64 dX3_beginBatch_10 dX3_beginBatch_13 dX3_beginBatch_14 dX3_beginBatch_16 dX3_beginBatch_19 rfl (Nat.le_of_ble_eq_true rfl) (Nat.le_of_ble_eq_true rfl) (Nat.le_of_ble_eq_true rfl) (Nat.le_of_ble_eq_true rfl)
theorem s_hasBatch {sl : Int32} {cu ba r0 r1 r2 r3 : Q4} {sw : Nat → Int64} {bt : Int32} {cnt inn lk wd kp wr mk ls pth tk : Nat → Int32} {tl : List mC} {be br bk bo : Int32} (h : bo = 0 ∨ bo = 1) : EvS m_X3_hasBatch [.ref 0] (cW sl cu (be, br, bk, bo) r0 r1 r2 r3 sw bt cnt inn lk wd kp wr mk ls pth tk tl) (.inl (some (.int bo))) (cW sl cu (be, br, bk, bo) r0 r1 r2 r3 sw bt cnt inn lk wd kp wr mk ls pth tk tl) := by
  refine evs_of (by decide +kernel) (Nat.le_of_ble_eq_true rfl) (by decide) rfl ?_
  refine ev_aload_n (pc := 0) dX3_hasBatch_0 rfl rfl ?_
  refine ev_get (pc := 1) dX3_hasBatch_1 fd_X3_23 rfl rfl ?_
  refine ev_get (pc := 4) dX3_hasBatch_4 fd_X3_58 rfl rfl ?_
  exact ev_zretE (pc := 7) dX3_hasBatch_7 rfl ⟨Nat.le_of_ble_eq_true rfl, Nat.le_of_ble_eq_true rfl⟩ (by first | exact Or.inl rfl | exact Or.inr rfl | assumption | exact i10_o) rfl rfl
theorem s_put {sl : Int32} {cu ba r0 r1 r2 r3 : Q4} {sw : Nat → Int64} {bt : Int32} {cnt inn lk wd kp wr mk ls pth tk : Nat → Int32} {tl : List mC} {be bk v : Int32} {rr r' k : Nat} {nw : Bool} {T' : Nat → Nd} {W' : Nat → Prop} (hC : CR K W T cnt inn lk wd kp wr) (hk : k < 100) (h : putR K T W rr k v T' W' r' nw) : ∃ cnt' inn' lk' wd' wr' bt' pth' tk', CR K W' T' cnt' inn' lk' wd' kp wr' ∧ EvS m_X3_put [.ref 0, .int (nI k), .int v] (cW sl cu (be, nI rr, bk, 1) r0 r1 r2 r3 sw bt cnt inn lk wd kp wr mk ls pth tk tl) (.inl (some (.int (if nw then 1 else 0)))) (cW sl cu (be, nI r', if nw then bk + 1 else bk, 1) r0 r1 r2 r3 sw bt' cnt' inn' lk' wd' kp wr' mk ls pth' tk' tl) := by
  obtain ⟨a1, a2, a3, a4, a5, a6, a7, a8, hC1, e1⟩ := s_store (sl := sl) (cu := cu) (ba := ba) (r0 := r0) (r1 := r1) (r2 := r2) (r3 := r3) (sw := sw) (bt := bt) (cnt := cnt) (inn := inn) (lk := lk) (wd := wd) (kp := kp) (wr := wr) (mk := mk) (ls := ls) (pth := pth) (tk := tk) (tl := tl) (be := be) (bk := bk) (bo := 1) hC h
  refine ⟨a1, a2, a3, a4, a5, a6, a7, a8, hC1, ?_⟩
  refine evs_of (by decide +kernel) (Nat.le_of_ble_eq_true rfl) (by decide) rfl ?_
  refine ev_iload_n (pc := 0) dX3_put_0 rfl rfl ?_
  refine cS1 (pc := 1) lk_X3_put_1 (Nat.le_of_ble_eq_true rfl) ⟨Nat.le_of_ble_eq_true rfl, Nat.le_of_ble_eq_true rfl⟩ (s_reqKey hk) ?_
  refine ev_aload_n (pc := 4) dX3_put_4 rfl rfl ?_
  refine cV0 (pc := 5) lk_X3_put_5 rfl rfl rfl (Nat.le_of_ble_eq_true rfl) ⟨Nat.le_of_ble_eq_true rfl, Nat.le_of_ble_eq_true rfl⟩ (s_reqBatch (sl := sl) (cu := cu) (ba := ba) (r0 := r0) (r1 := r1) (r2 := r2) (r3 := r3) (sw := sw) (bt := bt) (cnt := cnt) (inn := inn) (lk := lk) (wd := wd) (kp := kp) (wr := wr) (mk := mk) (ls := ls) (pth := pth) (tk := tk) (tl := tl) (be := be) (br := nI rr) (bk := bk)) ?_
  refine ev_aload_n (pc := 8) dX3_put_8 rfl rfl ?_
  refine ev_get (pc := 9) dX3_put_9 fd_X3_31 rfl rfl ?_
  refine ev_iload_n (pc := 12) dX3_put_12 rfl rfl ?_
  refine ev_iload_n (pc := 13) dX3_put_13 rfl rfl ?_
  refine cV2 (pc := 14) lk_X3_put_14 rfl rfl rfl (Nat.le_of_ble_eq_true rfl) ⟨Nat.le_of_ble_eq_true rfl, Nat.le_of_ble_eq_true rfl⟩ e1 ?_
  exact ev_zretE (pc := 17) dX3_put_17 rfl ⟨Nat.le_of_ble_eq_true rfl, Nat.le_of_ble_eq_true rfl⟩ (by cases nw <;> simp) rfl rfl
theorem s_putT1 {sl : Int32} {cu ba r0 r1 r2 r3 : Q4} {sw : Nat → Int64} {bt : Int32} {cnt inn lk wd kp wr mk ls pth tk : Nat → Int32} {tl : List mC} {i v : Int32} (h : i < 0 ∨ (100 : Int32) ≤ i) : EvS m_X3_put [.ref 0, .int i, .int v] (cW sl cu ba r0 r1 r2 r3 sw bt cnt inn lk wd kp wr mk ls pth tk tl) (.inr xIA) (cW sl cu ba r0 r1 r2 r3 sw bt cnt inn lk wd kp wr mk ls pth tk tl) := by
  refine evs_of (by decide +kernel) (Nat.le_of_ble_eq_true rfl) (by decide) rfl ?_
  refine ev_iload_n (pc := 0) dX3_put_0 rfl rfl ?_
  exact tS1 (pc := 1) lk_X3_put_1 rfl (Nat.le_of_ble_eq_true rfl) ⟨Nat.le_of_ble_eq_true rfl, Nat.le_of_ble_eq_true rfl⟩ (s_reqKeyT h)
theorem s_putT2 {sl : Int32} {cu ba r0 r1 r2 r3 : Q4} {sw : Nat → Int64} {bt : Int32} {cnt inn lk wd kp wr mk ls pth tk : Nat → Int32} {tl : List mC} {be br bk v : Int32} {k : Nat} (hk : k < 100) : EvS m_X3_put [.ref 0, .int (nI k), .int v] (cW sl cu (be, br, bk, 0) r0 r1 r2 r3 sw bt cnt inn lk wd kp wr mk ls pth tk tl) (.inr xIS) (cW sl cu (be, br, bk, 0) r0 r1 r2 r3 sw bt cnt inn lk wd kp wr mk ls pth tk tl) := by
  refine evs_of (by decide +kernel) (Nat.le_of_ble_eq_true rfl) (by decide) rfl ?_
  refine ev_iload_n (pc := 0) dX3_put_0 rfl rfl ?_
  refine cS1 (pc := 1) lk_X3_put_1 (Nat.le_of_ble_eq_true rfl) ⟨Nat.le_of_ble_eq_true rfl, Nat.le_of_ble_eq_true rfl⟩ (s_reqKey hk) ?_
  refine ev_aload_n (pc := 4) dX3_put_4 rfl rfl ?_
  exact tV0 (pc := 5) lk_X3_put_5 rfl rfl rfl rfl (Nat.le_of_ble_eq_true rfl) ⟨Nat.le_of_ble_eq_true rfl, Nat.le_of_ble_eq_true rfl⟩ (s_reqBatchT (sl := sl) (cu := cu) (ba := ba) (r0 := r0) (r1 := r1) (r2 := r2) (r3 := r3) (sw := sw) (bt := bt) (cnt := cnt) (inn := inn) (lk := lk) (wd := wd) (kp := kp) (wr := wr) (mk := mk) (ls := ls) (pth := pth) (tk := tk) (tl := tl) (be := be) (br := br) (bk := bk))
theorem s_deleteT1 {sl : Int32} {cu ba r0 r1 r2 r3 : Q4} {sw : Nat → Int64} {bt : Int32} {cnt inn lk wd kp wr mk ls pth tk : Nat → Int32} {tl : List mC} {i : Int32} (h : i < 0 ∨ (100 : Int32) ≤ i) : EvS m_X3_delete [.ref 0, .int i] (cW sl cu ba r0 r1 r2 r3 sw bt cnt inn lk wd kp wr mk ls pth tk tl) (.inr xIA) (cW sl cu ba r0 r1 r2 r3 sw bt cnt inn lk wd kp wr mk ls pth tk tl) := by
  refine evs_of (by decide +kernel) (Nat.le_of_ble_eq_true rfl) (by decide) rfl ?_
  refine ev_iload_n (pc := 0) dX3_delete_0 rfl rfl ?_
  exact tS1 (pc := 1) lk_X3_delete_1 rfl (Nat.le_of_ble_eq_true rfl) ⟨Nat.le_of_ble_eq_true rfl, Nat.le_of_ble_eq_true rfl⟩ (s_reqKeyT h)
theorem s_deleteT2 {sl : Int32} {cu ba r0 r1 r2 r3 : Q4} {sw : Nat → Int64} {bt : Int32} {cnt inn lk wd kp wr mk ls pth tk : Nat → Int32} {tl : List mC} {be br bk : Int32} {k : Nat} (hk : k < 100) : EvS m_X3_delete [.ref 0, .int (nI k)] (cW sl cu (be, br, bk, 0) r0 r1 r2 r3 sw bt cnt inn lk wd kp wr mk ls pth tk tl) (.inr xIS) (cW sl cu (be, br, bk, 0) r0 r1 r2 r3 sw bt cnt inn lk wd kp wr mk ls pth tk tl) := by
  refine evs_of (by decide +kernel) (Nat.le_of_ble_eq_true rfl) (by decide) rfl ?_
  refine ev_iload_n (pc := 0) dX3_delete_0 rfl rfl ?_
  refine cS1 (pc := 1) lk_X3_delete_1 (Nat.le_of_ble_eq_true rfl) ⟨Nat.le_of_ble_eq_true rfl, Nat.le_of_ble_eq_true rfl⟩ (s_reqKey hk) ?_
  refine ev_aload_n (pc := 4) dX3_delete_4 rfl rfl ?_
  exact tV0 (pc := 5) lk_X3_delete_5 rfl rfl rfl rfl (Nat.le_of_ble_eq_true rfl) ⟨Nat.le_of_ble_eq_true rfl, Nat.le_of_ble_eq_true rfl⟩ (s_reqBatchT (sl := sl) (cu := cu) (ba := ba) (r0 := r0) (r1 := r1) (r2 := r2) (r3 := r3) (sw := sw) (bt := bt) (cnt := cnt) (inn := inn) (lk := lk) (wd := wd) (kp := kp) (wr := wr) (mk := mk) (ls := ls) (pth := pth) (tk := tk) (tl := tl) (be := be) (br := br) (bk := bk))
theorem s_deleteT3 {sl : Int32} {cu ba r0 r1 r2 r3 : Q4} {sw : Nat → Int64} {bt : Int32} {cnt inn lk wd kp wr mk ls pth tk : Nat → Int32} {tl : List mC} {be bk : Int32} {p k d : Nat} (hk : k < 100) (hR : Rp cnt inn lk wd T (fun q => K q ∨ W q)) (hd : d ≤ 6) (ht : rt T (fun q => K q ∨ W q) d p) {l : List (Nat × Int32)} (hl : T (lfF T d p (nI k)) = .inl l) (hu : K (lfF T d p (nI k)) ∨ W (lfF T d p (nI k))) (hx : ¬ hld l (plc l (nI k)) (nI k)) : EvS m_X3_delete [.ref 0, .int (nI k)] (cW sl cu (be, nI p, bk, 1) r0 r1 r2 r3 sw bt cnt inn lk wd kp wr mk ls pth tk tl) (.inr nX) (cW sl cu (be, nI p, bk, 1) r0 r1 r2 r3 sw bt cnt inn lk wd kp wr mk ls pth tk tl) := by
  refine evs_of (by decide +kernel) (Nat.le_of_ble_eq_true rfl) (by decide) rfl ?_
  refine ev_iload_n (pc := 0) dX3_delete_0 rfl rfl ?_
  refine cS1 (pc := 1) lk_X3_delete_1 (Nat.le_of_ble_eq_true rfl) ⟨Nat.le_of_ble_eq_true rfl, Nat.le_of_ble_eq_true rfl⟩ (s_reqKey hk) ?_
  refine ev_aload_n (pc := 4) dX3_delete_4 rfl rfl ?_
  refine cV0 (pc := 5) lk_X3_delete_5 rfl rfl rfl (Nat.le_of_ble_eq_true rfl) ⟨Nat.le_of_ble_eq_true rfl, Nat.le_of_ble_eq_true rfl⟩ (s_reqBatch (sl := sl) (cu := cu) (ba := ba) (r0 := r0) (r1 := r1) (r2 := r2) (r3 := r3) (sw := sw) (bt := bt) (cnt := cnt) (inn := inn) (lk := lk) (wd := wd) (kp := kp) (wr := wr) (mk := mk) (ls := ls) (pth := pth) (tk := tk) (tl := tl) (be := be) (br := nI p) (bk := bk)) ?_
  refine ev_aload_n (pc := 8) dX3_delete_8 rfl rfl ?_
  refine ev_aload_n (pc := 9) dX3_delete_9 rfl rfl ?_
  refine ev_get (pc := 10) dX3_delete_10 fd_X3_23 rfl rfl ?_
  refine ev_iload_n (pc := 13) dX3_delete_13 rfl rfl ?_
  exact tV2 (pc := 14) lk_X3_delete_14 rfl rfl rfl rfl (Nat.le_of_ble_eq_true rfl) ⟨Nat.le_of_ble_eq_true rfl, Nat.le_of_ble_eq_true rfl⟩ (s_valueInT (sl := sl) (cu := cu) (ba := (be, nI p, bk, 1)) (r0 := r0) (r1 := r1) (r2 := r2) (r3 := r3) (sw := sw) (bt := bt) (cnt := cnt) (inn := inn) (lk := lk) (wd := wd) (kp := kp) (wr := wr) (mk := mk) (ls := ls) (pth := pth) (tk := tk) (tl := tl) hR (q := 11) rfl hd ht hl hu hx)
theorem s_delete {sl : Int32} {cu ba r0 r1 r2 r3 : Q4} {sw : Nat → Int64} {bt : Int32} {cnt inn lk wd kp wr mk ls pth tk : Nat → Int32} {tl : List mC} {be bk v : Int32} {p r' k d : Nat} {T' : Nat → Nd} {W' : Nat → Prop} (hk : k < 100) (hC : CR K W T cnt inn lk wd kp wr) (hd : d ≤ 6) (ht : rt T (fun q => K q ∨ W q) d p) {l : List (Nat × Int32)} (hl : T (lfF T d p (nI k)) = .inl l) (hu : K (lfF T d p (nI k)) ∨ W (lfF T d p (nI k))) (hx : l[plc l (nI k)]? = some (k, v)) (h : delR K T W p k v T' W' r') : ∃ cnt' inn' lk' wd' wr' bt' pth' tk', CR K W' T' cnt' inn' lk' wd' kp wr' ∧ EvS m_X3_delete [.ref 0, .int (nI k)] (cW sl cu (be, nI p, bk, 1) r0 r1 r2 r3 sw bt cnt inn lk wd kp wr mk ls pth tk tl) (.inl (some (.int v))) (cW sl cu (be, nI r', bk - 1, 1) r0 r1 r2 r3 sw bt' cnt' inn' lk' wd' kp wr' mk ls pth' tk' tl) := by
  obtain ⟨a1, a2, a3, a4, a5, a6, a7, a8, hC1, e1⟩ := s_drop (sl := sl) (cu := cu) (ba := ba) (r0 := r0) (r1 := r1) (r2 := r2) (r3 := r3) (sw := sw) (bt := bt) (cnt := cnt) (inn := inn) (lk := lk) (wd := wd) (kp := kp) (wr := wr) (mk := mk) (ls := ls) (pth := pth) (tk := tk) (tl := tl) (be := be) (bk := bk) (bo := 1) hC h
  refine ⟨a1, a2, a3, a4, a5, a6, a7, a8, hC1, ?_⟩
  refine evs_of (by decide +kernel) (Nat.le_of_ble_eq_true rfl) (by decide) rfl ?_
  refine ev_iload_n (pc := 0) dX3_delete_0 rfl rfl ?_
  refine cS1 (pc := 1) lk_X3_delete_1 (Nat.le_of_ble_eq_true rfl) ⟨Nat.le_of_ble_eq_true rfl, Nat.le_of_ble_eq_true rfl⟩ (s_reqKey hk) ?_
  refine ev_aload_n (pc := 4) dX3_delete_4 rfl rfl ?_
  refine cV0 (pc := 5) lk_X3_delete_5 rfl rfl rfl (Nat.le_of_ble_eq_true rfl) ⟨Nat.le_of_ble_eq_true rfl, Nat.le_of_ble_eq_true rfl⟩ (s_reqBatch (sl := sl) (cu := cu) (ba := ba) (r0 := r0) (r1 := r1) (r2 := r2) (r3 := r3) (sw := sw) (bt := bt) (cnt := cnt) (inn := inn) (lk := lk) (wd := wd) (kp := kp) (wr := wr) (mk := mk) (ls := ls) (pth := pth) (tk := tk) (tl := tl) (be := be) (br := nI p) (bk := bk)) ?_
  refine ev_aload_n (pc := 8) dX3_delete_8 rfl rfl ?_
  refine ev_aload_n (pc := 9) dX3_delete_9 rfl rfl ?_
  refine ev_get (pc := 10) dX3_delete_10 fd_X3_23 rfl rfl ?_
  refine ev_iload_n (pc := 13) dX3_delete_13 rfl rfl ?_
  refine cV2 (pc := 14) lk_X3_delete_14 rfl rfl rfl (Nat.le_of_ble_eq_true rfl) ⟨Nat.le_of_ble_eq_true rfl, Nat.le_of_ble_eq_true rfl⟩ (s_valueIn (sl := sl) (cu := cu) (ba := (be, nI p, bk, 1)) (r0 := r0) (r1 := r1) (r2 := r2) (r3 := r3) (sw := sw) (bt := bt) (cnt := cnt) (inn := inn) (lk := lk) (wd := wd) (kp := kp) (wr := wr) (mk := mk) (ls := ls) (pth := pth) (tk := tk) (tl := tl) hC.1 (q := 11) rfl hd ht hl hu hx rfl) ?_
  refine ev_istore_n (pc := 17) dX3_delete_17 rfl rfl rfl ?_
  refine ev_aload_n (pc := 18) dX3_delete_18 rfl rfl ?_
  refine ev_get (pc := 19) dX3_delete_19 fd_X3_31 rfl rfl ?_
  refine ev_iload_n (pc := 22) dX3_delete_22 rfl rfl ?_
  refine cV1 (pc := 23) lk_X3_delete_23 rfl rfl rfl (Nat.le_of_ble_eq_true rfl) ⟨Nat.le_of_ble_eq_true rfl, Nat.le_of_ble_eq_true rfl⟩ e1 ?_
  refine ev_iload_n (pc := 26) dX3_delete_26 rfl rfl ?_
  exact ev_iretE (pc := 27) dX3_delete_27 rfl ⟨Nat.le_of_ble_eq_true rfl, Nat.le_of_ble_eq_true rfl⟩ rfl rfl
theorem s_commitT {sl : Int32} {cu ba r0 r1 r2 r3 : Q4} {sw : Nat → Int64} {bt : Int32} {cnt inn lk wd kp wr mk ls pth tk : Nat → Int32} {tl : List mC} {be br bk : Int32} : EvS m_X3_commit [.ref 0] (cW sl cu (be, br, bk, 0) r0 r1 r2 r3 sw bt cnt inn lk wd kp wr mk ls pth tk tl) (.inr xIS) (cW sl cu (be, br, bk, 0) r0 r1 r2 r3 sw bt cnt inn lk wd kp wr mk ls pth tk tl) := by
  refine evs_of (by decide +kernel) (Nat.le_of_ble_eq_true rfl) (by decide) rfl ?_
  refine ev_aload_n (pc := 0) dX3_commit_0 rfl rfl ?_
  exact tV0 (pc := 1) lk_X3_commit_1 rfl rfl rfl rfl (Nat.le_of_ble_eq_true rfl) ⟨Nat.le_of_ble_eq_true rfl, Nat.le_of_ble_eq_true rfl⟩ (s_reqBatchT (sl := sl) (cu := cu) (ba := ba) (r0 := r0) (r1 := r1) (r2 := r2) (r3 := r3) (sw := sw) (bt := bt) (cnt := cnt) (inn := inn) (lk := lk) (wd := wd) (kp := kp) (wr := wr) (mk := mk) (ls := ls) (pth := pth) (tk := tk) (tl := tl) (be := be) (br := br) (bk := bk))
theorem s_commit {sl : Int32} {cu ba r0 r1 r2 r3 : Q4} {sw : Nat → Int64} {bt : Int32} {cnt inn lk wd kp wr mk ls pth tk : Nat → Int32} {tl : List mC} (hR : Rp cnt inn lk wd T U) {s : Nat} (hs : s < 2) {x : RS3} (hRD : RD r0 r1 r2 r3 rd) (hSL : SLR (wrS sw (1 - s) x 4) so) (hok : ∀ r ∈ rts x so rd, okR T U r) : ∃ kp' ls' o', kS kp' (RS T (rts x so rd)) ∧ EvS m_X3_commit [.ref 0] (cW (nI s) cu (nI x.1, nI x.2.1, nI x.2.2, 1) r0 r1 r2 r3 sw bt cnt inn lk wd kp wr mk ls pth tk tl) (.inl (some (.int (nI x.1)))) (cW (nI (1 - s)) (nI x.1, nI x.2.1, nI x.2.2, o') (nI x.1, nI x.2.1, nI x.2.2, 0) r0 r1 r2 r3 (wrS sw (1 - s) x 4) bt cnt inn lk wd kp' (zr wr 800) mk ls' pth tk tl) := by
  obtain ⟨k1, l1, hS1, e1⟩ := s_endBatch (sl := (nI (1 - s))) (cu := cu) (ba := ba) (r0 := r0) (r1 := r1) (r2 := r2) (r3 := r3) (sw := (wrS sw (1 - s) x 4)) (bt := bt) (cnt := cnt) (inn := inn) (lk := lk) (wd := wd) (kp := kp) (wr := wr) (mk := mk) (ls := ls) (pth := pth) (tk := tk) (tl := tl) hR (c := x) (o := 1) (be := nI x.1) (br := nI x.2.1) (bk := nI x.2.2) (bo := 1) hRD hSL hok
  refine ⟨k1, l1, 1, hS1, ?_⟩
  refine evs_of (by decide +kernel) (Nat.le_of_ble_eq_true rfl) (by decide) rfl ?_
  refine ev_aload_n (pc := 0) dX3_commit_0 rfl rfl ?_
  refine cV0 (pc := 1) lk_X3_commit_1 rfl rfl rfl (Nat.le_of_ble_eq_true rfl) ⟨Nat.le_of_ble_eq_true rfl, Nat.le_of_ble_eq_true rfl⟩ (s_reqBatch (sl := (nI s)) (cu := cu) (ba := ba) (r0 := r0) (r1 := r1) (r2 := r2) (r3 := r3) (sw := sw) (bt := bt) (cnt := cnt) (inn := inn) (lk := lk) (wd := wd) (kp := kp) (wr := wr) (mk := mk) (ls := ls) (pth := pth) (tk := tk) (tl := tl) (be := nI x.1) (br := nI x.2.1) (bk := nI x.2.2)) ?_
  refine ev_aload_n (pc := 4) dX3_commit_4 rfl rfl ?_
  refine ev_get (pc := 5) dX3_commit_5 fd_X3_43 rfl rfl ?_
  refine cS1 (pc := 8) lk_X3_commit_8 (Nat.le_of_ble_eq_true rfl) ⟨Nat.le_of_ble_eq_true rfl, Nat.le_of_ble_eq_true rfl⟩ (s_other hs) ?_
  refine ev_istore_n (pc := 11) dX3_commit_11 rfl rfl rfl ?_
  refine ev_aload_n (pc := 12) dX3_commit_12 rfl rfl ?_
  refine ev_iload_n (pc := 13) dX3_commit_13 rfl rfl ?_
  refine ev_iconst (pc := 14) (v := 4) dX3_commit_14 (by decide) ?_
  refine cV2 (pc := 15) lk_X3_commit_15 rfl rfl rfl (Nat.le_of_ble_eq_true rfl) ⟨Nat.le_of_ble_eq_true rfl, Nat.le_of_ble_eq_true rfl⟩ (s_writeSlot (sl := (nI s)) (cu := cu) (ba := ba) (r0 := r0) (r1 := r1) (r2 := r2) (r3 := r3) (sw := sw) (bt := bt) (cnt := cnt) (inn := inn) (lk := lk) (wd := wd) (kp := kp) (wr := wr) (mk := mk) (ls := ls) (pth := pth) (tk := tk) (tl := tl) (x := x) (o := 1) (n := 4) (s := 1 - s) (by omega) (by decide)) ?_
  refine ev_aload_n (pc := 18) dX3_commit_18 rfl rfl ?_
  refine ev_iload_n (pc := 19) dX3_commit_19 rfl rfl ?_
  refine ev_put (pc := 20) dX3_commit_20 fp_X3_43 rfl (Nat.le_of_ble_eq_true rfl) (fun _ _ => ⟨rfl, rfl⟩) rfl ?_
  refine ev_aload_n (pc := 23) dX3_commit_23 rfl rfl ?_
  refine ev_get (pc := 24) dX3_commit_24 fd_X3_19 rfl rfl ?_
  refine ev_aload_n (pc := 27) dX3_commit_27 rfl rfl ?_
  refine ev_get (pc := 28) dX3_commit_28 fd_X3_23 rfl rfl ?_
  refine cV1 (pc := 31) lk_X3_commit_31 rfl rfl rfl (Nat.le_of_ble_eq_true rfl) ⟨Nat.le_of_ble_eq_true rfl, Nat.le_of_ble_eq_true rfl⟩ (s_become1 (sl := (nI (1 - s))) (cu := cu) (ba := (nI x.1, nI x.2.1, nI x.2.2, 1)) (r0 := r0) (r1 := r1) (r2 := r2) (r3 := r3) (sw := (wrS sw (1 - s) x 4)) (bt := bt) (cnt := cnt) (inn := inn) (lk := lk) (wd := wd) (kp := kp) (wr := wr) (mk := mk) (ls := ls) (pth := pth) (tk := tk) (tl := tl)) ?_
  refine ev_aload_n (pc := 34) dX3_commit_34 rfl rfl ?_
  refine cV0 (pc := 35) lk_X3_commit_35 rfl rfl rfl (Nat.le_of_ble_eq_true rfl) ⟨Nat.le_of_ble_eq_true rfl, Nat.le_of_ble_eq_true rfl⟩ e1 ?_
  refine ev_aload_n (pc := 38) dX3_commit_38 rfl rfl ?_
  refine ev_get (pc := 39) dX3_commit_39 fd_X3_19 rfl rfl ?_
  refine ev_get (pc := 42) dX3_commit_42 fd_X3_73 rfl rfl ?_
  exact ev_iretE (pc := 45) dX3_commit_45 rfl ⟨Nat.le_of_ble_eq_true rfl, Nat.le_of_ble_eq_true rfl⟩ rfl rfl
theorem s_abandonT {sl : Int32} {cu ba r0 r1 r2 r3 : Q4} {sw : Nat → Int64} {bt : Int32} {cnt inn lk wd kp wr mk ls pth tk : Nat → Int32} {tl : List mC} {be br bk : Int32} : EvS m_X3_abandon [.ref 0] (cW sl cu (be, br, bk, 0) r0 r1 r2 r3 sw bt cnt inn lk wd kp wr mk ls pth tk tl) (.inr xIS) (cW sl cu (be, br, bk, 0) r0 r1 r2 r3 sw bt cnt inn lk wd kp wr mk ls pth tk tl) := by
  refine evs_of (by decide +kernel) (Nat.le_of_ble_eq_true rfl) (by decide) rfl ?_
  refine ev_aload_n (pc := 0) dX3_abandon_0 rfl rfl ?_
  exact tV0 (pc := 1) lk_X3_abandon_1 rfl rfl rfl rfl (Nat.le_of_ble_eq_true rfl) ⟨Nat.le_of_ble_eq_true rfl, Nat.le_of_ble_eq_true rfl⟩ (s_reqBatchT (sl := sl) (cu := cu) (ba := ba) (r0 := r0) (r1 := r1) (r2 := r2) (r3 := r3) (sw := sw) (bt := bt) (cnt := cnt) (inn := inn) (lk := lk) (wd := wd) (kp := kp) (wr := wr) (mk := mk) (ls := ls) (pth := pth) (tk := tk) (tl := tl) (be := be) (br := br) (bk := bk))
theorem s_abandon {sl : Int32} {cu ba r0 r1 r2 r3 : Q4} {sw : Nat → Int64} {bt : Int32} {cnt inn lk wd kp wr mk ls pth tk : Nat → Int32} {tl : List mC} (hC : CR K W T cnt inn lk wd kp wr) {o be br bk : Int32} (hRD : RD r0 r1 r2 r3 rd) (hSL : SLR sw so) (hok : ∀ r ∈ rts c so rd, okR T (fun q => K q ∨ W q) r) {n1 n2 : Nat} (h1 : cntR (fun q => K q ∨ W q) 800 n1) (h2 : cntR (RS T (rts c so rd)) 800 n2) : ∃ kp' ls', kS kp' (RS T (rts c so rd)) ∧ EvS m_X3_abandon [.ref 0] (cW sl (nI c.1, nI c.2.1, nI c.2.2, o) (be, br, bk, 1) r0 r1 r2 r3 sw bt cnt inn lk wd kp wr mk ls pth tk tl) (.inl (some (.int (nI n1 - nI n2)))) (cW sl (nI c.1, nI c.2.1, nI c.2.2, o) (be, br, bk, 0) r0 r1 r2 r3 sw bt cnt inn lk wd kp' (zr wr 800) mk ls' pth tk tl) := by
  obtain ⟨k1, l1, hS1, e1⟩ := s_endBatch (sl := sl) (cu := cu) (ba := ba) (r0 := r0) (r1 := r1) (r2 := r2) (r3 := r3) (sw := sw) (bt := bt) (cnt := cnt) (inn := inn) (lk := lk) (wd := wd) (kp := kp) (wr := wr) (mk := mk) (ls := ls) (pth := pth) (tk := tk) (tl := tl) hC.1 (c := c) (o := o) (be := be) (br := br) (bk := bk) (bo := 1) hRD hSL hok
  refine ⟨k1, l1, hS1, ?_⟩
  refine evs_of (by decide +kernel) (Nat.le_of_ble_eq_true rfl) (by decide) rfl ?_
  refine ev_aload_n (pc := 0) dX3_abandon_0 rfl rfl ?_
  refine cV0 (pc := 1) lk_X3_abandon_1 rfl rfl rfl (Nat.le_of_ble_eq_true rfl) ⟨Nat.le_of_ble_eq_true rfl, Nat.le_of_ble_eq_true rfl⟩ (s_reqBatch (sl := sl) (cu := (nI c.1, nI c.2.1, nI c.2.2, o)) (ba := ba) (r0 := r0) (r1 := r1) (r2 := r2) (r3 := r3) (sw := sw) (bt := bt) (cnt := cnt) (inn := inn) (lk := lk) (wd := wd) (kp := kp) (wr := wr) (mk := mk) (ls := ls) (pth := pth) (tk := tk) (tl := tl) (be := be) (br := br) (bk := bk)) ?_
  refine ev_aload_n (pc := 4) dX3_abandon_4 rfl rfl ?_
  refine cV0 (pc := 5) lk_X3_abandon_5 rfl rfl rfl (Nat.le_of_ble_eq_true rfl) ⟨Nat.le_of_ble_eq_true rfl, Nat.le_of_ble_eq_true rfl⟩ (s_inUse (sl := sl) (cu := (nI c.1, nI c.2.1, nI c.2.2, o)) (ba := (be, br, bk, 1)) (r0 := r0) (r1 := r1) (r2 := r2) (r3 := r3) (sw := sw) (bt := bt) (cnt := cnt) (inn := inn) (lk := lk) (wd := wd) (kp := kp) (wr := wr) (mk := mk) (ls := ls) (pth := pth) (tk := tk) (tl := tl) hC.2.1 hC.2.2 h1) ?_
  refine ev_istore_n (pc := 8) dX3_abandon_8 rfl rfl rfl ?_
  refine ev_aload_n (pc := 9) dX3_abandon_9 rfl rfl ?_
  refine cV0 (pc := 10) lk_X3_abandon_10 rfl rfl rfl (Nat.le_of_ble_eq_true rfl) ⟨Nat.le_of_ble_eq_true rfl, Nat.le_of_ble_eq_true rfl⟩ e1 ?_
  refine ev_iload_n (pc := 13) dX3_abandon_13 rfl rfl ?_
  refine ev_aload_n (pc := 14) dX3_abandon_14 rfl rfl ?_
  refine cV0 (pc := 15) lk_X3_abandon_15 rfl rfl rfl (Nat.le_of_ble_eq_true rfl) ⟨Nat.le_of_ble_eq_true rfl, Nat.le_of_ble_eq_true rfl⟩ (s_inUse (sl := sl) (cu := (nI c.1, nI c.2.1, nI c.2.2, o)) (ba := (be, br, bk, 0)) (r0 := r0) (r1 := r1) (r2 := r2) (r3 := r3) (sw := sw) (bt := bt) (cnt := cnt) (inn := inn) (lk := lk) (wd := wd) (kp := k1) (wr := (zr wr 800)) (mk := mk) (ls := l1) (pth := pth) (tk := tk) (tl := tl) hS1 kS_0 (cntR_cg (fun q _ => ⟨Or.inl, fun h => h.elim id False.elim⟩) h2)) ?_
  refine ev_isub (pc := 18) dX3_abandon_18 ?_
  exact ev_iretE (pc := 19) dX3_abandon_19 rfl ⟨Nat.le_of_ble_eq_true rfl, Nat.le_of_ble_eq_true rfl⟩ rfl rfl
end XE
