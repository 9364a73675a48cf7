/-! the class's small methods -/
section AN2
variable {M : mM} {Qf : mQ} {pc : Nat} {L st : List Value} {kc ks : Nat} {w w' : mW}
theorem ev_aaldN {q n j a : Nat} {f : Nat → Option Nat} {i : Int32} (d : decode (mMc M) pc = .ok (.aaload, 1)) (he : w[q]? = some (.inl (3, n, .inr (.inr f)))) (h : i = nI j ∧ j < n ∧ n < 2147483648) (ha : f j = some a) (kk : EvF M Qf (pc + 1) L (.ref a :: st) kc ks w) : EvF M Qf pc L (.int i :: .ref q :: st) kc ks w := by
  obtain ⟨rfl, hj, hn⟩ := h
  refine ev_aald d he (vp_in_nI hj hn) ?_ kk
  rw [nI_clamp (by omega)]
  exact ha
end AN2
abbrev RS3 : Type := Nat × Nat × Nat
/-- a reader's cells hold: not open, or open with epoch, root, keys -/
def rdC (q : Q4) : Option RS3 → Prop
  | none => q.2.2.2 = 0
  | some x => q = (nI x.1, nI x.2.1, nI x.2.2, 1)
def RD (r0 r1 r2 r3 : Q4) (rd : Nat → Option RS3) : Prop := rdC r0 (rd 0) ∧ rdC r1 (rd 1) ∧ rdC r2 (rd 2) ∧ rdC r3 (rd 3)
theorem lt4 {j : Nat} (h : j < 4) : j = 0 ∨ j = 1 ∨ j = 2 ∨ j = 3 := by omega
theorem ix4 (p e : Nat) : nI p * 4 + nI e = nI (4 * p + e) := by
  rw [show (4 : Int32) = nI 4 from rfl, pk_mul, nI_add, Nat.mul_comm]
section XA
variable {rd : Nat → Option RS3}
theorem s_isOpen1 {sl : Int32} {cu ba r0 r1 r2 r3 : Q4} {sw : Nat → Int64} {bt : Int32} {cnt inn lk wd kp wr mk ls pth tk : Nat → Int32} {tl : List mC} (h : RD r0 r1 r2 r3 rd) {j : Nat} {x : RS3} (hj : j < 4) (hx : rd j = some x) : EvS m_X3_isOpen [.ref 0, .int (nI j)] (cW sl cu ba r0 r1 r2 r3 sw bt cnt inn lk wd kp wr mk ls pth tk tl) (.inl (some (.int 1))) (cW sl cu ba r0 r1 r2 r3 sw bt cnt inn lk wd kp wr mk ls pth tk tl) := by
  obtain ⟨h0, h1, h2, h3⟩ := h
  rcases lt4 hj with rfl | rfl | rfl | rfl
  · rw [hx] at h0
    subst h0
    refine evs_of (by decide +kernel) (Nat.le_of_ble_eq_true rfl) (by decide) rfl ?_
    refine ev_iload_n (pc := 0) dX3_isOpen_0 rfl rfl ?_
    refine ev_if_lt (pc := 1) (tgt := 25) dX3_isOpen_1 (by decide) (fun c_1 => absurd c_1 (by decide)) (fun _ => ?_)
    refine ev_iload_n (pc := 4) dX3_isOpen_4 rfl rfl ?_
    refine ev_iconst (pc := 5) (v := 4) dX3_isOpen_5 (by decide) ?_
    refine ev_ic_ge (pc := 6) (tgt := 25) dX3_isOpen_6 (by decide) (fun c_6 => absurd c_6 (by decide)) (fun _ => ?_)
    refine ev_aload_n (pc := 9) dX3_isOpen_9 rfl rfl ?_
    refine ev_get (pc := 10) dX3_isOpen_10 fd_X3_35 rfl rfl ?_
    refine ev_iload_n (pc := 13) dX3_isOpen_13 rfl rfl ?_
    refine ev_aaldN (pc := 14) dX3_isOpen_14 rfl ⟨(by rfl), by decide, by decide⟩ rfl ?_
    refine ev_get (pc := 15) dX3_isOpen_15 fd_X3_58 rfl rfl ?_
    refine ev_if_eq (pc := 18) (tgt := 25) dX3_isOpen_18 (by decide) (fun c_18 => absurd c_18 (show ¬ (1 : Int32) = 0 by decide)) (fun _ => ?_)
    refine ev_iconst (pc := 21) (v := 1) dX3_isOpen_21 (by decide) ?_
    refine ev_goto (pc := 22) (tgt := 26) dX3_isOpen_22 (by decide) ?_
    exact ev_zretE (pc := 26) dX3_isOpen_26 rfl ⟨Nat.le_of_ble_eq_true rfl, Nat.le_of_ble_eq_true rfl⟩ (by first | exact Or.inl rfl | exact Or.inr rfl | assumption | exact i10_o) rfl rfl
  · rw [hx] at h1
    subst h1
    refine evs_of (by decide +kernel) (Nat.le_of_ble_eq_true rfl) (by decide) rfl ?_
    refine ev_iload_n (pc := 0) dX3_isOpen_0 rfl rfl ?_
    refine ev_if_lt (pc := 1) (tgt := 25) dX3_isOpen_1 (by decide) (fun c_1 => absurd c_1 (by decide)) (fun _ => ?_)
    refine ev_iload_n (pc := 4) dX3_isOpen_4 rfl rfl ?_
    refine ev_iconst (pc := 5) (v := 4) dX3_isOpen_5 (by decide) ?_
    refine ev_ic_ge (pc := 6) (tgt := 25) dX3_isOpen_6 (by decide) (fun c_6 => absurd c_6 (by decide)) (fun _ => ?_)
    refine ev_aload_n (pc := 9) dX3_isOpen_9 rfl rfl ?_
    refine ev_get (pc := 10) dX3_isOpen_10 fd_X3_35 rfl rfl ?_
    refine ev_iload_n (pc := 13) dX3_isOpen_13 rfl rfl ?_
    refine ev_aaldN (pc := 14) dX3_isOpen_14 rfl ⟨(by rfl), by decide, by decide⟩ rfl ?_
    refine ev_get (pc := 15) dX3_isOpen_15 fd_X3_58 rfl rfl ?_
    refine ev_if_eq (pc := 18) (tgt := 25) dX3_isOpen_18 (by decide) (fun c_18 => absurd c_18 (show ¬ (1 : Int32) = 0 by decide)) (fun _ => ?_)
    refine ev_iconst (pc := 21) (v := 1) dX3_isOpen_21 (by decide) ?_
    refine ev_goto (pc := 22) (tgt := 26) dX3_isOpen_22 (by decide) ?_
    exact ev_zretE (pc := 26) dX3_isOpen_26 rfl ⟨Nat.le_of_ble_eq_true rfl, Nat.le_of_ble_eq_true rfl⟩ (by first | exact Or.inl rfl | exact Or.inr rfl | assumption | exact i10_o) rfl rfl
  · rw [hx] at h2
    subst h2
    refine evs_of (by decide +kernel) (Nat.le_of_ble_eq_true rfl) (by decide) rfl ?_
    refine ev_iload_n (pc := 0) dX3_isOpen_0 rfl rfl ?_
    refine ev_if_lt (pc := 1) (tgt := 25) dX3_isOpen_1 (by decide) (fun c_1 => absurd c_1 (by decide)) (fun _ => ?_)
    refine ev_iload_n (pc := 4) dX3_isOpen_4 rfl rfl ?_
    refine ev_iconst (pc := 5) (v := 4) dX3_isOpen_5 (by decide) ?_
    refine ev_ic_ge (pc := 6) (tgt := 25) dX3_isOpen_6 (by decide) (fun c_6 => absurd c_6 (by decide)) (fun _ => ?_)
    refine ev_aload_n (pc := 9) dX3_isOpen_9 rfl rfl ?_
    refine ev_get (pc := 10) dX3_isOpen_10 fd_X3_35 rfl rfl ?_
    refine ev_iload_n (pc := 13) dX3_isOpen_13 rfl rfl ?_
    refine ev_aaldN (pc := 14) dX3_isOpen_14 rfl ⟨(by rfl), by decide, by decide⟩ rfl ?_
    refine ev_get (pc := 15) dX3_isOpen_15 fd_X3_58 rfl rfl ?_
    refine ev_if_eq (pc := 18) (tgt := 25) dX3_isOpen_18 (by decide) (fun c_18 => absurd c_18 (show ¬ (1 : Int32) = 0 by decide)) (fun _ => ?_)
    refine ev_iconst (pc := 21) (v := 1) dX3_isOpen_21 (by decide) ?_
    refine ev_goto (pc := 22) (tgt := 26) dX3_isOpen_22 (by decide) ?_
    exact ev_zretE (pc := 26) dX3_isOpen_26 rfl ⟨Nat.le_of_ble_eq_true rfl, Nat.le_of_ble_eq_true rfl⟩ (by first | exact Or.inl rfl | exact Or.inr rfl | assumption | exact i10_o) rfl rfl
  · rw [hx] at h3
    subst h3
    refine evs_of (by decide +kernel) (Nat.le_of_ble_eq_true rfl) (by decide) rfl ?_
    refine ev_iload_n (pc := 0) dX3_isOpen_0 rfl rfl ?_
    refine ev_if_lt (pc := 1) (tgt := 25) dX3_isOpen_1 (by decide) (fun c_1 => absurd c_1 (by decide)) (fun _ => ?_)
    refine ev_iload_n (pc := 4) dX3_isOpen_4 rfl rfl ?_
    refine ev_iconst (pc := 5) (v := 4) dX3_isOpen_5 (by decide) ?_
    refine ev_ic_ge (pc := 6) (tgt := 25) dX3_isOpen_6 (by decide) (fun c_6 => absurd c_6 (by decide)) (fun _ => ?_)
    refine ev_aload_n (pc := 9) dX3_isOpen_9 rfl rfl ?_
    refine ev_get (pc := 10) dX3_isOpen_10 fd_X3_35 rfl rfl ?_
    refine ev_iload_n (pc := 13) dX3_isOpen_13 rfl rfl ?_
    refine ev_aaldN (pc := 14) dX3_isOpen_14 rfl ⟨(by rfl), by decide, by decide⟩ rfl ?_
    refine ev_get (pc := 15) dX3_isOpen_15 fd_X3_58 rfl rfl ?_
    refine ev_if_eq (pc := 18) (tgt := 25) dX3_isOpen_18 (by decide) (fun c_18 => absurd c_18 (show ¬ (1 : Int32) = 0 by decide)) (fun _ => ?_)
    refine ev_iconst (pc := 21) (v := 1) dX3_isOpen_21 (by decide) ?_
    refine ev_goto (pc := 22) (tgt := 26) dX3_isOpen_22 (by decide) ?_
    exact ev_zretE (pc := 26) dX3_isOpen_26 rfl ⟨Nat.le_of_ble_eq_true rfl, Nat.le_of_ble_eq_true rfl⟩ (by first | exact Or.inl rfl | exact Or.inr rfl | assumption | exact i10_o) rfl rfl
theorem i4_cases (i : Int32) (h0 : ¬ i < 0) (h4 : ¬ (4 : Int32) ≤ i) : i = nI 0 ∨ i = nI 1 ∨ i = nI 2 ∨ i = nI 3 := by
  obtain ⟨j, hj, rfl⟩ := nI_of2 (M := 3) (n := 3) rfl h0 (by
    have := Int32.not_le.mp h4
    exact (Int32.lt_iff_toInt_lt.mp this |> fun h => Int32.le_iff_toInt_le.mpr (by have e : (4 : Int32).toInt = 4 := rfl; have e3 : (3 : Int32).toInt = 3 := rfl; omega)))
  have : j = 0 ∨ j = 1 ∨ j = 2 ∨ j = 3 := by omega
  rcases this with rfl | rfl | rfl | rfl <;> simp
theorem s_isOpen0 {sl : Int32} {cu ba r0 r1 r2 r3 : Q4} {sw : Nat → Int64} {bt : Int32} {cnt inn lk wd kp wr mk ls pth tk : Nat → Int32} {tl : List mC} (h : RD r0 r1 r2 r3 rd) {i : Int32} (hx : ∀ j, j < 4 → i = nI j → rd j = none) : EvS m_X3_isOpen [.ref 0, .int i] (cW sl cu ba r0 r1 r2 r3 sw bt cnt inn lk wd kp wr mk ls pth tk tl) (.inl (some (.int 0))) (cW sl cu ba r0 r1 r2 r3 sw bt cnt inn lk wd kp wr mk ls pth tk tl) := by
  by_cases hlt : i < 0
  · refine evs_of (by decide +kernel) (Nat.le_of_ble_eq_true rfl) (by decide) rfl ?_
    refine ev_iload_n (pc := 0) dX3_isOpen_0 rfl rfl ?_
    refine ev_if_lt (pc := 1) (tgt := 25) dX3_isOpen_1 (by decide) (fun _ => ?_) (fun c_1 => absurd hlt c_1)
    refine ev_iconst (pc := 25) (v := 0) dX3_isOpen_25 (by decide) ?_
    exact ev_zretE (pc := 26) dX3_isOpen_26 rfl ⟨Nat.le_of_ble_eq_true rfl, Nat.le_of_ble_eq_true rfl⟩ (by first | exact Or.inl rfl | exact Or.inr rfl | assumption | exact i10_o) rfl rfl
  · by_cases hge : (4 : Int32) ≤ i
    · refine evs_of (by decide +kernel) (Nat.le_of_ble_eq_true rfl) (by decide) rfl ?_
      refine ev_iload_n (pc := 0) dX3_isOpen_0 rfl rfl ?_
      refine ev_if_lt (pc := 1) (tgt := 25) dX3_isOpen_1 (by decide) (fun c_1 => absurd c_1 hlt) (fun _ => ?_)
      refine ev_iload_n (pc := 4) dX3_isOpen_4 rfl rfl ?_
      refine ev_iconst (pc := 5) (v := 4) dX3_isOpen_5 (by decide) ?_
      refine ev_ic_ge (pc := 6) (tgt := 25) dX3_isOpen_6 (by decide) (fun _ => ?_) (fun c_6 => absurd hge c_6)
      refine ev_iconst (pc := 25) (v := 0) dX3_isOpen_25 (by decide) ?_
      exact ev_zretE (pc := 26) dX3_isOpen_26 rfl ⟨Nat.le_of_ble_eq_true rfl, Nat.le_of_ble_eq_true rfl⟩ (by first | exact Or.inl rfl | exact Or.inr rfl | assumption | exact i10_o) rfl rfl
    · obtain ⟨h0, h1, h2, h3⟩ := h
      rcases i4_cases i hlt hge with rfl | rfl | rfl | rfl
      · rw [hx 0 (by decide) rfl] at h0
        refine evs_of (by decide +kernel) (Nat.le_of_ble_eq_true rfl) (by decide) rfl ?_
        refine ev_iload_n (pc := 0) dX3_isOpen_0 rfl rfl ?_
        refine ev_if_lt (pc := 1) (tgt := 25) dX3_isOpen_1 (by decide) (fun c_1 => absurd c_1 (by decide)) (fun _ => ?_)
        refine ev_iload_n (pc := 4) dX3_isOpen_4 rfl rfl ?_
        refine ev_iconst (pc := 5) (v := 4) dX3_isOpen_5 (by decide) ?_
        refine ev_ic_ge (pc := 6) (tgt := 25) dX3_isOpen_6 (by decide) (fun c_6 => absurd c_6 (by decide)) (fun _ => ?_)
        refine ev_aload_n (pc := 9) dX3_isOpen_9 rfl rfl ?_
        refine ev_get (pc := 10) dX3_isOpen_10 fd_X3_35 rfl rfl ?_
        refine ev_iload_n (pc := 13) dX3_isOpen_13 rfl rfl ?_
        refine ev_aaldN (pc := 14) dX3_isOpen_14 rfl ⟨(by rfl), by decide, by decide⟩ rfl ?_
        refine ev_get (pc := 15) dX3_isOpen_15 fd_X3_58 rfl rfl ?_
        refine ev_if_eq (pc := 18) (tgt := 25) dX3_isOpen_18 (by decide) (fun _ => ?_) (fun c_18 => absurd h0 c_18)
        refine ev_iconst (pc := 25) (v := 0) dX3_isOpen_25 (by decide) ?_
        exact ev_zretE (pc := 26) dX3_isOpen_26 rfl ⟨Nat.le_of_ble_eq_true rfl, Nat.le_of_ble_eq_true rfl⟩ (by first | exact Or.inl rfl | exact Or.inr rfl | assumption | exact i10_o) rfl rfl
      · rw [hx 1 (by decide) rfl] at h1
        refine evs_of (by decide +kernel) (Nat.le_of_ble_eq_true rfl) (by decide) rfl ?_
        refine ev_iload_n (pc := 0) dX3_isOpen_0 rfl rfl ?_
        refine ev_if_lt (pc := 1) (tgt := 25) dX3_isOpen_1 (by decide) (fun c_1 => absurd c_1 (by decide)) (fun _ => ?_)
        refine ev_iload_n (pc := 4) dX3_isOpen_4 rfl rfl ?_
        refine ev_iconst (pc := 5) (v := 4) dX3_isOpen_5 (by decide) ?_
        refine ev_ic_ge (pc := 6) (tgt := 25) dX3_isOpen_6 (by decide) (fun c_6 => absurd c_6 (by decide)) (fun _ => ?_)
        refine ev_aload_n (pc := 9) dX3_isOpen_9 rfl rfl ?_
        refine ev_get (pc := 10) dX3_isOpen_10 fd_X3_35 rfl rfl ?_
        refine ev_iload_n (pc := 13) dX3_isOpen_13 rfl rfl ?_
        refine ev_aaldN (pc := 14) dX3_isOpen_14 rfl ⟨(by rfl), by decide, by decide⟩ rfl ?_
        refine ev_get (pc := 15) dX3_isOpen_15 fd_X3_58 rfl rfl ?_
        refine ev_if_eq (pc := 18) (tgt := 25) dX3_isOpen_18 (by decide) (fun _ => ?_) (fun c_18 => absurd h1 c_18)
        refine ev_iconst (pc := 25) (v := 0) dX3_isOpen_25 (by decide) ?_
        exact ev_zretE (pc := 26) dX3_isOpen_26 rfl ⟨Nat.le_of_ble_eq_true rfl, Nat.le_of_ble_eq_true rfl⟩ (by first | exact Or.inl rfl | exact Or.inr rfl | assumption | exact i10_o) rfl rfl
      · rw [hx 2 (by decide) rfl] at h2
        refine evs_of (by decide +kernel) (Nat.le_of_ble_eq_true rfl) (by decide) rfl ?_
        refine ev_iload_n (pc := 0) dX3_isOpen_0 rfl rfl ?_
        refine ev_if_lt (pc := 1) (tgt := 25) dX3_isOpen_1 (by decide) (fun c_1 => absurd c_1 (by decide)) (fun _ => ?_)
        refine ev_iload_n (pc := 4) dX3_isOpen_4 rfl rfl ?_
        refine ev_iconst (pc := 5) (v := 4) dX3_isOpen_5 (by decide) ?_
        refine ev_ic_ge (pc := 6) (tgt := 25) dX3_isOpen_6 (by decide) (fun c_6 => absurd c_6 (by decide)) (fun _ => ?_)
        refine ev_aload_n (pc := 9) dX3_isOpen_9 rfl rfl ?_
        refine ev_get (pc := 10) dX3_isOpen_10 fd_X3_35 rfl rfl ?_
        refine ev_iload_n (pc := 13) dX3_isOpen_13 rfl rfl ?_
        refine ev_aaldN (pc := 14) dX3_isOpen_14 rfl ⟨(by rfl), by decide, by decide⟩ rfl ?_
        refine ev_get (pc := 15) dX3_isOpen_15 fd_X3_58 rfl rfl ?_
        refine ev_if_eq (pc := 18) (tgt := 25) dX3_isOpen_18 (by decide) (fun _ => ?_) (fun c_18 => absurd h2 c_18)
        refine ev_iconst (pc := 25) (v := 0) dX3_isOpen_25 (by decide) ?_
        exact ev_zretE (pc := 26) dX3_isOpen_26 rfl ⟨Nat.le_of_ble_eq_true rfl, Nat.le_of_ble_eq_true rfl⟩ (by first | exact Or.inl rfl | exact Or.inr rfl | assumption | exact i10_o) rfl rfl
      · rw [hx 3 (by decide) rfl] at h3
        refine evs_of (by decide +kernel) (Nat.le_of_ble_eq_true rfl) (by decide) rfl ?_
        refine ev_iload_n (pc := 0) dX3_isOpen_0 rfl rfl ?_
        refine ev_if_lt (pc := 1) (tgt := 25) dX3_isOpen_1 (by decide) (fun c_1 => absurd c_1 (by decide)) (fun _ => ?_)
        refine ev_iload_n (pc := 4) dX3_isOpen_4 rfl rfl ?_
        refine ev_iconst (pc := 5) (v := 4) dX3_isOpen_5 (by decide) ?_
        refine ev_ic_ge (pc := 6) (tgt := 25) dX3_isOpen_6 (by decide) (fun c_6 => absurd c_6 (by decide)) (fun _ => ?_)
        refine ev_aload_n (pc := 9) dX3_isOpen_9 rfl rfl ?_
        refine ev_get (pc := 10) dX3_isOpen_10 fd_X3_35 rfl rfl ?_
        refine ev_iload_n (pc := 13) dX3_isOpen_13 rfl rfl ?_
        refine ev_aaldN (pc := 14) dX3_isOpen_14 rfl ⟨(by rfl), by decide, by decide⟩ rfl ?_
        refine ev_get (pc := 15) dX3_isOpen_15 fd_X3_58 rfl rfl ?_
        refine ev_if_eq (pc := 18) (tgt := 25) dX3_isOpen_18 (by decide) (fun _ => ?_) (fun c_18 => absurd h3 c_18)
        refine ev_iconst (pc := 25) (v := 0) dX3_isOpen_25 (by decide) ?_
        exact ev_zretE (pc := 26) dX3_isOpen_26 rfl ⟨Nat.le_of_ble_eq_true rfl, Nat.le_of_ble_eq_true rfl⟩ (by first | exact Or.inl rfl | exact Or.inr rfl | assumption | exact i10_o) rfl rfl
end XA
/-! what is thrown -/
abbrev xIA : String := "java/lang/IllegalArgumentException"
abbrev xIS : String := "java/lang/IllegalStateException"
abbrev xIB : String := "java/lang/IndexOutOfBoundsException"
theorem s_reqKey {w : mW} {k : Nat} (h : k < 100) : EvS m_X3_requireKey [.int (nI k)] w (.inl none) w := by
  refine evs_of (by decide +kernel) (Nat.le_of_ble_eq_true rfl) (by decide) rfl ?_
  refine ev_iload_n (pc := 0) dX3_requireKey_0 rfl rfl ?_
  refine ev_if_lt (pc := 1) (tgt := 10) dX3_requireKey_1 (by decide) (fun c_1 => absurd c_1 (nI_pos (show k < 2147483648 by omega))) (fun _ => ?_)
  refine ev_iload_n (pc := 4) dX3_requireKey_4 rfl rfl ?_
  refine ev_bipush (pc := 5) (v := 100) dX3_requireKey_5 (by decide) ?_
  refine ev_ic_lt (pc := 7) (tgt := 20) dX3_requireKey_7 (by decide) (fun _ => ?_) (fun c_7 => absurd (by exact nI_lt h (by decide)) c_7)
  exact ev_vretE (pc := 20) dX3_requireKey_20 rfl ⟨Nat.le_of_ble_eq_true rfl, Nat.le_of_ble_eq_true rfl⟩ rfl
theorem s_reqKeyT {w : mW} {i : Int32} (h : i < 0 ∨ (100 : Int32) ≤ i) : EvS m_X3_requireKey [.int i] w (.inr xIA) w := by
  by_cases hlt : i < 0
  · refine evs_of (by decide +kernel) (Nat.le_of_ble_eq_true rfl) (by decide) rfl ?_
    refine ev_iload_n (pc := 0) dX3_requireKey_0 rfl rfl ?_
    refine ev_if_lt (pc := 1) (tgt := 10) dX3_requireKey_1 (by decide) (fun _ => ?_) (fun c_1 => absurd hlt c_1)
    exact ev_throw th_X3_206 dX3_requireKey_10 dX3_requireKey_13 dX3_requireKey_14 dX3_requireKey_16 dX3_requireKey_19 rfl (Nat.le_of_ble_eq_true rfl) (Nat.le_of_ble_eq_true rfl) (Nat.le_of_ble_eq_true rfl) (Nat.le_of_ble_eq_true rfl)
  · have hge := h.resolve_left hlt
    refine evs_of (by decide +kernel) (Nat.le_of_ble_eq_true rfl) (by decide) rfl ?_
    refine ev_iload_n (pc := 0) dX3_requireKey_0 rfl rfl ?_
    refine ev_if_lt (pc := 1) (tgt := 10) dX3_requireKey_1 (by decide) (fun c_1 => absurd c_1 hlt) (fun _ => ?_)
    refine ev_iload_n (pc := 4) dX3_requireKey_4 rfl rfl ?_
    refine ev_bipush (pc := 5) (v := 100) dX3_requireKey_5 (by decide) ?_
    refine ev_ic_lt (pc := 7) (tgt := 20) dX3_requireKey_7 (by decide) (fun c_7 => absurd c_7 (Int32.not_lt.mpr hge)) (fun _ => ?_)
    exact ev_throw th_X3_206 dX3_requireKey_10 dX3_requireKey_13 dX3_requireKey_14 dX3_requireKey_16 dX3_requireKey_19 rfl (Nat.le_of_ble_eq_true rfl) (Nat.le_of_ble_eq_true rfl) (Nat.le_of_ble_eq_true rfl) (Nat.le_of_ble_eq_true rfl)
theorem s_reqBatch {sl : Int32} {cu ba r0 r1 r2 r3 : Q4} {sw : Nat → Int64} {bt : Int32} {cnt inn lk wd kp wr mk ls pth tk : Nat → Int32} {tl : List mC} {be br bk : Int32} : EvS m_X3_requireBatch [.ref 0] (cW sl cu (be, br, bk, 1) r0 r1 r2 r3 sw bt cnt inn lk wd kp wr mk ls pth tk tl) (.inl none) (cW sl cu (be, br, bk, 1) r0 r1 r2 r3 sw bt cnt inn lk wd kp wr mk ls pth tk tl) := by
  refine evs_of (by decide +kernel) (Nat.le_of_ble_eq_true rfl) (by decide) rfl ?_
  refine ev_aload_n (pc := 0) dX3_requireBatch_0 rfl rfl ?_
  refine ev_get (pc := 1) dX3_requireBatch_1 fd_X3_23 rfl rfl ?_
  refine ev_get (pc := 4) dX3_requireBatch_4 fd_X3_58 rfl rfl ?_
  refine ev_if_ne (pc := 7) (tgt := 20) dX3_requireBatch_7 (by decide) (fun _ => ?_) (fun c_7 => absurd c_7 (show ¬ (1 : Int32) = 0 by decide))
  exact ev_vretE (pc := 20) dX3_requireBatch_20 rfl ⟨Nat.le_of_ble_eq_true rfl, Nat.le_of_ble_eq_true rfl⟩ rfl
theorem s_reqBatchT {sl : Int32} {cu ba r0 r1 r2 r3 : Q4} {sw : Nat → Int64} {bt : Int32} {cnt inn lk wd kp wr mk ls pth tk : Nat → Int32} {tl : List mC} {be br bk : Int32} : EvS m_X3_requireBatch [.ref 0] (cW sl cu (be, br, bk, 0) r0 r1 r2 r3 sw bt cnt inn lk wd kp wr mk ls pth tk tl) (.inr xIS) (cW sl cu (be, br, bk, 0) r0 r1 r2 r3 sw bt cnt inn lk wd kp wr mk ls pth tk tl) := by
  refine evs_of (by decide +kernel) (Nat.le_of_ble_eq_true rfl) (by decide) rfl ?_
  refine ev_aload_n (pc := 0) dX3_requireBatch_0 rfl rfl ?_
  refine ev_get (pc := 1) dX3_requireBatch_1 fd_X3_23 rfl rfl ?_
  refine ev_get (pc := 4) dX3_requireBatch_4 fd_X3_58 rfl rfl ?_
  refine ev_if_ne (pc := 7) (tgt := 20) dX3_requireBatch_7 (by decide) (fun c_7 => absurd rfl c_7) (fun _ => ?_)
  exact ev_throw th_X3_208 dX3_requireBatch_10 dX3_requireBatch_13 dX3_requireBatch_14 dX3_requireBatch_16 dX3_requireBatch_19 rfl (Nat.le_of_ble_eq_true rfl) (Nat.le_of_ble_eq_true rfl) (Nat.le_of_ble_eq_true rfl) (Nat.le_of_ble_eq_true rfl)
theorem s_reqSlot {w : mW} {s : Nat} (h : s < 2) : EvS m_X3_requireSlot [.int (nI s)] w (.inl none) w := by
  refine evs_of (by decide +kernel) (Nat.le_of_ble_eq_true rfl) (by decide) rfl ?_
  refine ev_iload_n (pc := 0) dX3_requireSlot_0 rfl rfl ?_
  refine ev_if_lt (pc := 1) (tgt := 9) dX3_requireSlot_1 (by decide) (fun c_1 => absurd c_1 (nI_pos (show s < 2147483648 by omega))) (fun _ => ?_)
  refine ev_iload_n (pc := 4) dX3_requireSlot_4 rfl rfl ?_
  refine ev_iconst (pc := 5) (v := 2) dX3_requireSlot_5 (by decide) ?_
  refine ev_ic_lt (pc := 6) (tgt := 19) dX3_requireSlot_6 (by decide) (fun _ => ?_) (fun c_6 => absurd (by exact nI_lt h (by decide)) c_6)
  exact ev_vretE (pc := 19) dX3_requireSlot_19 rfl ⟨Nat.le_of_ble_eq_true rfl, Nat.le_of_ble_eq_true rfl⟩ rfl
theorem s_reqSlotT {w : mW} {i : Int32} (h : i < 0 ∨ (2 : Int32) ≤ i) : EvS m_X3_requireSlot [.int i] w (.inr xIB) w := by
  by_cases hlt : i < 0
  · refine evs_of (by decide +kernel) (Nat.le_of_ble_eq_true rfl) (by decide) rfl ?_
    refine ev_iload_n (pc := 0) dX3_requireSlot_0 rfl rfl ?_
    refine ev_if_lt (pc := 1) (tgt := 9) dX3_requireSlot_1 (by decide) (fun _ => ?_) (fun c_1 => absurd hlt c_1)
    exact ev_throw th_X3_216 dX3_requireSlot_9 dX3_requireSlot_12 dX3_requireSlot_13 dX3_requireSlot_15 dX3_requireSlot_18 rfl (Nat.le_of_ble_eq_true rfl) (Nat.le_of_ble_eq_true rfl) (Nat.le_of_ble_eq_true rfl) (Nat.le_of_ble_eq_true rfl)
  · have hge := h.resolve_left hlt
    refine evs_of (by decide +kernel) (Nat.le_of_ble_eq_true rfl) (by decide) rfl ?_
    refine ev_iload_n (pc := 0) dX3_requireSlot_0 rfl rfl ?_
    refine ev_if_lt (pc := 1) (tgt := 9) dX3_requireSlot_1 (by decide) (fun c_1 => absurd c_1 hlt) (fun _ => ?_)
    refine ev_iload_n (pc := 4) dX3_requireSlot_4 rfl rfl ?_
    refine ev_iconst (pc := 5) (v := 2) dX3_requireSlot_5 (by decide) ?_
    refine ev_ic_lt (pc := 6) (tgt := 19) dX3_requireSlot_6 (by decide) (fun c_6 => absurd c_6 (Int32.not_lt.mpr hge)) (fun _ => ?_)
    exact ev_throw th_X3_216 dX3_requireSlot_9 dX3_requireSlot_12 dX3_requireSlot_13 dX3_requireSlot_15 dX3_requireSlot_18 rfl (Nat.le_of_ble_eq_true rfl) (Nat.le_of_ble_eq_true rfl) (Nat.le_of_ble_eq_true rfl) (Nat.le_of_ble_eq_true rfl)
theorem s_reqReader {sl : Int32} {cu ba r0 r1 r2 r3 : Q4} {sw : Nat → Int64} {bt : Int32} {cnt inn lk wd kp wr mk ls pth tk : Nat → Int32} {tl : List mC} {rd : Nat → Option RS3} (h : RD r0 r1 r2 r3 rd) {j : Nat} {x : RS3} (hj : j < 4) (hx : rd j = some x) : EvS m_X3_requireReader [.ref 0, .int (nI j)] (cW sl cu ba r0 r1 r2 r3 sw bt cnt inn lk wd kp wr mk ls pth tk tl) (.inl none) (cW sl cu ba r0 r1 r2 r3 sw bt cnt inn lk wd kp wr mk ls pth tk tl) := by
  refine evs_of (by decide +kernel) (Nat.le_of_ble_eq_true rfl) (by decide) rfl ?_
  refine ev_aload_n (pc := 0) dX3_requireReader_0 rfl rfl ?_
  refine ev_iload_n (pc := 1) dX3_requireReader_1 rfl rfl ?_
  refine cV1 (pc := 2) lk_X3_requireReader_2 rfl rfl rfl (Nat.le_of_ble_eq_true rfl) ⟨Nat.le_of_ble_eq_true rfl, Nat.le_of_ble_eq_true rfl⟩ (s_isOpen1 h hj hx) ?_
  refine ev_if_ne (pc := 5) (tgt := 18) dX3_requireReader_5 (by decide) (fun _ => ?_) (fun c_5 => absurd c_5 (by decide))
  exact ev_vretE (pc := 18) dX3_requireReader_18 rfl ⟨Nat.le_of_ble_eq_true rfl, Nat.le_of_ble_eq_true rfl⟩ rfl
theorem s_reqReaderT {sl : Int32} {cu ba r0 r1 r2 r3 : Q4} {sw : Nat → Int64} {bt : Int32} {cnt inn lk wd kp wr mk ls pth tk : Nat → Int32} {tl : List mC} {rd : Nat → Option RS3} (h : RD r0 r1 r2 r3 rd) {i : Int32} (hx : ∀ j, j < 4 → i = nI j → rd j = none) : EvS m_X3_requireReader [.ref 0, .int i] (cW sl cu ba r0 r1 r2 r3 sw bt cnt inn lk wd kp wr mk ls pth tk tl) (.inr xIB) (cW sl cu ba r0 r1 r2 r3 sw bt cnt inn lk wd kp wr mk ls pth tk tl) := by
  refine evs_of (by decide +kernel) (Nat.le_of_ble_eq_true rfl) (by decide) rfl ?_
  refine ev_aload_n (pc := 0) dX3_requireReader_0 rfl rfl ?_
  refine ev_iload_n (pc := 1) dX3_requireReader_1 rfl rfl ?_
  refine cV1 (pc := 2) lk_X3_requireReader_2 rfl rfl rfl (Nat.le_of_ble_eq_true rfl) ⟨Nat.le_of_ble_eq_true rfl, Nat.le_of_ble_eq_true rfl⟩ (s_isOpen0 h hx) ?_
  refine ev_if_ne (pc := 5) (tgt := 18) dX3_requireReader_5 (by decide) (fun c_5 => absurd rfl c_5) (fun _ => ?_)
  exact ev_throw th_X3_210 dX3_requireReader_8 dX3_requireReader_11 dX3_requireReader_12 dX3_requireReader_14 dX3_requireReader_17 rfl (Nat.le_of_ble_eq_true rfl) (Nat.le_of_ble_eq_true rfl) (Nat.le_of_ble_eq_true rfl) (Nat.le_of_ble_eq_true rfl)
theorem s_other {w : mW} {s : Nat} (h : s < 2) : EvS m_X3_otherSlot [.int (nI s)] w (.inl (some (.int (nI (1 - s))))) w := by
  have : s = 0 ∨ s = 1 := by omega
  rcases this with rfl | rfl
  · refine evs_of (by decide +kernel) (Nat.le_of_ble_eq_true rfl) (by decide) rfl ?_
    refine ev_iload_n (pc := 0) dX3_otherSlot_0 rfl rfl ?_
    refine ev_if_ne (pc := 1) (tgt := 8) dX3_otherSlot_1 (by decide) (fun c_1 => absurd rfl c_1) (fun _ => ?_)
    refine ev_iconst (pc := 4) (v := 1) dX3_otherSlot_4 (by decide) ?_
    refine ev_goto (pc := 5) (tgt := 9) dX3_otherSlot_5 (by decide) ?_
    exact ev_iretE (pc := 9) dX3_otherSlot_9 rfl ⟨Nat.le_of_ble_eq_true rfl, Nat.le_of_ble_eq_true rfl⟩ rfl rfl
  · refine evs_of (by decide +kernel) (Nat.le_of_ble_eq_true rfl) (by decide) rfl ?_
    refine ev_iload_n (pc := 0) dX3_otherSlot_0 rfl rfl ?_
    refine ev_if_ne (pc := 1) (tgt := 8) dX3_otherSlot_1 (by decide) (fun _ => ?_) (fun c_1 => absurd c_1 (by decide))
    refine ev_iconst (pc := 8) (v := 0) dX3_otherSlot_8 (by decide) ?_
    exact ev_iretE (pc := 9) dX3_otherSlot_9 rfl ⟨Nat.le_of_ble_eq_true rfl, Nat.le_of_ble_eq_true rfl⟩ rfl rfl
theorem s_wordIn {sl : Int32} {cu ba r0 r1 r2 r3 : Q4} {sw : Nat → Int64} {bt : Int32} {cnt inn lk wd kp wr mk ls pth tk : Nat → Int32} {tl : List mC} {s j : Nat} {v : Int64} (hs : s < 2) (hj : j < 4) (hv : sw (4 * s + j) = v) : EvS m_X3_wordIn [.ref 0, .int (nI s), .int (nI j)] (cW sl cu ba r0 r1 r2 r3 sw bt cnt inn lk wd kp wr mk ls pth tk tl) (.inl (some (.long v))) (cW sl cu ba r0 r1 r2 r3 sw bt cnt inn lk wd kp wr mk ls pth tk tl) := by
  refine evs_of (by decide +kernel) (Nat.le_of_ble_eq_true rfl) (by decide) rfl ?_
  refine ev_iload_n (pc := 0) dX3_wordIn_0 rfl rfl ?_
  refine ev_iconst (pc := 1) (v := 4) dX3_wordIn_1 (by decide) ?_
  refine ev_imul (pc := 2) dX3_wordIn_2 ?_
  refine ev_iload_n (pc := 3) dX3_wordIn_3 rfl rfl ?_
  refine ev_iadd (pc := 4) dX3_wordIn_4 ?_
  rw [ix4]
  refine ev_istore_n (pc := 5) dX3_wordIn_5 rfl rfl rfl ?_
  refine ev_iload_n (pc := 6) dX3_wordIn_6 rfl rfl ?_
  refine ev_if_lt (pc := 7) (tgt := 25) dX3_wordIn_7 (by decide) (fun c_7 => absurd c_7 (nI_pos (show 4 * s + j < 2147483648 by omega))) (fun _ => ?_)
  refine ev_iload_n (pc := 10) dX3_wordIn_10 rfl rfl ?_
  refine ev_bipush (pc := 11) (v := 8) dX3_wordIn_11 (by decide) ?_
  refine ev_ic_ge (pc := 13) (tgt := 25) dX3_wordIn_13 (by decide) (fun c_13 => absurd c_13 (nI_ge (show 4 * s + j < 8 by omega) (by decide))) (fun _ => ?_)
  refine ev_aload_n (pc := 16) dX3_wordIn_16 rfl rfl ?_
  refine ev_get (pc := 17) dX3_wordIn_17 fd_X3_39 rfl rfl ?_
  refine ev_iload_n (pc := 20) dX3_wordIn_20 rfl rfl ?_
  refine ev_laldN (pc := 21) dX3_wordIn_21 rfl ⟨rfl, by omega, by decide⟩ rfl ?_
  refine ev_goto (pc := 22) (tgt := 26) dX3_wordIn_22 (by decide) ?_
  exact ev_lretE (pc := 26) dX3_wordIn_26 rfl ⟨Nat.le_of_ble_eq_true rfl, Nat.le_of_ble_eq_true rfl⟩ hv rfl
/-- what the sum word of a slot ought to be -/
def sumW (a b c : Int64) : Int64 := 1000003 * a + 1009 * b + c
abbrev whl (sw : Nat → Int64) (s : Nat) : Prop := sw (4 * s + 3) = sumW (sw (4 * s)) (sw (4 * s + 1)) (sw (4 * s + 2))
theorem s_sumOf {w : mW} {a b c : Int64} : EvS m_X3_sumOf [.long a, .long b, .long c] w (.inl (some (.long (sumW a b c)))) w := by
  refine evs_of (by decide +kernel) (Nat.le_of_ble_eq_true rfl) (by decide) rfl ?_
  refine ev_ldc2 (pc := 0) dX3_sumOf_0 kl_X3_240 ?_
  refine ev_lload_n (pc := 3) dX3_sumOf_3 rfl rfl ?_
  refine ev_lmul (pc := 4) dX3_sumOf_4 ?_
  refine ev_ldc2 (pc := 5) dX3_sumOf_5 kl_X3_242 ?_
  refine ev_lload_n (pc := 8) dX3_sumOf_8 rfl rfl ?_
  refine ev_lmul (pc := 9) dX3_sumOf_9 ?_
  refine ev_ladd (pc := 10) dX3_sumOf_10 ?_
  refine ev_lload (pc := 11) dX3_sumOf_11 rfl ?_
  refine ev_ladd (pc := 13) dX3_sumOf_13 ?_
  exact ev_lretE (pc := 14) dX3_sumOf_14 rfl ⟨Nat.le_of_ble_eq_true rfl, Nat.le_of_ble_eq_true rfl⟩ rfl rfl
theorem s_sumsUp1 {sl : Int32} {cu ba r0 r1 r2 r3 : Q4} {sw : Nat → Int64} {bt : Int32} {cnt inn lk wd kp wr mk ls pth tk : Nat → Int32} {tl : List mC} {s : Nat} (hs : s < 2) (h : whl sw s) : EvS m_X3_sumsUp [.ref 0, .int (nI s)] (cW sl cu ba r0 r1 r2 r3 sw bt cnt inn lk wd kp wr mk ls pth tk tl) (.inl (some (.int 1))) (cW sl cu ba r0 r1 r2 r3 sw bt cnt inn lk wd kp wr mk ls pth tk tl) := by
  refine evs_of (by decide +kernel) (Nat.le_of_ble_eq_true rfl) (by decide) rfl ?_
  refine ev_aload_n (pc := 0) dX3_sumsUp_0 rfl rfl ?_
  refine ev_iload_n (pc := 1) dX3_sumsUp_1 rfl rfl ?_
  refine ev_iconst (pc := 2) (v := 0) dX3_sumsUp_2 (by decide) ?_
  refine cV2 (pc := 3) lk_X3_sumsUp_3 rfl rfl rfl (Nat.le_of_ble_eq_true rfl) ⟨Nat.le_of_ble_eq_true rfl, Nat.le_of_ble_eq_true rfl⟩ (s_wordIn (j := 0) hs (by decide) rfl) ?_
  refine ev_aload_n (pc := 6) dX3_sumsUp_6 rfl rfl ?_
  refine ev_iload_n (pc := 7) dX3_sumsUp_7 rfl rfl ?_
  refine ev_iconst (pc := 8) (v := 1) dX3_sumsUp_8 (by decide) ?_
  refine cV2 (pc := 9) lk_X3_sumsUp_9 rfl rfl rfl (Nat.le_of_ble_eq_true rfl) ⟨Nat.le_of_ble_eq_true rfl, Nat.le_of_ble_eq_true rfl⟩ (s_wordIn (j := 1) hs (by decide) rfl) ?_
  refine ev_aload_n (pc := 12) dX3_sumsUp_12 rfl rfl ?_
  refine ev_iload_n (pc := 13) dX3_sumsUp_13 rfl rfl ?_
  refine ev_iconst (pc := 14) (v := 2) dX3_sumsUp_14 (by decide) ?_
  refine cV2 (pc := 15) lk_X3_sumsUp_15 rfl rfl rfl (Nat.le_of_ble_eq_true rfl) ⟨Nat.le_of_ble_eq_true rfl, Nat.le_of_ble_eq_true rfl⟩ (s_wordIn (j := 2) hs (by decide) rfl) ?_
  refine cS3 (pc := 18) lk_X3_sumsUp_18 (Nat.le_of_ble_eq_true rfl) ⟨Nat.le_of_ble_eq_true rfl, Nat.le_of_ble_eq_true rfl⟩ s_sumOf ?_
  refine ev_lstore_n (pc := 21) dX3_sumsUp_21 rfl rfl rfl ?_
  refine ev_aload_n (pc := 22) dX3_sumsUp_22 rfl rfl ?_
  refine ev_iload_n (pc := 23) dX3_sumsUp_23 rfl rfl ?_
  refine ev_iconst (pc := 24) (v := 3) dX3_sumsUp_24 (by decide) ?_
  refine cV2 (pc := 25) lk_X3_sumsUp_25 rfl rfl rfl (Nat.le_of_ble_eq_true rfl) ⟨Nat.le_of_ble_eq_true rfl, Nat.le_of_ble_eq_true rfl⟩ (s_wordIn (j := 3) hs (by decide) rfl) ?_
  refine ev_lload_n (pc := 28) dX3_sumsUp_28 rfl rfl ?_
  refine ev_lcmp (pc := 29) dX3_sumsUp_29 ?_
  refine ev_if_ne (pc := 30) (tgt := 37) dX3_sumsUp_30 (by decide) (fun c_30 => absurd ((lg_cmp_eq _ _).mpr h) c_30) (fun _ => ?_)
  refine ev_iconst (pc := 33) (v := 1) dX3_sumsUp_33 (by decide) ?_
  refine ev_goto (pc := 34) (tgt := 38) dX3_sumsUp_34 (by decide) ?_
  exact ev_zretE (pc := 38) dX3_sumsUp_38 rfl ⟨Nat.le_of_ble_eq_true rfl, Nat.le_of_ble_eq_true rfl⟩ (by first | exact Or.inl rfl | exact Or.inr rfl | assumption | exact i10_o) rfl rfl
theorem s_sumsUp0 {sl : Int32} {cu ba r0 r1 r2 r3 : Q4} {sw : Nat → Int64} {bt : Int32} {cnt inn lk wd kp wr mk ls pth tk : Nat → Int32} {tl : List mC} {s : Nat} (hs : s < 2) (h : ¬ whl sw s) : EvS m_X3_sumsUp [.ref 0, .int (nI s)] (cW sl cu ba r0 r1 r2 r3 sw bt cnt inn lk wd kp wr mk ls pth tk tl) (.inl (some (.int 0))) (cW sl cu ba r0 r1 r2 r3 sw bt cnt inn lk wd kp wr mk ls pth tk tl) := by
  refine evs_of (by decide +kernel) (Nat.le_of_ble_eq_true rfl) (by decide) rfl ?_
  refine ev_aload_n (pc := 0) dX3_sumsUp_0 rfl rfl ?_
  refine ev_iload_n (pc := 1) dX3_sumsUp_1 rfl rfl ?_
  refine ev_iconst (pc := 2) (v := 0) dX3_sumsUp_2 (by decide) ?_
  refine cV2 (pc := 3) lk_X3_sumsUp_3 rfl rfl rfl (Nat.le_of_ble_eq_true rfl) ⟨Nat.le_of_ble_eq_true rfl, Nat.le_of_ble_eq_true rfl⟩ (s_wordIn (j := 0) hs (by decide) rfl) ?_
  refine ev_aload_n (pc := 6) dX3_sumsUp_6 rfl rfl ?_
  refine ev_iload_n (pc := 7) dX3_sumsUp_7 rfl rfl ?_
  refine ev_iconst (pc := 8) (v := 1) dX3_sumsUp_8 (by decide) ?_
  refine cV2 (pc := 9) lk_X3_sumsUp_9 rfl rfl rfl (Nat.le_of_ble_eq_true rfl) ⟨Nat.le_of_ble_eq_true rfl, Nat.le_of_ble_eq_true rfl⟩ (s_wordIn (j := 1) hs (by decide) rfl) ?_
  refine ev_aload_n (pc := 12) dX3_sumsUp_12 rfl rfl ?_
  refine ev_iload_n (pc := 13) dX3_sumsUp_13 rfl rfl ?_
  refine ev_iconst (pc := 14) (v := 2) dX3_sumsUp_14 (by decide) ?_
  refine cV2 (pc := 15) lk_X3_sumsUp_15 rfl rfl rfl (Nat.le_of_ble_eq_true rfl) ⟨Nat.le_of_ble_eq_true rfl, Nat.le_of_ble_eq_true rfl⟩ (s_wordIn (j := 2) hs (by decide) rfl) ?_
  refine cS3 (pc := 18) lk_X3_sumsUp_18 (Nat.le_of_ble_eq_true rfl) ⟨Nat.le_of_ble_eq_true rfl, Nat.le_of_ble_eq_true rfl⟩ s_sumOf ?_
  refine ev_lstore_n (pc := 21) dX3_sumsUp_21 rfl rfl rfl ?_
  refine ev_aload_n (pc := 22) dX3_sumsUp_22 rfl rfl ?_
  refine ev_iload_n (pc := 23) dX3_sumsUp_23 rfl rfl ?_
  refine ev_iconst (pc := 24) (v := 3) dX3_sumsUp_24 (by decide) ?_
  refine cV2 (pc := 25) lk_X3_sumsUp_25 rfl rfl rfl (Nat.le_of_ble_eq_true rfl) ⟨Nat.le_of_ble_eq_true rfl, Nat.le_of_ble_eq_true rfl⟩ (s_wordIn (j := 3) hs (by decide) rfl) ?_
  refine ev_lload_n (pc := 28) dX3_sumsUp_28 rfl rfl ?_
  refine ev_lcmp (pc := 29) dX3_sumsUp_29 ?_
  refine ev_if_ne (pc := 30) (tgt := 37) dX3_sumsUp_30 (by decide) (fun _ => ?_) (fun c_30 => absurd c_30 (fun h9 => h ((lg_cmp_eq _ _).mp h9)))
  refine ev_iconst (pc := 37) (v := 0) dX3_sumsUp_37 (by decide) ?_
  exact ev_zretE (pc := 38) dX3_sumsUp_38 rfl ⟨Nat.le_of_ble_eq_true rfl, Nat.le_of_ble_eq_true rfl⟩ (by first | exact Or.inl rfl | exact Or.inr rfl | assumption | exact i10_o) rfl rfl
