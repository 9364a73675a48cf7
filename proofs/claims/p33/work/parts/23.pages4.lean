/-! Copperleaf$Pages: changes of pages, raw -/
theorem s_take {sl : Int32} {cu ba r0 r1 r2 r3 : Q4} {sw : Nat → Int64} {bt : Int32} {cnt inn lk wd kp wr mk ls pth tk : Nat → Int32} {tl : List mC} {n : Nat} {a v : Int32} (hn : n < 800) (h1 : ∀ j, j < n → ¬ (kp j = 0 ∧ wr j = 0)) (h2 : kp n = 0 ∧ wr n = 0) (ha : (a = 1 ∧ v = 0) ∨ (a = 0 ∧ v = 1)) : EvS m_X0_take [.ref 1, .int a] (cW sl cu ba r0 r1 r2 r3 sw bt cnt inn lk wd kp wr mk ls pth tk tl) (.inl (some (.int (nI n)))) (cW sl cu ba r0 r1 r2 r3 sw bt (upd cnt n 0) (upd inn n v) lk wd kp (upd wr n 1) mk ls pth tk tl) := by
  refine evs_of (by decide +kernel) (Nat.le_of_ble_eq_true rfl) (by decide) rfl ?_
  rcases ha with ⟨rfl, rfl⟩ | ⟨rfl, rfl⟩
  · refine ev_aload_n (pc := 0) dX0_take_0 rfl rfl ?_
    refine cV0 (pc := 1) lk_X0_take_1 rfl rfl rfl (Nat.le_of_ble_eq_true rfl) ⟨Nat.le_of_ble_eq_true rfl, Nat.le_of_ble_eq_true rfl⟩ (s_leastVacant (by omega) h1 (fun _ => h2)) ?_
    refine ev_istore_n (pc := 4) dX0_take_4 rfl rfl rfl ?_
    refine ev_iload_n (pc := 5) dX0_take_5 rfl rfl ?_
    refine ev_sipush (pc := 6) (v := 800) dX0_take_6 (by decide) ?_
    refine ev_ic_ge (pc := 9) (tgt := 41) dX0_take_9 (by decide) (fun c_9 => absurd c_9 (hp8 hn)) (fun _ => ?_)
    refine ev_aload_n (pc := 12) dX0_take_12 rfl rfl ?_
    refine ev_get (pc := 13) dX0_take_13 fd_X0_28 rfl rfl ?_
    refine ev_iload_n (pc := 16) dX0_take_16 rfl rfl ?_
    refine ev_iconst (pc := 17) (v := 1) dX0_take_17 (by decide) ?_
    refine ev_zastN (pc := 18) dX0_take_18 rfl ⟨rfl, hn, by decide⟩ rfl rfl ?_
    refine ev_aload_n (pc := 19) dX0_take_19 rfl rfl ?_
    refine ev_get (pc := 20) dX0_take_20 fd_X0_15 rfl rfl ?_
    refine ev_iload_n (pc := 23) dX0_take_23 rfl rfl ?_
    refine ev_iload_n (pc := 24) dX0_take_24 rfl rfl ?_
    refine ev_if_ne (pc := 25) (tgt := 32) dX0_take_25 (by decide) (fun _ => ?_) (fun c_25 => absurd c_25 (by decide))
    refine ev_iconst (pc := 32) (v := 0) dX0_take_32 (by decide) ?_
    refine ev_zastN (pc := 33) dX0_take_33 rfl ⟨rfl, hn, by decide⟩ rfl rfl ?_
    refine ev_aload_n (pc := 34) dX0_take_34 rfl rfl ?_
    refine ev_get (pc := 35) dX0_take_35 fd_X0_9 rfl rfl ?_
    refine ev_iload_n (pc := 38) dX0_take_38 rfl rfl ?_
    refine ev_iconst (pc := 39) (v := 0) dX0_take_39 (by decide) ?_
    refine ev_iastN (pc := 40) dX0_take_40 rfl ⟨rfl, hn, by decide⟩ rfl rfl ?_
    refine ev_iload_n (pc := 41) dX0_take_41 rfl rfl ?_
    exact ev_iretE (pc := 42) dX0_take_42 rfl ⟨Nat.le_of_ble_eq_true rfl, Nat.le_of_ble_eq_true rfl⟩ rfl rfl
  · refine ev_aload_n (pc := 0) dX0_take_0 rfl rfl ?_
    refine cV0 (pc := 1) lk_X0_take_1 rfl rfl rfl (Nat.le_of_ble_eq_true rfl) ⟨Nat.le_of_ble_eq_true rfl, Nat.le_of_ble_eq_true rfl⟩ (s_leastVacant (by omega) h1 (fun _ => h2)) ?_
    refine ev_istore_n (pc := 4) dX0_take_4 rfl rfl rfl ?_
    refine ev_iload_n (pc := 5) dX0_take_5 rfl rfl ?_
    refine ev_sipush (pc := 6) (v := 800) dX0_take_6 (by decide) ?_
    refine ev_ic_ge (pc := 9) (tgt := 41) dX0_take_9 (by decide) (fun c_9 => absurd c_9 (hp8 hn)) (fun _ => ?_)
    refine ev_aload_n (pc := 12) dX0_take_12 rfl rfl ?_
    refine ev_get (pc := 13) dX0_take_13 fd_X0_28 rfl rfl ?_
    refine ev_iload_n (pc := 16) dX0_take_16 rfl rfl ?_
    refine ev_iconst (pc := 17) (v := 1) dX0_take_17 (by decide) ?_
    refine ev_zastN (pc := 18) dX0_take_18 rfl ⟨rfl, hn, by decide⟩ rfl rfl ?_
    refine ev_aload_n (pc := 19) dX0_take_19 rfl rfl ?_
    refine ev_get (pc := 20) dX0_take_20 fd_X0_15 rfl rfl ?_
    refine ev_iload_n (pc := 23) dX0_take_23 rfl rfl ?_
    refine ev_iload_n (pc := 24) dX0_take_24 rfl rfl ?_
    refine ev_if_ne (pc := 25) (tgt := 32) dX0_take_25 (by decide) (fun c_25 => absurd rfl c_25) (fun _ => ?_)
    refine ev_iconst (pc := 28) (v := 1) dX0_take_28 (by decide) ?_
    refine ev_goto (pc := 29) (tgt := 33) dX0_take_29 (by decide) ?_
    refine ev_zastN (pc := 33) dX0_take_33 rfl ⟨rfl, hn, by decide⟩ rfl rfl ?_
    refine ev_aload_n (pc := 34) dX0_take_34 rfl rfl ?_
    refine ev_get (pc := 35) dX0_take_35 fd_X0_9 rfl rfl ?_
    refine ev_iload_n (pc := 38) dX0_take_38 rfl rfl ?_
    refine ev_iconst (pc := 39) (v := 0) dX0_take_39 (by decide) ?_
    refine ev_iastN (pc := 40) dX0_take_40 rfl ⟨rfl, hn, by decide⟩ rfl rfl ?_
    refine ev_iload_n (pc := 41) dX0_take_41 rfl rfl ?_
    exact ev_iretE (pc := 42) dX0_take_42 rfl ⟨Nat.le_of_ble_eq_true rfl, Nat.le_of_ble_eq_true rfl⟩ rfl rfl
theorem s_leave {sl : Int32} {cu ba r0 r1 r2 r3 : Q4} {sw : Nat → Int64} {bt : Int32} {cnt inn lk wd kp wr mk ls pth tk : Nat → Int32} {tl : List mC} {p : Nat} (hp : p < 800) : EvS m_X0_leave [.ref 1, .int (nI p)] (cW sl cu ba r0 r1 r2 r3 sw bt cnt inn lk wd kp wr mk ls pth tk tl) (.inl none) (cW sl cu ba r0 r1 r2 r3 sw bt cnt inn lk wd kp (upd wr p 0) mk ls pth tk tl) := by
  refine evs_of (by decide +kernel) (Nat.le_of_ble_eq_true rfl) (by decide) rfl ?_
  refine ev_iload_n (pc := 0) dX0_leave_0 rfl rfl ?_
  refine ev_if_lt (pc := 1) (tgt := 18) dX0_leave_1 (by decide) (fun c_1 => absurd c_1 (hp0 hp)) (fun _ => ?_)
  refine ev_iload_n (pc := 4) dX0_leave_4 rfl rfl ?_
  refine ev_sipush (pc := 5) (v := 800) dX0_leave_5 (by decide) ?_
  refine ev_ic_ge (pc := 8) (tgt := 18) dX0_leave_8 (by decide) (fun c_8 => absurd c_8 (hp8 hp)) (fun _ => ?_)
  refine ev_aload_n (pc := 11) dX0_leave_11 rfl rfl ?_
  refine ev_get (pc := 12) dX0_leave_12 fd_X0_28 rfl rfl ?_
  refine ev_iload_n (pc := 15) dX0_leave_15 rfl rfl ?_
  refine ev_iconst (pc := 16) (v := 0) dX0_leave_16 (by decide) ?_
  refine ev_zastN (pc := 17) dX0_leave_17 rfl ⟨rfl, hp, by decide⟩ rfl rfl ?_
  exact ev_vretE (pc := 18) dX0_leave_18 rfl ⟨Nat.le_of_ble_eq_true rfl, Nat.le_of_ble_eq_true rfl⟩ rfl
def shU (f : Nat → Int32) (b i c : Nat) : Nat → Int32 := fun j => if b + i < j ∧ j ≤ b + c then f (j - 1) else f j
theorem shU_c (f : Nat → Int32) (b c : Nat) : shU f b c c = f := by
  funext j
  unfold shU
  rw [if_neg (by omega)]
theorem shU_at (f : Nat → Int32) (b c : Nat) {i : Nat} (h : 0 < i) : shU f b i c (b + i - 1) = f (b + i - 1) := by
  unfold shU
  rw [if_neg (by omega)]
theorem shU_step (f : Nat → Int32) (b c : Nat) {i : Nat} (h : 0 < i) (hc : i ≤ c) : upd (shU f b i c) (b + i) (f (b + i - 1)) = shU f b (i - 1) c := by
  funext j
  unfold upd shU
  by_cases h1 : j = b + i
  · subst h1
    rw [if_pos rfl, if_pos (by omega)]
  · rw [if_neg h1]
    by_cases h2 : b + i < j ∧ j ≤ b + c
    · rw [if_pos h2, if_pos (by omega)]
    · rw [if_neg h2, if_neg (by omega)]
abbrev insF (f : Nat → Int32) (b e c : Nat) (x : Int32) : Nat → Int32 := upd (shU f b e c) (b + e) x
theorem l_insert {sl : Int32} {cu ba r0 r1 r2 r3 : Q4} {sw : Nat → Int64} {bt : Int32} {cnt inn lk wd kp wr mk ls pth tk : Nat → Int32} {tl : List mC} {p e c : Nat} {key word : Int32} (hp : p < 800) (he : e ≤ c) (hc : c ≤ 4) : ∀ (m i : Nat), i = e + m → i ≤ c → EvF m_X0_insert (mQm m_X0_insert (.inl none) (cW sl cu ba r0 r1 r2 r3 sw bt (upd cnt p (nI (c + 1))) inn (insF lk (5 * p) e c key) (insF wd (5 * p) e c word) kp wr mk ls pth tk tl)) 37 [.ref 1, .int (nI p), .int (nI e), .int key, .int word, .int (nI c), .int (nI (5 * p)), .int (nI i)] [] 0 0 (cW sl cu ba r0 r1 r2 r3 sw bt cnt inn (shU lk (5 * p) i c) (shU wd (5 * p) i c) kp wr mk ls pth tk tl) := by
  intro m
  induction m with
  | zero =>
    intro i hi hic
    rw [Nat.add_zero] at hi
    subst hi
    refine ev_iload (pc := 37) dX0_insert_37 rfl ?_
    refine ev_iload_n (pc := 39) dX0_insert_39 rfl rfl ?_
    refine ev_ic_le (pc := 40) (tgt := 93) dX0_insert_40 (by decide) (fun _ => ?_) (fun c_40 => absurd (by exact nI_le (Nat.le_refl _) (by omega)) c_40)
    refine ev_aload_n (pc := 93) dX0_insert_93 rfl rfl ?_
    refine ev_get (pc := 94) dX0_insert_94 fd_X0_19 rfl rfl ?_
    refine ev_iload (pc := 97) dX0_insert_97 rfl ?_
    refine ev_iload_n (pc := 99) dX0_insert_99 rfl rfl ?_
    refine ev_iadd (pc := 100) dX0_insert_100 ?_
    refine ev_iload_n (pc := 101) dX0_insert_101 rfl rfl ?_
    refine ev_iastN (pc := 102) dX0_insert_102 rfl ⟨nI_add _ _, by omega, by decide⟩ rfl rfl ?_
    refine ev_aload_n (pc := 103) dX0_insert_103 rfl rfl ?_
    refine ev_get (pc := 104) dX0_insert_104 fd_X0_22 rfl rfl ?_
    refine ev_iload (pc := 107) dX0_insert_107 rfl ?_
    refine ev_iload_n (pc := 109) dX0_insert_109 rfl rfl ?_
    refine ev_iadd (pc := 110) dX0_insert_110 ?_
    refine ev_iload (pc := 111) dX0_insert_111 rfl ?_
    refine ev_iastN (pc := 113) dX0_insert_113 rfl ⟨nI_add _ _, by omega, by decide⟩ rfl rfl ?_
    refine ev_aload_n (pc := 114) dX0_insert_114 rfl rfl ?_
    refine ev_get (pc := 115) dX0_insert_115 fd_X0_9 rfl rfl ?_
    refine ev_iload_n (pc := 118) dX0_insert_118 rfl rfl ?_
    refine ev_iload (pc := 119) dX0_insert_119 rfl ?_
    refine ev_iconst (pc := 121) (v := 1) dX0_insert_121 (by decide) ?_
    refine ev_iadd (pc := 122) dX0_insert_122 ?_
    refine ev_iastN (pc := 123) dX0_insert_123 rfl ⟨rfl, hp, by decide⟩ (by rw [nI_a1]) rfl ?_
    exact ev_vretE (pc := 124) dX0_insert_124 rfl ⟨Nat.le_of_ble_eq_true rfl, Nat.le_of_ble_eq_true rfl⟩ rfl
  | succ m ih =>
    intro i hi hic
    refine ev_iload (pc := 37) dX0_insert_37 rfl ?_
    refine ev_iload_n (pc := 39) dX0_insert_39 rfl rfl ?_
    refine ev_ic_le (pc := 40) (tgt := 93) dX0_insert_40 (by decide) (fun c_40 => absurd c_40 (nI_ge (show e < i by omega) (by omega))) (fun _ => ?_)
    refine ev_aload_n (pc := 43) dX0_insert_43 rfl rfl ?_
    refine ev_get (pc := 44) dX0_insert_44 fd_X0_19 rfl rfl ?_
    refine ev_iload (pc := 47) dX0_insert_47 rfl ?_
    refine ev_iload (pc := 49) dX0_insert_49 rfl ?_
    refine ev_iadd (pc := 51) dX0_insert_51 ?_
    refine ev_aload_n (pc := 52) dX0_insert_52 rfl rfl ?_
    refine ev_get (pc := 53) dX0_insert_53 fd_X0_19 rfl rfl ?_
    refine ev_iload (pc := 56) dX0_insert_56 rfl ?_
    refine ev_iload (pc := 58) dX0_insert_58 rfl ?_
    refine ev_iadd (pc := 60) dX0_insert_60 ?_
    refine ev_iconst (pc := 61) (v := 1) dX0_insert_61 (by decide) ?_
    refine ev_isub (pc := 62) dX0_insert_62 ?_
    refine ev_ialdN (pc := 63) dX0_insert_63 rfl ⟨(by rw [nI_add, nI_s1 (by omega)]), by omega, by decide⟩ (shU_at lk (5 * p) c (by omega)) ?_
    refine ev_iastN (pc := 64) dX0_insert_64 rfl ⟨nI_add _ _, by omega, by decide⟩ (shU_step lk (5 * p) c (by omega) hic) rfl ?_
    refine ev_aload_n (pc := 65) dX0_insert_65 rfl rfl ?_
    refine ev_get (pc := 66) dX0_insert_66 fd_X0_22 rfl rfl ?_
    refine ev_iload (pc := 69) dX0_insert_69 rfl ?_
    refine ev_iload (pc := 71) dX0_insert_71 rfl ?_
    refine ev_iadd (pc := 73) dX0_insert_73 ?_
    refine ev_aload_n (pc := 74) dX0_insert_74 rfl rfl ?_
    refine ev_get (pc := 75) dX0_insert_75 fd_X0_22 rfl rfl ?_
    refine ev_iload (pc := 78) dX0_insert_78 rfl ?_
    refine ev_iload (pc := 80) dX0_insert_80 rfl ?_
    refine ev_iadd (pc := 82) dX0_insert_82 ?_
    refine ev_iconst (pc := 83) (v := 1) dX0_insert_83 (by decide) ?_
    refine ev_isub (pc := 84) dX0_insert_84 ?_
    refine ev_ialdN (pc := 85) dX0_insert_85 rfl ⟨(by rw [nI_add, nI_s1 (by omega)]), by omega, by decide⟩ (shU_at wd (5 * p) c (by omega)) ?_
    refine ev_iastN (pc := 86) dX0_insert_86 rfl ⟨nI_add _ _, by omega, by decide⟩ (shU_step wd (5 * p) c (by omega) hic) rfl ?_
    refine ev_iinc (pc := 87) dX0_insert_87 rfl rfl rfl ?_
    refine ev_goto (pc := 90) (tgt := 37) dX0_insert_90 (by decide) ?_
    rw [nI_im (by omega)]
    exact ih (i - 1) (by omega) (by omega)
theorem s_insert {sl : Int32} {cu ba r0 r1 r2 r3 : Q4} {sw : Nat → Int64} {bt : Int32} {cnt inn lk wd kp wr mk ls pth tk : Nat → Int32} {tl : List mC} {p e c : Nat} {key word : Int32} (hp : p < 800) (hcn : cnt p = nI c) (he : e ≤ c) (hc : c ≤ 4) : EvS m_X0_insert [.ref 1, .int (nI p), .int (nI e), .int key, .int word] (cW sl cu ba r0 r1 r2 r3 sw bt cnt inn lk wd kp wr mk ls pth tk tl) (.inl none) (cW sl cu ba r0 r1 r2 r3 sw bt (upd cnt p (nI (c + 1))) inn (insF lk (5 * p) e c key) (insF wd (5 * p) e c word) kp wr mk ls pth tk tl) := by
  refine evs_of (by decide +kernel) (Nat.le_of_ble_eq_true rfl) (by decide) rfl ?_
  refine ev_aload_n (pc := 0) dX0_insert_0 rfl rfl ?_
  refine ev_iload_n (pc := 1) dX0_insert_1 rfl rfl ?_
  refine cV1 (pc := 2) lk_X0_insert_2 rfl rfl rfl (Nat.le_of_ble_eq_true rfl) ⟨Nat.le_of_ble_eq_true rfl, Nat.le_of_ble_eq_true rfl⟩ (s_countOf hp hcn) ?_
  refine ev_istore (pc := 5) dX0_insert_5 rfl rfl ?_
  refine ev_iload_n (pc := 7) dX0_insert_7 rfl rfl ?_
  refine ev_iload_n (pc := 8) dX0_insert_8 rfl rfl ?_
  refine cS2 (pc := 9) lk_X0_insert_9 (Nat.le_of_ble_eq_true rfl) ⟨Nat.le_of_ble_eq_true rfl, Nat.le_of_ble_eq_true rfl⟩ (s_isCell1 hp (by omega)) ?_
  refine ev_if_eq (pc := 12) (tgt := 27) dX0_insert_12 (by decide) (fun c_12 => absurd c_12 (by decide)) (fun _ => ?_)
  refine ev_iload_n (pc := 15) dX0_insert_15 rfl rfl ?_
  refine ev_iload (pc := 16) dX0_insert_16 rfl ?_
  refine ev_ic_gt (pc := 18) (tgt := 27) dX0_insert_18 (by decide) (fun c_18 => absurd c_18 (by exact Int32.not_lt.mpr (nI_le he (by omega)))) (fun _ => ?_)
  refine ev_iload (pc := 21) dX0_insert_21 rfl ?_
  refine ev_iconst (pc := 23) (v := 5) dX0_insert_23 (by decide) ?_
  refine ev_ic_lt (pc := 24) (tgt := 28) dX0_insert_24 (by decide) (fun _ => ?_) (fun c_24 => absurd (by exact nI_lt (show c < 5 by omega) (by decide)) c_24)
  refine ev_iload_n (pc := 28) dX0_insert_28 rfl rfl ?_
  refine ev_iconst (pc := 29) (v := 5) dX0_insert_29 (by decide) ?_
  refine ev_imul (pc := 30) dX0_insert_30 ?_
  refine ev_istore (pc := 31) dX0_insert_31 rfl rfl ?_
  refine ev_iload (pc := 33) dX0_insert_33 rfl ?_
  refine ev_istore (pc := 35) dX0_insert_35 rfl rfl ?_
  have h9 := l_insert (sl := sl) (cu := cu) (ba := ba) (r0 := r0) (r1 := r1) (r2 := r2) (r3 := r3) (sw := sw) (bt := bt) (cnt := cnt) (inn := inn) (lk := lk) (wd := wd) (kp := kp) (wr := wr) (mk := mk) (ls := ls) (pth := pth) (tk := tk) (tl := tl) (key := key) (word := word) hp he hc (c - e) c (by omega) (Nat.le_refl _)
  rw [shU_c, shU_c] at h9
  rw [ix5']
  exact h9
def shD (f : Nat → Int32) (b e i : Nat) : Nat → Int32 := fun j => if b + e ≤ j ∧ j < b + i then f (j + 1) else f j
theorem shD_e (f : Nat → Int32) (b e : Nat) : shD f b e e = f := by
  funext j
  unfold shD
  rw [if_neg (by omega)]
theorem shD_at (f : Nat → Int32) (b e i : Nat) : shD f b e i (b + i + 1) = f (b + i + 1) := by
  unfold shD
  rw [if_neg (by omega)]
theorem shD_step (f : Nat → Int32) (b : Nat) {e i : Nat} (h : e ≤ i) : upd (shD f b e i) (b + i) (f (b + i + 1)) = shD f b e (i + 1) := by
  funext j
  unfold upd shD
  by_cases h1 : j = b + i
  · subst h1
    rw [if_pos rfl, if_pos (by omega)]
  · rw [if_neg h1]
    by_cases h2 : b + e ≤ j ∧ j < b + i
    · rw [if_pos h2, if_pos (by omega)]
    · rw [if_neg h2, if_neg (by omega)]
theorem l_remove {sl : Int32} {cu ba r0 r1 r2 r3 : Q4} {sw : Nat → Int64} {bt : Int32} {cnt inn lk wd kp wr mk ls pth tk : Nat → Int32} {tl : List mC} {p e c : Nat} (hp : p < 800) (he : e < c) (hc : c ≤ 5) : ∀ (m i : Nat), c = i + 1 + m → e ≤ i → EvF m_X0_remove (mQm m_X0_remove (.inl none) (cW sl cu ba r0 r1 r2 r3 sw bt (upd cnt p (nI (c - 1))) inn (shD lk (5 * p) e (c - 1)) (shD wd (5 * p) e (c - 1)) kp wr mk ls pth tk tl)) 33 [.ref 1, .int (nI p), .int (nI e), .int (nI c), .int (nI (5 * p)), .int (nI i)] [] 0 0 (cW sl cu ba r0 r1 r2 r3 sw bt cnt inn (shD lk (5 * p) e i) (shD wd (5 * p) e i) kp wr mk ls pth tk tl) := by
  intro m
  induction m with
  | zero =>
    intro i hi hie
    have e9 : i = c - 1 := by omega
    subst e9
    refine ev_iload (pc := 33) dX0_remove_33 rfl ?_
    refine ev_iconst (pc := 35) (v := 1) dX0_remove_35 (by decide) ?_
    refine ev_iadd (pc := 36) dX0_remove_36 ?_
    refine ev_iload_n (pc := 37) dX0_remove_37 rfl rfl ?_
    refine ev_ic_ge (pc := 38) (tgt := 91) dX0_remove_38 (by decide) (fun _ => ?_) (fun c_38 => absurd (by rw [nI_a1]; exact nI_le (by omega) (by omega)) c_38)
    refine ev_aload_n (pc := 91) dX0_remove_91 rfl rfl ?_
    refine ev_get (pc := 92) dX0_remove_92 fd_X0_9 rfl rfl ?_
    refine ev_iload_n (pc := 95) dX0_remove_95 rfl rfl ?_
    refine ev_iload_n (pc := 96) dX0_remove_96 rfl rfl ?_
    refine ev_iconst (pc := 97) (v := 1) dX0_remove_97 (by decide) ?_
    refine ev_isub (pc := 98) dX0_remove_98 ?_
    refine ev_iastN (pc := 99) dX0_remove_99 rfl ⟨rfl, hp, by decide⟩ (by rw [nI_s1 (by omega)]) rfl ?_
    exact ev_vretE (pc := 100) dX0_remove_100 rfl ⟨Nat.le_of_ble_eq_true rfl, Nat.le_of_ble_eq_true rfl⟩ rfl
  | succ m ih =>
    intro i hi hie
    refine ev_iload (pc := 33) dX0_remove_33 rfl ?_
    refine ev_iconst (pc := 35) (v := 1) dX0_remove_35 (by decide) ?_
    refine ev_iadd (pc := 36) dX0_remove_36 ?_
    refine ev_iload_n (pc := 37) dX0_remove_37 rfl rfl ?_
    refine ev_ic_ge (pc := 38) (tgt := 91) dX0_remove_38 (by decide) (fun c_38 => absurd c_38 (by rw [nI_a1]; exact nI_ge (show i + 1 < c by omega) (by omega))) (fun _ => ?_)
    refine ev_aload_n (pc := 41) dX0_remove_41 rfl rfl ?_
    refine ev_get (pc := 42) dX0_remove_42 fd_X0_19 rfl rfl ?_
    refine ev_iload (pc := 45) dX0_remove_45 rfl ?_
    refine ev_iload (pc := 47) dX0_remove_47 rfl ?_
    refine ev_iadd (pc := 49) dX0_remove_49 ?_
    refine ev_aload_n (pc := 50) dX0_remove_50 rfl rfl ?_
    refine ev_get (pc := 51) dX0_remove_51 fd_X0_19 rfl rfl ?_
    refine ev_iload (pc := 54) dX0_remove_54 rfl ?_
    refine ev_iload (pc := 56) dX0_remove_56 rfl ?_
    refine ev_iadd (pc := 58) dX0_remove_58 ?_
    refine ev_iconst (pc := 59) (v := 1) dX0_remove_59 (by decide) ?_
    refine ev_iadd (pc := 60) dX0_remove_60 ?_
    refine ev_ialdN (pc := 61) dX0_remove_61 rfl ⟨(by rw [nI_add, nI_a1]), by omega, by decide⟩ (shD_at lk (5 * p) e i) ?_
    refine ev_iastN (pc := 62) dX0_remove_62 rfl ⟨nI_add _ _, by omega, by decide⟩ (shD_step lk (5 * p) hie) rfl ?_
    refine ev_aload_n (pc := 63) dX0_remove_63 rfl rfl ?_
    refine ev_get (pc := 64) dX0_remove_64 fd_X0_22 rfl rfl ?_
    refine ev_iload (pc := 67) dX0_remove_67 rfl ?_
    refine ev_iload (pc := 69) dX0_remove_69 rfl ?_
    refine ev_iadd (pc := 71) dX0_remove_71 ?_
    refine ev_aload_n (pc := 72) dX0_remove_72 rfl rfl ?_
    refine ev_get (pc := 73) dX0_remove_73 fd_X0_22 rfl rfl ?_
    refine ev_iload (pc := 76) dX0_remove_76 rfl ?_
    refine ev_iload (pc := 78) dX0_remove_78 rfl ?_
    refine ev_iadd (pc := 80) dX0_remove_80 ?_
    refine ev_iconst (pc := 81) (v := 1) dX0_remove_81 (by decide) ?_
    refine ev_iadd (pc := 82) dX0_remove_82 ?_
    refine ev_ialdN (pc := 83) dX0_remove_83 rfl ⟨(by rw [nI_add, nI_a1]), by omega, by decide⟩ (shD_at wd (5 * p) e i) ?_
    refine ev_iastN (pc := 84) dX0_remove_84 rfl ⟨nI_add _ _, by omega, by decide⟩ (shD_step wd (5 * p) hie) rfl ?_
    refine ev_iinc (pc := 85) dX0_remove_85 rfl rfl rfl ?_
    refine ev_goto (pc := 88) (tgt := 33) dX0_remove_88 (by decide) ?_
    rw [nI_i1]
    exact ih (i + 1) (by omega) (by omega)
theorem s_remove {sl : Int32} {cu ba r0 r1 r2 r3 : Q4} {sw : Nat → Int64} {bt : Int32} {cnt inn lk wd kp wr mk ls pth tk : Nat → Int32} {tl : List mC} {p e c : Nat} (hp : p < 800) (hcn : cnt p = nI c) (he : e < c) (hc : c ≤ 5) : EvS m_X0_remove [.ref 1, .int (nI p), .int (nI e)] (cW sl cu ba r0 r1 r2 r3 sw bt cnt inn lk wd kp wr mk ls pth tk tl) (.inl none) (cW sl cu ba r0 r1 r2 r3 sw bt (upd cnt p (nI (c - 1))) inn (shD lk (5 * p) e (c - 1)) (shD wd (5 * p) e (c - 1)) kp wr mk ls pth tk tl) := by
  refine evs_of (by decide +kernel) (Nat.le_of_ble_eq_true rfl) (by decide) rfl ?_
  refine ev_aload_n (pc := 0) dX0_remove_0 rfl rfl ?_
  refine ev_iload_n (pc := 1) dX0_remove_1 rfl rfl ?_
  refine cV1 (pc := 2) lk_X0_remove_2 rfl rfl rfl (Nat.le_of_ble_eq_true rfl) ⟨Nat.le_of_ble_eq_true rfl, Nat.le_of_ble_eq_true rfl⟩ (s_countOf hp hcn) ?_
  refine ev_istore_n (pc := 5) dX0_remove_5 rfl rfl rfl ?_
  refine ev_iload_n (pc := 6) dX0_remove_6 rfl rfl ?_
  refine ev_iload_n (pc := 7) dX0_remove_7 rfl rfl ?_
  refine cS2 (pc := 8) lk_X0_remove_8 (Nat.le_of_ble_eq_true rfl) ⟨Nat.le_of_ble_eq_true rfl, Nat.le_of_ble_eq_true rfl⟩ (s_isCell1 hp (by omega)) ?_
  refine ev_if_eq (pc := 11) (tgt := 24) dX0_remove_11 (by decide) (fun c_11 => absurd c_11 (by decide)) (fun _ => ?_)
  refine ev_iload_n (pc := 14) dX0_remove_14 rfl rfl ?_
  refine ev_iload_n (pc := 15) dX0_remove_15 rfl rfl ?_
  refine ev_ic_ge (pc := 16) (tgt := 24) dX0_remove_16 (by decide) (fun c_16 => absurd c_16 (nI_ge he (by omega))) (fun _ => ?_)
  refine ev_iload_n (pc := 19) dX0_remove_19 rfl rfl ?_
  refine ev_iconst (pc := 20) (v := 5) dX0_remove_20 (by decide) ?_
  refine ev_ic_le (pc := 21) (tgt := 25) dX0_remove_21 (by decide) (fun _ => ?_) (fun c_21 => absurd (by exact nI_le hc (by decide)) c_21)
  refine ev_iload_n (pc := 25) dX0_remove_25 rfl rfl ?_
  refine ev_iconst (pc := 26) (v := 5) dX0_remove_26 (by decide) ?_
  refine ev_imul (pc := 27) dX0_remove_27 ?_
  refine ev_istore (pc := 28) dX0_remove_28 rfl rfl ?_
  refine ev_iload_n (pc := 30) dX0_remove_30 rfl rfl ?_
  refine ev_istore (pc := 31) dX0_remove_31 rfl rfl ?_
  have h9 := l_remove (sl := sl) (cu := cu) (ba := ba) (r0 := r0) (r1 := r1) (r2 := r2) (r3 := r3) (sw := sw) (bt := bt) (cnt := cnt) (inn := inn) (lk := lk) (wd := wd) (kp := kp) (wr := wr) (mk := mk) (ls := ls) (pth := pth) (tk := tk) (tl := tl) hp he hc (c - 1 - e) e (by omega) (Nat.le_refl _)
  rw [shD_e, shD_e] at h9
  rw [ix5']
  exact h9
/-- i places from s copied to t -/
def apF (f : Nat → Int32) (t s i : Nat) : Nat → Int32 := fun j => if t ≤ j ∧ j < t + i then f (s + (j - t)) else f j
theorem apF_0 (f : Nat → Int32) (t s : Nat) : apF f t s 0 = f := by
  funext j
  unfold apF
  rw [if_neg (by omega)]
theorem apF_at (f : Nat → Int32) {t s i c : Nat} (h : t + c ≤ s ∨ s + c ≤ t) (hi : i < c) : apF f t s i (s + i) = f (s + i) := by
  unfold apF
  rw [if_neg (by omega)]
theorem apF_step (f : Nat → Int32) (t s i : Nat) : upd (apF f t s i) (t + i) (f (s + i)) = apF f t s (i + 1) := by
  funext j
  unfold upd apF
  by_cases h1 : j = t + i
  · subst h1
    rw [if_pos rfl, if_pos (by omega), Nat.add_sub_cancel_left]
  · rw [if_neg h1]
    by_cases h2 : t ≤ j ∧ j < t + i
    · rw [if_pos h2, if_pos (by omega)]
    · rw [if_neg h2, if_neg (by omega)]
theorem ix5a (p a b : Nat) : nI p * 5 + nI a + nI b = nI (5 * p + a + b) := by rw [ix5, nI_add]
theorem l_append {sl : Int32} {cu ba r0 r1 r2 r3 : Q4} {sw : Nat → Int64} {bt : Int32} {cnt inn lk wd kp wr mk ls pth tk : Nat → Int32} {tl : List mC} {p q c1 c2 : Nat} (hp : p < 800) (hq : q < 800) (hpq : p ≠ q) (hc : c1 + c2 ≤ 5) : ∀ (m i : Nat), c2 = i + m → EvF m_X0_append (mQm m_X0_append (.inl none) (cW sl cu ba r0 r1 r2 r3 sw bt (upd cnt q (nI (c1 + c2))) inn (apF lk (5 * q + c1) (5 * p) c2) (apF wd (5 * q + c1) (5 * p) c2) kp wr mk ls pth tk tl)) 41 [.ref 1, .int (nI p), .int (nI q), .int (nI c1), .int (nI c2), .int (nI i)] [] 0 0 (cW sl cu ba r0 r1 r2 r3 sw bt cnt inn (apF lk (5 * q + c1) (5 * p) i) (apF wd (5 * q + c1) (5 * p) i) kp wr mk ls pth tk tl) := by
  have hs : 5 * q + c1 + c2 ≤ 5 * p ∨ 5 * p + c2 ≤ 5 * q + c1 := by omega
  intro m
  induction m with
  | zero =>
    intro i hi
    rw [Nat.add_zero] at hi
    subst hi
    refine ev_iload (pc := 41) dX0_append_41 rfl ?_
    refine ev_iload (pc := 43) dX0_append_43 rfl ?_
    refine ev_ic_ge (pc := 45) (tgt := 102) dX0_append_45 (by decide) (fun _ => ?_) (fun c_45 => absurd (by exact nI_le (Nat.le_refl _) (by omega)) c_45)
    refine ev_aload_n (pc := 102) dX0_append_102 rfl rfl ?_
    refine ev_get (pc := 103) dX0_append_103 fd_X0_9 rfl rfl ?_
    refine ev_iload_n (pc := 106) dX0_append_106 rfl rfl ?_
    refine ev_iload_n (pc := 107) dX0_append_107 rfl rfl ?_
    refine ev_iload (pc := 108) dX0_append_108 rfl ?_
    refine ev_iadd (pc := 110) dX0_append_110 ?_
    refine ev_iastN (pc := 111) dX0_append_111 rfl ⟨rfl, hq, by decide⟩ (by rw [nI_add]) rfl ?_
    exact ev_vretE (pc := 112) dX0_append_112 rfl ⟨Nat.le_of_ble_eq_true rfl, Nat.le_of_ble_eq_true rfl⟩ rfl
  | succ m ih =>
    intro i hi
    refine ev_iload (pc := 41) dX0_append_41 rfl ?_
    refine ev_iload (pc := 43) dX0_append_43 rfl ?_
    refine ev_ic_ge (pc := 45) (tgt := 102) dX0_append_45 (by decide) (fun c_45 => absurd c_45 (nI_ge (show i < c2 by omega) (by omega))) (fun _ => ?_)
    refine ev_aload_n (pc := 48) dX0_append_48 rfl rfl ?_
    refine ev_get (pc := 49) dX0_append_49 fd_X0_19 rfl rfl ?_
    refine ev_iload_n (pc := 52) dX0_append_52 rfl rfl ?_
    refine ev_iconst (pc := 53) (v := 5) dX0_append_53 (by decide) ?_
    refine ev_imul (pc := 54) dX0_append_54 ?_
    refine ev_iload_n (pc := 55) dX0_append_55 rfl rfl ?_
    refine ev_iadd (pc := 56) dX0_append_56 ?_
    refine ev_iload (pc := 57) dX0_append_57 rfl ?_
    refine ev_iadd (pc := 59) dX0_append_59 ?_
    refine ev_aload_n (pc := 60) dX0_append_60 rfl rfl ?_
    refine ev_get (pc := 61) dX0_append_61 fd_X0_19 rfl rfl ?_
    refine ev_iload_n (pc := 64) dX0_append_64 rfl rfl ?_
    refine ev_iconst (pc := 65) (v := 5) dX0_append_65 (by decide) ?_
    refine ev_imul (pc := 66) dX0_append_66 ?_
    refine ev_iload (pc := 67) dX0_append_67 rfl ?_
    refine ev_iadd (pc := 69) dX0_append_69 ?_
    refine ev_ialdN (pc := 70) dX0_append_70 rfl ⟨ix5 _ _, by omega, by decide⟩ (apF_at lk hs (by omega)) ?_
    refine ev_iastN (pc := 71) dX0_append_71 rfl ⟨ix5a _ _ _, by omega, by decide⟩ (apF_step lk _ _ i) rfl ?_
    refine ev_aload_n (pc := 72) dX0_append_72 rfl rfl ?_
    refine ev_get (pc := 73) dX0_append_73 fd_X0_22 rfl rfl ?_
    refine ev_iload_n (pc := 76) dX0_append_76 rfl rfl ?_
    refine ev_iconst (pc := 77) (v := 5) dX0_append_77 (by decide) ?_
    refine ev_imul (pc := 78) dX0_append_78 ?_
    refine ev_iload_n (pc := 79) dX0_append_79 rfl rfl ?_
    refine ev_iadd (pc := 80) dX0_append_80 ?_
    refine ev_iload (pc := 81) dX0_append_81 rfl ?_
    refine ev_iadd (pc := 83) dX0_append_83 ?_
    refine ev_aload_n (pc := 84) dX0_append_84 rfl rfl ?_
    refine ev_get (pc := 85) dX0_append_85 fd_X0_22 rfl rfl ?_
    refine ev_iload_n (pc := 88) dX0_append_88 rfl rfl ?_
    refine ev_iconst (pc := 89) (v := 5) dX0_append_89 (by decide) ?_
    refine ev_imul (pc := 90) dX0_append_90 ?_
    refine ev_iload (pc := 91) dX0_append_91 rfl ?_
    refine ev_iadd (pc := 93) dX0_append_93 ?_
    refine ev_ialdN (pc := 94) dX0_append_94 rfl ⟨ix5 _ _, by omega, by decide⟩ (apF_at wd hs (by omega)) ?_
    refine ev_iastN (pc := 95) dX0_append_95 rfl ⟨ix5a _ _ _, by omega, by decide⟩ (apF_step wd _ _ i) rfl ?_
    refine ev_iinc (pc := 96) dX0_append_96 rfl rfl rfl ?_
    refine ev_goto (pc := 99) (tgt := 41) dX0_append_99 (by decide) ?_
    rw [nI_i1]
    exact ih (i + 1) (by omega)
theorem s_append {sl : Int32} {cu ba r0 r1 r2 r3 : Q4} {sw : Nat → Int64} {bt : Int32} {cnt inn lk wd kp wr mk ls pth tk : Nat → Int32} {tl : List mC} {p q c1 c2 : Nat} (hp : p < 800) (hq : q < 800) (hpq : p ≠ q) (h1 : cnt q = nI c1) (h2 : cnt p = nI c2) (h0 : 0 < c2) (hc : c1 + c2 ≤ 5) : EvS m_X0_append [.ref 1, .int (nI p), .int (nI q)] (cW sl cu ba r0 r1 r2 r3 sw bt cnt inn lk wd kp wr mk ls pth tk tl) (.inl none) (cW sl cu ba r0 r1 r2 r3 sw bt (upd cnt q (nI (c1 + c2))) inn (apF lk (5 * q + c1) (5 * p) c2) (apF wd (5 * q + c1) (5 * p) c2) kp wr mk ls pth tk tl) := by
  refine evs_of (by decide +kernel) (Nat.le_of_ble_eq_true rfl) (by decide) rfl ?_
  refine ev_aload_n (pc := 0) dX0_append_0 rfl rfl ?_
  refine ev_iload_n (pc := 1) dX0_append_1 rfl rfl ?_
  refine cV1 (pc := 2) lk_X0_append_2 rfl rfl rfl (Nat.le_of_ble_eq_true rfl) ⟨Nat.le_of_ble_eq_true rfl, Nat.le_of_ble_eq_true rfl⟩ (s_countOf hq h1) ?_
  refine ev_istore_n (pc := 5) dX0_append_5 rfl rfl rfl ?_
  refine ev_aload_n (pc := 6) dX0_append_6 rfl rfl ?_
  refine ev_iload_n (pc := 7) dX0_append_7 rfl rfl ?_
  refine cV1 (pc := 8) lk_X0_append_8 rfl rfl rfl (Nat.le_of_ble_eq_true rfl) ⟨Nat.le_of_ble_eq_true rfl, Nat.le_of_ble_eq_true rfl⟩ (s_countOf hp h2) ?_
  refine ev_istore (pc := 11) dX0_append_11 rfl rfl ?_
  refine ev_iload_n (pc := 13) dX0_append_13 rfl rfl ?_
  refine ev_iload (pc := 14) dX0_append_14 rfl ?_
  refine ev_iconst (pc := 16) (v := 1) dX0_append_16 (by decide) ?_
  refine ev_isub (pc := 17) dX0_append_17 ?_
  refine cS2 (pc := 18) lk_X0_append_18 (Nat.le_of_ble_eq_true rfl) ⟨Nat.le_of_ble_eq_true rfl, Nat.le_of_ble_eq_true rfl⟩ (by rw [nI_s1 h0]; exact s_isCell1 hp (by omega)) ?_
  refine ev_if_eq (pc := 21) (tgt := 37) dX0_append_21 (by decide) (fun c_21 => absurd c_21 (by decide)) (fun _ => ?_)
  refine ev_iload_n (pc := 24) dX0_append_24 rfl rfl ?_
  refine ev_iload_n (pc := 25) dX0_append_25 rfl rfl ?_
  refine ev_iload (pc := 26) dX0_append_26 rfl ?_
  refine ev_iadd (pc := 28) dX0_append_28 ?_
  refine ev_iconst (pc := 29) (v := 1) dX0_append_29 (by decide) ?_
  refine ev_isub (pc := 30) dX0_append_30 ?_
  refine cS2 (pc := 31) lk_X0_append_31 (Nat.le_of_ble_eq_true rfl) ⟨Nat.le_of_ble_eq_true rfl, Nat.le_of_ble_eq_true rfl⟩ (by rw [nI_add, nI_s1 (by omega)]; exact s_isCell1 hq (by omega)) ?_
  refine ev_if_ne (pc := 34) (tgt := 38) dX0_append_34 (by decide) (fun _ => ?_) (fun c_34 => absurd c_34 (by decide))
  refine ev_iconst (pc := 38) (v := 0) dX0_append_38 (by decide) ?_
  refine ev_istore (pc := 39) dX0_append_39 rfl rfl ?_
  have h9 := l_append (sl := sl) (cu := cu) (ba := ba) (r0 := r0) (r1 := r1) (r2 := r2) (r3 := r3) (sw := sw) (bt := bt) (cnt := cnt) (inn := inn) (lk := lk) (wd := wd) (kp := kp) (wr := wr) (mk := mk) (ls := ls) (pth := pth) (tk := tk) (tl := tl) hp hq hpq hc c2 0 (by omega)
  rw [apF_0, apF_0] at h9
  exact h9
theorem s_append0 {sl : Int32} {cu ba r0 r1 r2 r3 : Q4} {sw : Nat → Int64} {bt : Int32} {cnt inn lk wd kp wr mk ls pth tk : Nat → Int32} {tl : List mC} {p q : Nat} {v : Int32} (hp : p < 800) (hq : q < 800) (h1 : cnt q = v) (h2 : cnt p = nI 0) : EvS m_X0_append [.ref 1, .int (nI p), .int (nI q)] (cW sl cu ba r0 r1 r2 r3 sw bt cnt inn lk wd kp wr mk ls pth tk tl) (.inl none) (cW sl cu ba r0 r1 r2 r3 sw bt cnt inn lk wd kp wr mk ls pth tk tl) := by
  refine evs_of (by decide +kernel) (Nat.le_of_ble_eq_true rfl) (by decide) rfl ?_
  refine ev_aload_n (pc := 0) dX0_append_0 rfl rfl ?_
  refine ev_iload_n (pc := 1) dX0_append_1 rfl rfl ?_
  refine cV1 (pc := 2) lk_X0_append_2 rfl rfl rfl (Nat.le_of_ble_eq_true rfl) ⟨Nat.le_of_ble_eq_true rfl, Nat.le_of_ble_eq_true rfl⟩ (s_countOf hq h1) ?_
  refine ev_istore_n (pc := 5) dX0_append_5 rfl rfl rfl ?_
  refine ev_aload_n (pc := 6) dX0_append_6 rfl rfl ?_
  refine ev_iload_n (pc := 7) dX0_append_7 rfl rfl ?_
  refine cV1 (pc := 8) lk_X0_append_8 rfl rfl rfl (Nat.le_of_ble_eq_true rfl) ⟨Nat.le_of_ble_eq_true rfl, Nat.le_of_ble_eq_true rfl⟩ (s_countOf hp h2) ?_
  refine ev_istore (pc := 11) dX0_append_11 rfl rfl ?_
  refine ev_iload_n (pc := 13) dX0_append_13 rfl rfl ?_
  refine ev_iload (pc := 14) dX0_append_14 rfl ?_
  refine ev_iconst (pc := 16) (v := 1) dX0_append_16 (by decide) ?_
  refine ev_isub (pc := 17) dX0_append_17 ?_
  refine cS2 (pc := 18) lk_X0_append_18 (Nat.le_of_ble_eq_true rfl) ⟨Nat.le_of_ble_eq_true rfl, Nat.le_of_ble_eq_true rfl⟩ (s_isCell0 hp) ?_
  refine ev_if_eq (pc := 21) (tgt := 37) dX0_append_21 (by decide) (fun _ => ?_) (fun c_21 => absurd rfl c_21)
  exact ev_vretE (pc := 37) dX0_append_37 rfl ⟨Nat.le_of_ble_eq_true rfl, Nat.le_of_ble_eq_true rfl⟩ rfl
