/-! THE LAW'S numbers: low, at, key, turn, sets, value, bits, copies -/
def lowN (v : Int32) (n : Nat) : Nat := v.toBitVec.toNat % 2 ^ 31 % n
theorem lowN_lt (v : Int32) {n : Nat} (h : 0 < n) : lowN v n < n := Nat.mod_lt _ h
theorem r_low {w : mW} {v : Int32} {n : Nat} (h0 : 0 < n) (hn : n < 2147483648) : EvS m_L_low [.int v, .int (nI n)] w (.inl (some (.int (nI (lowN v n))))) w := by
  refine evs_of (by decide +kernel) (Nat.le_of_ble_eq_true rfl) (by decide) rfl ?_
  refine ev_iload_n (pc := 0) dL_low_0 rfl rfl ?_
  refine ev_ldc (pc := 1) dL_low_1 ki_L_9 ?_
  refine ev_iand (pc := 3) dL_low_3 ?_
  rw [pk_and v 31 (by decide)]
  refine ev_iload_n (pc := 4) dL_low_4 rfl rfl ?_
  refine ev_irem (pc := 5) dL_low_5 (nI_ne0 h0 hn) (pk_rem (Nat.mod_lt _ (by decide)) h0 hn) ?_
  exact ev_iretE (pc := 6) dL_low_6 rfl ⟨Nat.le_of_ble_eq_true rfl, Nat.le_of_ble_eq_true rfl⟩ rfl rfl
theorem r_key {w : mW} {i : Nat} : EvS m_L_key [.int (nI i)] w (.inl (some (.int (nI (3 * i + 6))))) w := by
  refine evs_of (by decide +kernel) (Nat.le_of_ble_eq_true rfl) (by decide) rfl ?_
  refine ev_iconst (pc := 0) (v := 3) dL_key_0 (by decide) ?_
  refine ev_iload_n (pc := 1) dL_key_1 rfl rfl ?_
  refine ev_imul (pc := 2) dL_key_2 ?_
  rw [show (3 : Int32) = nI 3 from rfl, pk_mul]
  refine ev_bipush (pc := 3) (v := 6) dL_key_3 (by decide) ?_
  refine ev_iadd (pc := 5) dL_key_5 ?_
  exact ev_iretE (pc := 6) dL_key_6 rfl ⟨Nat.le_of_ble_eq_true rfl, Nat.le_of_ble_eq_true rfl⟩ (nI_add (3 * i) 6) rfl
theorem r_at {q : Nat × (Nat → Int32)} {k : Nat} (hk : k < 1000) (hq : q.1 ≤ 260) : ∃ x : Int32, ∀ w, EvS (m_L_at q) [scr1, .int (nI k)] w (.inl (some (.int x))) w := by
  by_cases h : k < q.1
  · refine ⟨q.2 k, fun w => ?_⟩
    refine evs_of (show plainName RL = true by decide +kernel) (Nat.le_of_ble_eq_true rfl) (fun h => by cases h) rfl ?_
    have hin : vp_in (nI k) q.1 := vp_in_nI h (by omega)
    refine ev_iload_n (pc := 0) dL_at_0 rfl rfl ?_
    refine ev_aloadS_n (pc := 1) dL_at_1 rfl rfl ?_
    refine ev_slen (pc := 2) dL_at_2 rfl ?_
    refine ev_ic_ge (pc := 3) (tgt := 12) dL_at_3 (by decide) (fun c_3 => absurd c_3 (nI_ge h (by omega))) (fun _ => ?_)
    refine ev_aloadS_n (pc := 6) dL_at_6 rfl rfl ?_
    refine ev_iload_n (pc := 7) dL_at_7 rfl rfl ?_
    refine ev_sld (pc := 8) dL_at_8 rfl hin ?_
    rw [nI_clamp (by omega)]
    refine ev_goto (pc := 9) (tgt := 21) dL_at_9 (by decide) ?_
    exact ev_iretE (pc := 21) dL_at_21 rfl ⟨Nat.le_of_ble_eq_true rfl, Nat.le_of_ble_eq_true rfl⟩ rfl rfl
  · refine ⟨1033523655 * (nI k + 1) + 1797581071, fun w => ?_⟩
    refine evs_of (show plainName RL = true by decide +kernel) (Nat.le_of_ble_eq_true rfl) (fun h => by cases h) rfl ?_
    refine ev_iload_n (pc := 0) dL_at_0 rfl rfl ?_
    refine ev_aloadS_n (pc := 1) dL_at_1 rfl rfl ?_
    refine ev_slen (pc := 2) dL_at_2 rfl ?_
    refine ev_ic_ge (pc := 3) (tgt := 12) dL_at_3 (by decide) (fun _ => ?_) (fun c_3 => absurd (nI_le (by omega) (by omega)) c_3)
    refine ev_ldc (pc := 12) dL_at_12 ki_L_7 ?_
    refine ev_iload_n (pc := 14) dL_at_14 rfl rfl ?_
    refine ev_iconst (pc := 15) (v := 1) dL_at_15 (by decide) ?_
    refine ev_iadd (pc := 16) dL_at_16 ?_
    refine ev_imul (pc := 17) dL_at_17 ?_
    refine ev_ldc (pc := 18) dL_at_18 ki_L_8 ?_
    refine ev_iadd (pc := 20) dL_at_20 ?_
    exact ev_iretE (pc := 21) dL_at_21 rfl ⟨Nat.le_of_ble_eq_true rfl, Nat.le_of_ble_eq_true rfl⟩ rfl rfl
/-- the turn in which a key of a state was put, 0 if it isn't there -/
def tn (cc : Nat → Int64) (s i : Nat) : Nat := t5 (cc (3 * s + i / 12)) (5 * (i % 12))
theorem tn_lt {cc : Nat → Int64} {s i : Nat} : tn cc s i < 32 := t5_lt _ _
theorem r_turn {w : mW} {p : Nat} {cc : Nat → Int64} (he : w[p]? = some (lA 24 cc)) {s i : Nat} (hs : s < 8) (hi : i < 36) : EvS m_L_turn [.ref p, .int (nI s), .int (nI i)] w (.inl (some (.int (nI (tn cc s i))))) w := by
  refine evs_of (by decide +kernel) (Nat.le_of_ble_eq_true rfl) (by decide) rfl ?_
  refine ev_aload_n (pc := 0) dL_turn_0 rfl rfl ?_
  refine ev_iconst (pc := 1) (v := 3) dL_turn_1 (by decide) ?_
  refine ev_iload_n (pc := 2) dL_turn_2 rfl rfl ?_
  refine ev_imul (pc := 3) dL_turn_3 ?_
  rw [show (3 : Int32) = nI 3 from rfl, pk_mul]
  refine ev_iload_n (pc := 4) dL_turn_4 rfl rfl ?_
  refine ev_bipush (pc := 5) (v := 12) dL_turn_5 (by decide) ?_
  refine ev_idiv (pc := 7) dL_turn_7 (by decide) (pk_div (d := 12) (by omega) (by decide) (by decide)) ?_
  refine ev_iadd (pc := 8) dL_turn_8 ?_
  rw [nI_add]
  refine ev_laldN (pc := 9) dL_turn_9 he ⟨(show _ = nI (3 * s + i / 12) from rfl), by omega, by decide⟩ rfl ?_
  refine ev_iconst (pc := 10) (v := 5) dL_turn_10 (by decide) ?_
  refine ev_iload_n (pc := 11) dL_turn_11 rfl rfl ?_
  refine ev_bipush (pc := 12) (v := 12) dL_turn_12 (by decide) ?_
  refine ev_irem (pc := 14) dL_turn_14 (by decide) (pk_rem (d := 12) (by omega) (by decide) (by decide)) ?_
  refine ev_imul (pc := 15) dL_turn_15 ?_
  rw [show (5 : Int32) = nI 5 from rfl, pk_mul]
  refine ev_lshr (pc := 16) dL_turn_16 rfl ?_
  refine ev_l2i (pc := 17) dL_turn_17 ?_
  refine ev_bipush (pc := 18) (v := 31) dL_turn_18 (by decide) ?_
  refine ev_iand (pc := 20) dL_turn_20 ?_
  exact ev_iretE (pc := 21) dL_turn_21 rfl ⟨Nat.le_of_ble_eq_true rfl, Nat.le_of_ble_eq_true rfl⟩ (t5_get _ (by omega)) rfl
def setT (cc : Nat → Int64) (s i t : Nat) : Nat → Int64 := vp_updL cc (3 * s + i / 12) ((cc (3 * s + i / 12) &&& ((31 <<< ((nI (5 * (i % 12))).toInt64 &&& 63)) ^^^ (-1))) ||| ((nI t).toInt64 <<< ((nI (5 * (i % 12))).toInt64 &&& 63)))
theorem tn_set {cc : Nat → Int64} {s i t s' i' : Nat} (ht : t < 32) (hi : i < 36) (hi' : i' < 36) : tn (setT cc s i t) s' i' = if s' = s ∧ i' = i then t else tn cc s' i' := by
  unfold tn setT
  by_cases h : 3 * s' + i' / 12 = 3 * s + i / 12
  · rw [h, pk_uLs, t5_set _ ht (Nat.mod_lt _ (by decide)) (Nat.mod_lt _ (by decide))]
    by_cases h2 : i' % 12 = i % 12
    · rw [if_pos h2, if_pos (by omega)]
    · rw [if_neg h2, if_neg (by omega)]
  · rw [pk_uLn h, if_neg (fun hh => h (by rw [hh.1, hh.2]))]
theorem r_sets {w : mW} {p : Nat} {cc : Nat → Int64} (he : w[p]? = some (lA 24 cc)) {s i t : Nat} (hs : s < 8) (hi : i < 36) : EvS m_L_sets [.ref p, .int (nI s), .int (nI i), .int (nI t)] w (.inl none) (w.set p (lA 24 (setT cc s i t))) := by
  refine evs_of (by decide +kernel) (Nat.le_of_ble_eq_true rfl) (by decide) rfl ?_
  refine ev_iconst (pc := 0) (v := 3) dL_sets_0 (by decide) ?_
  refine ev_iload_n (pc := 1) dL_sets_1 rfl rfl ?_
  refine ev_imul (pc := 2) dL_sets_2 ?_
  rw [show (3 : Int32) = nI 3 from rfl, pk_mul]
  refine ev_iload_n (pc := 3) dL_sets_3 rfl rfl ?_
  refine ev_bipush (pc := 4) (v := 12) dL_sets_4 (by decide) ?_
  refine ev_idiv (pc := 6) dL_sets_6 (by decide) (pk_div (d := 12) (by omega) (by decide) (by decide)) ?_
  refine ev_iadd (pc := 7) dL_sets_7 ?_
  rw [nI_add]
  refine ev_istore (pc := 8) dL_sets_8 rfl rfl ?_
  refine ev_aload_n (pc := 10) dL_sets_10 rfl rfl ?_
  refine ev_iload (pc := 11) dL_sets_11 rfl ?_
  refine ev_aload_n (pc := 13) dL_sets_13 rfl rfl ?_
  refine ev_iload (pc := 14) dL_sets_14 rfl ?_
  refine ev_laldN (pc := 16) dL_sets_16 he ⟨(show _ = nI (3 * s + i / 12) from rfl), by omega, by decide⟩ rfl ?_
  refine ev_ldc2 (pc := 17) dL_sets_17 kl_L_10 ?_
  refine ev_iconst (pc := 20) (v := 5) dL_sets_20 (by decide) ?_
  refine ev_iload_n (pc := 21) dL_sets_21 rfl rfl ?_
  refine ev_bipush (pc := 22) (v := 12) dL_sets_22 (by decide) ?_
  refine ev_irem (pc := 24) dL_sets_24 (by decide) (pk_rem (d := 12) (by omega) (by decide) (by decide)) ?_
  refine ev_imul (pc := 25) dL_sets_25 ?_
  rw [show (5 : Int32) = nI 5 from rfl, pk_mul]
  refine ev_lshl (pc := 26) dL_sets_26 rfl ?_
  refine ev_ldc2 (pc := 27) dL_sets_27 kl_L_12 ?_
  refine ev_lxor (pc := 30) dL_sets_30 rfl ?_
  refine ev_land (pc := 31) dL_sets_31 rfl ?_
  refine ev_iload_n (pc := 32) dL_sets_32 rfl rfl ?_
  refine ev_i2l (pc := 33) dL_sets_33 ?_
  refine ev_iconst (pc := 34) (v := 5) dL_sets_34 (by decide) ?_
  refine ev_iload_n (pc := 35) dL_sets_35 rfl rfl ?_
  refine ev_bipush (pc := 36) (v := 12) dL_sets_36 (by decide) ?_
  refine ev_irem (pc := 38) dL_sets_38 (by decide) (pk_rem (d := 12) (by omega) (by decide) (by decide)) ?_
  refine ev_imul (pc := 39) dL_sets_39 ?_
  rw [show (5 : Int32) = nI 5 from rfl, pk_mul]
  refine ev_lshl (pc := 40) dL_sets_40 rfl ?_
  refine ev_lor (pc := 41) dL_sets_41 rfl ?_
  refine ev_lastN (pc := 42) dL_sets_42 he ⟨(show _ = nI (3 * s + i / 12) from rfl), by omega, by decide⟩ (show _ = setT cc s i t from rfl) rfl ?_
  exact ev_vretE (pc := 43) dL_sets_43 rfl ⟨Nat.le_of_ble_eq_true rfl, Nat.le_of_ble_eq_true rfl⟩ rfl
def valN (t i : Nat) : Int32 := nI t * 1000000007 + nI i * 77
theorem r_value {w : mW} {t i : Nat} : EvS m_L_value [.int (nI t), .int (nI i)] w (.inl (some (.int (valN t i)))) w := by
  refine evs_of (by decide +kernel) (Nat.le_of_ble_eq_true rfl) (by decide) rfl ?_
  refine ev_iload_n (pc := 0) dL_value_0 rfl rfl ?_
  refine ev_ldc (pc := 1) dL_value_1 ki_L_14 ?_
  refine ev_imul (pc := 3) dL_value_3 ?_
  refine ev_iload_n (pc := 4) dL_value_4 rfl rfl ?_
  refine ev_bipush (pc := 5) (v := 77) dL_value_5 (by decide) ?_
  refine ev_imul (pc := 7) dL_value_7 ?_
  refine ev_iadd (pc := 8) dL_value_8 ?_
  exact ev_iretE (pc := 9) dL_value_9 rfl ⟨Nat.le_of_ble_eq_true rfl, Nat.le_of_ble_eq_true rfl⟩ rfl rfl
/-- how many of the first n bits are set -/
def popN (x : Int64) : Nat → Nat
  | 0 => 0
  | n + 1 => popN x n + if lb x n then 1 else 0
theorem popN_le (x : Int64) : ∀ n, popN x n ≤ n
  | 0 => Nat.le_refl _
  | n + 1 => by
    have := popN_le x n
    show popN x n + (if lb x n then 1 else 0) ≤ n + 1
    split <;> omega
theorem bits_loop {w : mW} {x : Int64} : ∀ m n : Nat, n + m = 64 → EvF m_L_bits (mQm m_L_bits (.inl (some (.int (nI (popN x 64))))) w) 4 [.long x, hole, .int (nI (popN x n)), .int (nI n)] [] 0 0 w
  | 0, n, h => by
    have hn : n = 64 := by omega
    subst hn
    refine ev_iload_n (pc := 4) dL_bits_4 rfl rfl ?_
    refine ev_bipush (pc := 5) (v := 64) dL_bits_5 (by decide) ?_
    refine ev_ic_ge (pc := 7) (tgt := 25) dL_bits_7 (by decide) (fun _ => ?_) (fun c_7 => absurd (by decide) c_7)
    refine ev_iload_n (pc := 25) dL_bits_25 rfl rfl ?_
    exact ev_iretE (pc := 26) dL_bits_26 rfl ⟨Nat.le_of_ble_eq_true rfl, Nat.le_of_ble_eq_true rfl⟩ rfl rfl
  | m + 1, n, h => by
    have e : nI (popN x n) + (if lb x n then (1 : Int64) else 0).toInt32 = nI (popN x (n + 1)) := by
      show _ = nI (popN x n + if lb x n then 1 else 0)
      rw [← nI_add]
      cases lb x n <;> rfl
    refine ev_iload_n (pc := 4) dL_bits_4 rfl rfl ?_
    refine ev_bipush (pc := 5) (v := 64) dL_bits_5 (by decide) ?_
    refine ev_ic_ge (pc := 7) (tgt := 25) dL_bits_7 (by decide) (fun c_7 => absurd c_7 (nI_ge (show n < 64 by omega) (by decide))) (fun _ => ?_)
    refine ev_iload_n (pc := 10) dL_bits_10 rfl rfl ?_
    refine ev_lload_n (pc := 11) dL_bits_11 rfl rfl ?_
    refine ev_iload_n (pc := 12) dL_bits_12 rfl rfl ?_
    refine ev_lshr (pc := 13) dL_bits_13 rfl ?_
    refine ev_lconst (pc := 14) (v := 1) dL_bits_14 (by decide) ?_
    refine ev_land (pc := 15) dL_bits_15 (lb_get x (by omega)) ?_
    refine ev_l2i (pc := 16) dL_bits_16 ?_
    refine ev_iadd (pc := 17) dL_bits_17 ?_
    rw [e]
    refine ev_istore_n (pc := 18) dL_bits_18 rfl rfl rfl ?_
    refine ev_iinc (pc := 19) dL_bits_19 rfl rfl rfl ?_
    refine ev_goto (pc := 22) (tgt := 4) dL_bits_22 (by decide) ?_
    rw [nI_i1]
    exact bits_loop m (n + 1) (by omega)
theorem r_bits {w : mW} {x : Int64} : EvS m_L_bits [.long x] w (.inl (some (.int (nI (popN x 64))))) w := by
  refine evs_of (by decide +kernel) (Nat.le_of_ble_eq_true rfl) (by decide) rfl ?_
  refine ev_iconst (pc := 0) (v := 0) dL_bits_0 (by decide) ?_
  refine ev_istore_n (pc := 1) dL_bits_1 rfl rfl rfl ?_
  refine ev_iconst (pc := 2) (v := 0) dL_bits_2 (by decide) ?_
  refine ev_istore_n (pc := 3) dL_bits_3 rfl rfl rfl ?_
  exact bits_loop 64 0 (by omega)
/-- a state's row copied to another's: the first k longs, all three -/
def cpP (cc : Nat → Int64) (a b k : Nat) : Nat → Int64 := fun j => if 3 * b ≤ j ∧ j < 3 * b + k then cc (3 * a + (j - 3 * b)) else cc j
theorem cpP_0 (cc : Nat → Int64) (a b : Nat) : cpP cc a b 0 = cc := by
  funext j
  unfold cpP
  rw [if_neg (by omega)]
theorem cpP_s (cc : Nat → Int64) (a b k : Nat) : vp_updL (cpP cc a b k) (3 * b + k) (cc (3 * a + k)) = cpP cc a b (k + 1) := by
  funext j
  unfold vp_updL cpP
  by_cases h : j = 3 * b + k
  · subst h
    rw [if_pos rfl, if_pos (by omega), Nat.add_sub_cancel_left]
  · rw [if_neg h]
    by_cases h2 : 3 * b ≤ j ∧ j < 3 * b + k
    · rw [if_pos h2, if_pos (by omega)]
    · rw [if_neg h2, if_neg (by omega)]
theorem tn_cp {cc : Nat → Int64} {a b s i : Nat} (hi : i < 36) : tn (cpP cc a b 3) s i = if s = b then tn cc a i else tn cc s i := by
  unfold tn cpP
  by_cases h : s = b
  · subst h
    rw [if_pos rfl, if_pos (by omega), Nat.add_sub_cancel_left]
  · rw [if_neg h, if_neg (by omega)]
theorem copies_loop {w : mW} {p pe : Nat} {cc : Nat → Int64} {ep : Nat → Int32} {a b : Nat} (hp : p < w.length) (hne : p ≠ pe) (hee : w[pe]? = some (iA 8 ep)) (ha : a < 8) (hb : b < 8) (hab : a ≠ b) : ∀ m n : Nat, n + m = 3 → EvF m_L_copies (mQm m_L_copies (.inl none) ((w.set p (lA 24 (cpP cc a b 3))).set pe (iA 8 (upd ep b (ep a))))) 3 [.ref p, .ref pe, .int (nI a), .int (nI b), .int (nI n)] [] 0 0 (w.set p (lA 24 (cpP cc a b n)))
  | 0, n, h => by
    have hn : n = 3 := by omega
    subst hn
    have e2 : (w.set p (lA 24 (cpP cc a b 3)))[pe]? = some (iA 8 ep) := by rw [List.getElem?_set_ne hne]; exact hee
    refine ev_iload (pc := 3) dL_copies_3 rfl ?_
    refine ev_iconst (pc := 5) (v := 3) dL_copies_5 (by decide) ?_
    refine ev_ic_ge (pc := 6) (tgt := 31) dL_copies_6 (by decide) (fun _ => ?_) (fun c_6 => absurd (by decide) c_6)
    refine ev_aload_n (pc := 31) dL_copies_31 rfl rfl ?_
    refine ev_iload_n (pc := 32) dL_copies_32 rfl rfl ?_
    refine ev_aload_n (pc := 33) dL_copies_33 rfl rfl ?_
    refine ev_iload_n (pc := 34) dL_copies_34 rfl rfl ?_
    refine ev_ialdN (pc := 35) dL_copies_35 e2 ⟨(show _ = nI a from rfl), by omega, by decide⟩ rfl ?_
    refine ev_iastN (pc := 36) dL_copies_36 e2 ⟨(show _ = nI b from rfl), by omega, by decide⟩ rfl rfl ?_
    exact ev_vretE (pc := 37) dL_copies_37 rfl ⟨Nat.le_of_ble_eq_true rfl, Nat.le_of_ble_eq_true rfl⟩ rfl
  | m + 1, n, h => by
    have e1 : ∀ g, (w.set p (lA 24 g))[p]? = some (lA 24 g) := fun g => List.getElem?_set_self hp
    have e3 : cpP cc a b n (3 * a + n) = cc (3 * a + n) := by
      unfold cpP
      rw [if_neg (by omega)]
    have e4 := cpP_s cc a b n
    refine ev_iload (pc := 3) dL_copies_3 rfl ?_
    refine ev_iconst (pc := 5) (v := 3) dL_copies_5 (by decide) ?_
    refine ev_ic_ge (pc := 6) (tgt := 31) dL_copies_6 (by decide) (fun c_6 => absurd c_6 (nI_ge (show n < 3 by omega) (by decide))) (fun _ => ?_)
    refine ev_aload_n (pc := 9) dL_copies_9 rfl rfl ?_
    refine ev_iconst (pc := 10) (v := 3) dL_copies_10 (by decide) ?_
    refine ev_iload_n (pc := 11) dL_copies_11 rfl rfl ?_
    refine ev_imul (pc := 12) dL_copies_12 ?_
    rw [show (3 : Int32) = nI 3 from rfl, pk_mul]
    refine ev_iload (pc := 13) dL_copies_13 rfl ?_
    refine ev_iadd (pc := 15) dL_copies_15 ?_
    rw [nI_add]
    refine ev_aload_n (pc := 16) dL_copies_16 rfl rfl ?_
    refine ev_iconst (pc := 17) (v := 3) dL_copies_17 (by decide) ?_
    refine ev_iload_n (pc := 18) dL_copies_18 rfl rfl ?_
    refine ev_imul (pc := 19) dL_copies_19 ?_
    rw [show (3 : Int32) = nI 3 from rfl, pk_mul]
    refine ev_iload (pc := 20) dL_copies_20 rfl ?_
    refine ev_iadd (pc := 22) dL_copies_22 ?_
    rw [nI_add]
    refine ev_laldN (pc := 23) dL_copies_23 (e1 _) ⟨(show _ = nI (3 * a + n) from rfl), by omega, by decide⟩ e3 ?_
    refine ev_lastN (pc := 24) dL_copies_24 (e1 _) ⟨(show _ = nI (3 * b + n) from rfl), by omega, by decide⟩ e4 (List.set_set ..) ?_
    refine ev_iinc (pc := 25) dL_copies_25 rfl rfl rfl ?_
    refine ev_goto (pc := 28) (tgt := 3) dL_copies_28 (by decide) ?_
    rw [nI_i1]
    exact copies_loop hp hne hee ha hb hab m (n + 1) (by omega)
theorem r_copies {w : mW} {p pe : Nat} {cc : Nat → Int64} {ep : Nat → Int32} {a b : Nat} (he : w[p]? = some (lA 24 cc)) (hne : p ≠ pe) (hee : w[pe]? = some (iA 8 ep)) (ha : a < 8) (hb : b < 8) (hab : a ≠ b) : EvS m_L_copies [.ref p, .ref pe, .int (nI a), .int (nI b)] w (.inl none) ((w.set p (lA 24 (cpP cc a b 3))).set pe (iA 8 (upd ep b (ep a)))) := by
  have h9 := copies_loop (cc := cc) (ep := ep) (List.getElem?_eq_some_iff.mp he).1 hne hee ha hb hab 3 0 (by omega)
  have e1 : w.set p (lA 24 (cpP cc a b 0)) = w := by
    rw [cpP_0]
    obtain ⟨hh, hx⟩ := List.getElem_of_getElem? he
    rw [← hx, List.set_getElem_self]
  rw [e1] at h9
  refine evs_of (by decide +kernel) (Nat.le_of_ble_eq_true rfl) (by decide) rfl ?_
  refine ev_iconst (pc := 0) (v := 0) dL_copies_0 (by decide) ?_
  refine ev_istore (pc := 1) dL_copies_1 rfl rfl ?_
  exact h9
