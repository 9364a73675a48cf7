/-! bits of longs (the rows wb_* are starting texts of kit/laws/BITS) -/
theorem wb_tb (n : Nat) : (lN n).toBitVec = BitVec.ofNat 64 n := rfl
theorem wb_inj {a b : Int64} (h : a.toBitVec = b.toBitVec) : a = b := Int64.toBitVec_inj.mp h
theorem wb_tn {n : Nat} (h : n < 2 ^ 64) : (lN n).toBitVec.toNat = n := by rw [wb_tb, BitVec.toNat_ofNat, Nat.mod_eq_of_lt h]
theorem wb_of (x : Int64) : ∃ n, n < 2 ^ 64 ∧ x = lN n := ⟨x.toBitVec.toNat, x.toBitVec.isLt, wb_inj (by rw [wb_tb]; simp)⟩
theorem wb_sm : ∀ k, k < 64 → (BitVec.ofNat 64 k).smod 64 = BitVec.ofNat 64 k := by decide +kernel
theorem wb_c : ∀ k, k < 64 → ((nI k).toInt64 &&& 63) = lN k := by decide +kernel
theorem wb_lt2 {a b : Nat} (h : a < b) : 2 ^ a < 2 ^ b := Nat.pow_lt_pow_right (by decide) h
theorem wb_shl (n : Nat) {k : Nat} (hk : k < 64) : lN n <<< ((nI k).toInt64 &&& 63) = lN (n * 2 ^ k) := by
  rw [wb_c k hk]
  apply wb_inj
  rw [Int64.toBitVec_shiftLeft, wb_tb, wb_tb, wb_tb, wb_sm k hk]
  apply BitVec.eq_of_toNat_eq
  rw [BitVec.shiftLeft_eq', BitVec.toNat_shiftLeft, BitVec.toNat_ofNat, BitVec.toNat_ofNat, BitVec.toNat_ofNat, Nat.mod_eq_of_lt (show k < 2 ^ 64 by omega), Nat.shiftLeft_eq, Nat.mul_mod, Nat.mod_mod, ← Nat.mul_mod]
def lb (x : Int64) (j : Nat) : Bool := x.toBitVec.getLsbD j
theorem lb_tb (x : Int64) (j : Nat) : x.toBitVec.toNat.testBit j = lb x j := rfl
theorem lb_ge (x : Int64) {j : Nat} (h : 64 ≤ j) : lb x j = false := BitVec.getLsbD_of_ge _ _ h
theorem lb_lN (n : Nat) {j : Nat} (h : j < 64) : lb (lN n) j = n.testBit j := by
  unfold lb
  rw [wb_tb, BitVec.getLsbD_ofNat]
  simp [h]
theorem lb_and (x y : Int64) (j : Nat) : lb (x &&& y) j = (lb x j && lb y j) := by
  unfold lb
  rw [Int64.toBitVec_and, BitVec.getLsbD_and]
theorem lb_or (x y : Int64) (j : Nat) : lb (x ||| y) j = (lb x j || lb y j) := by
  unfold lb
  rw [Int64.toBitVec_or, BitVec.getLsbD_or]
theorem lb_not (x : Int64) {j : Nat} (h : j < 64) : lb (x ^^^ (-1)) j = !(lb x j) := by
  unfold lb
  rw [Int64.toBitVec_xor, BitVec.getLsbD_xor]
  have e : (-1 : Int64).toBitVec = BitVec.allOnes 64 := by decide
  rw [e, BitVec.getLsbD_allOnes]
  simp [h]
theorem wb_nk (k : Nat) (hk : k < 64) : ((lN k).toBitVec.smod 64).toNat = k := by
  rw [wb_tb, wb_sm k hk, BitVec.toNat_ofNat, Nat.mod_eq_of_lt (by omega)]
theorem lb_shr (x : Int64) {k j : Nat} (hk : k + j < 64) : lb (x >>> ((nI k).toInt64 &&& 63)) j = lb x (k + j) := by
  unfold lb
  rw [wb_c k (by omega), Int64.toBitVec_shiftRight, BitVec.getLsbD_sshiftRight', wb_nk k (by omega), if_pos hk]
  simp [show ¬ 64 ≤ j by omega]
theorem lb_shl (n : Nat) {k j : Nat} (hk : k < 64) (hj : j < 64) : lb (lN n <<< ((nI k).toInt64 &&& 63)) j = (decide (k ≤ j) && n.testBit (j - k)) := by
  rw [wb_shl n hk, lb_lN _ hj, ← Nat.shiftLeft_eq, Nat.testBit_shiftLeft]
theorem nI_l0 (n : Nat) (h : n < 2147483648) : (nI n).toInt64 = lN n := nI_l h
/-- five bits from k on -/
def t5 (x : Int64) (k : Nat) : Nat := x.toBitVec.toNat / 2 ^ k % 32
theorem t5_lt (x : Int64) (k : Nat) : t5 x k < 32 := Nat.mod_lt _ (by decide)
theorem t5_tb (x : Int64) (k j : Nat) : (t5 x k).testBit j = (decide (j < 5) && lb x (k + j)) := by
  unfold t5
  rw [show (32 : Nat) = 2 ^ 5 from rfl, Nat.testBit_mod_two_pow, Nat.testBit_div_two_pow, lb_tb, Nat.add_comm]
theorem lb_sx (x : Int64) {j : Nat} (h : j < 32) : x.toInt32.toBitVec.toNat.testBit j = lb x j := by
  show x.toInt32.toBitVec.getLsbD j = _
  rw [Int64.toBitVec_toInt32, BitVec.getLsbD_signExtend, if_pos (by omega)]
  simp [h, lb]
theorem t5_get (x : Int64) {k : Nat} (hk : k + 5 ≤ 64) : (x >>> ((nI k).toInt64 &&& 63)).toInt32 &&& 31 = nI (t5 x k) := by
  rw [pk_and _ 5 (by decide)]
  congr 1
  apply Nat.eq_of_testBit_eq
  intro j
  rw [Nat.testBit_mod_two_pow, t5_tb]
  by_cases h : j < 5
  · rw [lb_sx _ (by omega), lb_shr x (by omega)]
  · simp [h]
theorem t5_set (x : Int64) {t a b : Nat} (ht : t < 32) (ha : a < 12) (hb : b < 12) : t5 ((x &&& ((31 <<< ((nI (5 * a)).toInt64 &&& 63)) ^^^ (-1))) ||| ((nI t).toInt64 <<< ((nI (5 * a)).toInt64 &&& 63))) (5 * b) = if b = a then t else t5 x (5 * b) := by
  rw [nI_l0 t (by omega)]
  have e31 : (31 : Int64) = lN 31 := rfl
  rw [e31]
  apply Nat.eq_of_testBit_eq
  intro j
  rw [t5_tb]
  have h31 : (31 : Nat).testBit = fun j => decide (j < 5) := by
    funext i
    rw [show (31 : Nat) = 2 ^ 5 - 1 from rfl, Nat.testBit_two_pow_sub_one]
  have htb : ∀ i, 5 ≤ i → t.testBit i = false := fun i hi => Nat.testBit_lt_two_pow (Nat.lt_of_lt_of_le ht (show 2 ^ 5 ≤ 2 ^ i from Nat.pow_le_pow_right (by decide) hi))
  by_cases hj : j < 5
  · rw [lb_or, lb_and, lb_not _ (by omega), lb_shl _ (by omega) (by omega), lb_shl _ (by omega) (by omega), h31]
    by_cases hab : b = a
    · subst hab
      rw [if_pos rfl]
      have e : 5 * b + j - 5 * b = j := by omega
      simp [hj, e]
    · rw [if_neg hab, t5_tb]
      by_cases hle : 5 * a ≤ 5 * b + j
      · have e1 : ¬ (5 * b + j - 5 * a < 5) := by omega
        rw [htb (5 * b + j - 5 * a) (by omega)]
        simp [e1]
      · simp [hle]
  · by_cases hab : b = a
    · rw [if_pos hab, htb j (by omega)]
      simp [hj]
    · rw [if_neg hab, t5_tb]
      simp [hj]
/-- one bit -/
theorem lb_get (x : Int64) {k : Nat} (hk : k < 64) : (x >>> ((nI k).toInt64 &&& 63)) &&& 1 = if lb x k then 1 else 0 := by
  have e1 : (1 : Int64) = lN 1 := rfl
  have hb : ∀ j, j < 64 → lb ((x >>> ((nI k).toInt64 &&& 63)) &&& 1) j = lb (if lb x k then 1 else 0) j := fun j hj => by
    rw [lb_and]
    by_cases h0 : j = 0
    · subst h0
      rw [lb_shr x (by omega), Nat.add_zero]
      cases lb x k <;> decide
    · have h1 : lb 1 j = false := by
        rw [e1, lb_lN 1 hj]
        exact Nat.testBit_lt_two_pow (Nat.lt_of_lt_of_le (by decide : 1 < 2 ^ 1) (Nat.pow_le_pow_right (by decide) (by omega)))
      rw [h1, Bool.and_false]
      cases lb x k
      · rw [if_neg (by decide)]
        show false = (0 : Int64).toBitVec.getLsbD j
        rw [show (0 : Int64).toBitVec = 0#64 from rfl, BitVec.getLsbD_zero]
      · rw [if_pos rfl, h1]
  apply wb_inj
  apply BitVec.eq_of_getLsbD_eq
  intro i hi
  exact hb i hi
/-- sets of pages as bits -/
def mb (g : Nat → Int64) (q : Nat) : Bool := lb (g (q / 64)) (q % 64)
def mkB (g : Nat → Int64) (q : Nat) : Nat → Int64 := vp_updL g (q / 64) (g (q / 64) ||| ((1 : Int64) <<< ((nI (q % 64)).toInt64 &&& 63)))
theorem mb_mk (g : Nat → Int64) (q r : Nat) : mb (mkB g q) r = (decide (r = q) || mb g r) := by
  have e1 : (1 : Int64) = lN 1 := rfl
  have t1 : ∀ i, (1 : Nat).testBit i = decide (i = 0) := fun i => by
    by_cases h : i = 0
    · subst h; rfl
    · rw [Nat.testBit_lt_two_pow (Nat.lt_of_lt_of_le (by decide : 1 < 2 ^ 1) (Nat.pow_le_pow_right (by decide) (by omega)))]
      simp [h]
  unfold mb mkB
  by_cases h : r / 64 = q / 64
  · rw [h, pk_uLs, lb_or, e1, lb_shl _ (Nat.mod_lt _ (by decide)) (Nat.mod_lt _ (by decide)), t1]
    have hr := Nat.div_add_mod r 64
    have hq := Nat.div_add_mod q 64
    by_cases hrq : r = q
    · subst hrq
      simp
    · have hne : ¬ (q % 64 ≤ r % 64 ∧ r % 64 - q % 64 = 0) := fun hh => hrq (by omega)
      simp only [decide_eq_false hrq, Bool.false_or]
      rw [show (decide (q % 64 ≤ r % 64) && decide (r % 64 - q % 64 = 0)) = false from by
        rw [← Bool.decide_and]
        exact decide_eq_false hne]
      simp
  · rw [pk_uLn h]
    have hrq : r ≠ q := fun e => h (by rw [e])
    simp [hrq]
