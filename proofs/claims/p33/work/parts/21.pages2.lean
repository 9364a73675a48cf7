/-! Copperleaf$Pages: keys, places, ways down -/
def plc : List (Nat × Int32) → Int32 → Nat
  | [], _ => 0
  | x :: r, key => if nI x.1 < key then plc r key + 1 else 0
def efr (T : Nat → Nd) (d : Nat) : List Nat → Int32 → Nat
  | [], _ => 0
  | c :: r, key => if nI (mkT T d c) ≤ key then efr T d r key + 1 else 0
/-- the entry of an inner page that leads to a key's leaf; its pages have depth d -/
def eix (T : Nat → Nd) (d : Nat) (l : List Nat) (key : Int32) : Nat := efr T d l.tail key
def lfF (T : Nat → Nd) : Nat → Nat → Int32 → Nat
  | 0, p, _ => p
  | d + 1, p, key => match T p with
    | .inr l => lfF T d (l.getD (eix T d l key) 0) key
    | .inl _ => p
theorem plc_le : ∀ (l : List (Nat × Int32)) (key : Int32), plc l key ≤ l.length
  | [], _ => Nat.le_refl _
  | x :: r, key => by
    have := plc_le r key
    unfold plc
    split
    · simp only [List.length_cons]; omega
    · simp
theorem efr_le (T : Nat → Nd) (d : Nat) : ∀ (l : List Nat) (key : Int32), efr T d l key ≤ l.length
  | [], _ => Nat.le_refl _
  | x :: r, key => by
    have := efr_le T d r key
    unfold efr
    split
    · simp only [List.length_cons]; omega
    · simp
theorem eix_lt {T : Nat → Nd} {d : Nat} {l : List Nat} {key : Int32} (h : 0 < l.length) : eix T d l key < l.length := by
  have := efr_le T d l.tail key
  rw [List.length_tail] at this
  unfold eix
  omega
section P2
variable {T : Nat → Nd} {U : Nat → Prop}
theorem l_keyOfL {sl : Int32} {cu ba r0 r1 r2 r3 : Q4} {sw : Nat → Int64} {bt : Int32} {cnt inn lk wd kp wr mk ls pth tk : Nat → Int32} {tl : List mC} (hR : Rp cnt inn lk wd T U) {p e lv : Nat} {x : Nat × Int32} {l : List (Nat × Int32)} (hu : U p) (ht : T p = .inl l) (hx : l[e]? = some x) (a b : Int32) : EvF m_X0_keyOf (mQm m_X0_keyOf (.inl (some (.int (nI x.1)))) (cW sl cu ba r0 r1 r2 r3 sw bt cnt inn lk wd kp wr mk ls pth tk tl)) 8 [.ref 1, .int a, .int b, .int (nI p), .int (nI e), .int (nI lv)] [] 0 0 (cW sl cu ba r0 r1 r2 r3 sw bt cnt inn lk wd kp wr mk ls pth tk tl) := by
  obtain ⟨hp, hi, hl5, hc, hr⟩ := hR.leaf hu ht
  have he : e < 5 := Nat.lt_of_lt_of_le (List.getElem?_eq_some_iff.mp hx).1 hl5
  obtain ⟨hk, -, -⟩ := hr e x hx
  refine ev_iload (pc := 8) dX0_keyOf_8 rfl ?_
  refine ev_bipush (pc := 10) (v := 8) dX0_keyOf_10 (by decide) ?_
  refine ev_ic_ge (pc := 12) (tgt := 40) dX0_keyOf_12 (by decide) (fun c_12 => ?_) (fun c_12 => ?_)
  · refine ev_iload_n (pc := 40) dX0_keyOf_40 rfl rfl ?_
    refine ev_iload (pc := 41) dX0_keyOf_41 rfl ?_
    refine cS2 (pc := 43) lk_X0_keyOf_43 (Nat.le_of_ble_eq_true rfl) ⟨Nat.le_of_ble_eq_true rfl, Nat.le_of_ble_eq_true rfl⟩ (s_isCell1 hp he) ?_
    refine ev_if_eq (pc := 46) (tgt := 63) dX0_keyOf_46 (by decide) (fun c_46 => absurd c_46 (by decide)) (fun _ => ?_)
    refine ev_aload_n (pc := 49) dX0_keyOf_49 rfl rfl ?_
    refine ev_get (pc := 50) dX0_keyOf_50 fd_X0_19 rfl rfl ?_
    refine ev_iload_n (pc := 53) dX0_keyOf_53 rfl rfl ?_
    refine ev_iconst (pc := 54) (v := 5) dX0_keyOf_54 (by decide) ?_
    refine ev_imul (pc := 55) dX0_keyOf_55 ?_
    refine ev_iload (pc := 56) dX0_keyOf_56 rfl ?_
    refine ev_iadd (pc := 58) dX0_keyOf_58 ?_
    refine ev_ialdN (pc := 59) dX0_keyOf_59 rfl ⟨ix5 p e, by omega, by decide⟩ hk ?_
    refine ev_goto (pc := 60) (tgt := 64) dX0_keyOf_60 (by decide) ?_
    exact ev_iretE (pc := 64) dX0_keyOf_64 rfl ⟨Nat.le_of_ble_eq_true rfl, Nat.le_of_ble_eq_true rfl⟩ rfl rfl
  · refine ev_aload_n (pc := 15) dX0_keyOf_15 rfl rfl ?_
    refine ev_iload_n (pc := 16) dX0_keyOf_16 rfl rfl ?_
    refine cV1 (pc := 17) lk_X0_keyOf_17 rfl rfl rfl (Nat.le_of_ble_eq_true rfl) ⟨Nat.le_of_ble_eq_true rfl, Nat.le_of_ble_eq_true rfl⟩ (s_isLeafT hp hi) ?_
    refine ev_if_ne (pc := 20) (tgt := 40) dX0_keyOf_20 (by decide) (fun _ => ?_) (fun c_20 => absurd c_20 (by decide))
    refine ev_iload_n (pc := 40) dX0_keyOf_40 rfl rfl ?_
    refine ev_iload (pc := 41) dX0_keyOf_41 rfl ?_
    refine cS2 (pc := 43) lk_X0_keyOf_43 (Nat.le_of_ble_eq_true rfl) ⟨Nat.le_of_ble_eq_true rfl, Nat.le_of_ble_eq_true rfl⟩ (s_isCell1 hp he) ?_
    refine ev_if_eq (pc := 46) (tgt := 63) dX0_keyOf_46 (by decide) (fun c_46 => absurd c_46 (by decide)) (fun _ => ?_)
    refine ev_aload_n (pc := 49) dX0_keyOf_49 rfl rfl ?_
    refine ev_get (pc := 50) dX0_keyOf_50 fd_X0_19 rfl rfl ?_
    refine ev_iload_n (pc := 53) dX0_keyOf_53 rfl rfl ?_
    refine ev_iconst (pc := 54) (v := 5) dX0_keyOf_54 (by decide) ?_
    refine ev_imul (pc := 55) dX0_keyOf_55 ?_
    refine ev_iload (pc := 56) dX0_keyOf_56 rfl ?_
    refine ev_iadd (pc := 58) dX0_keyOf_58 ?_
    refine ev_ialdN (pc := 59) dX0_keyOf_59 rfl ⟨ix5 p e, by omega, by decide⟩ hk ?_
    refine ev_goto (pc := 60) (tgt := 64) dX0_keyOf_60 (by decide) ?_
    exact ev_iretE (pc := 64) dX0_keyOf_64 rfl ⟨Nat.le_of_ble_eq_true rfl, Nat.le_of_ble_eq_true rfl⟩ rfl rfl
theorem l_keyOfI {sl : Int32} {cu ba r0 r1 r2 r3 : Q4} {sw : Nat → Int64} {bt : Int32} {cnt inn lk wd kp wr mk ls pth tk : Nat → Int32} {tl : List mC} (hR : Rp cnt inn lk wd T U) (a b : Int32) : ∀ (d : Nat) {p e lv c : Nat} {l : List Nat}, U p → T p = .inr l → l[e]? = some c → fl T U d c → lv + d + 1 ≤ 8 → EvF m_X0_keyOf (mQm m_X0_keyOf (.inl (some (.int (nI (mkT T d c))))) (cW sl cu ba r0 r1 r2 r3 sw bt cnt inn lk wd kp wr mk ls pth tk tl)) 8 [.ref 1, .int a, .int b, .int (nI p), .int (nI e), .int (nI lv)] [] 0 0 (cW sl cu ba r0 r1 r2 r3 sw bt cnt inn lk wd kp wr mk ls pth tk tl) := by
  intro d
  induction d with
  | zero =>
    intro p e lv c l hu ht hx hf hlv
    obtain ⟨hp, hi, hl5, hc, hr⟩ := hR.inner hu ht
    have he : e < 5 := Nat.lt_of_lt_of_le (List.getElem?_eq_some_iff.mp hx).1 hl5
    obtain ⟨hk, -⟩ := hr e c hx
    obtain ⟨hu2, l2, ht2, h2, -⟩ := hf
    obtain ⟨x, l3, rfl⟩ : ∃ x l3, l2 = x :: l3 := by cases l2 with
      | nil => simp at h2
      | cons x l3 => exact ⟨x, l3, rfl⟩
    have hm : mkT T 0 c = x.1 := by simp [mkT, ht2]
    rw [hm]
    refine ev_iload (pc := 8) dX0_keyOf_8 rfl ?_
    refine ev_bipush (pc := 10) (v := 8) dX0_keyOf_10 (by decide) ?_
    refine ev_ic_ge (pc := 12) (tgt := 40) dX0_keyOf_12 (by decide) (fun c_12 => absurd c_12 (nI_ge (show lv < 8 by omega) (by decide))) (fun _ => ?_)
    refine ev_aload_n (pc := 15) dX0_keyOf_15 rfl rfl ?_
    refine ev_iload_n (pc := 16) dX0_keyOf_16 rfl rfl ?_
    refine cV1 (pc := 17) lk_X0_keyOf_17 rfl rfl rfl (Nat.le_of_ble_eq_true rfl) ⟨Nat.le_of_ble_eq_true rfl, Nat.le_of_ble_eq_true rfl⟩ (s_isLeafF hp hi) ?_
    refine ev_if_ne (pc := 20) (tgt := 40) dX0_keyOf_20 (by decide) (fun c_20 => absurd rfl c_20) (fun _ => ?_)
    refine ev_aload_n (pc := 23) dX0_keyOf_23 rfl rfl ?_
    refine ev_iload_n (pc := 24) dX0_keyOf_24 rfl rfl ?_
    refine ev_iload (pc := 25) dX0_keyOf_25 rfl ?_
    refine cV2 (pc := 27) lk_X0_keyOf_27 rfl rfl rfl (Nat.le_of_ble_eq_true rfl) ⟨Nat.le_of_ble_eq_true rfl, Nat.le_of_ble_eq_true rfl⟩ (s_wordOf hp he hk) ?_
    refine ev_istore_n (pc := 30) dX0_keyOf_30 rfl rfl rfl ?_
    refine ev_iconst (pc := 31) (v := 0) dX0_keyOf_31 (by decide) ?_
    refine ev_istore (pc := 32) dX0_keyOf_32 rfl rfl ?_
    refine ev_iinc (pc := 34) dX0_keyOf_34 rfl rfl rfl ?_
    refine ev_goto (pc := 37) (tgt := 8) dX0_keyOf_37 (by decide) ?_
    rw [nI_i1]
    exact l_keyOfL hR (e := 0) hu2 ht2 rfl a b
  | succ d ih =>
    intro p e lv c l hu ht hx hf hlv
    obtain ⟨hp, hi, hl5, hc, hr⟩ := hR.inner hu ht
    have he : e < 5 := Nat.lt_of_lt_of_le (List.getElem?_eq_some_iff.mp hx).1 hl5
    obtain ⟨hk, -⟩ := hr e c hx
    obtain ⟨hu2, l2, ht2, h2, -, h3⟩ := hf
    obtain ⟨c2, l3, rfl⟩ : ∃ x l3, l2 = x :: l3 := by cases l2 with
      | nil => simp at h2
      | cons x l3 => exact ⟨x, l3, rfl⟩
    have hm : mkT T (d + 1) c = mkT T d c2 := by simp [mkT, ht2]
    rw [hm]
    refine ev_iload (pc := 8) dX0_keyOf_8 rfl ?_
    refine ev_bipush (pc := 10) (v := 8) dX0_keyOf_10 (by decide) ?_
    refine ev_ic_ge (pc := 12) (tgt := 40) dX0_keyOf_12 (by decide) (fun c_12 => absurd c_12 (nI_ge (show lv < 8 by omega) (by decide))) (fun _ => ?_)
    refine ev_aload_n (pc := 15) dX0_keyOf_15 rfl rfl ?_
    refine ev_iload_n (pc := 16) dX0_keyOf_16 rfl rfl ?_
    refine cV1 (pc := 17) lk_X0_keyOf_17 rfl rfl rfl (Nat.le_of_ble_eq_true rfl) ⟨Nat.le_of_ble_eq_true rfl, Nat.le_of_ble_eq_true rfl⟩ (s_isLeafF hp hi) ?_
    refine ev_if_ne (pc := 20) (tgt := 40) dX0_keyOf_20 (by decide) (fun c_20 => absurd rfl c_20) (fun _ => ?_)
    refine ev_aload_n (pc := 23) dX0_keyOf_23 rfl rfl ?_
    refine ev_iload_n (pc := 24) dX0_keyOf_24 rfl rfl ?_
    refine ev_iload (pc := 25) dX0_keyOf_25 rfl ?_
    refine cV2 (pc := 27) lk_X0_keyOf_27 rfl rfl rfl (Nat.le_of_ble_eq_true rfl) ⟨Nat.le_of_ble_eq_true rfl, Nat.le_of_ble_eq_true rfl⟩ (s_wordOf hp he hk) ?_
    refine ev_istore_n (pc := 30) dX0_keyOf_30 rfl rfl rfl ?_
    refine ev_iconst (pc := 31) (v := 0) dX0_keyOf_31 (by decide) ?_
    refine ev_istore (pc := 32) dX0_keyOf_32 rfl rfl ?_
    refine ev_iinc (pc := 34) dX0_keyOf_34 rfl rfl rfl ?_
    refine ev_goto (pc := 37) (tgt := 8) dX0_keyOf_37 (by decide) ?_
    rw [nI_i1]
    exact ih (e := 0) hu2 ht2 rfl (h3 c2 List.mem_cons_self) (by omega)
theorem s_keyOfL {sl : Int32} {cu ba r0 r1 r2 r3 : Q4} {sw : Nat → Int64} {bt : Int32} {cnt inn lk wd kp wr mk ls pth tk : Nat → Int32} {tl : List mC} (hR : Rp cnt inn lk wd T U) {p e : Nat} {x : Nat × Int32} {l : List (Nat × Int32)} (hu : U p) (ht : T p = .inl l) (hx : l[e]? = some x) : EvS m_X0_keyOf [.ref 1, .int (nI p), .int (nI e)] (cW sl cu ba r0 r1 r2 r3 sw bt cnt inn lk wd kp wr mk ls pth tk tl) (.inl (some (.int (nI x.1)))) (cW sl cu ba r0 r1 r2 r3 sw bt cnt inn lk wd kp wr mk ls pth tk tl) := by
  refine evs_of (by decide +kernel) (Nat.le_of_ble_eq_true rfl) (by decide) rfl ?_
  refine ev_iload_n (pc := 0) dX0_keyOf_0 rfl rfl ?_
  refine ev_istore_n (pc := 1) dX0_keyOf_1 rfl rfl rfl ?_
  refine ev_iload_n (pc := 2) dX0_keyOf_2 rfl rfl ?_
  refine ev_istore (pc := 3) dX0_keyOf_3 rfl rfl ?_
  refine ev_iconst (pc := 5) (v := 0) dX0_keyOf_5 (by decide) ?_
  refine ev_istore (pc := 6) dX0_keyOf_6 rfl rfl ?_
  exact l_keyOfL hR (lv := 0) hu ht hx _ _
theorem s_keyOfI {sl : Int32} {cu ba r0 r1 r2 r3 : Q4} {sw : Nat → Int64} {bt : Int32} {cnt inn lk wd kp wr mk ls pth tk : Nat → Int32} {tl : List mC} (hR : Rp cnt inn lk wd T U) {d p e c : Nat} {l : List Nat} (hu : U p) (ht : T p = .inr l) (hx : l[e]? = some c) (hf : fl T U d c) (hd : d ≤ 7) : EvS m_X0_keyOf [.ref 1, .int (nI p), .int (nI e)] (cW sl cu ba r0 r1 r2 r3 sw bt cnt inn lk wd kp wr mk ls pth tk tl) (.inl (some (.int (nI (mkT T d c))))) (cW sl cu ba r0 r1 r2 r3 sw bt cnt inn lk wd kp wr mk ls pth tk tl) := by
  refine evs_of (by decide +kernel) (Nat.le_of_ble_eq_true rfl) (by decide) rfl ?_
  refine ev_iload_n (pc := 0) dX0_keyOf_0 rfl rfl ?_
  refine ev_istore_n (pc := 1) dX0_keyOf_1 rfl rfl rfl ?_
  refine ev_iload_n (pc := 2) dX0_keyOf_2 rfl rfl ?_
  refine ev_istore (pc := 3) dX0_keyOf_3 rfl rfl ?_
  refine ev_iconst (pc := 5) (v := 0) dX0_keyOf_5 (by decide) ?_
  refine ev_istore (pc := 6) dX0_keyOf_6 rfl rfl ?_
  exact l_keyOfI hR _ _ d (lv := 0) hu ht hx hf (by omega)
theorem l_placeOf {sl : Int32} {cu ba r0 r1 r2 r3 : Q4} {sw : Nat → Int64} {bt : Int32} {cnt inn lk wd kp wr mk ls pth tk : Nat → Int32} {tl : List mC} (hR : Rp cnt inn lk wd T U) {p : Nat} {l : List (Nat × Int32)} (hu : U p) (ht : T p = .inl l) (key : Int32) : ∀ (r b : List (Nat × Int32)), l = b ++ r → EvF m_X0_placeOf (mQm m_X0_placeOf (.inl (some (.int (nI (b.length + plc r key))))) (cW sl cu ba r0 r1 r2 r3 sw bt cnt inn lk wd kp wr mk ls pth tk tl)) 2 [.ref 1, .int (nI p), .int key, .int (nI b.length)] [] 0 0 (cW sl cu ba r0 r1 r2 r3 sw bt cnt inn lk wd kp wr mk ls pth tk tl) := by
  obtain ⟨hp, hi, hl5, hc, hr⟩ := hR.leaf hu ht
  intro r
  induction r with
  | nil =>
    intro b hb
    rw [List.append_nil] at hb
    subst hb
    have e9 : plc [] key = 0 := rfl
    rw [e9, Nat.add_zero]
    refine ev_iload_n (pc := 2) dX0_placeOf_2 rfl rfl ?_
    refine ev_iconst (pc := 3) (v := 5) dX0_placeOf_3 (by decide) ?_
    refine ev_ic_ge (pc := 4) (tgt := 32) dX0_placeOf_4 (by decide) (fun c_4 => ?_) (fun c_4 => ?_)
    · refine ev_iload_n (pc := 32) dX0_placeOf_32 rfl rfl ?_
      exact ev_iretE (pc := 33) dX0_placeOf_33 rfl ⟨Nat.le_of_ble_eq_true rfl, Nat.le_of_ble_eq_true rfl⟩ rfl rfl
    · refine ev_iload_n (pc := 7) dX0_placeOf_7 rfl rfl ?_
      refine ev_aload_n (pc := 8) dX0_placeOf_8 rfl rfl ?_
      refine ev_iload_n (pc := 9) dX0_placeOf_9 rfl rfl ?_
      refine cV1 (pc := 10) lk_X0_placeOf_10 rfl rfl rfl (Nat.le_of_ble_eq_true rfl) ⟨Nat.le_of_ble_eq_true rfl, Nat.le_of_ble_eq_true rfl⟩ (s_countOf hp hc) ?_
      refine ev_ic_ge (pc := 13) (tgt := 32) dX0_placeOf_13 (by decide) (fun _ => ?_) (fun c_13 => absurd (by exact nI_le (Nat.le_refl _) (by omega)) c_13)
      refine ev_iload_n (pc := 32) dX0_placeOf_32 rfl rfl ?_
      exact ev_iretE (pc := 33) dX0_placeOf_33 rfl ⟨Nat.le_of_ble_eq_true rfl, Nat.le_of_ble_eq_true rfl⟩ rfl rfl
  | cons x r ih =>
    intro b hb
    have hle : b.length < l.length := by rw [hb]; simp
    have hx : l[b.length]? = some x := by rw [hb, List.getElem?_append_right (Nat.le_refl _), Nat.sub_self]; rfl
    refine ev_iload_n (pc := 2) dX0_placeOf_2 rfl rfl ?_
    refine ev_iconst (pc := 3) (v := 5) dX0_placeOf_3 (by decide) ?_
    refine ev_ic_ge (pc := 4) (tgt := 32) dX0_placeOf_4 (by decide) (fun c_4 => absurd c_4 (he5 (show b.length < 5 by omega))) (fun _ => ?_)
    refine ev_iload_n (pc := 7) dX0_placeOf_7 rfl rfl ?_
    refine ev_aload_n (pc := 8) dX0_placeOf_8 rfl rfl ?_
    refine ev_iload_n (pc := 9) dX0_placeOf_9 rfl rfl ?_
    refine cV1 (pc := 10) lk_X0_placeOf_10 rfl rfl rfl (Nat.le_of_ble_eq_true rfl) ⟨Nat.le_of_ble_eq_true rfl, Nat.le_of_ble_eq_true rfl⟩ (s_countOf hp hc) ?_
    refine ev_ic_ge (pc := 13) (tgt := 32) dX0_placeOf_13 (by decide) (fun c_13 => absurd c_13 (nI_ge hle (by omega))) (fun _ => ?_)
    refine ev_aload_n (pc := 16) dX0_placeOf_16 rfl rfl ?_
    refine ev_iload_n (pc := 17) dX0_placeOf_17 rfl rfl ?_
    refine ev_iload_n (pc := 18) dX0_placeOf_18 rfl rfl ?_
    refine cV2 (pc := 19) lk_X0_placeOf_19 rfl rfl rfl (Nat.le_of_ble_eq_true rfl) ⟨Nat.le_of_ble_eq_true rfl, Nat.le_of_ble_eq_true rfl⟩ (s_keyOfL hR hu ht hx) ?_
    refine ev_iload_n (pc := 22) dX0_placeOf_22 rfl rfl ?_
    refine ev_ic_ge (pc := 23) (tgt := 32) dX0_placeOf_23 (by decide) (fun c_23 => ?_) (fun c_23 => ?_)
    · refine ev_iload_n (pc := 32) dX0_placeOf_32 rfl rfl ?_
      exact ev_iretE (pc := 33) dX0_placeOf_33 rfl ⟨Nat.le_of_ble_eq_true rfl, Nat.le_of_ble_eq_true rfl⟩ (by rw [show plc (x :: r) key = 0 from by simp only [plc]; exact if_neg (Int32.not_lt.mpr c_23)]; rfl) rfl
    · refine ev_iinc (pc := 26) dX0_placeOf_26 rfl rfl rfl ?_
      refine ev_goto (pc := 29) (tgt := 2) dX0_placeOf_29 (by decide) ?_
      rw [nI_i1]
      have e9 : plc (x :: r) key = plc r key + 1 := by simp only [plc]; exact if_pos (Int32.not_le.mp c_23)
      have h9 := ih (b ++ [x]) (by rw [hb]; simp)
      rw [List.length_append, List.length_singleton, Nat.add_right_comm] at h9
      rw [e9]
      exact h9
theorem s_placeOf {sl : Int32} {cu ba r0 r1 r2 r3 : Q4} {sw : Nat → Int64} {bt : Int32} {cnt inn lk wd kp wr mk ls pth tk : Nat → Int32} {tl : List mC} (hR : Rp cnt inn lk wd T U) {p : Nat} {l : List (Nat × Int32)} (hu : U p) (ht : T p = .inl l) (key : Int32) : EvS m_X0_placeOf [.ref 1, .int (nI p), .int key] (cW sl cu ba r0 r1 r2 r3 sw bt cnt inn lk wd kp wr mk ls pth tk tl) (.inl (some (.int (nI (plc l key))))) (cW sl cu ba r0 r1 r2 r3 sw bt cnt inn lk wd kp wr mk ls pth tk tl) := by
  refine evs_of (by decide +kernel) (Nat.le_of_ble_eq_true rfl) (by decide) rfl ?_
  refine ev_iconst (pc := 0) (v := 0) dX0_placeOf_0 (by decide) ?_
  refine ev_istore_n (pc := 1) dX0_placeOf_1 rfl rfl rfl ?_
  have h9 := l_placeOf (sl := sl) (cu := cu) (ba := ba) (r0 := r0) (r1 := r1) (r2 := r2) (r3 := r3) (sw := sw) (bt := bt) (kp := kp) (wr := wr) (mk := mk) (ls := ls) (pth := pth) (tk := tk) (tl := tl) hR hu ht key l [] rfl
  rw [List.length_nil, Nat.zero_add] at h9
  exact h9
/-- does entry e of the leaf hold the key -/
def hld (l : List (Nat × Int32)) (e : Nat) (key : Int32) : Prop := ∃ x, l[e]? = some x ∧ nI x.1 = key
theorem s_holds1 {sl : Int32} {cu ba r0 r1 r2 r3 : Q4} {sw : Nat → Int64} {bt : Int32} {cnt inn lk wd kp wr mk ls pth tk : Nat → Int32} {tl : List mC} (hR : Rp cnt inn lk wd T U) {p e : Nat} {l : List (Nat × Int32)} (hu : U p) (ht : T p = .inl l) {key : Int32} (h : hld l e key) : EvS m_X0_holds [.ref 1, .int (nI p), .int (nI e), .int key] (cW sl cu ba r0 r1 r2 r3 sw bt cnt inn lk wd kp wr mk ls pth tk tl) (.inl (some (.int 1))) (cW sl cu ba r0 r1 r2 r3 sw bt cnt inn lk wd kp wr mk ls pth tk tl) := by
  obtain ⟨hp, hi, hl5, hc, hr⟩ := hR.leaf hu ht
  obtain ⟨x, hx, hk⟩ := h
  have hle : e < l.length := (List.getElem?_eq_some_iff.mp hx).1
  refine evs_of (by decide +kernel) (Nat.le_of_ble_eq_true rfl) (by decide) rfl ?_
  refine ev_iload_n (pc := 0) dX0_holds_0 rfl rfl ?_
  refine ev_aload_n (pc := 1) dX0_holds_1 rfl rfl ?_
  refine ev_iload_n (pc := 2) dX0_holds_2 rfl rfl ?_
  refine cV1 (pc := 3) lk_X0_holds_3 rfl rfl rfl (Nat.le_of_ble_eq_true rfl) ⟨Nat.le_of_ble_eq_true rfl, Nat.le_of_ble_eq_true rfl⟩ (s_countOf hp hc) ?_
  refine ev_ic_ge (pc := 6) (tgt := 23) dX0_holds_6 (by decide) (fun c_6 => absurd c_6 (nI_ge hle (by omega))) (fun _ => ?_)
  refine ev_aload_n (pc := 9) dX0_holds_9 rfl rfl ?_
  refine ev_iload_n (pc := 10) dX0_holds_10 rfl rfl ?_
  refine ev_iload_n (pc := 11) dX0_holds_11 rfl rfl ?_
  refine cV2 (pc := 12) lk_X0_holds_12 rfl rfl rfl (Nat.le_of_ble_eq_true rfl) ⟨Nat.le_of_ble_eq_true rfl, Nat.le_of_ble_eq_true rfl⟩ (s_keyOfL hR hu ht hx) ?_
  refine ev_iload_n (pc := 15) dX0_holds_15 rfl rfl ?_
  refine ev_ic_ne (pc := 16) (tgt := 23) dX0_holds_16 (by decide) (fun c_16 => absurd hk c_16) (fun _ => ?_)
  refine ev_iconst (pc := 19) (v := 1) dX0_holds_19 (by decide) ?_
  refine ev_goto (pc := 20) (tgt := 24) dX0_holds_20 (by decide) ?_
  exact ev_zretE (pc := 24) dX0_holds_24 rfl ⟨Nat.le_of_ble_eq_true rfl, Nat.le_of_ble_eq_true rfl⟩ (by first | exact Or.inl rfl | exact Or.inr rfl | assumption | exact i10_o) rfl rfl
theorem s_holds0 {sl : Int32} {cu ba r0 r1 r2 r3 : Q4} {sw : Nat → Int64} {bt : Int32} {cnt inn lk wd kp wr mk ls pth tk : Nat → Int32} {tl : List mC} (hR : Rp cnt inn lk wd T U) {p e : Nat} {l : List (Nat × Int32)} (hu : U p) (ht : T p = .inl l) (he : e ≤ 5) {key : Int32} (h : ¬ hld l e key) : EvS m_X0_holds [.ref 1, .int (nI p), .int (nI e), .int key] (cW sl cu ba r0 r1 r2 r3 sw bt cnt inn lk wd kp wr mk ls pth tk tl) (.inl (some (.int 0))) (cW sl cu ba r0 r1 r2 r3 sw bt cnt inn lk wd kp wr mk ls pth tk tl) := by
  obtain ⟨hp, hi, hl5, hc, hr⟩ := hR.leaf hu ht
  refine evs_of (by decide +kernel) (Nat.le_of_ble_eq_true rfl) (by decide) rfl ?_
  rcases Nat.lt_or_ge e l.length with hle | hge
  · have hx : l[e]? = some l[e] := List.getElem?_eq_getElem hle
    refine ev_iload_n (pc := 0) dX0_holds_0 rfl rfl ?_
    refine ev_aload_n (pc := 1) dX0_holds_1 rfl rfl ?_
    refine ev_iload_n (pc := 2) dX0_holds_2 rfl rfl ?_
    refine cV1 (pc := 3) lk_X0_holds_3 rfl rfl rfl (Nat.le_of_ble_eq_true rfl) ⟨Nat.le_of_ble_eq_true rfl, Nat.le_of_ble_eq_true rfl⟩ (s_countOf hp hc) ?_
    refine ev_ic_ge (pc := 6) (tgt := 23) dX0_holds_6 (by decide) (fun c_6 => absurd c_6 (nI_ge hle (by omega))) (fun _ => ?_)
    refine ev_aload_n (pc := 9) dX0_holds_9 rfl rfl ?_
    refine ev_iload_n (pc := 10) dX0_holds_10 rfl rfl ?_
    refine ev_iload_n (pc := 11) dX0_holds_11 rfl rfl ?_
    refine cV2 (pc := 12) lk_X0_holds_12 rfl rfl rfl (Nat.le_of_ble_eq_true rfl) ⟨Nat.le_of_ble_eq_true rfl, Nat.le_of_ble_eq_true rfl⟩ (s_keyOfL hR hu ht hx) ?_
    refine ev_iload_n (pc := 15) dX0_holds_15 rfl rfl ?_
    refine ev_ic_ne (pc := 16) (tgt := 23) dX0_holds_16 (by decide) (fun _ => ?_) (fun c_16 => absurd c_16 (fun q => h ⟨_, hx, q⟩))
    refine ev_iconst (pc := 23) (v := 0) dX0_holds_23 (by decide) ?_
    exact ev_zretE (pc := 24) dX0_holds_24 rfl ⟨Nat.le_of_ble_eq_true rfl, Nat.le_of_ble_eq_true rfl⟩ (by first | exact Or.inl rfl | exact Or.inr rfl | assumption | exact i10_o) rfl rfl
  · refine ev_iload_n (pc := 0) dX0_holds_0 rfl rfl ?_
    refine ev_aload_n (pc := 1) dX0_holds_1 rfl rfl ?_
    refine ev_iload_n (pc := 2) dX0_holds_2 rfl rfl ?_
    refine cV1 (pc := 3) lk_X0_holds_3 rfl rfl rfl (Nat.le_of_ble_eq_true rfl) ⟨Nat.le_of_ble_eq_true rfl, Nat.le_of_ble_eq_true rfl⟩ (s_countOf hp hc) ?_
    refine ev_ic_ge (pc := 6) (tgt := 23) dX0_holds_6 (by decide) (fun _ => ?_) (fun c_6 => absurd (by exact nI_le hge (by omega)) c_6)
    refine ev_iconst (pc := 23) (v := 0) dX0_holds_23 (by decide) ?_
    exact ev_zretE (pc := 24) dX0_holds_24 rfl ⟨Nat.le_of_ble_eq_true rfl, Nat.le_of_ble_eq_true rfl⟩ (by first | exact Or.inl rfl | exact Or.inr rfl | assumption | exact i10_o) rfl rfl
theorem l_entryFor {sl : Int32} {cu ba r0 r1 r2 r3 : Q4} {sw : Nat → Int64} {bt : Int32} {cnt inn lk wd kp wr mk ls pth tk : Nat → Int32} {tl : List mC} (hR : Rp cnt inn lk wd T U) {p d : Nat} {l : List Nat} (hu : U p) (ht : T p = .inr l) (hf : ∀ c ∈ l, fl T U d c) (hd : d ≤ 7) (key : Int32) : ∀ (r b : List Nat) (x : Nat), l = b ++ x :: r → EvF m_X0_entryFor (mQm m_X0_entryFor (.inl (some (.int (nI (b.length + efr T d r key))))) (cW sl cu ba r0 r1 r2 r3 sw bt cnt inn lk wd kp wr mk ls pth tk tl)) 2 [.ref 1, .int (nI p), .int key, .int (nI b.length)] [] 0 0 (cW sl cu ba r0 r1 r2 r3 sw bt cnt inn lk wd kp wr mk ls pth tk tl) := by
  obtain ⟨hp, hi, hl5, hc, hr⟩ := hR.inner hu ht
  intro r
  induction r with
  | nil =>
    intro b x hb
    have e9 : efr T d [] key = 0 := rfl
    rw [e9, Nat.add_zero]
    have hle : l.length = b.length + 1 := by rw [hb]; simp
    refine ev_iload_n (pc := 2) dX0_entryFor_2 rfl rfl ?_
    refine ev_iconst (pc := 3) (v := 1) dX0_entryFor_3 (by decide) ?_
    refine ev_iadd (pc := 4) dX0_entryFor_4 ?_
    refine ev_iconst (pc := 5) (v := 5) dX0_entryFor_5 (by decide) ?_
    refine ev_ic_ge (pc := 6) (tgt := 38) dX0_entryFor_6 (by decide) (fun c_6 => ?_) (fun c_6 => ?_)
    · refine ev_iload_n (pc := 38) dX0_entryFor_38 rfl rfl ?_
      exact ev_iretE (pc := 39) dX0_entryFor_39 rfl ⟨Nat.le_of_ble_eq_true rfl, Nat.le_of_ble_eq_true rfl⟩ rfl rfl
    · refine ev_iload_n (pc := 9) dX0_entryFor_9 rfl rfl ?_
      refine ev_iconst (pc := 10) (v := 1) dX0_entryFor_10 (by decide) ?_
      refine ev_iadd (pc := 11) dX0_entryFor_11 ?_
      refine ev_aload_n (pc := 12) dX0_entryFor_12 rfl rfl ?_
      refine ev_iload_n (pc := 13) dX0_entryFor_13 rfl rfl ?_
      refine cV1 (pc := 14) lk_X0_entryFor_14 rfl rfl rfl (Nat.le_of_ble_eq_true rfl) ⟨Nat.le_of_ble_eq_true rfl, Nat.le_of_ble_eq_true rfl⟩ (s_countOf hp hc) ?_
      refine ev_ic_ge (pc := 17) (tgt := 38) dX0_entryFor_17 (by decide) (fun _ => ?_) (fun c_17 => absurd (by rw [nI_a1]; exact nI_le (by omega) (by omega)) c_17)
      refine ev_iload_n (pc := 38) dX0_entryFor_38 rfl rfl ?_
      exact ev_iretE (pc := 39) dX0_entryFor_39 rfl ⟨Nat.le_of_ble_eq_true rfl, Nat.le_of_ble_eq_true rfl⟩ rfl rfl
  | cons y r ih =>
    intro b x hb
    have hle : b.length + 1 < l.length := by rw [hb]; simp
    have hx : l[b.length + 1]? = some y := by rw [hb, List.getElem?_append_right (by omega), Nat.add_sub_cancel_left]; rfl
    refine ev_iload_n (pc := 2) dX0_entryFor_2 rfl rfl ?_
    refine ev_iconst (pc := 3) (v := 1) dX0_entryFor_3 (by decide) ?_
    refine ev_iadd (pc := 4) dX0_entryFor_4 ?_
    refine ev_iconst (pc := 5) (v := 5) dX0_entryFor_5 (by decide) ?_
    refine ev_ic_ge (pc := 6) (tgt := 38) dX0_entryFor_6 (by decide) (fun c_6 => absurd c_6 (by rw [nI_a1]; exact he5 (show b.length + 1 < 5 by omega))) (fun _ => ?_)
    refine ev_iload_n (pc := 9) dX0_entryFor_9 rfl rfl ?_
    refine ev_iconst (pc := 10) (v := 1) dX0_entryFor_10 (by decide) ?_
    refine ev_iadd (pc := 11) dX0_entryFor_11 ?_
    refine ev_aload_n (pc := 12) dX0_entryFor_12 rfl rfl ?_
    refine ev_iload_n (pc := 13) dX0_entryFor_13 rfl rfl ?_
    refine cV1 (pc := 14) lk_X0_entryFor_14 rfl rfl rfl (Nat.le_of_ble_eq_true rfl) ⟨Nat.le_of_ble_eq_true rfl, Nat.le_of_ble_eq_true rfl⟩ (s_countOf hp hc) ?_
    refine ev_ic_ge (pc := 17) (tgt := 38) dX0_entryFor_17 (by decide) (fun c_17 => absurd c_17 (by rw [nI_a1]; exact nI_ge hle (by omega))) (fun _ => ?_)
    refine ev_aload_n (pc := 20) dX0_entryFor_20 rfl rfl ?_
    refine ev_iload_n (pc := 21) dX0_entryFor_21 rfl rfl ?_
    refine ev_iload_n (pc := 22) dX0_entryFor_22 rfl rfl ?_
    refine ev_iconst (pc := 23) (v := 1) dX0_entryFor_23 (by decide) ?_
    refine ev_iadd (pc := 24) dX0_entryFor_24 ?_
    refine cV2 (pc := 25) lk_X0_entryFor_25 rfl rfl rfl (Nat.le_of_ble_eq_true rfl) ⟨Nat.le_of_ble_eq_true rfl, Nat.le_of_ble_eq_true rfl⟩ (by rw [nI_a1]; exact s_keyOfI hR hu ht hx (hf y (List.mem_of_getElem? hx)) hd) ?_
    refine ev_iload_n (pc := 28) dX0_entryFor_28 rfl rfl ?_
    refine ev_ic_gt (pc := 29) (tgt := 38) dX0_entryFor_29 (by decide) (fun c_29 => ?_) (fun c_29 => ?_)
    · refine ev_iload_n (pc := 38) dX0_entryFor_38 rfl rfl ?_
      exact ev_iretE (pc := 39) dX0_entryFor_39 rfl ⟨Nat.le_of_ble_eq_true rfl, Nat.le_of_ble_eq_true rfl⟩ (by rw [show efr T d (y :: r) key = 0 from by simp only [efr]; exact if_neg (Int32.not_le.mpr c_29)]; rfl) rfl
    · refine ev_iinc (pc := 32) dX0_entryFor_32 rfl rfl rfl ?_
      refine ev_goto (pc := 35) (tgt := 2) dX0_entryFor_35 (by decide) ?_
      rw [nI_i1]
      have e9 : efr T d (y :: r) key = efr T d r key + 1 := by simp only [efr]; exact if_pos (Int32.not_lt.mp c_29)
      have h9 := ih (b ++ [x]) y (by rw [hb]; simp)
      rw [List.length_append, List.length_singleton, Nat.add_right_comm] at h9
      rw [e9]
      exact h9
theorem s_entryFor {sl : Int32} {cu ba r0 r1 r2 r3 : Q4} {sw : Nat → Int64} {bt : Int32} {cnt inn lk wd kp wr mk ls pth tk : Nat → Int32} {tl : List mC} (hR : Rp cnt inn lk wd T U) {p d : Nat} {l : List Nat} (hu : U p) (ht : T p = .inr l) (hl : 0 < l.length) (hf : ∀ c ∈ l, fl T U d c) (hd : d ≤ 7) (key : Int32) : EvS m_X0_entryFor [.ref 1, .int (nI p), .int key] (cW sl cu ba r0 r1 r2 r3 sw bt cnt inn lk wd kp wr mk ls pth tk tl) (.inl (some (.int (nI (eix T d l key))))) (cW sl cu ba r0 r1 r2 r3 sw bt cnt inn lk wd kp wr mk ls pth tk tl) := by
  obtain ⟨x, r, rfl⟩ : ∃ x r, l = x :: r := by cases l with
    | nil => simp at hl
    | cons x r => exact ⟨x, r, rfl⟩
  refine evs_of (by decide +kernel) (Nat.le_of_ble_eq_true rfl) (by decide) rfl ?_
  refine ev_iconst (pc := 0) (v := 0) dX0_entryFor_0 (by decide) ?_
  refine ev_istore_n (pc := 1) dX0_entryFor_1 rfl rfl rfl ?_
  have h9 := l_entryFor (sl := sl) (cu := cu) (ba := ba) (r0 := r0) (r1 := r1) (r2 := r2) (r3 := r3) (sw := sw) (bt := bt) (kp := kp) (wr := wr) (mk := mk) (ls := ls) (pth := pth) (tk := tk) (tl := tl) hR hu ht hf hd key r [] x rfl
  rw [List.length_nil, Nat.zero_add] at h9
  exact h9
theorem l_leafFor {sl : Int32} {cu ba r0 r1 r2 r3 : Q4} {sw : Nat → Int64} {bt : Int32} {cnt inn lk wd kp wr mk ls pth tk : Nat → Int32} {tl : List mC} (hR : Rp cnt inn lk wd T U) (a key : Int32) : ∀ (d : Nat) {p lv : Nat}, rt T U d p → lv + d ≤ 8 → EvF m_X0_leafFor (mQm m_X0_leafFor (.inl (some (.int (nI (lfF T d p key))))) (cW sl cu ba r0 r1 r2 r3 sw bt cnt inn lk wd kp wr mk ls pth tk tl)) 5 [.ref 1, .int a, .int key, .int (nI p), .int (nI lv)] [] 0 0 (cW sl cu ba r0 r1 r2 r3 sw bt cnt inn lk wd kp wr mk ls pth tk tl) := by
  intro d
  induction d with
  | zero =>
    intro p lv hf hlv
    obtain ⟨hu, l, ht, -⟩ := hf
    obtain ⟨hp, hi, hl5, hc, hr⟩ := hR.leaf hu ht
    have e9 : lfF T 0 p key = p := rfl
    rw [e9]
    refine ev_iload (pc := 5) dX0_leafFor_5 rfl ?_
    refine ev_bipush (pc := 7) (v := 8) dX0_leafFor_7 (by decide) ?_
    refine ev_ic_ge (pc := 9) (tgt := 38) dX0_leafFor_9 (by decide) (fun c_9 => ?_) (fun c_9 => ?_)
    · refine ev_iload_n (pc := 38) dX0_leafFor_38 rfl rfl ?_
      exact ev_iretE (pc := 39) dX0_leafFor_39 rfl ⟨Nat.le_of_ble_eq_true rfl, Nat.le_of_ble_eq_true rfl⟩ rfl rfl
    · refine ev_aload_n (pc := 12) dX0_leafFor_12 rfl rfl ?_
      refine ev_iload_n (pc := 13) dX0_leafFor_13 rfl rfl ?_
      refine cV1 (pc := 14) lk_X0_leafFor_14 rfl rfl rfl (Nat.le_of_ble_eq_true rfl) ⟨Nat.le_of_ble_eq_true rfl, Nat.le_of_ble_eq_true rfl⟩ (s_isLeafT hp hi) ?_
      refine ev_if_ne (pc := 17) (tgt := 38) dX0_leafFor_17 (by decide) (fun _ => ?_) (fun c_17 => absurd c_17 (by decide))
      refine ev_iload_n (pc := 38) dX0_leafFor_38 rfl rfl ?_
      exact ev_iretE (pc := 39) dX0_leafFor_39 rfl ⟨Nat.le_of_ble_eq_true rfl, Nat.le_of_ble_eq_true rfl⟩ rfl rfl
  | succ d ih =>
    intro p lv hf hlv
    obtain ⟨hu, l, ht, h2, h4, h3⟩ := hf
    obtain ⟨hp, hi, hl5, hc, hr⟩ := hR.inner hu ht
    have hlt : eix T d l key < l.length := eix_lt (by omega)
    have hx : l[eix T d l key]? = some l[eix T d l key] := List.getElem?_eq_getElem hlt
    have e9 : lfF T (d + 1) p key = lfF T d l[eix T d l key] key := by
      simp only [lfF, ht, List.getD_eq_getElem?_getD, hx, Option.getD_some]
    rw [e9]
    have hf2 : rt T U d l[eix T d l key] := by
      have h9 := h3 _ (List.mem_of_getElem? hx)
      cases d with
      | zero => exact ⟨h9.1, h9.2.choose, h9.2.choose_spec.1, h9.2.choose_spec.2.2⟩
      | succ d => exact h9
    refine ev_iload (pc := 5) dX0_leafFor_5 rfl ?_
    refine ev_bipush (pc := 7) (v := 8) dX0_leafFor_7 (by decide) ?_
    refine ev_ic_ge (pc := 9) (tgt := 38) dX0_leafFor_9 (by decide) (fun c_9 => absurd c_9 (nI_ge (show lv < 8 by omega) (by decide))) (fun _ => ?_)
    refine ev_aload_n (pc := 12) dX0_leafFor_12 rfl rfl ?_
    refine ev_iload_n (pc := 13) dX0_leafFor_13 rfl rfl ?_
    refine cV1 (pc := 14) lk_X0_leafFor_14 rfl rfl rfl (Nat.le_of_ble_eq_true rfl) ⟨Nat.le_of_ble_eq_true rfl, Nat.le_of_ble_eq_true rfl⟩ (s_isLeafF hp hi) ?_
    refine ev_if_ne (pc := 17) (tgt := 38) dX0_leafFor_17 (by decide) (fun c_17 => absurd rfl c_17) (fun _ => ?_)
    refine ev_aload_n (pc := 20) dX0_leafFor_20 rfl rfl ?_
    refine ev_iload_n (pc := 21) dX0_leafFor_21 rfl rfl ?_
    refine ev_aload_n (pc := 22) dX0_leafFor_22 rfl rfl ?_
    refine ev_iload_n (pc := 23) dX0_leafFor_23 rfl rfl ?_
    refine ev_iload_n (pc := 24) dX0_leafFor_24 rfl rfl ?_
    refine cV2 (pc := 25) lk_X0_leafFor_25 rfl rfl rfl (Nat.le_of_ble_eq_true rfl) ⟨Nat.le_of_ble_eq_true rfl, Nat.le_of_ble_eq_true rfl⟩ (s_entryFor hR hu ht (by omega) h3 (by omega) key) ?_
    refine cV2 (pc := 28) lk_X0_leafFor_28 rfl rfl rfl (Nat.le_of_ble_eq_true rfl) ⟨Nat.le_of_ble_eq_true rfl, Nat.le_of_ble_eq_true rfl⟩ (s_wordOf hp (by omega) (hr _ _ hx).1) ?_
    refine ev_istore_n (pc := 31) dX0_leafFor_31 rfl rfl rfl ?_
    refine ev_iinc (pc := 32) dX0_leafFor_32 rfl rfl rfl ?_
    refine ev_goto (pc := 35) (tgt := 5) dX0_leafFor_35 (by decide) ?_
    rw [nI_i1]
    exact ih hf2 (by omega)
theorem s_leafFor {sl : Int32} {cu ba r0 r1 r2 r3 : Q4} {sw : Nat → Int64} {bt : Int32} {cnt inn lk wd kp wr mk ls pth tk : Nat → Int32} {tl : List mC} (hR : Rp cnt inn lk wd T U) {d p : Nat} (hf : rt T U d p) (hd : d ≤ 8) (key : Int32) : EvS m_X0_leafFor [.ref 1, .int (nI p), .int key] (cW sl cu ba r0 r1 r2 r3 sw bt cnt inn lk wd kp wr mk ls pth tk tl) (.inl (some (.int (nI (lfF T d p key))))) (cW sl cu ba r0 r1 r2 r3 sw bt cnt inn lk wd kp wr mk ls pth tk tl) := by
  refine evs_of (by decide +kernel) (Nat.le_of_ble_eq_true rfl) (by decide) rfl ?_
  refine ev_iload_n (pc := 0) dX0_leafFor_0 rfl rfl ?_
  refine ev_istore_n (pc := 1) dX0_leafFor_1 rfl rfl rfl ?_
  refine ev_iconst (pc := 2) (v := 0) dX0_leafFor_2 (by decide) ?_
  refine ev_istore (pc := 3) dX0_leafFor_3 rfl rfl ?_
  exact l_leafFor hR _ key d (lv := 0) hf (by omega)
theorem l_levelsFrom {sl : Int32} {cu ba r0 r1 r2 r3 : Q4} {sw : Nat → Int64} {bt : Int32} {cnt inn lk wd kp wr mk ls pth tk : Nat → Int32} {tl : List mC} (hR : Rp cnt inn lk wd T U) (a : Int32) : ∀ (d : Nat) {p lv : Nat}, rt T U d p → lv + d ≤ 8 → EvF m_X0_levelsFrom (mQm m_X0_levelsFrom (.inl (some (.int (nI (lv + d))))) (cW sl cu ba r0 r1 r2 r3 sw bt cnt inn lk wd kp wr mk ls pth tk tl)) 4 [.ref 1, .int a, .int (nI lv), .int (nI p)] [] 0 0 (cW sl cu ba r0 r1 r2 r3 sw bt cnt inn lk wd kp wr mk ls pth tk tl) := by
  intro d
  induction d with
  | zero =>
    intro p lv hf hlv
    obtain ⟨hu, l, ht, -⟩ := hf
    obtain ⟨hp, hi, hl5, hc, hr⟩ := hR.leaf hu ht
    rw [Nat.add_zero]
    refine ev_iload_n (pc := 4) dX0_levelsFrom_4 rfl rfl ?_
    refine ev_bipush (pc := 5) (v := 8) dX0_levelsFrom_5 (by decide) ?_
    refine ev_ic_ge (pc := 7) (tgt := 31) dX0_levelsFrom_7 (by decide) (fun c_7 => ?_) (fun c_7 => ?_)
    · refine ev_iload_n (pc := 31) dX0_levelsFrom_31 rfl rfl ?_
      exact ev_iretE (pc := 32) dX0_levelsFrom_32 rfl ⟨Nat.le_of_ble_eq_true rfl, Nat.le_of_ble_eq_true rfl⟩ rfl rfl
    · refine ev_aload_n (pc := 10) dX0_levelsFrom_10 rfl rfl ?_
      refine ev_iload_n (pc := 11) dX0_levelsFrom_11 rfl rfl ?_
      refine cV1 (pc := 12) lk_X0_levelsFrom_12 rfl rfl rfl (Nat.le_of_ble_eq_true rfl) ⟨Nat.le_of_ble_eq_true rfl, Nat.le_of_ble_eq_true rfl⟩ (s_isLeafT hp hi) ?_
      refine ev_if_ne (pc := 15) (tgt := 31) dX0_levelsFrom_15 (by decide) (fun _ => ?_) (fun c_15 => absurd c_15 (by decide))
      refine ev_iload_n (pc := 31) dX0_levelsFrom_31 rfl rfl ?_
      exact ev_iretE (pc := 32) dX0_levelsFrom_32 rfl ⟨Nat.le_of_ble_eq_true rfl, Nat.le_of_ble_eq_true rfl⟩ rfl rfl
  | succ d ih =>
    intro p lv hf hlv
    obtain ⟨hu, l, ht, h2, h4, h3⟩ := hf
    obtain ⟨hp, hi, hl5, hc, hr⟩ := hR.inner hu ht
    have hx : l[0]? = some l[0] := List.getElem?_eq_getElem (by omega)
    have hf2 : rt T U d l[0] := by
      have h9 := h3 _ (List.mem_of_getElem? hx)
      cases d with
      | zero => exact ⟨h9.1, h9.2.choose, h9.2.choose_spec.1, h9.2.choose_spec.2.2⟩
      | succ d => exact h9
    refine ev_iload_n (pc := 4) dX0_levelsFrom_4 rfl rfl ?_
    refine ev_bipush (pc := 5) (v := 8) dX0_levelsFrom_5 (by decide) ?_
    refine ev_ic_ge (pc := 7) (tgt := 31) dX0_levelsFrom_7 (by decide) (fun c_7 => absurd c_7 (nI_ge (show lv < 8 by omega) (by decide))) (fun _ => ?_)
    refine ev_aload_n (pc := 10) dX0_levelsFrom_10 rfl rfl ?_
    refine ev_iload_n (pc := 11) dX0_levelsFrom_11 rfl rfl ?_
    refine cV1 (pc := 12) lk_X0_levelsFrom_12 rfl rfl rfl (Nat.le_of_ble_eq_true rfl) ⟨Nat.le_of_ble_eq_true rfl, Nat.le_of_ble_eq_true rfl⟩ (s_isLeafF hp hi) ?_
    refine ev_if_ne (pc := 15) (tgt := 31) dX0_levelsFrom_15 (by decide) (fun c_15 => absurd rfl c_15) (fun _ => ?_)
    refine ev_aload_n (pc := 18) dX0_levelsFrom_18 rfl rfl ?_
    refine ev_iload_n (pc := 19) dX0_levelsFrom_19 rfl rfl ?_
    refine ev_iconst (pc := 20) (v := 0) dX0_levelsFrom_20 (by decide) ?_
    refine cV2 (pc := 21) lk_X0_levelsFrom_21 rfl rfl rfl (Nat.le_of_ble_eq_true rfl) ⟨Nat.le_of_ble_eq_true rfl, Nat.le_of_ble_eq_true rfl⟩ (s_wordOf (e := 0) hp (by omega) (hr _ _ hx).1) ?_
    refine ev_istore_n (pc := 24) dX0_levelsFrom_24 rfl rfl rfl ?_
    refine ev_iinc (pc := 25) dX0_levelsFrom_25 rfl rfl rfl ?_
    refine ev_goto (pc := 28) (tgt := 4) dX0_levelsFrom_28 (by decide) ?_
    rw [nI_i1, show lv + (d + 1) = lv + 1 + d by omega]
    exact ih hf2 (by omega)
theorem s_levelsFrom {sl : Int32} {cu ba r0 r1 r2 r3 : Q4} {sw : Nat → Int64} {bt : Int32} {cnt inn lk wd kp wr mk ls pth tk : Nat → Int32} {tl : List mC} (hR : Rp cnt inn lk wd T U) {d p : Nat} (hf : rt T U d p) (hd : d ≤ 7) : EvS m_X0_levelsFrom [.ref 1, .int (nI p)] (cW sl cu ba r0 r1 r2 r3 sw bt cnt inn lk wd kp wr mk ls pth tk tl) (.inl (some (.int (nI (d + 1))))) (cW sl cu ba r0 r1 r2 r3 sw bt cnt inn lk wd kp wr mk ls pth tk tl) := by
  refine evs_of (by decide +kernel) (Nat.le_of_ble_eq_true rfl) (by decide) rfl ?_
  refine ev_iconst (pc := 0) (v := 1) dX0_levelsFrom_0 (by decide) ?_
  refine ev_istore_n (pc := 1) dX0_levelsFrom_1 rfl rfl rfl ?_
  refine ev_iload_n (pc := 2) dX0_levelsFrom_2 rfl rfl ?_
  refine ev_istore_n (pc := 3) dX0_levelsFrom_3 rfl rfl rfl ?_
  rw [Nat.add_comm d 1]
  exact l_levelsFrom hR _ d (lv := 1) hf (by omega)
end P2
