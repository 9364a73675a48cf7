/-! THE RULES: one for each kind of instruction -/
section RU
variable {M : mM} {Qf : mQ} {pc : Nat} {L st : List Value} {kc ks : Nat} {w : mW}
theorem ev_iconst {n : Int} {v : Int32} (d : decode (mMc M) pc = .ok (.iconst n, 1)) (hv : Int32.ofInt n = v) (k : EvF M Qf (pc + 1) L (.int v :: st) kc ks w) : EvF M Qf pc L st kc ks w :=
  fun z b G cA p l e s m args below meth c H locs ls C hw hL => lv_iconst C.1 C.2.1 d hv (k z b G cA p l e s m args below meth c H locs ls C hw hL)
theorem ev_bipush {n : Int} {v : Int32} (d : decode (mMc M) pc = .ok (.bipush n, 2)) (hv : (Int8.ofInt n).toInt32 = v) (k : EvF M Qf (pc + 2) L (.int v :: st) kc ks w) : EvF M Qf pc L st kc ks w :=
  fun z b G cA p l e s m args below meth c H locs ls C hw hL => lv_bipush C.1 C.2.1 d hv (k z b G cA p l e s m args below meth c H locs ls C hw hL)
theorem ev_sipush {n : Int} {v : Int32} (d : decode (mMc M) pc = .ok (.sipush n, 3)) (hv : (Int16.ofInt n).toInt32 = v) (k : EvF M Qf (pc + 3) L (.int v :: st) kc ks w) : EvF M Qf pc L st kc ks w :=
  fun z b G cA p l e s m args below meth c H locs ls C hw hL => lv_sipush C.1 C.2.1 d hv (k z b G cA p l e s m args below meth c H locs ls C hw hL)
theorem ev_lconst {n : Fin 2} {v : Int64} (d : decode (mMc M) pc = .ok (.lconst n, 1)) (hv : Int64.ofNat (n : Nat) = v) (k : EvF M Qf (pc + 1) L (.long v :: st) kc ks w) : EvF M Qf pc L st kc ks w :=
  fun z b G cA p l e s m args below meth c H locs ls C hw hL => lv_lconst C.1 C.2.1 d hv (k z b G cA p l e s m args below meth c H locs ls C hw hL)
theorem ev_ldc2 {i : Nat} {v : Int64} (d : decode (mMc M) pc = .ok (.ldc2_w i, 3)) (hc : Jvm.Cond.constantLong (mMy M).cls i v ∈ WA) (k : EvF M Qf (pc + 3) L (.long v :: st) kc ks w) : EvF M Qf pc L st kc ks w :=
  fun z b G cA p l e s m args below meth c H locs ls C hw hL => lv_ldc2 C.1 C.2.1 C.2.2.2.2.1 (C.2.2.2.2.2.1 _ hc) d (k z b G cA p l e s m args below meth c H locs ls C hw hL)
theorem ev_iload_n {j : Fin 4} {i : Nat} {x : Int32} (d : decode (mMc M) pc = .ok (.iload_n j, 1)) (hi : (j : Nat) = i) (hl : L[i]? = some (.int x)) (k : EvF M Qf (pc + 1) L (.int x :: st) kc ks w) : EvF M Qf pc L st kc ks w :=
  fun z b G cA p l e s m args below meth c H locs ls C hw hL => lv_iload_n C.1 C.2.1 d hi (mLs_at hL hl (fun h => by cases h)) (k z b G cA p l e s m args below meth c H locs ls C hw hL)
theorem ev_iload {i : Nat} {x : Int32} (d : decode (mMc M) pc = .ok (.iload i, 2)) (hl : L[i]? = some (.int x)) (k : EvF M Qf (pc + 2) L (.int x :: st) kc ks w) : EvF M Qf pc L st kc ks w :=
  fun z b G cA p l e s m args below meth c H locs ls C hw hL => lv_iload C.1 C.2.1 d (mLs_at hL hl (fun h => by cases h)) (k z b G cA p l e s m args below meth c H locs ls C hw hL)
theorem ev_lload_n {j : Fin 4} {i : Nat} {x : Int64} (d : decode (mMc M) pc = .ok (.lload_n j, 1)) (hi : (j : Nat) = i) (hl : L[i]? = some (.long x)) (k : EvF M Qf (pc + 1) L (.long x :: st) kc ks w) : EvF M Qf pc L st kc ks w :=
  fun z b G cA p l e s m args below meth c H locs ls C hw hL => lv_lload_n C.1 C.2.1 d hi (mLs_at hL hl (fun h => by cases h)) (k z b G cA p l e s m args below meth c H locs ls C hw hL)
theorem ev_lload {i : Nat} {x : Int64} (d : decode (mMc M) pc = .ok (.lload i, 2)) (hl : L[i]? = some (.long x)) (k : EvF M Qf (pc + 2) L (.long x :: st) kc ks w) : EvF M Qf pc L st kc ks w :=
  fun z b G cA p l e s m args below meth c H locs ls C hw hL => lv_lload C.1 C.2.1 d (mLs_at hL hl (fun h => by cases h)) (k z b G cA p l e s m args below meth c H locs ls C hw hL)
theorem ev_aload_n {j : Fin 4} {i a : Nat} (d : decode (mMc M) pc = .ok (.aload_n j, 1)) (hi : (j : Nat) = i) (hl : L[i]? = some (.ref a)) (k : EvF M Qf (pc + 1) L (.ref a :: st) kc ks w) : EvF M Qf pc L st kc ks w :=
  fun z b G cA p l e s m args below meth c H locs ls C hw hL => lv_aload_n C.1 C.2.1 d hi (mLs_at hL hl (fun h => by cases h)) (k z b G cA p l e s m args below meth c H locs ls C hw hL)
theorem ev_aload {i a : Nat} (d : decode (mMc M) pc = .ok (.aload i, 2)) (hl : L[i]? = some (.ref a)) (k : EvF M Qf (pc + 2) L (.ref a :: st) kc ks w) : EvF M Qf pc L st kc ks w :=
  fun z b G cA p l e s m args below meth c H locs ls C hw hL => lv_aload C.1 C.2.1 d (mLs_at hL hl (fun h => by cases h)) (k z b G cA p l e s m args below meth c H locs ls C hw hL)
theorem ev_aloadS_n {j : Fin 4} {i : Nat} (d : decode (mMc M) pc = .ok (.aload_n j, 1)) (hi : (j : Nat) = i) (hl : L[i]? = some scr1) (k : EvF M Qf (pc + 1) L (scr1 :: st) kc ks w) : EvF M Qf pc L st kc ks w :=
  fun z b G cA p l e s m args below meth c H locs ls C hw hL => lv_aload_n C.1 C.2.1 d hi (mLs_at hL hl (fun h => by cases h)) (k z b G cA p l e s m args below meth c H locs ls C hw hL)
theorem ev_istore_n {j : Fin 4} {i : Nat} {x : Int32} {L' : List Value} (d : decode (mMc M) pc = .ok (.istore_n j, 1)) (hi : (j : Nat) = i) (hm : (decide (i < mMn M) && mc1 L i) = true) (hL' : L.set i (.int x) = L') (k : EvF M Qf (pc + 1) L' st kc ks w) : EvF M Qf pc L (.int x :: st) kc ks w :=
  fun z b G cA p l e s m args below meth c H locs ls C hw hL => by
    simp only [Bool.and_eq_true, decide_eq_true_eq] at hm
    exact lv_istore_n C.1 C.2.1 d hi (mLs_has hL) hm.1 rfl (fun ls' h' => k z b G cA p l e s m args below meth c H locs ls' C hw (by rw [← hL']; exact mLs_set1 hL.2.1 rfl hm.2 h'))
theorem ev_istore {i : Nat} {x : Int32} {L' : List Value} (d : decode (mMc M) pc = .ok (.istore i, 2)) (hm : (decide (i < mMn M) && mc1 L i) = true) (hL' : L.set i (.int x) = L') (k : EvF M Qf (pc + 2) L' st kc ks w) : EvF M Qf pc L (.int x :: st) kc ks w :=
  fun z b G cA p l e s m args below meth c H locs ls C hw hL => by
    simp only [Bool.and_eq_true, decide_eq_true_eq] at hm
    exact lv_istore C.1 C.2.1 d (mLs_has hL) hm.1 rfl (fun ls' h' => k z b G cA p l e s m args below meth c H locs ls' C hw (by rw [← hL']; exact mLs_set1 hL.2.1 rfl hm.2 h'))
theorem ev_astore_n {j : Fin 4} {i a : Nat} {L' : List Value} (d : decode (mMc M) pc = .ok (.astore_n j, 1)) (hi : (j : Nat) = i) (hm : (decide (i < mMn M) && mc1 L i) = true) (hL' : L.set i (.ref a) = L') (k : EvF M Qf (pc + 1) L' st kc ks w) : EvF M Qf pc L (.ref a :: st) kc ks w :=
  fun z b G cA p l e s m args below meth c H locs ls C hw hL => by
    simp only [Bool.and_eq_true, decide_eq_true_eq] at hm
    exact lv_astore_n C.1 C.2.1 d hi (mLs_has hL) hm.1 rfl (fun ls' h' => k z b G cA p l e s m args below meth c H locs ls' C hw (by rw [← hL']; exact mLs_set1 hL.2.1 rfl hm.2 h'))
theorem ev_astore {i a : Nat} {L' : List Value} (d : decode (mMc M) pc = .ok (.astore i, 2)) (hm : (decide (i < mMn M) && mc1 L i) = true) (hL' : L.set i (.ref a) = L') (k : EvF M Qf (pc + 2) L' st kc ks w) : EvF M Qf pc L (.ref a :: st) kc ks w :=
  fun z b G cA p l e s m args below meth c H locs ls C hw hL => by
    simp only [Bool.and_eq_true, decide_eq_true_eq] at hm
    exact lv_astore C.1 C.2.1 d (mLs_has hL) hm.1 rfl (fun ls' h' => k z b G cA p l e s m args below meth c H locs ls' C hw (by rw [← hL']; exact mLs_set1 hL.2.1 rfl hm.2 h'))
theorem ev_lstore_n {j : Fin 4} {i : Nat} {x : Int64} {L' : List Value} (d : decode (mMc M) pc = .ok (.lstore_n j, 1)) (hi : (j : Nat) = i) (hm : (decide (i + 1 < mMn M) && mc1 L i) = true) (hL' : (L.set i (.long x)).set (i + 1) hole = L') (k : EvF M Qf (pc + 1) L' st kc ks w) : EvF M Qf pc L (.long x :: st) kc ks w :=
  fun z b G cA p l e s m args below meth c H locs ls C hw hL => by
    simp only [Bool.and_eq_true, decide_eq_true_eq] at hm
    exact lv_lstore_n C.1 C.2.1 d hi (mLs_has hL) hm.1 rfl (fun ls' h' => k z b G cA p l e s m args below meth c H locs ls' C hw (by rw [← hL']; exact mLs_set2 hL.2.1 rfl hm.2 h'))
theorem ev_lstore {i : Nat} {x : Int64} {L' : List Value} (d : decode (mMc M) pc = .ok (.lstore i, 2)) (hm : (decide (i + 1 < mMn M) && mc1 L i) = true) (hL' : (L.set i (.long x)).set (i + 1) hole = L') (k : EvF M Qf (pc + 2) L' st kc ks w) : EvF M Qf pc L (.long x :: st) kc ks w :=
  fun z b G cA p l e s m args below meth c H locs ls C hw hL => by
    simp only [Bool.and_eq_true, decide_eq_true_eq] at hm
    exact lv_lstore C.1 C.2.1 d (mLs_has hL) hm.1 rfl (fun ls' h' => k z b G cA p l e s m args below meth c H locs ls' C hw (by rw [← hL']; exact mLs_set2 hL.2.1 rfl hm.2 h'))
theorem ev_iinc {i : Nat} {n : Int} {x : Int32} {L' : List Value} (d : decode (mMc M) pc = .ok (.iinc i n, 3)) (hl : L[i]? = some (.int x)) (hm : (decide (i < mMn M) && mc1 L i) = true) (hL' : L.set i (.int (x + Int32.ofInt n)) = L') (k : EvF M Qf (pc + 3) L' st kc ks w) : EvF M Qf pc L st kc ks w :=
  fun z b G cA p l e s m args below meth c H locs ls C hw hL => by
    simp only [Bool.and_eq_true, decide_eq_true_eq] at hm
    obtain ⟨k0, hk0⟩ := List.getElem?_of_mem (mLo_mem (z := z) (b := b) (q := (i, .int x)) |>.mpr ⟨_, hl, (fun h => by cases h), rfl⟩)
    exact lv_iinc C.1 C.2.1 d (mLs_has hL) hk0 rfl hm.1 rfl (fun ls' h' => k z b G cA p l e s m args below meth c H locs ls' C hw (by rw [← hL']; exact mLs_set1 hL.2.1 rfl hm.2 h'))
theorem ev_iadd {x y : Int32} (d : decode (mMc M) pc = .ok (.iadd, 1)) (k : EvF M Qf (pc + 1) L (.int (x + y) :: st) kc ks w) : EvF M Qf pc L (.int y :: .int x :: st) kc ks w :=
  fun z b G cA p l e s m args below meth c H locs ls C hw hL => lv_iadd C.1 C.2.1 d (k z b G cA p l e s m args below meth c H locs ls C hw hL)
theorem ev_isub {x y : Int32} (d : decode (mMc M) pc = .ok (.isub, 1)) (k : EvF M Qf (pc + 1) L (.int (x - y) :: st) kc ks w) : EvF M Qf pc L (.int y :: .int x :: st) kc ks w :=
  fun z b G cA p l e s m args below meth c H locs ls C hw hL => lv_isub C.1 C.2.1 d (k z b G cA p l e s m args below meth c H locs ls C hw hL)
theorem ev_imul {x y : Int32} (d : decode (mMc M) pc = .ok (.imul, 1)) (k : EvF M Qf (pc + 1) L (.int (x * y) :: st) kc ks w) : EvF M Qf pc L (.int y :: .int x :: st) kc ks w :=
  fun z b G cA p l e s m args below meth c H locs ls C hw hL => lv_imul C.1 C.2.1 d (k z b G cA p l e s m args below meth c H locs ls C hw hL)
theorem ev_iand {x y : Int32} (d : decode (mMc M) pc = .ok (.iand, 1)) (k : EvF M Qf (pc + 1) L (.int (x &&& y) :: st) kc ks w) : EvF M Qf pc L (.int y :: .int x :: st) kc ks w :=
  fun z b G cA p l e s m args below meth c H locs ls C hw hL => lv_iand C.1 C.2.1 d (k z b G cA p l e s m args below meth c H locs ls C hw hL)
theorem ev_ladd {x y : Int64} (d : decode (mMc M) pc = .ok (.ladd, 1)) (k : EvF M Qf (pc + 1) L (.long (x + y) :: st) kc ks w) : EvF M Qf pc L (.long y :: .long x :: st) kc ks w :=
  fun z b G cA p l e s m args below meth c H locs ls C hw hL => lv_ladd C.1 C.2.1 d (k z b G cA p l e s m args below meth c H locs ls C hw hL)
theorem ev_lmul {x y : Int64} (d : decode (mMc M) pc = .ok (.lmul, 1)) (k : EvF M Qf (pc + 1) L (.long (x * y) :: st) kc ks w) : EvF M Qf pc L (.long y :: .long x :: st) kc ks w :=
  fun z b G cA p l e s m args below meth c H locs ls C hw hL => lv_lmul C.1 C.2.1 d (k z b G cA p l e s m args below meth c H locs ls C hw hL)
theorem ev_lcmp {x y : Int64} (d : decode (mMc M) pc = .ok (.lcmp, 1)) (k : EvF M Qf (pc + 1) L (.int (lg_cmp x y) :: st) kc ks w) : EvF M Qf pc L (.long y :: .long x :: st) kc ks w :=
  fun z b G cA p l e s m args below meth c H locs ls C hw hL => W.lcmp C.1 C.2.1 d (k z b G cA p l e s m args below meth c H locs ls C hw hL)
theorem ev_i2l {x : Int32} (d : decode (mMc M) pc = .ok (.i2l, 1)) (k : EvF M Qf (pc + 1) L (.long x.toInt64 :: st) kc ks w) : EvF M Qf pc L (.int x :: st) kc ks w :=
  fun z b G cA p l e s m args below meth c H locs ls C hw hL => lv_i2l C.1 C.2.1 d rfl (k z b G cA p l e s m args below meth c H locs ls C hw hL)
theorem ev_l2i {x : Int64} (d : decode (mMc M) pc = .ok (.l2i, 1)) (k : EvF M Qf (pc + 1) L (.int x.toInt32 :: st) kc ks w) : EvF M Qf pc L (.long x :: st) kc ks w :=
  fun z b G cA p l e s m args below meth c H locs ls C hw hL => lv_l2i C.1 C.2.1 d rfl (k z b G cA p l e s m args below meth c H locs ls C hw hL)
theorem ev_dup {v : Value} (d : decode (mMc M) pc = .ok (.dup, 1)) (hv : v.category = 1) (k : EvF M Qf (pc + 1) L (v :: v :: st) kc ks w) : EvF M Qf pc L (v :: st) kc ks w :=
  fun z b G cA p l e s m args below meth c H locs ls C hw hL => lv_dup C.1 C.2.1 d (by rw [mV_cat]; exact hv) (k z b G cA p l e s m args below meth c H locs ls C hw hL)
theorem ev_dup2 {v u : Value} (d : decode (mMc M) pc = .ok (.dup2, 1)) (hv : v.category = 1) (hu : u.category = 1) (k : EvF M Qf (pc + 1) L (v :: u :: v :: u :: st) kc ks w) : EvF M Qf pc L (v :: u :: st) kc ks w :=
  fun z b G cA p l e s m args below meth c H locs ls C hw hL => lv_dup2_11 C.1 C.2.1 d (by rw [mV_cat]; exact hv) (by rw [mV_cat]; exact hu) (k z b G cA p l e s m args below meth c H locs ls C hw hL)
theorem ev_pop {v : Value} (d : decode (mMc M) pc = .ok (.pop, 1)) (hv : v.category = 1) (k : EvF M Qf (pc + 1) L st kc ks w) : EvF M Qf pc L (v :: st) kc ks w :=
  fun z b G cA p l e s m args below meth c H locs ls C hw hL => lv_pop C.1 C.2.1 d (by rw [mV_cat]; exact hv) (k z b G cA p l e s m args below meth c H locs ls C hw hL)
theorem ev_goto {off : Int} {tgt : Nat} (d : decode (mMc M) pc = .ok (.goto off, 3)) (ht : (pc : Int) + off = (tgt : Int)) (k : EvF M Qf tgt L st kc ks w) : EvF M Qf pc L st kc ks w :=
  fun z b G cA p l e s m args below meth c H locs ls C hw hL => lv_goto C.1 C.2.1 d ht (k z b G cA p l e s m args below meth c H locs ls C hw hL)
theorem ev_tabIn {dflt lo hi : Int} {offs : Array Int} {len : Nat} {x : Int32} {off : Int} {tgt : Nat} (d : decode (mMc M) pc = .ok (.tableswitch dflt lo hi offs, len)) (h1 : ¬ x.toInt < lo) (h2 : ¬ hi < x.toInt) (ho : offs[(x.toInt - lo).toNat]? = some off) (ht : (pc : Int) + off = (tgt : Int)) (k : EvF M Qf tgt L st kc ks w) : EvF M Qf pc L (.int x :: st) kc ks w :=
  fun z b G cA p l e s m args below meth c H locs ls C hw hL => lv_tableIn C.1 C.2.1 d h1 h2 ho ht (k z b G cA p l e s m args below meth c H locs ls C hw hL)
theorem ev_tabOut {dflt lo hi : Int} {offs : Array Int} {len : Nat} {x : Int32} {tgt : Nat} (d : decode (mMc M) pc = .ok (.tableswitch dflt lo hi offs, len)) (h : x.toInt < lo ∨ hi < x.toInt) (ht : (pc : Int) + dflt = (tgt : Int)) (k : EvF M Qf tgt L st kc ks w) : EvF M Qf pc L (.int x :: st) kc ks w :=
  fun z b G cA p l e s m args below meth c H locs ls C hw hL => lv_tableOut C.1 C.2.1 d h ht (k z b G cA p l e s m args below meth c H locs ls C hw hL)
theorem ev_if_eq {x : Int32} {off : Int} {tgt : Nat} (d : decode (mMc M) pc = .ok (.ifCond .eq off, 3)) (ht : (pc : Int) + off = (tgt : Int)) (kt : x = 0 → EvF M Qf tgt L st kc ks w) (kf : ¬ x = 0 → EvF M Qf (pc + 3) L st kc ks w) : EvF M Qf pc L (.int x :: st) kc ks w :=
  fun z b G cA p l e s m args below meth c H locs ls C hw hL => lv_if_eq C.1 C.2.1 d ht (fun q => kt q z b G cA p l e s m args below meth c H locs ls C hw hL) (fun q => kf q z b G cA p l e s m args below meth c H locs ls C hw hL)
theorem ev_ic_eq {x y : Int32} {off : Int} {tgt : Nat} (d : decode (mMc M) pc = .ok (.if_icmp .eq off, 3)) (ht : (pc : Int) + off = (tgt : Int)) (kt : x = y → EvF M Qf tgt L st kc ks w) (kf : ¬ x = y → EvF M Qf (pc + 3) L st kc ks w) : EvF M Qf pc L (.int y :: .int x :: st) kc ks w :=
  fun z b G cA p l e s m args below meth c H locs ls C hw hL => lv_icmp_eq C.1 C.2.1 d ht (fun q => kt q z b G cA p l e s m args below meth c H locs ls C hw hL) (fun q => kf q z b G cA p l e s m args below meth c H locs ls C hw hL)
theorem ev_if_ne {x : Int32} {off : Int} {tgt : Nat} (d : decode (mMc M) pc = .ok (.ifCond .ne off, 3)) (ht : (pc : Int) + off = (tgt : Int)) (kt : ¬ x = 0 → EvF M Qf tgt L st kc ks w) (kf : x = 0 → EvF M Qf (pc + 3) L st kc ks w) : EvF M Qf pc L (.int x :: st) kc ks w :=
  fun z b G cA p l e s m args below meth c H locs ls C hw hL => lv_if_ne C.1 C.2.1 d ht (fun q => kt q z b G cA p l e s m args below meth c H locs ls C hw hL) (fun q => kf q z b G cA p l e s m args below meth c H locs ls C hw hL)
theorem ev_ic_ne {x y : Int32} {off : Int} {tgt : Nat} (d : decode (mMc M) pc = .ok (.if_icmp .ne off, 3)) (ht : (pc : Int) + off = (tgt : Int)) (kt : ¬ x = y → EvF M Qf tgt L st kc ks w) (kf : x = y → EvF M Qf (pc + 3) L st kc ks w) : EvF M Qf pc L (.int y :: .int x :: st) kc ks w :=
  fun z b G cA p l e s m args below meth c H locs ls C hw hL => lv_icmp_ne C.1 C.2.1 d ht (fun q => kt q z b G cA p l e s m args below meth c H locs ls C hw hL) (fun q => kf q z b G cA p l e s m args below meth c H locs ls C hw hL)
theorem ev_if_lt {x : Int32} {off : Int} {tgt : Nat} (d : decode (mMc M) pc = .ok (.ifCond .lt off, 3)) (ht : (pc : Int) + off = (tgt : Int)) (kt : x < 0 → EvF M Qf tgt L st kc ks w) (kf : ¬ x < 0 → EvF M Qf (pc + 3) L st kc ks w) : EvF M Qf pc L (.int x :: st) kc ks w :=
  fun z b G cA p l e s m args below meth c H locs ls C hw hL => lv_if_lt C.1 C.2.1 d ht (fun q => kt q z b G cA p l e s m args below meth c H locs ls C hw hL) (fun q => kf q z b G cA p l e s m args below meth c H locs ls C hw hL)
theorem ev_ic_lt {x y : Int32} {off : Int} {tgt : Nat} (d : decode (mMc M) pc = .ok (.if_icmp .lt off, 3)) (ht : (pc : Int) + off = (tgt : Int)) (kt : x < y → EvF M Qf tgt L st kc ks w) (kf : ¬ x < y → EvF M Qf (pc + 3) L st kc ks w) : EvF M Qf pc L (.int y :: .int x :: st) kc ks w :=
  fun z b G cA p l e s m args below meth c H locs ls C hw hL => lv_icmp_lt C.1 C.2.1 d ht (fun q => kt q z b G cA p l e s m args below meth c H locs ls C hw hL) (fun q => kf q z b G cA p l e s m args below meth c H locs ls C hw hL)
theorem ev_if_ge {x : Int32} {off : Int} {tgt : Nat} (d : decode (mMc M) pc = .ok (.ifCond .ge off, 3)) (ht : (pc : Int) + off = (tgt : Int)) (kt : 0 ≤ x → EvF M Qf tgt L st kc ks w) (kf : ¬ 0 ≤ x → EvF M Qf (pc + 3) L st kc ks w) : EvF M Qf pc L (.int x :: st) kc ks w :=
  fun z b G cA p l e s m args below meth c H locs ls C hw hL => lv_if_ge C.1 C.2.1 d ht (fun q => kt q z b G cA p l e s m args below meth c H locs ls C hw hL) (fun q => kf q z b G cA p l e s m args below meth c H locs ls C hw hL)
theorem ev_ic_ge {x y : Int32} {off : Int} {tgt : Nat} (d : decode (mMc M) pc = .ok (.if_icmp .ge off, 3)) (ht : (pc : Int) + off = (tgt : Int)) (kt : y ≤ x → EvF M Qf tgt L st kc ks w) (kf : ¬ y ≤ x → EvF M Qf (pc + 3) L st kc ks w) : EvF M Qf pc L (.int y :: .int x :: st) kc ks w :=
  fun z b G cA p l e s m args below meth c H locs ls C hw hL => lv_icmp_ge C.1 C.2.1 d ht (fun q => kt q z b G cA p l e s m args below meth c H locs ls C hw hL) (fun q => kf q z b G cA p l e s m args below meth c H locs ls C hw hL)
theorem ev_if_gt {x : Int32} {off : Int} {tgt : Nat} (d : decode (mMc M) pc = .ok (.ifCond .gt off, 3)) (ht : (pc : Int) + off = (tgt : Int)) (kt : 0 < x → EvF M Qf tgt L st kc ks w) (kf : ¬ 0 < x → EvF M Qf (pc + 3) L st kc ks w) : EvF M Qf pc L (.int x :: st) kc ks w :=
  fun z b G cA p l e s m args below meth c H locs ls C hw hL => lv_if_gt C.1 C.2.1 d ht (fun q => kt q z b G cA p l e s m args below meth c H locs ls C hw hL) (fun q => kf q z b G cA p l e s m args below meth c H locs ls C hw hL)
theorem ev_ic_gt {x y : Int32} {off : Int} {tgt : Nat} (d : decode (mMc M) pc = .ok (.if_icmp .gt off, 3)) (ht : (pc : Int) + off = (tgt : Int)) (kt : y < x → EvF M Qf tgt L st kc ks w) (kf : ¬ y < x → EvF M Qf (pc + 3) L st kc ks w) : EvF M Qf pc L (.int y :: .int x :: st) kc ks w :=
  fun z b G cA p l e s m args below meth c H locs ls C hw hL => lv_icmp_gt C.1 C.2.1 d ht (fun q => kt q z b G cA p l e s m args below meth c H locs ls C hw hL) (fun q => kf q z b G cA p l e s m args below meth c H locs ls C hw hL)
theorem ev_if_le {x : Int32} {off : Int} {tgt : Nat} (d : decode (mMc M) pc = .ok (.ifCond .le off, 3)) (ht : (pc : Int) + off = (tgt : Int)) (kt : x ≤ 0 → EvF M Qf tgt L st kc ks w) (kf : ¬ x ≤ 0 → EvF M Qf (pc + 3) L st kc ks w) : EvF M Qf pc L (.int x :: st) kc ks w :=
  fun z b G cA p l e s m args below meth c H locs ls C hw hL => lv_if_le C.1 C.2.1 d ht (fun q => kt q z b G cA p l e s m args below meth c H locs ls C hw hL) (fun q => kf q z b G cA p l e s m args below meth c H locs ls C hw hL)
theorem ev_ic_le {x y : Int32} {off : Int} {tgt : Nat} (d : decode (mMc M) pc = .ok (.if_icmp .le off, 3)) (ht : (pc : Int) + off = (tgt : Int)) (kt : x ≤ y → EvF M Qf tgt L st kc ks w) (kf : ¬ x ≤ y → EvF M Qf (pc + 3) L st kc ks w) : EvF M Qf pc L (.int y :: .int x :: st) kc ks w :=
  fun z b G cA p l e s m args below meth c H locs ls C hw hL => lv_icmp_le C.1 C.2.1 d ht (fun q => kt q z b G cA p l e s m args below meth c H locs ls C hw hL) (fun q => kf q z b G cA p l e s m args below meth c H locs ls C hw hL)
end RU
