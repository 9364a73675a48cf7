/-! THE LAW: pages in two trees -/
/-- a view's tree has each page once -/
theorem g_one {N : Nat} {σ : SS} (h : gI N σ) {i : Int32} {x : RS3} (hv : gV σ i = some x) {d : Nat} (hr : rt (gT σ) (gU σ) d x.2.1) : ∀ q, wsm (gT σ) (dl q) d x.2.1 ≤ 1 := by
  obtain ⟨K, W, T, c, b, so, rd, s, sw⟩ := σ
  have h : AI N K W T c b so rd s sw := h
  have fin : ∀ y : RS3, y = x → oR T K y → ∀ q, wsm T (dl q) d x.2.1 ≤ 1 := fun y e hy q => by
    subst e
    obtain ⟨d', a1, a2, -⟩ := hy
    have e2 : d = d' := rt_un hr (sb_dpt (rt_sb a1).1)
    subst e2
    exact a2 q
  obtain ⟨hK, ⟨o1, o2, o3⟩, h7, hb, hs, hsl⟩ := h
  rcases vw_some hv with ⟨-, ⟨-, e⟩ | hx⟩ | ⟨-, j, hj, -, hx⟩
  · exact fin c e.symm o1
  · obtain ⟨⟨d', g, -⟩, -⟩ := hb.2 x hx
    have e2 : d = d' := rt_un hr (sb_dpt (rt_sb g.1).1)
    subst e2
    exact g.2.1
  · exact fin x rfl (o3 j x hj hx)
/-- how many pages are in both lists -/
def shN (A B : List Nat) : Nat := sumT (fun q => if q ∈ A ∧ q ∈ B then 1 else 0) 768
theorem shN_comm (A B : List Nat) : shN A B = shN B A := sumT_cg (fun q _ => by
  by_cases h : q ∈ A ∧ q ∈ B
  · rw [if_pos h, if_pos ⟨h.2, h.1⟩]
  · rw [if_neg h, if_neg (fun h2 => h ⟨h2.2, h2.1⟩)])
theorem cmk_shN {mk : Nat → Int32} {A B : List Nat} (hA : ∀ q ∈ A, q < 720) (hB : ∀ q ∈ B, q < 720) (h1 : ∀ q, smN (dl q) B ≤ 1) : cmk (mkF (zr mk 800) A) B = shN A B := by
  rw [cmk_sum, smN_sum _ 768 (fun q hq => by have := hB q hq; omega)]
  refine sumT_cg (fun q hq => ?_)
  rw [smN_dl (h1 q)]
  by_cases hb : q ∈ B
  · rw [if_pos hb]
    unfold mkW mkF
    by_cases ha : q ∈ A
    · rw [if_pos ha, if_neg (by decide), if_pos ⟨ha, hb⟩]
    · rw [if_neg ha, if_pos (show zr mk 800 q = 0 from if_pos (by omega)), if_neg (fun h => ha h.1)]
  · rw [if_neg hb, if_neg (fun h => hb h.2), Nat.zero_mul]
section SHA
variable {N : Nat} {σ : SS} {tl : List mC} {w : mW} {cc g : Nat → Int64} {ep is f : Nat → Int32}
theorem bfs_720 (h : gI N σ) {d p : Nat} (hr : rt (gT σ) (gU σ) d p) : ∀ q ∈ bfs (gT σ) d [p], q < 720 := fun q hq => h.2.2.1 q (bfs_U d [p] (fun p hp => by rw [List.mem_singleton.mp hp]; exact hr) q hq).1
theorem r_shared (h : CG N σ tl w) {i j : Int32} {x y : RS3} (hv : gV σ i = some x) (hv2 : gV σ j = some y) {d1 d2 : Nat} (h1 : rt (gT σ) (gU σ) d1 x.2.1) (hl1 : (bfs (gT σ) d1 [x.2.1]).length ≤ 99) (h2 : rt (gT σ) (gU σ) d2 y.2.1) (hl2 : (bfs (gT σ) d2 [y.2.1]).length ≤ 99) : ∃ w', CG N σ tl w' ∧ EvS m_L_shared [.ref 0, .int i, .int j] w (.inl (some (.int (nI (shN (bfs (gT σ) d1 [x.2.1]) (bfs (gT σ) d2 [y.2.1])))))) w' := by
  have h0 := cg_0 h
  have hI := cg_I h
  obtain ⟨cu, ba, r0, r1, r2, r3, bt, cnt, inn, lk, wd, kp, wr, mk, ls, pth, tk, hA, hC, hS, rfl⟩ := h
  obtain ⟨u1, u2, e1⟩ := s_shared (sl := (nI (gS σ))) (cu := cu) (ba := ba) (r0 := r0) (r1 := r1) (r2 := r2) (r3 := r3) (sw := (gD σ)) (bt := bt) (cnt := cnt) (inn := inn) (lk := lk) (wd := wd) (kp := kp) (wr := wr) (mk := mk) (ls := ls) (pth := pth) (tk := tk) (tl := tl) hS hC.1 hv hv2 h1 (by omega) h2 (by omega)
  rw [cmk_shN (bfs_720 hI h1) (bfs_720 hI h2) (fun q => by rw [bfs_sum1]; exact g_one hI hv2 h2 q)] at e1
  exact ⟨_, ⟨cu, ba, r0, r1, r2, r3, bt, cnt, inn, lk, wd, kp, wr, u1, u2, pth, tk, hA, hC, hS, rfl⟩, w_shared h0 e1⟩
theorem r_sharedT2 (h : CG N σ tl w) {i j : Int32} {x : RS3} (hv : gV σ i = some x) (hv2 : gV σ j = none) : EvS m_L_shared [.ref 0, .int i, .int j] w (.inl (some (.int (-1000001)))) w := by
  have h0 := cg_0 h
  obtain ⟨cu, ba, r0, r1, r2, r3, bt, cnt, inn, lk, wd, kp, wr, mk, ls, pth, tk, hA, hC, hS, rfl⟩ := h
  exact w_shared_T1 h0 (s_sharedT2 hS hv hv2)
abbrev TL8 (cc : Nat → Int64) (ep is f : Nat → Int32) (g : Nat → Int64) (a : Nat → Int32) (b c : Nat → Int64) : List mC := [lA 24 cc, iA 8 ep, iA 8 is, iA 64 f, lA 12 g, iA 64 a, lA 12 b, lA 12 c]
theorem tl8_ok {a : Nat → Int32} {b c : Nat → Int64} (m : Nat) : ∀ e ∈ TL8 cc ep is f g a b c, cOk m e := fun e he => by
  simp only [TL8, List.mem_cons, List.not_mem_nil, or_false] at he
  rcases he with rfl | rfl | rfl | rfl | rfl | rfl | rfl | rfl <;> exact trivial
/-- the bits in both sets, block by block -/
theorem blk (one two : Nat → Int64) (k : Nat) : sumT (fun q => if (mb one q && mb two q) = true then 1 else 0) (64 * (k + 1)) = sumT (fun q => if (mb one q && mb two q) = true then 1 else 0) (64 * k) + popN (one k &&& two k) 64 := by
  rw [Nat.mul_succ, sumT_add, pop_sum]
  congr 1
  refine sumT_cg (fun j hj => ?_)
  unfold mb
  rw [show (64 * k + j) / 64 = k by omega, show (64 * k + j) % 64 = j by omega, lb_and]
theorem shares_loop {Qf : mQ} {v1 v2 : Int32} {a : Nat → Int32} {one two : Nat → Int64} {kc ks : Nat} (C : CG N σ (TL8 cc ep is f g a one two) w)
    (k : EvF m_L_shares Qf 87 [.ref 0, .int v1, .int v2, .ref 26, .ref 27, .ref 28, .int (nI (sumT (fun q => if (mb one q && mb two q) = true then 1 else 0) 768)), .int (nI 12)] [] kc ks w) (hkc : kc ≤ 2300) (hks : ks ≤ 14000) :
    ∀ m n, n + m = 12 → EvF m_L_shares Qf 55 [.ref 0, .int v1, .int v2, .ref 26, .ref 27, .ref 28, .int (nI (sumT (fun q => if (mb one q && mb two q) = true then 1 else 0) (64 * n))), .int (nI n)] [] kc ks w
  | 0, n, hn => by
    have hn : n = 12 := by omega
    subst hn
    refine ev_iload (pc := 55) dL_shares_55 rfl ?_
    refine ev_bipush (pc := 57) (v := 12) dL_shares_57 (by decide) ?_
    refine ev_ic_ge (pc := 59) (tgt := 87) dL_shares_59 (by decide) (fun _ => ?_) (fun c_59 => absurd (by decide) c_59)
    exact k
  | m + 1, n, hn => by
    have h27 : w[27]? = some (lA 12 one) := cg_at C (j := 6) rfl
    have h28 : w[28]? = some (lA 12 two) := cg_at C (j := 7) rfl
    have hb := blk one two n
    have ih := shares_loop C k hkc hks m (n + 1) (by omega)
    rw [hb, ← nI_add] at ih
    refine ev_iload (pc := 55) dL_shares_55 rfl ?_
    refine ev_bipush (pc := 57) (v := 12) dL_shares_57 (by decide) ?_
    refine ev_ic_ge (pc := 59) (tgt := 87) dL_shares_59 (by decide) (fun c_59 => absurd c_59 (nI_ge (show n < 12 by omega) (by decide))) (fun _ => ?_)
    refine ev_iload (pc := 62) dL_shares_62 rfl ?_
    refine ev_aload (pc := 64) dL_shares_64 rfl ?_
    refine ev_iload (pc := 66) dL_shares_66 rfl ?_
    refine ev_laldN (pc := 68) dL_shares_68 h27 ⟨(show _ = nI n from rfl), by omega, by decide⟩ rfl ?_
    refine ev_aload (pc := 69) dL_shares_69 rfl ?_
    refine ev_iload (pc := 71) dL_shares_71 rfl ?_
    refine ev_laldN (pc := 73) dL_shares_73 h28 ⟨(show _ = nI n from rfl), by omega, by decide⟩ rfl ?_
    refine ev_land (pc := 74) dL_shares_74 rfl ?_
    refine cS1 (pc := 75) lk_L_shares_75 (Nat.le_of_ble_eq_true rfl) ⟨(show kc + 0 ≤ 2300 by omega), (show ks + 0 ≤ 14000 by omega)⟩ r_bits ?_
    refine ev_widen (k2 := kc + 0) (s2 := ks + 0) (show kc + 0 ≤ kc + 0 by omega) (show ks + 0 ≤ ks + 0 by omega) ?_
    refine ev_iadd (pc := 78) dL_shares_78 ?_
    refine ev_istore (pc := 79) dL_shares_79 rfl rfl ?_
    refine ev_iinc (pc := 81) dL_shares_81 rfl rfl rfl ?_
    refine ev_goto (pc := 84) (tgt := 55) dL_shares_84 (by decide) ?_
    rw [nI_i1]
    exact ih
theorem r_shares (h : CG N σ (TL cc ep is f g) w) {v1 v2 : Int32} {x y : RS3} {t1 t2 : Nat → Nat} (hv : gV σ v1 = some x) (hv2 : gV σ v2 = some y) (hL1 : cN (gT σ) x.2.1 (ct t1)) (hL2 : cN (gT σ) y.2.1 (ct t2)) : ∃ w', CG N σ (TL cc ep is f g) w' ∧ EvS m_L_shares [.ref 0, .int v1, .int v2] w (.inl (some (.int 1))) w' := by
  have hI := cg_I h
  obtain ⟨d1, a1, a2, a3, a4, a5, a6, a7, a8⟩ := g_view hI hv hL1
  obtain ⟨d2, b1, b2, b3, b4, b5, b6, b7, b8⟩ := g_view hI hv2 hL2
  have hlen : w.length = 26 := cg_len h
  have C0 : CG N σ (TL8 cc ep is f g (fun _ => 0) (fun _ => 0) (fun _ => 0)) (((w ++ [iA 64 (fun _ => 0)]) ++ [lA 12 (fun _ => 0)]) ++ [lA 12 (fun _ => 0)]) := cg_app (cg_app (cg_app h _) _) _
  have hl0 := cg_len C0
  have e1 := r_walks C0 (pf := 26) (pm := 27) ⟨by decide, by decide, by decide, by rw [hl0]; show 26 < 29; decide, by rw [hl0]; show 27 < 29; decide⟩ (n := _) rfl (cg_at C0 (j := 5) rfl) (cg_at C0 (j := 6) rfl) (fun m _ => tl8_ok m) a1 a3 (ctL_srt _ _) (ct_100 _) (ctL_len _ _)
  have C1 : CG N σ (TL8 cc ep is f g (fF (fun _ => 0) (ct t1)) ((bfs (gT σ) d1 [x.2.1]).foldl mkB (fun _ => 0)) (fun _ => 0)) _ := cg_set (cg_set C0 (j := 5) (x := iA 64 (fF (fun _ => 0) (ct t1)))) (j := 6) (x := lA 12 ((bfs (gT σ) d1 [x.2.1]).foldl mkB (fun _ => 0)))
  have hl1 := cg_len C1
  have e2 := r_walks C1 (pf := 26) (pm := 28) ⟨by decide, by decide, by decide, by rw [hl1]; show 26 < 29; decide, by rw [hl1]; show 28 < 29; decide⟩ (n := _) rfl (cg_at C1 (j := 5) rfl) (cg_at C1 (j := 7) rfl) (fun m _ => tl8_ok m) b1 b3 (ctL_srt _ _) (ct_100 _) (ctL_len _ _)
  have C2 : CG N σ (TL8 cc ep is f g (fF (fF (fun _ => 0) (ct t1)) (ct t2)) ((bfs (gT σ) d1 [x.2.1]).foldl mkB (fun _ => 0)) ((bfs (gT σ) d2 [y.2.1]).foldl mkB (fun _ => 0))) _ := cg_set (cg_set C1 (j := 5) (x := iA 64 (fF (fF (fun _ => 0) (ct t1)) (ct t2)))) (j := 7) (x := lA 12 ((bfs (gT σ) d2 [y.2.1]).foldl mkB (fun _ => 0)))
  obtain ⟨w3, C3, e3⟩ := r_shared C2 hv hv2 a1 a7 b1 b7
  obtain ⟨w4, C4, e4⟩ := r_shared C3 hv2 hv b1 b7 a1 a7
  rw [shN_comm] at e4
  obtain ⟨w', hw4, C5⟩ := cg_cut (tl := TL cc ep is f g) (t := [iA 64 (fF (fF (fun _ => 0) (ct t1)) (ct t2)), lA 12 ((bfs (gT σ) d1 [x.2.1]).foldl mkB (fun _ => 0)), lA 12 ((bfs (gT σ) d2 [y.2.1]).foldl mkB (fun _ => 0))]) C4
  have hl5 : w'.length = 26 := cg_len C5
  have hz : ∀ q, mb (fun _ => (0 : Int64)) q = false := fun q => by
    unfold mb lb
    rw [show (0 : Int64).toBitVec = 0#64 from rfl, BitVec.getLsbD_zero]
  have hsum : sumT (fun q => if (mb ((bfs (gT σ) d1 [x.2.1]).foldl mkB (fun _ => 0)) q && mb ((bfs (gT σ) d2 [y.2.1]).foldl mkB (fun _ => 0)) q) = true then 1 else 0) 768 = shN (bfs (gT σ) d1 [x.2.1]) (bfs (gT σ) d2 [y.2.1]) := sumT_cg (fun q _ => by
    rw [mb_fold, mb_fold, hz, Bool.or_false, Bool.or_false, ← Bool.decide_and]
    by_cases hq : q ∈ bfs (gT σ) d1 [x.2.1] ∧ q ∈ bfs (gT σ) d2 [y.2.1]
    · rw [if_pos hq, if_pos (decide_eq_true hq)]
    · rw [if_neg hq, if_neg (by rw [decide_eq_false hq]; decide)])
  have hok : ∀ n, 26 ≤ n → mQok (mQm m_L_shares (.inl (some (.int 1))) w') n := fun n hn => mQok_m (by omega) (cg_wf C5 (by omega) (tl_ok n)) rfl
  have hw1 : wOk 27 (w ++ [iA 64 (fun _ => 0)]) := cg_wf (cg_app h [iA 64 (fun _ => 0)]) (by decide) (fun e he => (List.mem_append.mp he).elim (tl_ok 27 e) (fun he => by rw [List.mem_singleton.mp he]; exact trivial))
  have hw2 : wOk 28 ((w ++ [iA 64 (fun _ => 0)]) ++ [lA 12 (fun _ => 0)]) := cg_wf (cg_app (cg_app h [iA 64 (fun _ => 0)]) [lA 12 (fun _ => 0)]) (by decide) (fun e he => by
    rcases List.mem_append.mp he with he | he
    · exact (List.mem_append.mp he).elim (tl_ok 28 e) (fun he => by rw [List.mem_singleton.mp he]; exact trivial)
    · rw [List.mem_singleton.mp he]; exact trivial)
  refine ⟨w', C5, ?_⟩
  refine evs_of (by decide +kernel) (Nat.le_of_ble_eq_true rfl) (by decide) rfl ?_
  refine ev_bipush (pc := 0) (v := 64) dL_shares_0 (by decide) ?_
  refine ev_naIF (pc := 2) (N := 64) (n := 26) dL_shares_2 rfl (Nat.le_of_ble_eq_true rfl) rfl hlen (cg_wf h (by decide) (tl_ok 26)) rfl rfl (hok 26 (by decide)) ⟨Nat.le_of_ble_eq_true rfl, Nat.le_of_ble_eq_true rfl⟩ rfl ?_
  refine ev_astore_n (pc := 4) dL_shares_4 rfl rfl rfl ?_
  refine ev_bipush (pc := 5) (v := 12) dL_shares_5 (by decide) ?_
  refine ev_naLF (pc := 7) (N := 12) (n := 27) dL_shares_7 rfl (Nat.le_of_ble_eq_true rfl) rfl (by rw [List.length_append, hlen]; rfl) hw1 rfl rfl (hok 27 (by decide)) ⟨Nat.le_of_ble_eq_true rfl, Nat.le_of_ble_eq_true rfl⟩ rfl ?_
  refine ev_astore (pc := 9) dL_shares_9 rfl rfl ?_
  refine ev_bipush (pc := 11) (v := 12) dL_shares_11 (by decide) ?_
  refine ev_naLF (pc := 13) (N := 12) (n := 28) dL_shares_13 rfl (Nat.le_of_ble_eq_true rfl) rfl (by rw [List.length_append, List.length_append, hlen]; rfl) hw2 rfl rfl (hok 28 (by decide)) ⟨Nat.le_of_ble_eq_true rfl, Nat.le_of_ble_eq_true rfl⟩ rfl ?_
  refine ev_astore (pc := 15) dL_shares_15 rfl rfl ?_
  refine ev_aload_n (pc := 17) dL_shares_17 rfl rfl ?_
  refine ev_aload_n (pc := 18) dL_shares_18 rfl rfl ?_
  refine ev_iload_n (pc := 19) dL_shares_19 rfl rfl ?_
  refine cX2 (pc := 20) lk_L_shares_20 (Nat.le_of_ble_eq_true rfl) ⟨Nat.le_of_ble_eq_true rfl, Nat.le_of_ble_eq_true rfl⟩ (r_rootOf C0 hv) ?_
  refine ev_aload_n (pc := 23) dL_shares_23 rfl rfl ?_
  refine ev_aload (pc := 24) dL_shares_24 rfl ?_
  refine cS4 (pc := 26) lk_L_shares_26 (Nat.le_of_ble_eq_true rfl) ⟨Nat.le_of_ble_eq_true rfl, Nat.le_of_ble_eq_true rfl⟩ e1 ?_
  refine ev_if_eq (pc := 29) (tgt := 47) dL_shares_29 (by decide) (fun c_29 => absurd c_29 (nI_ne0 (by omega) (by omega))) (fun _ => ?_)
  refine ev_aload_n (pc := 32) dL_shares_32 rfl rfl ?_
  refine ev_aload_n (pc := 33) dL_shares_33 rfl rfl ?_
  refine ev_iload_n (pc := 34) dL_shares_34 rfl rfl ?_
  refine cX2 (pc := 35) lk_L_shares_35 (Nat.le_of_ble_eq_true rfl) ⟨Nat.le_of_ble_eq_true rfl, Nat.le_of_ble_eq_true rfl⟩ (r_rootOf C1 hv2) ?_
  refine ev_aload_n (pc := 38) dL_shares_38 rfl rfl ?_
  refine ev_aload (pc := 39) dL_shares_39 rfl ?_
  refine cS4 (pc := 41) lk_L_shares_41 (Nat.le_of_ble_eq_true rfl) ⟨Nat.le_of_ble_eq_true rfl, Nat.le_of_ble_eq_true rfl⟩ e2 ?_
  refine ev_if_ne (pc := 44) (tgt := 49) dL_shares_44 (by decide) (fun _ => ?_) (fun c_44 => absurd c_44 (nI_ne0 (by omega) (by omega)))
  refine ev_iconst (pc := 49) (v := 0) dL_shares_49 (by decide) ?_
  refine ev_istore (pc := 50) dL_shares_50 rfl rfl ?_
  refine ev_iconst (pc := 52) (v := 0) dL_shares_52 (by decide) ?_
  refine ev_istore (pc := 53) dL_shares_53 rfl rfl ?_
  refine shares_loop C2 ?_ (Nat.le_of_ble_eq_true rfl) (Nat.le_of_ble_eq_true rfl) 12 0 (by omega)
  rw [hsum]
  refine ev_aload_n (pc := 87) dL_shares_87 rfl rfl ?_
  refine ev_iload_n (pc := 88) dL_shares_88 rfl rfl ?_
  refine ev_iload_n (pc := 89) dL_shares_89 rfl rfl ?_
  refine cX3 (pc := 90) lk_L_shares_90 (Nat.le_of_ble_eq_true rfl) ⟨Nat.le_of_ble_eq_true rfl, Nat.le_of_ble_eq_true rfl⟩ e3 ?_
  refine ev_iload (pc := 93) dL_shares_93 rfl ?_
  refine ev_ic_ne (pc := 95) (tgt := 113) dL_shares_95 (by decide) (fun c_95 => absurd rfl c_95) (fun _ => ?_)
  refine ev_aload_n (pc := 98) dL_shares_98 rfl rfl ?_
  refine ev_iload_n (pc := 99) dL_shares_99 rfl rfl ?_
  refine ev_iload_n (pc := 100) dL_shares_100 rfl rfl ?_
  refine cX3 (pc := 101) lk_L_shares_101 (Nat.le_of_ble_eq_true rfl) ⟨Nat.le_of_ble_eq_true rfl, Nat.le_of_ble_eq_true rfl⟩ e4 ?_
  refine ev_iload (pc := 104) dL_shares_104 rfl ?_
  refine ev_ic_ne (pc := 106) (tgt := 113) dL_shares_106 (by decide) (fun c_106 => absurd rfl c_106) (fun _ => ?_)
  refine ev_iconst (pc := 109) (v := 1) dL_shares_109 (by decide) ?_
  refine ev_goto (pc := 110) (tgt := 114) dL_shares_110 (by decide) ?_
  refine ev_dropG hw4 ?_
  exact ev_zretE (pc := 114) dL_shares_114 rfl ⟨Nat.le_of_ble_eq_true rfl, Nat.le_of_ble_eq_true rfl⟩ (Or.inr rfl) rfl rfl
end SHA
