/-! THE LAW: what is left behind a crash; slots torn; readers -/
abbrev T3 (cc : Nat → Int64) (ep is : Nat → Int32) : List mC := [lA 24 cc, iA 8 ep, iA 8 is]
theorem CG.mono {N M : Nat} {σ : SS} {tl : List mC} {w : mW} (hN : N ≤ M) (h : CG N σ tl w) : CG M σ tl w := by
  obtain ⟨cu, ba, r0, r1, r2, r3, bt, cnt, inn, lk, wd, kp, wr, mk, ls, pth, tk, hA, hC, hS, rfl⟩ := h
  exact ⟨cu, ba, r0, r1, r2, r3, bt, cnt, inn, lk, wd, kp, wr, mk, ls, pth, tk, ai_mono hN hA, hC, hS, rfl⟩
theorem st_mv {σ σ' : SS} {cc cc' : Nat → Int64} {ep ep' : Nat → Int32} {j j' : Nat} {x : RS3} (h : stI σ cc ep j x) (hT : ∀ L, cN (gT σ) x.2.1 L → cN (gT σ') x.2.1 L) (hc : ∀ i, i < 32 → tn cc' j' i = tn cc j i) (he : ep' j' = ep j) : stI σ' cc' ep' j' x := by
  obtain ⟨h1, h2⟩ := h
  refine ⟨?_, he.trans h2⟩
  rw [show ct (tn cc' j') = ct (tn cc j) from ctL_cg hc]
  exact hT _ h1
theorem ob_mv {σ σ' : SS} {cc cc' : Nat → Int64} {ep ep' is is' : Nat → Int32} {j : Nat} {o : Option RS3} (h : obI σ cc ep is j o) (hT : ∀ x, o = some x → ∀ L, cN (gT σ) x.2.1 L → cN (gT σ') x.2.1 L) (hc : ∀ i, i < 32 → tn cc' j i = tn cc j i) (he : ep' j = ep j) (hi : is' j = is j) : obI σ' cc' ep' is' j o := by
  cases o with
  | none => exact hi.trans h
  | some x => exact ⟨hi.trans h.1, st_mv h.2 (hT x rfl) hc he⟩
/-- with the same trees -/
theorem ob_T {σ σ' : SS} {cc cc' : Nat → Int64} {ep ep' is is' : Nat → Int32} {j : Nat} {o : Option RS3} (h : obI σ cc ep is j o) (hT : gT σ' = gT σ) (hc : ∀ i, i < 32 → tn cc' j i = tn cc j i) (he : ep' j = ep j) (hi : is' j = is j) : obI σ' cc' ep' is' j o := ob_mv h (fun x _ L hL => by rw [hT]; exact hL) hc he hi
theorem st_T {σ σ' : SS} {cc cc' : Nat → Int64} {ep ep' : Nat → Int32} {j j' : Nat} {x : RS3} (h : stI σ cc ep j x) (hT : gT σ' = gT σ) (hc : ∀ i, i < 32 → tn cc' j' i = tn cc j i) (he : ep' j' = ep j) : stI σ' cc' ep' j' x := st_mv h (fun L hL => by rw [hT]; exact hL) hc he
section MV
variable {N : Nat} {σ : SS} {w : mW} {cc : Nat → Int64} {ep is : Nat → Int32}
theorem t3_c (h : CG N σ (T3 cc ep is) w) : w[21]? = some (lA 24 cc) := cg_at h (j := 0) rfl
theorem t3_e (h : CG N σ (T3 cc ep is) w) : w[22]? = some (iA 8 ep) := cg_at h (j := 1) rfl
theorem t3_i (h : CG N σ (T3 cc ep is) w) : w[23]? = some (iA 8 is) := cg_at h (j := 2) rfl
theorem t3_sc (h : CG N σ (T3 cc ep is) w) (cc' : Nat → Int64) : CG N σ (T3 cc' ep is) (w.set 21 (lA 24 cc')) := cg_set h (j := 0) (x := lA 24 cc')
theorem t3_se (h : CG N σ (T3 cc ep is) w) (ep' : Nat → Int32) : CG N σ (T3 cc ep' is) (w.set 22 (iA 8 ep')) := cg_set h (j := 1) (x := iA 8 ep')
theorem t3_si (h : CG N σ (T3 cc ep is) w) (is' : Nat → Int32) : CG N σ (T3 cc ep is') (w.set 23 (iA 8 is')) := cg_set h (j := 2) (x := iA 8 is')
def isz (is : Nat → Int32) (n : Nat) : Nat → Int32 := fun j => if 1 ≤ j ∧ j < n then 0 else is j
theorem isz_1 (is : Nat → Int32) : isz is 1 = is := by
  funext j
  unfold isz
  rw [if_neg (by omega)]
theorem isz_s (is : Nat → Int32) {n : Nat} (hn : 1 ≤ n) : upd (isz is n) n 0 = isz is (n + 1) := by
  funext j
  unfold upd isz
  by_cases h : j = n
  · subst h
    rw [if_pos rfl, if_pos (by omega)]
  · rw [if_neg h]
    by_cases h2 : 1 ≤ j ∧ j < n
    · rw [if_pos h2, if_pos (by omega)]
    · rw [if_neg h2, if_neg (by omega)]
theorem wakes_loop {Qf : mQ} {v1 : Value} {v5 : Int32} {kc ks : Nat} (h23 : 23 < w.length) (k : EvF m_L_wakes Qf 68 [.ref 0, v1, .ref 21, .ref 22, .ref 23, .int v5, .int (nI 6)] [] kc ks (w.set 23 (iA 8 (isz is 6)))) : ∀ m n, n + m = 6 → 1 ≤ n → EvF m_L_wakes Qf 49 [.ref 0, v1, .ref 21, .ref 22, .ref 23, .int v5, .int (nI n)] [] kc ks (w.set 23 (iA 8 (isz is n)))
  | 0, n, hn, h1 => by
    have hn : n = 6 := by omega
    subst hn
    refine ev_iload (pc := 49) dL_wakes_49 rfl ?_
    refine ev_bipush (pc := 51) (v := 6) dL_wakes_51 (by decide) ?_
    refine ev_ic_ge (pc := 53) (tgt := 68) dL_wakes_53 (by decide) (fun _ => ?_) (fun c_53 => absurd (by decide) c_53)
    exact k
  | m + 1, n, hn, h1 => by
    have e1 : (w.set 23 (iA 8 (isz is n)))[23]? = some (iA 8 (isz is n)) := List.getElem?_set_self h23
    refine ev_iload (pc := 49) dL_wakes_49 rfl ?_
    refine ev_bipush (pc := 51) (v := 6) dL_wakes_51 (by decide) ?_
    refine ev_ic_ge (pc := 53) (tgt := 68) dL_wakes_53 (by decide) (fun c_53 => absurd c_53 (nI_ge (show n < 6 by omega) (by decide))) (fun _ => ?_)
    refine ev_aload (pc := 56) dL_wakes_56 rfl ?_
    refine ev_iload (pc := 58) dL_wakes_58 rfl ?_
    refine ev_iconst (pc := 60) (v := 0) dL_wakes_60 (by decide) ?_
    refine ev_iastN (pc := 61) dL_wakes_61 e1 ⟨(show _ = nI n from rfl), by omega, by decide⟩ (isz_s is h1) (List.set_set ..) ?_
    refine ev_iinc (pc := 62) dL_wakes_62 rfl rfl rfl ?_
    refine ev_goto (pc := 65) (tgt := 49) dL_wakes_65 (by decide) ?_
    rw [nI_i1]
    exact wakes_loop h23 k m (n + 1) (by omega) (by omega)
theorem r_wakes (C : CG N σ (T3 cc ep is) w) (hN : N ≤ 600) (hs2 : gS σ < 2) (hlat : lat (gO σ) (gS σ)) (hx : gO σ (gS σ) = some (gC σ)) (hb : gB σ = none) (hR : gR σ = noR) (hO : ∀ t, t < 2 → obI σ cc ep is (6 + t) (gO σ t)) : ∃ (w' : mW) (cc' : Nat → Int64) (ep' is' : Nat → Int32), CG N σ (T3 cc' ep' is') w' ∧ LI σ cc' ep' is' ∧ EvS m_L_wakes [.ref 0, .int (nI (gC σ).1), .ref 21, .ref 22, .ref 23] w (.inl (some (.int 1))) w' := by
  have hlen : w.length = 24 := cg_len C
  obtain ⟨hi, hcn, hep⟩ := ob_s (hO (gS σ) hs2) hx
  have ecp := r_copies (w := w) (p := 21) (pe := 22) (a := 6 + gS σ) (b := 0) (t3_c C) (by decide) (t3_e C) (by omega) (by decide) (by omega)
  have C1 := t3_se (t3_sc C (cpP cc (6 + gS σ) 0 3)) (upd ep 0 (ep (6 + gS σ)))
  have C2 := t3_si C1 (isz is 6)
  have hlen1 : ((w.set 21 (lA 24 (cpP cc (6 + gS σ) 0 3))).set 22 (iA 8 (upd ep 0 (ep (6 + gS σ))))).length = 24 := by simp [hlen]
  have e1 : ((w.set 21 (lA 24 (cpP cc (6 + gS σ) 0 3))).set 22 (iA 8 (upd ep 0 (ep (6 + gS σ))))).set 23 (iA 8 (isz is 1)) = (w.set 21 (lA 24 (cpP cc (6 + gS σ) 0 3))).set 22 (iA 8 (upd ep 0 (ep (6 + gS σ)))) := by
    rw [isz_1]
    obtain ⟨hh, hy⟩ := List.getElem_of_getElem? (t3_i C1)
    rw [← hy, List.set_getElem_self]
  have iz0 : ∀ j, 1 ≤ j → j < 6 → isz is 6 j = 0 := fun j h1 h2 => if_pos ⟨h1, h2⟩
  have izs : ∀ j, 6 ≤ j → isz is 6 j = is j := fun j h1 => if_neg (by omega)
  refine ⟨_, _, _, _, C2, ⟨⟨?_, ?_⟩, ?_, fun k hk => ?_, fun t ht => ?_⟩, ?_⟩
  · rw [show ct (tn (cpP cc (6 + gS σ) 0 3) 0) = ct (tn cc (6 + gS σ)) from ctL_cg (fun i hi => by rw [tn_cp (by omega), if_pos rfl])]
    exact hcn
  · rw [pk_us]
    exact hep
  · rw [hb]
    exact iz0 1 (by decide) (by decide)
  · rw [hR]
    exact iz0 (2 + k) (by omega) (by omega)
  · refine ob_T (hO t ht) rfl (fun i hi => by rw [tn_cp (by omega), if_neg (by omega)]) (pk_un (by omega)) (izs _ (by omega))
  obtain ⟨fs, hfs⟩ := cg_0 C2
  have fin : ∀ v6 : Value, EvF m_L_wakes (mQm m_L_wakes (.inl (some (.int 1))) (((w.set 21 (lA 24 (cpP cc (6 + gS σ) 0 3))).set 22 (iA 8 (upd ep 0 (ep (6 + gS σ))))).set 23 (iA 8 (isz is 6)))) 33 [.ref 0, .int (nI (gC σ).1), .ref 21, .ref 22, .ref 23, hole, v6] [.int (nI (gS σ))] 0 0 w := fun v6 => by
    refine ev_istore (pc := 33) dL_wakes_33 rfl rfl ?_
    refine ev_aload_n (pc := 35) dL_wakes_35 rfl rfl ?_
    refine ev_aload_n (pc := 36) dL_wakes_36 rfl rfl ?_
    refine ev_bipush (pc := 37) (v := 6) dL_wakes_37 (by decide) ?_
    refine ev_iload (pc := 39) dL_wakes_39 rfl ?_
    refine ev_iadd (pc := 41) dL_wakes_41 ?_
    rw [show (6 : Int32) = nI 6 from rfl, nI_add]
    refine ev_iconst (pc := 42) (v := 0) dL_wakes_42 (by decide) ?_
    refine cS4 (pc := 43) lk_L_wakes_43 (Nat.le_of_ble_eq_true rfl) ⟨Nat.le_of_ble_eq_true rfl, Nat.le_of_ble_eq_true rfl⟩ ecp ?_
    refine ev_iconst (pc := 46) (v := 1) dL_wakes_46 (by decide) ?_
    refine ev_istore (pc := 47) dL_wakes_47 rfl rfl ?_
    have h9 := fun Qf v1 v5 kc ks k => wakes_loop (Qf := Qf) (w := (w.set 21 (lA 24 (cpP cc (6 + gS σ) 0 3))).set 22 (iA 8 (upd ep 0 (ep (6 + gS σ))))) (is := is) (v1 := v1) (v5 := v5) (kc := kc) (ks := ks) (by omega) k 5 1 (by omega) (by omega)
    rw [e1] at h9
    refine h9 _ _ _ _ _ ?_
    refine ev_iload_n (pc := 68) dL_wakes_68 rfl rfl ?_
    refine ev_aload_n (pc := 69) dL_wakes_69 rfl rfl ?_
    refine ev_iconst (pc := 70) (v := 0) dL_wakes_70 (by decide) ?_
    refine ev_ialdN (pc := 71) dL_wakes_71 (t3_e C2) ⟨(show _ = nI 0 from rfl), by decide, by decide⟩ pk_us ?_
    refine ev_ic_ne (pc := 72) (tgt := 88) dL_wakes_72 (by decide) (fun c_72 => absurd hep.symm c_72) (fun _ => ?_)
    refine ev_aload_n (pc := 75) dL_wakes_75 rfl rfl ?_
    refine cV0 (pc := 76) lk_L_wakes_76 hfs rfl rfl (Nat.le_of_ble_eq_true rfl) ⟨Nat.le_of_ble_eq_true rfl, Nat.le_of_ble_eq_true rfl⟩ (r_curSlot C2) ?_
    refine ev_iload (pc := 79) dL_wakes_79 rfl ?_
    refine ev_ic_ne (pc := 81) (tgt := 88) dL_wakes_81 (by decide) (fun c_81 => absurd rfl c_81) (fun _ => ?_)
    refine ev_iconst (pc := 84) (v := 1) dL_wakes_84 (by decide) ?_
    refine ev_goto (pc := 85) (tgt := 89) dL_wakes_85 (by decide) ?_
    exact ev_zretE (pc := 89) dL_wakes_89 rfl ⟨Nat.le_of_ble_eq_true rfl, Nat.le_of_ble_eq_true rfl⟩ (by first | exact Or.inl rfl | exact Or.inr rfl | assumption | exact i10_o) rfl rfl
  have e67 : ∀ t, t < 2 → (6 + t : Nat) < 8 := fun t ht => by omega
  have b1 : ∀ x : RS3, x.1 ≤ N → x.1 < 2147483648 := fun x h => by omega
  have hle := (cg_I C).2.2.2.2.2.2.2.2.1
  have hcN := (cg_I C).2.2.2.2.2.2.2.2.2.2.2
  have s67 : ∀ t x, t < 2 → gO σ t = some x → x.1 < 2147483648 := fun t x ht hx => by have := hle t x ht hx; omega
  have o0 := hO 0 (by decide)
  have o1 := hO 1 (by decide)
  refine evs_of (by decide +kernel) (Nat.le_of_ble_eq_true rfl) (by decide) rfl ?_
  rcases hlat with ⟨h0, hs⟩ | ⟨x0, h0, ⟨x1, h1, hlt, hs⟩ | ⟨h1 | ⟨x1, h1, hge⟩, hs⟩⟩
  · have i0 := ob_n o0 h0
    rw [hs] at fin ⊢
    refine ev_aload (pc := 0) dL_wakes_0 rfl ?_
    refine ev_bipush (pc := 2) (v := 6) dL_wakes_2 (by decide) ?_
    refine ev_ialdN (pc := 4) dL_wakes_4 (t3_i C) ⟨(show _ = nI 6 from rfl), by decide, by decide⟩ i0 ?_
    refine ev_iconst (pc := 5) (v := 1) dL_wakes_5 (by decide) ?_
    refine ev_ic_ne (pc := 6) (tgt := 32) dL_wakes_6 (by decide) (fun _ => ?_) (fun c_6 => absurd c_6 (by decide))
    refine ev_iconst (pc := 32) (v := 1) dL_wakes_32 (by decide) ?_
    exact fin _
  · obtain ⟨i0, -, p0⟩ := ob_s o0 h0
    obtain ⟨i1, -, p1⟩ := ob_s o1 h1
    rw [hs] at fin ⊢
    refine ev_aload (pc := 0) dL_wakes_0 rfl ?_
    refine ev_bipush (pc := 2) (v := 6) dL_wakes_2 (by decide) ?_
    refine ev_ialdN (pc := 4) dL_wakes_4 (t3_i C) ⟨(show _ = nI 6 from rfl), by decide, by decide⟩ i0 ?_
    refine ev_iconst (pc := 5) (v := 1) dL_wakes_5 (by decide) ?_
    refine ev_ic_ne (pc := 6) (tgt := 32) dL_wakes_6 (by decide) (fun c_6 => absurd rfl c_6) (fun _ => ?_)
    refine ev_aload (pc := 9) dL_wakes_9 rfl ?_
    refine ev_bipush (pc := 11) (v := 7) dL_wakes_11 (by decide) ?_
    refine ev_ialdN (pc := 13) dL_wakes_13 (t3_i C) ⟨(show _ = nI 7 from rfl), by decide, by decide⟩ i1 ?_
    refine ev_if_eq (pc := 14) (tgt := 28) dL_wakes_14 (by decide) (fun c_14 => absurd c_14 (by decide)) (fun _ => ?_)
    refine ev_aload_n (pc := 17) dL_wakes_17 rfl rfl ?_
    refine ev_bipush (pc := 18) (v := 6) dL_wakes_18 (by decide) ?_
    refine ev_ialdN (pc := 20) dL_wakes_20 (t3_e C) ⟨(show _ = nI 6 from rfl), by decide, by decide⟩ p0 ?_
    refine ev_aload_n (pc := 21) dL_wakes_21 rfl rfl ?_
    refine ev_bipush (pc := 22) (v := 7) dL_wakes_22 (by decide) ?_
    refine ev_ialdN (pc := 24) dL_wakes_24 (t3_e C) ⟨(show _ = nI 7 from rfl), by decide, by decide⟩ p1 ?_
    refine ev_ic_lt (pc := 25) (tgt := 32) dL_wakes_25 (by decide) (fun _ => ?_) (fun c_25 => absurd (nI_lt hlt (s67 1 x1 (by decide) h1)) c_25)
    refine ev_iconst (pc := 32) (v := 1) dL_wakes_32 (by decide) ?_
    exact fin _
  · obtain ⟨i0, -, p0⟩ := ob_s o0 h0
    have i1 := ob_n o1 h1
    rw [hs] at fin ⊢
    refine ev_aload (pc := 0) dL_wakes_0 rfl ?_
    refine ev_bipush (pc := 2) (v := 6) dL_wakes_2 (by decide) ?_
    refine ev_ialdN (pc := 4) dL_wakes_4 (t3_i C) ⟨(show _ = nI 6 from rfl), by decide, by decide⟩ i0 ?_
    refine ev_iconst (pc := 5) (v := 1) dL_wakes_5 (by decide) ?_
    refine ev_ic_ne (pc := 6) (tgt := 32) dL_wakes_6 (by decide) (fun c_6 => absurd rfl c_6) (fun _ => ?_)
    refine ev_aload (pc := 9) dL_wakes_9 rfl ?_
    refine ev_bipush (pc := 11) (v := 7) dL_wakes_11 (by decide) ?_
    refine ev_ialdN (pc := 13) dL_wakes_13 (t3_i C) ⟨(show _ = nI 7 from rfl), by decide, by decide⟩ i1 ?_
    refine ev_if_eq (pc := 14) (tgt := 28) dL_wakes_14 (by decide) (fun _ => ?_) (fun c_14 => absurd rfl c_14)
    refine ev_iconst (pc := 28) (v := 0) dL_wakes_28 (by decide) ?_
    refine ev_goto (pc := 29) (tgt := 33) dL_wakes_29 (by decide) ?_
    exact fin _
  · obtain ⟨i0, -, p0⟩ := ob_s o0 h0
    obtain ⟨i1, -, p1⟩ := ob_s o1 h1
    rw [hs] at fin ⊢
    refine ev_aload (pc := 0) dL_wakes_0 rfl ?_
    refine ev_bipush (pc := 2) (v := 6) dL_wakes_2 (by decide) ?_
    refine ev_ialdN (pc := 4) dL_wakes_4 (t3_i C) ⟨(show _ = nI 6 from rfl), by decide, by decide⟩ i0 ?_
    refine ev_iconst (pc := 5) (v := 1) dL_wakes_5 (by decide) ?_
    refine ev_ic_ne (pc := 6) (tgt := 32) dL_wakes_6 (by decide) (fun c_6 => absurd rfl c_6) (fun _ => ?_)
    refine ev_aload (pc := 9) dL_wakes_9 rfl ?_
    refine ev_bipush (pc := 11) (v := 7) dL_wakes_11 (by decide) ?_
    refine ev_ialdN (pc := 13) dL_wakes_13 (t3_i C) ⟨(show _ = nI 7 from rfl), by decide, by decide⟩ i1 ?_
    refine ev_if_eq (pc := 14) (tgt := 28) dL_wakes_14 (by decide) (fun c_14 => absurd c_14 (by decide)) (fun _ => ?_)
    refine ev_aload_n (pc := 17) dL_wakes_17 rfl rfl ?_
    refine ev_bipush (pc := 18) (v := 6) dL_wakes_18 (by decide) ?_
    refine ev_ialdN (pc := 20) dL_wakes_20 (t3_e C) ⟨(show _ = nI 6 from rfl), by decide, by decide⟩ p0 ?_
    refine ev_aload_n (pc := 21) dL_wakes_21 rfl rfl ?_
    refine ev_bipush (pc := 22) (v := 7) dL_wakes_22 (by decide) ?_
    refine ev_ialdN (pc := 24) dL_wakes_24 (t3_e C) ⟨(show _ = nI 7 from rfl), by decide, by decide⟩ p1 ?_
    refine ev_ic_lt (pc := 25) (tgt := 32) dL_wakes_25 (by decide) (fun c_25 => absurd c_25 (nI_nlt hge (s67 0 x0 (by decide) h0))) (fun _ => ?_)
    refine ev_iconst (pc := 28) (v := 0) dL_wakes_28 (by decide) ?_
    refine ev_goto (pc := 29) (tgt := 33) dL_wakes_29 (by decide) ?_
    exact fin _
/-! what is in use behind a call that gives pages free -/
theorem tea_sub (h : gI N σ) {t : Nat} : ∀ q, gU (teaS σ t) q → gU σ q := fun q hq => hq.imp (rs_U h.2.1.1 (fun u x hu hx => h.2.1.2.1 u x hu (setR_no hx)) h.2.1.2.2 q) id
theorem clo_sub (h : gI N σ) {j : Nat} : ∀ q, gU (cloS σ j) q → gU σ q := fun q hq => hq.imp (rs_U h.2.1.1 h.2.1.2.1 (fun i x hi hx => h.2.1.2.2 i x hi (setR_no hx)) q) id
theorem aba_sub : ∀ q, gU (abaS σ) q → gU σ q := fun q hq => Or.inl (hq.resolve_right id)
theorem nI_bt {a b : Nat} (h : b ≤ a) : nI a - (nI a - nI b) = nI b := by
  rw [pk_sub h, pk_sub (by omega)]
  congr 1
  omega
theorem r_tears (C : CG N σ (T3 cc ep is) w) (hN : N ≤ 600) (hI : LI σ cc ep is) {t : Nat} (ht : t < 2) : ∃ (σ' : SS) (w' : mW) (is' : Nat → Int32), CG N σ' (T3 cc ep is') w' ∧ LI σ' cc ep is' ∧ EvS m_L_tears [.ref 0, .int (nI t), .ref 23] w (.inl (some (.int 1))) w' := by
  obtain ⟨n1, h1⟩ := cntR_ex (gU σ) 800
  obtain ⟨fs, hfs⟩ := cg_0 C
  have e7 : (7 : Int32) - nI t = nI (6 + (1 - t)) := by
    rw [show (7 : Int32) = nI 7 from rfl, pk_sub (by omega)]
    congr 1
    omega
  have e6 : (6 : Int32) + nI t = nI (6 + t) := by rw [show (6 : Int32) = nI 6 from rfl, nI_add]
  have hob := hI.2.2.2 (1 - t) (by omega)
  cases hz : gO σ (1 - t) with
  | none =>
    have hi := ob_n hob hz
    refine ⟨σ, w, is, C, hI, ?_⟩
    refine evs_of (by decide +kernel) (Nat.le_of_ble_eq_true rfl) (by decide) rfl ?_
    refine ev_aload_n (pc := 0) dL_tears_0 rfl rfl ?_
    refine cV0 (pc := 1) lk_L_tears_1 hfs rfl rfl (Nat.le_of_ble_eq_true rfl) ⟨Nat.le_of_ble_eq_true rfl, Nat.le_of_ble_eq_true rfl⟩ (r_inUse C h1) ?_
    refine ev_istore_n (pc := 4) dL_tears_4 rfl rfl rfl ?_
    refine ev_aload_n (pc := 5) dL_tears_5 rfl rfl ?_
    refine ev_iload_n (pc := 6) dL_tears_6 rfl rfl ?_
    refine cX2 (pc := 7) lk_L_tears_7 (Nat.le_of_ble_eq_true rfl) ⟨Nat.le_of_ble_eq_true rfl, Nat.le_of_ble_eq_true rfl⟩ (m_tearT2 C ht hz) ?_
    refine ev_istore (pc := 10) dL_tears_10 rfl rfl ?_
    refine ev_aload_n (pc := 12) dL_tears_12 rfl rfl ?_
    refine ev_bipush (pc := 13) (v := 7) dL_tears_13 (by decide) ?_
    refine ev_iload_n (pc := 15) dL_tears_15 rfl rfl ?_
    refine ev_isub (pc := 16) dL_tears_16 ?_
    rw [e7]
    refine ev_ialdN (pc := 17) dL_tears_17 (t3_i C) ⟨(show _ = nI (6 + (1 - t)) from rfl), by omega, by decide⟩ hi ?_
    refine ev_if_ne (pc := 18) (tgt := 34) dL_tears_18 (by decide) (fun c_18 => absurd rfl c_18) (fun _ => ?_)
    refine ev_iload (pc := 21) dL_tears_21 rfl ?_
    refine ev_ldc (pc := 23) dL_tears_23 ki_L_30 ?_
    refine ev_ic_ne (pc := 25) (tgt := 32) dL_tears_25 (by decide) (fun c_25 => absurd rfl c_25) (fun _ => ?_)
    refine ev_iconst (pc := 28) (v := 1) dL_tears_28 (by decide) ?_
    refine ev_goto (pc := 29) (tgt := 33) dL_tears_29 (by decide) ?_
    exact ev_zretE (pc := 33) dL_tears_33 rfl ⟨Nat.le_of_ble_eq_true rfl, Nat.le_of_ble_eq_true rfl⟩ (by first | exact Or.inl rfl | exact Or.inr rfl | assumption | exact i10_o) rfl rfl
  | some z =>
    obtain ⟨hi, -, -⟩ := ob_s hob hz
    obtain ⟨n2, h2⟩ := cntR_ex (gU (teaS σ t)) 800
    have hle := cntR_sub h1 h2 (tea_sub (cg_I C))
    have hn1 := cntR_le h1
    obtain ⟨w1, C1, e1⟩ := m_tear C hN ht hz h1 h2
    rw [pk_sub hle] at e1
    have C2 := t3_si C1 (upd is (6 + t) 0)
    obtain ⟨fs2, hfs2⟩ := cg_0 C2
    have hsw : gD (teaS σ t) (4 * t + 3) = -1 := pk_uLs
    refine ⟨teaS σ t, _, _, C2, ⟨hI.1, ob_T hI.2.1 rfl (fun i hi => rfl) rfl (pk_un (by omega)), fun k hk => ob_T (hI.2.2.1 k hk) rfl (fun i hi => rfl) rfl (pk_un (by omega)), fun u hu => ?_⟩, ?_⟩
    · show obI (teaS σ t) cc ep (upd is (6 + t) 0) (6 + u) (setR (gO σ) t none u)
      unfold setR
      by_cases hut : u = t
      · rw [if_pos hut, hut]
        exact pk_us
      · rw [if_neg hut]
        exact ob_T (hI.2.2.2 u hu) rfl (fun i hi => rfl) rfl (pk_un (by omega))
    refine evs_of (by decide +kernel) (Nat.le_of_ble_eq_true rfl) (by decide) rfl ?_
    refine ev_aload_n (pc := 0) dL_tears_0 rfl rfl ?_
    refine cV0 (pc := 1) lk_L_tears_1 hfs rfl rfl (Nat.le_of_ble_eq_true rfl) ⟨Nat.le_of_ble_eq_true rfl, Nat.le_of_ble_eq_true rfl⟩ (r_inUse C h1) ?_
    refine ev_istore_n (pc := 4) dL_tears_4 rfl rfl rfl ?_
    refine ev_aload_n (pc := 5) dL_tears_5 rfl rfl ?_
    refine ev_iload_n (pc := 6) dL_tears_6 rfl rfl ?_
    refine cX2 (pc := 7) lk_L_tears_7 (Nat.le_of_ble_eq_true rfl) ⟨Nat.le_of_ble_eq_true rfl, Nat.le_of_ble_eq_true rfl⟩ e1 ?_
    refine ev_istore (pc := 10) dL_tears_10 rfl rfl ?_
    refine ev_aload_n (pc := 12) dL_tears_12 rfl rfl ?_
    refine ev_bipush (pc := 13) (v := 7) dL_tears_13 (by decide) ?_
    refine ev_iload_n (pc := 15) dL_tears_15 rfl rfl ?_
    refine ev_isub (pc := 16) dL_tears_16 ?_
    rw [e7]
    refine ev_ialdN (pc := 17) dL_tears_17 (t3_i C1) ⟨(show _ = nI (6 + (1 - t)) from rfl), by omega, by decide⟩ hi ?_
    refine ev_if_ne (pc := 18) (tgt := 34) dL_tears_18 (by decide) (fun _ => ?_) (fun c_18 => absurd c_18 (by decide))
    refine ev_aload_n (pc := 34) dL_tears_34 rfl rfl ?_
    refine ev_bipush (pc := 35) (v := 6) dL_tears_35 (by decide) ?_
    refine ev_iload_n (pc := 37) dL_tears_37 rfl rfl ?_
    refine ev_iadd (pc := 38) dL_tears_38 ?_
    rw [e6]
    refine ev_iconst (pc := 39) (v := 0) dL_tears_39 (by decide) ?_
    refine ev_iastN (pc := 40) dL_tears_40 (t3_i C1) ⟨(show _ = nI (6 + t) from rfl), by omega, by decide⟩ rfl rfl ?_
    refine ev_iload (pc := 41) dL_tears_41 rfl ?_
    refine ev_if_lt (pc := 43) (tgt := 74) dL_tears_43 (by decide) (fun c_43 => absurd c_43 (nI_pos (by omega))) (fun _ => ?_)
    refine ev_aload_n (pc := 46) dL_tears_46 rfl rfl ?_
    refine cV0 (pc := 47) lk_L_tears_47 hfs2 rfl rfl (Nat.le_of_ble_eq_true rfl) ⟨Nat.le_of_ble_eq_true rfl, Nat.le_of_ble_eq_true rfl⟩ (r_inUse C2 h2) ?_
    refine ev_iload_n (pc := 50) dL_tears_50 rfl rfl ?_
    refine ev_iload (pc := 51) dL_tears_51 rfl ?_
    refine ev_isub (pc := 53) dL_tears_53 ?_
    refine ev_ic_ne (pc := 54) (tgt := 74) dL_tears_54 (by decide) (fun c_54 => absurd (by rw [pk_sub (by omega)]; congr 1; omega) c_54) (fun _ => ?_)
    refine ev_aload_n (pc := 57) dL_tears_57 rfl rfl ?_
    refine ev_iload_n (pc := 58) dL_tears_58 rfl rfl ?_
    refine ev_iconst (pc := 59) (v := 3) dL_tears_59 (by decide) ?_
    refine cX3 (pc := 60) lk_L_tears_60 (Nat.le_of_ble_eq_true rfl) ⟨Nat.le_of_ble_eq_true rfl, Nat.le_of_ble_eq_true rfl⟩ (r_slotWord C2 ht (j := 3) (by decide)) ?_
    refine ev_ldc2 (pc := 63) dL_tears_63 kl_L_12 ?_
    refine ev_lcmp (pc := 66) dL_tears_66 ?_
    refine ev_if_ne (pc := 67) (tgt := 74) dL_tears_67 (by decide) (fun c_67 => absurd (by rw [lg_cmp_eq]; exact hsw) c_67) (fun _ => ?_)
    refine ev_iconst (pc := 70) (v := 1) dL_tears_70 (by decide) ?_
    refine ev_goto (pc := 71) (tgt := 75) dL_tears_71 (by decide) ?_
    exact ev_zretE (pc := 75) dL_tears_75 rfl ⟨Nat.le_of_ble_eq_true rfl, Nat.le_of_ble_eq_true rfl⟩ (by first | exact Or.inl rfl | exact Or.inr rfl | assumption | exact i10_o) rfl rfl
end MV
