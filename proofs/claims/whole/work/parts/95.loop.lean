/-! THE LAW: its loop, its start -/
theorem lt_out {t : Nat} (h : 30 ≤ t) (h2 : t < 32) : (nI t).toInt < 0 ∨ 29 < (nI t).toInt := by
  rw [nI_toInt (by omega)]
  omega
theorem l_case {n kc ks : Nat} {q : Nat × (Nat → Int32)} {A : List mC} {o : Nat → Int64} {v5 v6 v7 : Value} (hA : GI n A) (hw : wf A) (hn : n ≤ 512) (hj : 3 * n + 2 < q.1) (hq : q.1 ≤ 1536) (hkc : kc ≤ 500000) (hks : ks ≤ 7000000) (k : LK q n (3 * n) kc ks) : ∀ t : Nat, t < 32 → EvF (m_L_law q) QL 39 [scr1, .ref 0, .ref 21, .ref 34, .int (nI (3 * n)), v5, v6, v7] [.int (nI t)] kc ks (A ++ [ouC o])
  | 0, _ => ev_tabIn (pc := 39) (tgt := 172) dL_law_39 (by decide) (by decide) rfl (by decide) (lc_0 hA hw hn hj hq hkc hks k)
  | 1, _ => ev_tabIn (pc := 39) (tgt := 216) dL_law_39 (by decide) (by decide) rfl (by decide) (lc_1 hA hw hn hj hq hkc hks k)
  | 2, _ => ev_tabIn (pc := 39) (tgt := 229) dL_law_39 (by decide) (by decide) rfl (by decide) (lc_2 hA hw hn hj hq hkc hks k)
  | 3, _ => ev_tabIn (pc := 39) (tgt := 304) dL_law_39 (by decide) (by decide) rfl (by decide) (lc_3 hA hw hn hj hq hkc hks k)
  | 4, _ => ev_tabIn (pc := 39) (tgt := 360) dL_law_39 (by decide) (by decide) rfl (by decide) (lc_4 hA hw hn hj hq hkc hks k)
  | 5, _ => ev_tabIn (pc := 39) (tgt := 404) dL_law_39 (by decide) (by decide) rfl (by decide) (lc_5 hA hw hn hj hq hkc hks k)
  | 6, _ => ev_tabIn (pc := 39) (tgt := 448) dL_law_39 (by decide) (by decide) rfl (by decide) (lc_6 hA hw hn hj hq hkc hks k)
  | 7, _ => ev_tabIn (pc := 39) (tgt := 492) dL_law_39 (by decide) (by decide) rfl (by decide) (lc_7 hA hw hn hj hq hkc hks k)
  | 8, _ => ev_tabIn (pc := 39) (tgt := 548) dL_law_39 (by decide) (by decide) rfl (by decide) (lc_8 hA hw hn hj hq hkc hks k)
  | 9, _ => ev_tabIn (pc := 39) (tgt := 561) dL_law_39 (by decide) (by decide) rfl (by decide) (lc_9 hA hw hn hj hq hkc hks k)
  | 10, _ => ev_tabIn (pc := 39) (tgt := 617) dL_law_39 (by decide) (by decide) rfl (by decide) (lc_10 hA hw hn hj hq hkc hks k)
  | 11, _ => ev_tabIn (pc := 39) (tgt := 673) dL_law_39 (by decide) (by decide) rfl (by decide) (lc_11 hA hw hn hj hq hkc hks k)
  | 12, _ => ev_tabIn (pc := 39) (tgt := 741) dL_law_39 (by decide) (by decide) rfl (by decide) (lc_12 hA hw hn hj hq hkc hks k)
  | 13, _ => ev_tabIn (pc := 39) (tgt := 809) dL_law_39 (by decide) (by decide) rfl (by decide) (lc_13 hA hw hn hj hq hkc hks k)
  | 14, _ => ev_tabIn (pc := 39) (tgt := 877) dL_law_39 (by decide) (by decide) rfl (by decide) (lc_14 hA hw hn hj hq hkc hks k)
  | 15, _ => ev_tabIn (pc := 39) (tgt := 933) dL_law_39 (by decide) (by decide) rfl (by decide) (lc_15 hA hw hn hj hq hkc hks k)
  | 16, _ => ev_tabIn (pc := 39) (tgt := 989) dL_law_39 (by decide) (by decide) rfl (by decide) (lc_16 hA hw hn hj hq hkc hks k)
  | 17, _ => ev_tabIn (pc := 39) (tgt := 1045) dL_law_39 (by decide) (by decide) rfl (by decide) (lc_17 hA hw hn hj hq hkc hks k)
  | 18, _ => ev_tabIn (pc := 39) (tgt := 1113) dL_law_39 (by decide) (by decide) rfl (by decide) (lc_18 hA hw hn hj hq hkc hks k)
  | 19, _ => ev_tabIn (pc := 39) (tgt := 1176) dL_law_39 (by decide) (by decide) rfl (by decide) (lc_19 hA hw hn hj hq hkc hks k)
  | 20, _ => ev_tabIn (pc := 39) (tgt := 1189) dL_law_39 (by decide) (by decide) rfl (by decide) (lc_20 hA hw hn hj hq hkc hks k)
  | 21, _ => ev_tabIn (pc := 39) (tgt := 1202) dL_law_39 (by decide) (by decide) rfl (by decide) (lc_21 hA hw hn hj hq hkc hks k)
  | 22, _ => ev_tabIn (pc := 39) (tgt := 1258) dL_law_39 (by decide) (by decide) rfl (by decide) (lc_22 hA hw hn hj hq hkc hks k)
  | 23, _ => ev_tabIn (pc := 39) (tgt := 1326) dL_law_39 (by decide) (by decide) rfl (by decide) (lc_23 hA hw hn hj hq hkc hks k)
  | 24, _ => ev_tabIn (pc := 39) (tgt := 1394) dL_law_39 (by decide) (by decide) rfl (by decide) (lc_24 hA hw hn hj hq hkc hks k)
  | 25, _ => ev_tabIn (pc := 39) (tgt := 1407) dL_law_39 (by decide) (by decide) rfl (by decide) (lc_25 hA hw hn hj hq hkc hks k)
  | 26, _ => ev_tabIn (pc := 39) (tgt := 1474) dL_law_39 (by decide) (by decide) rfl (by decide) (lc_26 hA hw hn hj hq hkc hks k)
  | 27, _ => ev_tabIn (pc := 39) (tgt := 1537) dL_law_39 (by decide) (by decide) rfl (by decide) (lc_27 hA hw hn hj hq hkc hks k)
  | 28, _ => ev_tabIn (pc := 39) (tgt := 1593) dL_law_39 (by decide) (by decide) rfl (by decide) (lc_28 hA hw hn hj hq hkc hks k)
  | 29, _ => ev_tabIn (pc := 39) (tgt := 1606) dL_law_39 (by decide) (by decide) rfl (by decide) (lc_29 hA hw hn hj hq hkc hks k)
  | t + 30, h => ev_tabOut (pc := 39) (tgt := 1662) dL_law_39 (lt_out (by omega) h) (by decide) (k A o v5 v6 v7 kc ks (gi_mono (by omega) hA) hw (by omega) (by omega))
theorem l_law {q : Nat × (Nat → Int32)} (hq : q.1 ≤ 1536) : ∀ (m n : Nat) (A : List mC) (o : Nat → Int64) (v5 v6 v7 : Value) (kc ks : Nat), q.1 ≤ 3 * (n + m) + 2 → n + m ≤ 512 → GI n A → wf A → kc ≤ 100 + 8 * n → ks ≤ 30000 + 64 * n → EvF (m_L_law q) QL 23 [scr1, .ref 0, .ref 21, .ref 34, .int (nI (3 * n)), v5, v6, v7] [] kc ks (A ++ [ouC o]) := by
  have hb3 : ∀ n : Nat, n ≤ 512 → (nI q.1 - 3 < nI (3 * n) ↔ q.1 < 3 * n + 3) := fun n hn => by
    rw [Int32.lt_iff_toInt_lt, show (3 : Int32) = nI 3 from rfl, pk_sub_toInt (by omega) (by omega), nI_toInt (by omega)]
    omega
  intro m
  induction m with
  | zero =>
    intro n A o v5 v6 v7 kc ks h1 h2 hA hw hkc hks
    refine ev_iload (pc := 23) dL_law_23 rfl ?_
    refine ev_aloadS_n (pc := 25) dL_law_25 rfl rfl ?_
    refine ev_slen (pc := 26) dL_law_26 rfl ?_
    refine ev_iconst (pc := 27) (v := 3) dL_law_27 (by decide) ?_
    refine ev_isub (pc := 28) dL_law_28 ?_
    refine ev_ic_gt (pc := 29) (tgt := 1668) dL_law_29 (by decide) (fun _ => ?_) (fun c_29 => absurd ((hb3 n (by omega)).mpr (by omega)) c_29)
    refine ev_iconst (pc := 1668) (v := 1) dL_law_1668 (by decide) ?_
    exact ev_lawend (by omega) (by omega)
  | succ m ih =>
    intro n A o v5 v6 v7 kc ks h1 h2 hA hw hkc hks
    by_cases hc : q.1 < 3 * n + 3
    · refine ev_iload (pc := 23) dL_law_23 rfl ?_
      refine ev_aloadS_n (pc := 25) dL_law_25 rfl rfl ?_
      refine ev_slen (pc := 26) dL_law_26 rfl ?_
      refine ev_iconst (pc := 27) (v := 3) dL_law_27 (by decide) ?_
      refine ev_isub (pc := 28) dL_law_28 ?_
      refine ev_ic_gt (pc := 29) (tgt := 1668) dL_law_29 (by decide) (fun _ => ?_) (fun c_29 => absurd ((hb3 n (by omega)).mpr (by omega)) c_29)
      refine ev_iconst (pc := 1668) (v := 1) dL_law_1668 (by decide) ?_
      exact ev_lawend (by omega) (by omega)
    · have K : LK q n (3 * n) kc ks := fun A2 o2 v5 v6 v7 kc2 ks2 g4 g1 h3 h4 => by
        refine ev_iinc (pc := 1662) dL_law_1662 rfl rfl rfl ?_
        rw [nI_i3]
        refine ev_goto (pc := 1665) (tgt := 23) dL_law_1665 (by decide) ?_
        exact ih (n + 1) A2 o2 v5 v6 v7 kc2 ks2 (by omega) (by omega) g4 g1 (by omega) (by omega)
      refine ev_iload (pc := 23) dL_law_23 rfl ?_
      refine ev_aloadS_n (pc := 25) dL_law_25 rfl rfl ?_
      refine ev_slen (pc := 26) dL_law_26 rfl ?_
      refine ev_iconst (pc := 27) (v := 3) dL_law_27 (by decide) ?_
      refine ev_isub (pc := 28) dL_law_28 ?_
      refine ev_ic_gt (pc := 29) (tgt := 1668) dL_law_29 (by decide) (fun c_29 => absurd c_29 (fun h => hc ((hb3 n (by omega)).mp h))) (fun _ => ?_)
      refine ev_aloadS_n (pc := 32) dL_law_32 rfl rfl ?_
      refine ev_iload (pc := 33) dL_law_33 rfl ?_
      refine ev_sld (pc := 35) dL_law_35 rfl (vp_in_nI (show 3 * n < q.1 by omega) (by omega)) ?_
      refine ev_bipush (pc := 36) (v := 31) dL_law_36 (by decide) ?_
      refine ev_iand (pc := 38) dL_law_38 ?_
      obtain ⟨t, ht, et⟩ := pk_andE (q.2 (nI (3 * n)).toNatClampNeg) (m := 31) 5 (by decide)
      rw [et]
      exact l_case hA hw (by omega) (by omega) hq (by omega) (by omega) K t ht
