/-! THE LAW: reads -/
section RD5
variable {N : Nat} {σ : SS} {w : mW} {cc : Nat → Int64} {ep is : Nat → Int32}
theorem fst_c (rd : Nat → Option RS3) : ∀ n, (∃ j, j < n ∧ rd j = none ∧ ∀ i, i < j → ∃ x, rd i = some x) ∨ ∀ i, i < n → ∃ x, rd i = some x
  | 0 => Or.inr (fun i hi => absurd hi (by omega))
  | n + 1 => by
    rcases fst_c rd n with ⟨j, h1, h2, h3⟩ | h
    · exact Or.inl ⟨j, by omega, h2, h3⟩
    · cases hn : rd n with
      | none => exact Or.inl ⟨n, by omega, hn, h⟩
      | some x =>
        refine Or.inr (fun i hi => ?_)
        by_cases h1 : i = n
        · exact ⟨x, by rw [h1]; exact hn⟩
        · exact h i (by omega)
theorem reads_find {Qf : mQ} {x y : Int32} {kc ks : Nat} (h : w[23]? = some (iA 8 is)) {j : Nat} (hj : j ≤ 4) (hlt : ∀ i, i < j → is (2 + i) = 1) (hat : j < 4 → is (2 + j) = 0) (k : EvF m_L_reads Qf 34 [.ref 0, .int x, .int y, .ref 21, .ref 22, .ref 23, .int (nI j), hole, hole, hole, hole] [] kc ks w) : ∀ m n, n + m = j → EvF m_L_reads Qf 11 [.ref 0, .int x, .int y, .ref 21, .ref 22, .ref 23, .int (nI n), hole, hole, hole, hole] [] kc ks w
  | 0, n, hn => by
    have hn : n = j := by omega
    subst hn
    have e2 : (2 : Int32) + nI n = nI (2 + n) := by rw [show (2 : Int32) = nI 2 from rfl, nI_add]
    by_cases h4 : n < 4
    · refine ev_iload (pc := 11) dL_reads_11 rfl ?_
      refine ev_iconst (pc := 13) (v := 4) dL_reads_13 (by decide) ?_
      refine ev_ic_ge (pc := 14) (tgt := 34) dL_reads_14 (by decide) (fun c_14 => absurd c_14 (nI_ge h4 (by decide))) (fun _ => ?_)
      refine ev_aload (pc := 17) dL_reads_17 rfl ?_
      refine ev_iconst (pc := 19) (v := 2) dL_reads_19 (by decide) ?_
      refine ev_iload (pc := 20) dL_reads_20 rfl ?_
      refine ev_iadd (pc := 22) dL_reads_22 ?_
      rw [e2]
      refine ev_ialdN (pc := 23) dL_reads_23 h ⟨(show _ = nI (2 + n) from rfl), by omega, by decide⟩ (hat h4) ?_
      refine ev_iconst (pc := 24) (v := 1) dL_reads_24 (by decide) ?_
      refine ev_ic_ne (pc := 25) (tgt := 34) dL_reads_25 (by decide) (fun _ => ?_) (fun c_25 => absurd c_25 (by decide))
      exact k
    · have hn : n = 4 := by omega
      subst hn
      refine ev_iload (pc := 11) dL_reads_11 rfl ?_
      refine ev_iconst (pc := 13) (v := 4) dL_reads_13 (by decide) ?_
      refine ev_ic_ge (pc := 14) (tgt := 34) dL_reads_14 (by decide) (fun _ => ?_) (fun c_14 => absurd (by decide) c_14)
      exact k
  | m + 1, n, hn => by
    have e2 : (2 : Int32) + nI n = nI (2 + n) := by rw [show (2 : Int32) = nI 2 from rfl, nI_add]
    refine ev_iload (pc := 11) dL_reads_11 rfl ?_
    refine ev_iconst (pc := 13) (v := 4) dL_reads_13 (by decide) ?_
    refine ev_ic_ge (pc := 14) (tgt := 34) dL_reads_14 (by decide) (fun c_14 => absurd c_14 (nI_ge (show n < 4 by omega) (by decide))) (fun _ => ?_)
    refine ev_aload (pc := 17) dL_reads_17 rfl ?_
    refine ev_iconst (pc := 19) (v := 2) dL_reads_19 (by decide) ?_
    refine ev_iload (pc := 20) dL_reads_20 rfl ?_
    refine ev_iadd (pc := 22) dL_reads_22 ?_
    rw [e2]
    refine ev_ialdN (pc := 23) dL_reads_23 h ⟨(show _ = nI (2 + n) from rfl), by omega, by decide⟩ (hlt n (by omega)) ?_
    refine ev_iconst (pc := 24) (v := 1) dL_reads_24 (by decide) ?_
    refine ev_ic_ne (pc := 25) (tgt := 34) dL_reads_25 (by decide) (fun c_25 => absurd rfl c_25) (fun _ => ?_)
    refine ev_iinc (pc := 28) dL_reads_28 rfl rfl rfl ?_
    refine ev_goto (pc := 31) (tgt := 11) dL_reads_31 (by decide) ?_
    rw [nI_i1]
    exact reads_find h hj hlt hat k m (n + 1) (by omega)
theorem r_reads (C : CG N σ (T3 cc ep is) w) (hI : LI σ cc ep is) (x y : Int32) : ∃ (σ' : SS) (w' : mW) (cc' : Nat → Int64) (ep' is' : Nat → Int32), CG N σ' (T3 cc' ep' is') w' ∧ LI σ' cc' ep' is' ∧ EvS m_L_reads [.ref 0, .int x, .int y, .ref 21, .ref 22, .ref 23] w (.inl (some (.int 1))) w' := by
  have l2 := lowN_lt x (show 0 < 2 by decide)
  by_cases hx : lowN x 2 = 0
  · rcases fst_c (gR σ) 4 with ⟨j, hj4, hjn, hlt⟩ | hall
    · have e2 : (2 : Int32) + nI j = nI (2 + j) := by rw [show (2 : Int32) = nI 2 from rfl, nI_add]
      have ecp := r_copies (w := w) (p := 21) (pe := 22) (a := 0) (b := 2 + j) (t3_c C) (by decide) (t3_e C) (by decide) (by omega) (by omega)
      have C1 := t3_se (t3_sc C (cpP cc 0 (2 + j) 3)) (upd ep (2 + j) (ep 0))
      have C2 := t3_si C1 (upd is (2 + j) 1)
      obtain ⟨w', C3, e3⟩ := m_open C2 hj4 hjn hlt
      refine ⟨opeS σ j, w', _, _, _, C3, ⟨st_T hI.1 rfl (fun i hi => by rw [tn_cp (by omega), if_neg (by omega)]) (pk_un (by omega)), ob_T hI.2.1 rfl (fun i hi => by rw [tn_cp (by omega), if_neg (by omega)]) (pk_un (by omega)) (pk_un (by omega)), fun k hk => ?_, fun t ht => ob_T (hI.2.2.2 t ht) rfl (fun i hi => by rw [tn_cp (by omega), if_neg (by omega)]) (pk_un (by omega)) (pk_un (by omega))⟩, ?_⟩
      · show obI (opeS σ j) _ _ _ (2 + k) (setR (gR σ) j (some (gC σ)) k)
        unfold setR
        by_cases hkj : k = j
        · rw [if_pos hkj, hkj]
          exact ⟨pk_us, st_T hI.1 rfl (fun i hi => by rw [tn_cp (by omega), if_pos rfl]) pk_us⟩
        · rw [if_neg hkj]
          exact ob_T (hI.2.2.1 k hk) rfl (fun i hi => by rw [tn_cp (by omega), if_neg (by omega)]) (pk_un (by omega)) (pk_un (by omega))
      refine evs_of (by decide +kernel) (Nat.le_of_ble_eq_true rfl) (by decide) rfl ?_
      refine ev_iload_n (pc := 0) dL_reads_0 rfl rfl ?_
      refine ev_iconst (pc := 1) (v := 2) dL_reads_1 (by decide) ?_
      refine cS2 (pc := 2) lk_L_reads_2 (Nat.le_of_ble_eq_true rfl) ⟨Nat.le_of_ble_eq_true rfl, Nat.le_of_ble_eq_true rfl⟩ (r_low (n := 2) (by decide) (by decide)) ?_
      refine ev_if_ne (pc := 5) (tgt := 85) dL_reads_5 (by decide) (fun c_5 => absurd (congrArg nI hx) c_5) (fun _ => ?_)
      refine ev_iconst (pc := 8) (v := 0) dL_reads_8 (by decide) ?_
      refine ev_istore (pc := 9) dL_reads_9 rfl rfl ?_
      refine reads_find (t3_i C) (show j ≤ 4 by omega) (fun i hi => ?_) (fun _ => ob_n (hI.2.2.1 j hj4) hjn) ?_ j 0 (by omega)
      · obtain ⟨z, hz⟩ := hlt i hi
        exact (ob_s (hI.2.2.1 i (by omega)) hz).1
      refine ev_iload (pc := 34) dL_reads_34 rfl ?_
      refine ev_iconst (pc := 36) (v := 4) dL_reads_36 (by decide) ?_
      refine ev_ic_ge (pc := 37) (tgt := 59) dL_reads_37 (by decide) (fun c_37 => absurd c_37 (nI_ge hj4 (by decide))) (fun _ => ?_)
      refine ev_aload_n (pc := 40) dL_reads_40 rfl rfl ?_
      refine ev_aload (pc := 41) dL_reads_41 rfl ?_
      refine ev_iconst (pc := 43) (v := 0) dL_reads_43 (by decide) ?_
      refine ev_iconst (pc := 44) (v := 2) dL_reads_44 (by decide) ?_
      refine ev_iload (pc := 45) dL_reads_45 rfl ?_
      refine ev_iadd (pc := 47) dL_reads_47 ?_
      rw [e2]
      refine cS4 (pc := 48) lk_L_reads_48 (Nat.le_of_ble_eq_true rfl) ⟨Nat.le_of_ble_eq_true rfl, Nat.le_of_ble_eq_true rfl⟩ ecp ?_
      refine ev_aload (pc := 51) dL_reads_51 rfl ?_
      refine ev_iconst (pc := 53) (v := 2) dL_reads_53 (by decide) ?_
      refine ev_iload (pc := 54) dL_reads_54 rfl ?_
      refine ev_iadd (pc := 56) dL_reads_56 ?_
      refine ev_iconst (pc := 57) (v := 1) dL_reads_57 (by decide) ?_
      rw [e2]
      refine ev_iastN (pc := 58) dL_reads_58 (t3_i C1) ⟨(show _ = nI (2 + j) from rfl), by omega, by decide⟩ rfl rfl ?_
      refine ev_aload_n (pc := 59) dL_reads_59 rfl rfl ?_
      refine cX1 (pc := 60) lk_L_reads_60 (Nat.le_of_ble_eq_true rfl) ⟨Nat.le_of_ble_eq_true rfl, Nat.le_of_ble_eq_true rfl⟩ e3 ?_
      refine ev_iload (pc := 63) dL_reads_63 rfl ?_
      refine ev_iconst (pc := 65) (v := 4) dL_reads_65 (by decide) ?_
      refine ev_ic_ge (pc := 66) (tgt := 74) dL_reads_66 (by decide) (fun c_66 => absurd c_66 (nI_ge hj4 (by decide))) (fun _ => ?_)
      refine ev_iload (pc := 69) dL_reads_69 rfl ?_
      refine ev_goto (pc := 71) (tgt := 76) dL_reads_71 (by decide) ?_
      refine ev_ic_ne (pc := 76) (tgt := 83) dL_reads_76 (by decide) (fun c_76 => absurd rfl c_76) (fun _ => ?_)
      refine ev_iconst (pc := 79) (v := 1) dL_reads_79 (by decide) ?_
      refine ev_goto (pc := 80) (tgt := 84) dL_reads_80 (by decide) ?_
      exact ev_zretE (pc := 84) dL_reads_84 rfl ⟨Nat.le_of_ble_eq_true rfl, Nat.le_of_ble_eq_true rfl⟩ (by first | exact Or.inl rfl | exact Or.inr rfl | assumption | exact i10_o) rfl rfl
    · refine ⟨σ, w, cc, ep, is, C, hI, ?_⟩
      refine evs_of (by decide +kernel) (Nat.le_of_ble_eq_true rfl) (by decide) rfl ?_
      refine ev_iload_n (pc := 0) dL_reads_0 rfl rfl ?_
      refine ev_iconst (pc := 1) (v := 2) dL_reads_1 (by decide) ?_
      refine cS2 (pc := 2) lk_L_reads_2 (Nat.le_of_ble_eq_true rfl) ⟨Nat.le_of_ble_eq_true rfl, Nat.le_of_ble_eq_true rfl⟩ (r_low (n := 2) (by decide) (by decide)) ?_
      refine ev_if_ne (pc := 5) (tgt := 85) dL_reads_5 (by decide) (fun c_5 => absurd (congrArg nI hx) c_5) (fun _ => ?_)
      refine ev_iconst (pc := 8) (v := 0) dL_reads_8 (by decide) ?_
      refine ev_istore (pc := 9) dL_reads_9 rfl rfl ?_
      refine reads_find (t3_i C) (show 4 ≤ 4 by omega) (fun i hi => ?_) (fun h => absurd h (by decide)) ?_ 4 0 (by omega)
      · obtain ⟨z, hz⟩ := hall i hi
        exact (ob_s (hI.2.2.1 i (by omega)) hz).1
      refine ev_iload (pc := 34) dL_reads_34 rfl ?_
      refine ev_iconst (pc := 36) (v := 4) dL_reads_36 (by decide) ?_
      refine ev_ic_ge (pc := 37) (tgt := 59) dL_reads_37 (by decide) (fun _ => ?_) (fun c_37 => absurd (by decide) c_37)
      refine ev_aload_n (pc := 59) dL_reads_59 rfl rfl ?_
      refine cX1 (pc := 60) lk_L_reads_60 (Nat.le_of_ble_eq_true rfl) ⟨Nat.le_of_ble_eq_true rfl, Nat.le_of_ble_eq_true rfl⟩ (m_openT C hall) ?_
      refine ev_iload (pc := 63) dL_reads_63 rfl ?_
      refine ev_iconst (pc := 65) (v := 4) dL_reads_65 (by decide) ?_
      refine ev_ic_ge (pc := 66) (tgt := 74) dL_reads_66 (by decide) (fun _ => ?_) (fun c_66 => absurd (by decide) c_66)
      refine ev_ldc (pc := 74) dL_reads_74 ki_L_23 ?_
      refine ev_ic_ne (pc := 76) (tgt := 83) dL_reads_76 (by decide) (fun c_76 => absurd rfl c_76) (fun _ => ?_)
      refine ev_iconst (pc := 79) (v := 1) dL_reads_79 (by decide) ?_
      refine ev_goto (pc := 80) (tgt := 84) dL_reads_80 (by decide) ?_
      exact ev_zretE (pc := 84) dL_reads_84 rfl ⟨Nat.le_of_ble_eq_true rfl, Nat.le_of_ble_eq_true rfl⟩ (by first | exact Or.inl rfl | exact Or.inr rfl | assumption | exact i10_o) rfl rfl
  · obtain ⟨r, hr⟩ : ∃ r, r = lowN y 4 := ⟨_, rfl⟩
    have hr4 : r < 4 := by rw [hr]; exact lowN_lt y (by decide)
    have elow : ∀ w : mW, EvS m_L_low [.int y, .int 4] w (.inl (some (.int (nI r)))) w := fun w => by
      rw [hr]
      exact r_low (n := 4) (by decide) (by decide)
    have e2 : (2 : Int32) + nI r = nI (2 + r) := by rw [show (2 : Int32) = nI 2 from rfl, nI_add]
    obtain ⟨n1, h1⟩ := cntR_ex (gU σ) 800
    obtain ⟨fs, hfs⟩ := cg_0 C
    have hob := hI.2.2.1 r hr4
    cases hz : gR σ r with
    | none =>
      have hi := ob_n hob hz
      have hno : ∀ j, j < 4 → nI r = nI j → gR σ j = none := fun j hj e => by rw [← nI_inj (by omega) (by omega) e]; exact hz
      refine ⟨σ, _, cc, ep, _, t3_si C (upd is (2 + r) 0), ⟨hI.1, ob_T hI.2.1 rfl (fun i hi => rfl) rfl (pk_un (by omega)), fun k hk => ?_, fun t ht => ob_T (hI.2.2.2 t ht) rfl (fun i hi => rfl) rfl (pk_un (by omega))⟩, ?_⟩
      · by_cases hkr : k = r
        · rw [hkr, hz]
          exact pk_us
        · exact ob_T (hI.2.2.1 k hk) rfl (fun i hi => rfl) rfl (pk_un (by omega))
      refine evs_of (by decide +kernel) (Nat.le_of_ble_eq_true rfl) (by decide) rfl ?_
      refine ev_iload_n (pc := 0) dL_reads_0 rfl rfl ?_
      refine ev_iconst (pc := 1) (v := 2) dL_reads_1 (by decide) ?_
      refine cS2 (pc := 2) lk_L_reads_2 (Nat.le_of_ble_eq_true rfl) ⟨Nat.le_of_ble_eq_true rfl, Nat.le_of_ble_eq_true rfl⟩ (r_low (n := 2) (by decide) (by decide)) ?_
      refine ev_if_ne (pc := 5) (tgt := 85) dL_reads_5 (by decide) (fun _ => ?_) (fun c_5 => absurd c_5 (fun e => hx (nI_inj (by omega) (by decide) (show nI (lowN x 2) = nI 0 from e))))
      refine ev_iload_n (pc := 85) dL_reads_85 rfl rfl ?_
      refine ev_iconst (pc := 86) (v := 4) dL_reads_86 (by decide) ?_
      refine cS2 (pc := 87) lk_L_reads_87 (Nat.le_of_ble_eq_true rfl) ⟨Nat.le_of_ble_eq_true rfl, Nat.le_of_ble_eq_true rfl⟩ (elow _) ?_
      refine ev_istore (pc := 90) dL_reads_90 rfl rfl ?_
      refine ev_aload_n (pc := 92) dL_reads_92 rfl rfl ?_
      refine cV0 (pc := 93) lk_L_reads_93 hfs rfl rfl (Nat.le_of_ble_eq_true rfl) ⟨Nat.le_of_ble_eq_true rfl, Nat.le_of_ble_eq_true rfl⟩ (r_inUse C h1) ?_
      refine ev_istore (pc := 96) dL_reads_96 rfl rfl ?_
      refine ev_aload_n (pc := 98) dL_reads_98 rfl rfl ?_
      refine ev_iload (pc := 99) dL_reads_99 rfl ?_
      refine cX2 (pc := 101) lk_L_reads_101 (Nat.le_of_ble_eq_true rfl) ⟨Nat.le_of_ble_eq_true rfl, Nat.le_of_ble_eq_true rfl⟩ (r_heldByT C hno) ?_
      refine ev_istore (pc := 104) dL_reads_104 rfl rfl ?_
      refine ev_aload_n (pc := 106) dL_reads_106 rfl rfl ?_
      refine ev_iload (pc := 107) dL_reads_107 rfl ?_
      refine cX2 (pc := 109) lk_L_reads_109 (Nat.le_of_ble_eq_true rfl) ⟨Nat.le_of_ble_eq_true rfl, Nat.le_of_ble_eq_true rfl⟩ (m_closeT C hno) ?_
      refine ev_istore (pc := 112) dL_reads_112 rfl rfl ?_
      refine ev_aload (pc := 114) dL_reads_114 rfl ?_
      refine ev_iconst (pc := 116) (v := 2) dL_reads_116 (by decide) ?_
      refine ev_iload (pc := 117) dL_reads_117 rfl ?_
      refine ev_iadd (pc := 119) dL_reads_119 ?_
      rw [e2]
      refine ev_ialdN (pc := 120) dL_reads_120 (t3_i C) ⟨(show _ = nI (2 + r) from rfl), by omega, by decide⟩ hi ?_
      refine ev_iconst (pc := 121) (v := 1) dL_reads_121 (by decide) ?_
      refine ev_ic_ne (pc := 122) (tgt := 129) dL_reads_122 (by decide) (fun _ => ?_) (fun c_122 => absurd c_122 (by decide))
      refine ev_iconst (pc := 129) (v := 0) dL_reads_129 (by decide) ?_
      refine ev_istore (pc := 130) dL_reads_130 rfl rfl ?_
      refine ev_aload (pc := 132) dL_reads_132 rfl ?_
      refine ev_iconst (pc := 134) (v := 2) dL_reads_134 (by decide) ?_
      refine ev_iload (pc := 135) dL_reads_135 rfl ?_
      refine ev_iadd (pc := 137) dL_reads_137 ?_
      refine ev_iconst (pc := 138) (v := 0) dL_reads_138 (by decide) ?_
      rw [e2]
      refine ev_iastN (pc := 139) dL_reads_139 (t3_i C) ⟨(show _ = nI (2 + r) from rfl), by omega, by decide⟩ rfl rfl ?_
      refine ev_iload (pc := 140) dL_reads_140 rfl ?_
      refine ev_iload (pc := 142) dL_reads_142 rfl ?_
      refine ev_ic_ne (pc := 144) (tgt := 183) dL_reads_144 (by decide) (fun c_144 => absurd rfl c_144) (fun _ => ?_)
      refine ev_iload (pc := 147) dL_reads_147 rfl ?_
      refine ev_if_eq (pc := 149) (tgt := 172) dL_reads_149 (by decide) (fun _ => ?_) (fun c_149 => absurd rfl c_149)
      refine ev_iload (pc := 172) dL_reads_172 rfl ?_
      refine ev_ldc (pc := 174) dL_reads_174 ki_L_23 ?_
      refine ev_ic_ne (pc := 176) (tgt := 183) dL_reads_176 (by decide) (fun c_176 => absurd rfl c_176) (fun _ => ?_)
      refine ev_iconst (pc := 179) (v := 1) dL_reads_179 (by decide) ?_
      refine ev_goto (pc := 180) (tgt := 184) dL_reads_180 (by decide) ?_
      exact ev_zretE (pc := 184) dL_reads_184 rfl ⟨Nat.le_of_ble_eq_true rfl, Nat.le_of_ble_eq_true rfl⟩ (by first | exact Or.inl rfl | exact Or.inr rfl | assumption | exact i10_o) rfl rfl
    | some z =>
      obtain ⟨hi, -, -⟩ := ob_s hob hz
      obtain ⟨n2, h2⟩ := cntR_ex (gU (cloS σ r)) 800
      have hle := cntR_sub h1 h2 (clo_sub (cg_I C))
      have hn1 := cntR_le h1
      obtain ⟨w1, C1, e1⟩ := r_heldBy C hr4 hz h1 h2
      obtain ⟨w2, C2, e3⟩ := m_close C1 hr4 hz h1 h2
      rw [pk_sub hle] at e1 e3
      have C3 := t3_si C2 (upd is (2 + r) 0)
      obtain ⟨fs2, hfs2⟩ := cg_0 C3
      refine ⟨cloS σ r, _, cc, ep, _, C3, ⟨hI.1, ob_T hI.2.1 rfl (fun i hi => rfl) rfl (pk_un (by omega)), fun k hk => ?_, fun t ht => ob_T (hI.2.2.2 t ht) rfl (fun i hi => rfl) rfl (pk_un (by omega))⟩, ?_⟩
      · show obI (cloS σ r) cc ep _ (2 + k) (setR (gR σ) r none k)
        unfold setR
        by_cases hkr : k = r
        · rw [if_pos hkr, hkr]
          exact pk_us
        · rw [if_neg hkr]
          exact ob_T (hI.2.2.1 k hk) rfl (fun i hi => rfl) rfl (pk_un (by omega))
      refine evs_of (by decide +kernel) (Nat.le_of_ble_eq_true rfl) (by decide) rfl ?_
      refine ev_iload_n (pc := 0) dL_reads_0 rfl rfl ?_
      refine ev_iconst (pc := 1) (v := 2) dL_reads_1 (by decide) ?_
      refine cS2 (pc := 2) lk_L_reads_2 (Nat.le_of_ble_eq_true rfl) ⟨Nat.le_of_ble_eq_true rfl, Nat.le_of_ble_eq_true rfl⟩ (r_low (n := 2) (by decide) (by decide)) ?_
      refine ev_if_ne (pc := 5) (tgt := 85) dL_reads_5 (by decide) (fun _ => ?_) (fun c_5 => absurd c_5 (fun e => hx (nI_inj (by omega) (by decide) (show nI (lowN x 2) = nI 0 from e))))
      refine ev_iload_n (pc := 85) dL_reads_85 rfl rfl ?_
      refine ev_iconst (pc := 86) (v := 4) dL_reads_86 (by decide) ?_
      refine cS2 (pc := 87) lk_L_reads_87 (Nat.le_of_ble_eq_true rfl) ⟨Nat.le_of_ble_eq_true rfl, Nat.le_of_ble_eq_true rfl⟩ (elow _) ?_
      refine ev_istore (pc := 90) dL_reads_90 rfl rfl ?_
      refine ev_aload_n (pc := 92) dL_reads_92 rfl rfl ?_
      refine cV0 (pc := 93) lk_L_reads_93 hfs rfl rfl (Nat.le_of_ble_eq_true rfl) ⟨Nat.le_of_ble_eq_true rfl, Nat.le_of_ble_eq_true rfl⟩ (r_inUse C h1) ?_
      refine ev_istore (pc := 96) dL_reads_96 rfl rfl ?_
      refine ev_aload_n (pc := 98) dL_reads_98 rfl rfl ?_
      refine ev_iload (pc := 99) dL_reads_99 rfl ?_
      refine cX2 (pc := 101) lk_L_reads_101 (Nat.le_of_ble_eq_true rfl) ⟨Nat.le_of_ble_eq_true rfl, Nat.le_of_ble_eq_true rfl⟩ e1 ?_
      refine ev_istore (pc := 104) dL_reads_104 rfl rfl ?_
      refine ev_aload_n (pc := 106) dL_reads_106 rfl rfl ?_
      refine ev_iload (pc := 107) dL_reads_107 rfl ?_
      refine cX2 (pc := 109) lk_L_reads_109 (Nat.le_of_ble_eq_true rfl) ⟨Nat.le_of_ble_eq_true rfl, Nat.le_of_ble_eq_true rfl⟩ e3 ?_
      refine ev_istore (pc := 112) dL_reads_112 rfl rfl ?_
      refine ev_aload (pc := 114) dL_reads_114 rfl ?_
      refine ev_iconst (pc := 116) (v := 2) dL_reads_116 (by decide) ?_
      refine ev_iload (pc := 117) dL_reads_117 rfl ?_
      refine ev_iadd (pc := 119) dL_reads_119 ?_
      rw [e2]
      refine ev_ialdN (pc := 120) dL_reads_120 (t3_i C2) ⟨(show _ = nI (2 + r) from rfl), by omega, by decide⟩ hi ?_
      refine ev_iconst (pc := 121) (v := 1) dL_reads_121 (by decide) ?_
      refine ev_ic_ne (pc := 122) (tgt := 129) dL_reads_122 (by decide) (fun c_122 => absurd rfl c_122) (fun _ => ?_)
      refine ev_iconst (pc := 125) (v := 1) dL_reads_125 (by decide) ?_
      refine ev_goto (pc := 126) (tgt := 130) dL_reads_126 (by decide) ?_
      refine ev_istore (pc := 130) dL_reads_130 rfl rfl ?_
      refine ev_aload (pc := 132) dL_reads_132 rfl ?_
      refine ev_iconst (pc := 134) (v := 2) dL_reads_134 (by decide) ?_
      refine ev_iload (pc := 135) dL_reads_135 rfl ?_
      refine ev_iadd (pc := 137) dL_reads_137 ?_
      refine ev_iconst (pc := 138) (v := 0) dL_reads_138 (by decide) ?_
      rw [e2]
      refine ev_iastN (pc := 139) dL_reads_139 (t3_i C2) ⟨(show _ = nI (2 + r) from rfl), by omega, by decide⟩ rfl rfl ?_
      refine ev_iload (pc := 140) dL_reads_140 rfl ?_
      refine ev_iload (pc := 142) dL_reads_142 rfl ?_
      refine ev_ic_ne (pc := 144) (tgt := 183) dL_reads_144 (by decide) (fun c_144 => absurd rfl c_144) (fun _ => ?_)
      refine ev_iload (pc := 147) dL_reads_147 rfl ?_
      refine ev_if_eq (pc := 149) (tgt := 172) dL_reads_149 (by decide) (fun c_149 => absurd c_149 (by decide)) (fun _ => ?_)
      refine ev_iload (pc := 152) dL_reads_152 rfl ?_
      refine ev_if_lt (pc := 154) (tgt := 183) dL_reads_154 (by decide) (fun c_154 => absurd c_154 (nI_pos (by omega))) (fun _ => ?_)
      refine ev_aload_n (pc := 157) dL_reads_157 rfl rfl ?_
      refine cV0 (pc := 158) lk_L_reads_158 hfs2 rfl rfl (Nat.le_of_ble_eq_true rfl) ⟨Nat.le_of_ble_eq_true rfl, Nat.le_of_ble_eq_true rfl⟩ (r_inUse C3 h2) ?_
      refine ev_iload (pc := 161) dL_reads_161 rfl ?_
      refine ev_iload (pc := 163) dL_reads_163 rfl ?_
      refine ev_isub (pc := 165) dL_reads_165 ?_
      refine ev_ic_ne (pc := 166) (tgt := 183) dL_reads_166 (by decide) (fun c_166 => absurd (by rw [pk_sub (by omega)]; congr 1; omega) c_166) (fun _ => ?_)
      refine ev_goto (pc := 169) (tgt := 179) dL_reads_169 (by decide) ?_
      refine ev_iconst (pc := 179) (v := 1) dL_reads_179 (by decide) ?_
      refine ev_goto (pc := 180) (tgt := 184) dL_reads_180 (by decide) ?_
      exact ev_zretE (pc := 184) dL_reads_184 rfl ⟨Nat.le_of_ble_eq_true rfl, Nat.le_of_ble_eq_true rfl⟩ (by first | exact Or.inl rfl | exact Or.inr rfl | assumption | exact i10_o) rfl rfl
end RD5
