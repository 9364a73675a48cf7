/-! THE LAW: ends, the crash inside a commit -/
section EN6
variable {N : Nat} {σ : SS} {w : mW} {cc : Nat → Int64} {ep is : Nat → Int32}
/-- what stays as it was, at a crash that was refused -/
theorem endc_no (C : CG N σ (T3 cc ep is) w) (hI : LI σ cc ep is) (x y : Int32) (h0 : 0 < lowN x 8) (hk : lowN x 8 < 4) (h : lowN y 6 = 5 ∨ gB σ = none ∨ ∃ z, gB σ = some z ∧ (0 < lowN y 6 ∧ lowN y 6 < 4) ∧ gO σ (gS σ) = none) : EvS m_L_ends [.ref 0, .int x, .int y, .ref 21, .ref 22, .ref 23] w (.inl (some (.int 1))) w := by
  have hs2 := g_s2 C
  have l6 := lowN_lt y (show 0 < 6 by decide)
  obtain ⟨fs, hfs⟩ := cg_0 C
  by_cases h5 : lowN y 6 = 5
  · refine evs_of (by decide +kernel) (Nat.le_of_ble_eq_true rfl) (by decide) rfl ?_
    refine ev_iload_n (pc := 0) dL_ends_0 rfl rfl ?_
    refine ev_bipush (pc := 1) (v := 8) dL_ends_1 (by decide) ?_
    refine cS2 (pc := 3) lk_L_ends_3 (Nat.le_of_ble_eq_true rfl) ⟨Nat.le_of_ble_eq_true rfl, Nat.le_of_ble_eq_true rfl⟩ (r_low (n := 8) (by decide) (by decide)) ?_
    refine ev_istore (pc := 6) dL_ends_6 rfl rfl ?_
    refine ev_aload_n (pc := 8) dL_ends_8 rfl rfl ?_
    refine cV0 (pc := 9) lk_L_ends_9 hfs rfl rfl (Nat.le_of_ble_eq_true rfl) ⟨Nat.le_of_ble_eq_true rfl, Nat.le_of_ble_eq_true rfl⟩ (r_curSlot C) ?_
    refine ev_istore (pc := 12) dL_ends_12 rfl rfl ?_
    refine ev_iconst (pc := 14) (v := 1) dL_ends_14 (by decide) ?_
    refine ev_iload (pc := 15) dL_ends_15 rfl ?_
    refine ev_isub (pc := 17) dL_ends_17 ?_
    rw [e_1s hs2]
    refine ev_istore (pc := 18) dL_ends_18 rfl rfl ?_
    refine ev_iload (pc := 20) dL_ends_20 rfl ?_
    refine ev_if_ne (pc := 22) (tgt := 39) dL_ends_22 (by decide) (fun _ => ?_) (fun c_22 => absurd c_22 (fun e => absurd (nI_inj (by omega) (by decide) (show nI (lowN x 8) = nI 0 from e)) (by omega)))
    refine ev_iload (pc := 39) dL_ends_39 rfl ?_
    refine ev_iconst (pc := 41) (v := 4) dL_ends_41 (by decide) ?_
    refine ev_ic_ge (pc := 42) (tgt := 168) dL_ends_42 (by decide) (fun c_42 => absurd c_42 (nI_ge hk (by decide))) (fun _ => ?_)
    refine ev_iload_n (pc := 45) dL_ends_45 rfl rfl ?_
    refine ev_bipush (pc := 46) (v := 6) dL_ends_46 (by decide) ?_
    refine cS2 (pc := 48) lk_L_ends_48 (Nat.le_of_ble_eq_true rfl) ⟨Nat.le_of_ble_eq_true rfl, Nat.le_of_ble_eq_true rfl⟩ (r_low (n := 6) (by decide) (by decide)) ?_
    refine ev_istore (pc := 51) dL_ends_51 rfl rfl ?_
    refine ev_aload_n (pc := 53) dL_ends_53 rfl rfl ?_
    refine ev_iload (pc := 54) dL_ends_54 rfl ?_
    refine cX2 (pc := 56) lk_L_ends_56 (Nat.le_of_ble_eq_true rfl) ⟨Nat.le_of_ble_eq_true rfl, Nat.le_of_ble_eq_true rfl⟩ (m_cicT1 C (Or.inr (by rw [h5]; decide))) ?_
    refine ev_istore (pc := 59) dL_ends_59 rfl rfl ?_
    refine ev_iload (pc := 61) dL_ends_61 rfl ?_
    refine ev_iconst (pc := 63) (v := 5) dL_ends_63 (by decide) ?_
    refine ev_ic_eq (pc := 64) (tgt := 96) dL_ends_64 (by decide) (fun _ => ?_) (fun c_64 => absurd (congrArg nI h5) c_64)
    refine ev_iload (pc := 96) dL_ends_96 rfl ?_
    refine ev_iload (pc := 98) dL_ends_98 rfl ?_
    refine ev_iconst (pc := 100) (v := 5) dL_ends_100 (by decide) ?_
    refine ev_ic_ne (pc := 101) (tgt := 109) dL_ends_101 (by decide) (fun c_101 => absurd (congrArg nI h5) c_101) (fun _ => ?_)
    refine ev_ldc (pc := 104) dL_ends_104 ki_L_23 ?_
    refine ev_goto (pc := 106) (tgt := 111) dL_ends_106 (by decide) ?_
    refine ev_ic_ne (pc := 111) (tgt := 118) dL_ends_111 (by decide) (fun c_111 => absurd rfl c_111) (fun _ => ?_)
    refine ev_iconst (pc := 114) (v := 1) dL_ends_114 (by decide) ?_
    refine ev_goto (pc := 115) (tgt := 119) dL_ends_115 (by decide) ?_
    exact ev_zretE (pc := 119) dL_ends_119 rfl ⟨Nat.le_of_ble_eq_true rfl, Nat.le_of_ble_eq_true rfl⟩ (by first | exact Or.inl rfl | exact Or.inr rfl | assumption | exact i10_o) rfl rfl
  · by_cases hb : gB σ = none
    · have hi := ob_n hI.2.1 hb
      refine evs_of (by decide +kernel) (Nat.le_of_ble_eq_true rfl) (by decide) rfl ?_
      refine ev_iload_n (pc := 0) dL_ends_0 rfl rfl ?_
      refine ev_bipush (pc := 1) (v := 8) dL_ends_1 (by decide) ?_
      refine cS2 (pc := 3) lk_L_ends_3 (Nat.le_of_ble_eq_true rfl) ⟨Nat.le_of_ble_eq_true rfl, Nat.le_of_ble_eq_true rfl⟩ (r_low (n := 8) (by decide) (by decide)) ?_
      refine ev_istore (pc := 6) dL_ends_6 rfl rfl ?_
      refine ev_aload_n (pc := 8) dL_ends_8 rfl rfl ?_
      refine cV0 (pc := 9) lk_L_ends_9 hfs rfl rfl (Nat.le_of_ble_eq_true rfl) ⟨Nat.le_of_ble_eq_true rfl, Nat.le_of_ble_eq_true rfl⟩ (r_curSlot C) ?_
      refine ev_istore (pc := 12) dL_ends_12 rfl rfl ?_
      refine ev_iconst (pc := 14) (v := 1) dL_ends_14 (by decide) ?_
      refine ev_iload (pc := 15) dL_ends_15 rfl ?_
      refine ev_isub (pc := 17) dL_ends_17 ?_
      rw [e_1s hs2]
      refine ev_istore (pc := 18) dL_ends_18 rfl rfl ?_
      refine ev_iload (pc := 20) dL_ends_20 rfl ?_
      refine ev_if_ne (pc := 22) (tgt := 39) dL_ends_22 (by decide) (fun _ => ?_) (fun c_22 => absurd c_22 (fun e => absurd (nI_inj (by omega) (by decide) (show nI (lowN x 8) = nI 0 from e)) (by omega)))
      refine ev_iload (pc := 39) dL_ends_39 rfl ?_
      refine ev_iconst (pc := 41) (v := 4) dL_ends_41 (by decide) ?_
      refine ev_ic_ge (pc := 42) (tgt := 168) dL_ends_42 (by decide) (fun c_42 => absurd c_42 (nI_ge hk (by decide))) (fun _ => ?_)
      refine ev_iload_n (pc := 45) dL_ends_45 rfl rfl ?_
      refine ev_bipush (pc := 46) (v := 6) dL_ends_46 (by decide) ?_
      refine cS2 (pc := 48) lk_L_ends_48 (Nat.le_of_ble_eq_true rfl) ⟨Nat.le_of_ble_eq_true rfl, Nat.le_of_ble_eq_true rfl⟩ (r_low (n := 6) (by decide) (by decide)) ?_
      refine ev_istore (pc := 51) dL_ends_51 rfl rfl ?_
      refine ev_aload_n (pc := 53) dL_ends_53 rfl rfl ?_
      refine ev_iload (pc := 54) dL_ends_54 rfl ?_
      refine cX2 (pc := 56) lk_L_ends_56 (Nat.le_of_ble_eq_true rfl) ⟨Nat.le_of_ble_eq_true rfl, Nat.le_of_ble_eq_true rfl⟩ (m_cicT2 C (by omega) hb) ?_
      refine ev_istore (pc := 59) dL_ends_59 rfl rfl ?_
      refine ev_iload (pc := 61) dL_ends_61 rfl ?_
      refine ev_iconst (pc := 63) (v := 5) dL_ends_63 (by decide) ?_
      refine ev_ic_eq (pc := 64) (tgt := 96) dL_ends_64 (by decide) (fun c_64 => absurd c_64 (fun e => h5 (nI_inj (by omega) (by decide) (show nI (lowN y 6) = nI 5 from e)))) (fun _ => ?_)
      refine ev_aload (pc := 67) dL_ends_67 rfl ?_
      refine ev_iconst (pc := 69) (v := 1) dL_ends_69 (by decide) ?_
      refine ev_ialdN (pc := 70) dL_ends_70 (t3_i C) ⟨(show _ = nI 1 from rfl), by decide, by decide⟩ hi ?_
      refine ev_if_eq (pc := 71) (tgt := 96) dL_ends_71 (by decide) (fun _ => ?_) (fun c_71 => absurd rfl c_71)
      refine ev_iload (pc := 96) dL_ends_96 rfl ?_
      refine ev_iload (pc := 98) dL_ends_98 rfl ?_
      refine ev_iconst (pc := 100) (v := 5) dL_ends_100 (by decide) ?_
      refine ev_ic_ne (pc := 101) (tgt := 109) dL_ends_101 (by decide) (fun _ => ?_) (fun c_101 => absurd c_101 (fun e => h5 (nI_inj (by omega) (by decide) (show nI (lowN y 6) = nI 5 from e))))
      refine ev_ldc (pc := 109) dL_ends_109 ki_L_30 ?_
      refine ev_ic_ne (pc := 111) (tgt := 118) dL_ends_111 (by decide) (fun c_111 => absurd rfl c_111) (fun _ => ?_)
      refine ev_iconst (pc := 114) (v := 1) dL_ends_114 (by decide) ?_
      refine ev_goto (pc := 115) (tgt := 119) dL_ends_115 (by decide) ?_
      exact ev_zretE (pc := 119) dL_ends_119 rfl ⟨Nat.le_of_ble_eq_true rfl, Nat.le_of_ble_eq_true rfl⟩ (by first | exact Or.inl rfl | exact Or.inr rfl | assumption | exact i10_o) rfl rfl
    · obtain ⟨z, hz, hn, ho⟩ := (h.resolve_left h5).resolve_left hb
      obtain ⟨hi, -, -⟩ := ob_s hI.2.1 hz
      have his := ob_n (hI.2.2.2 (gS σ) hs2) ho
      refine evs_of (by decide +kernel) (Nat.le_of_ble_eq_true rfl) (by decide) rfl ?_
      refine ev_iload_n (pc := 0) dL_ends_0 rfl rfl ?_
      refine ev_bipush (pc := 1) (v := 8) dL_ends_1 (by decide) ?_
      refine cS2 (pc := 3) lk_L_ends_3 (Nat.le_of_ble_eq_true rfl) ⟨Nat.le_of_ble_eq_true rfl, Nat.le_of_ble_eq_true rfl⟩ (r_low (n := 8) (by decide) (by decide)) ?_
      refine ev_istore (pc := 6) dL_ends_6 rfl rfl ?_
      refine ev_aload_n (pc := 8) dL_ends_8 rfl rfl ?_
      refine cV0 (pc := 9) lk_L_ends_9 hfs rfl rfl (Nat.le_of_ble_eq_true rfl) ⟨Nat.le_of_ble_eq_true rfl, Nat.le_of_ble_eq_true rfl⟩ (r_curSlot C) ?_
      refine ev_istore (pc := 12) dL_ends_12 rfl rfl ?_
      refine ev_iconst (pc := 14) (v := 1) dL_ends_14 (by decide) ?_
      refine ev_iload (pc := 15) dL_ends_15 rfl ?_
      refine ev_isub (pc := 17) dL_ends_17 ?_
      rw [e_1s hs2]
      refine ev_istore (pc := 18) dL_ends_18 rfl rfl ?_
      refine ev_iload (pc := 20) dL_ends_20 rfl ?_
      refine ev_if_ne (pc := 22) (tgt := 39) dL_ends_22 (by decide) (fun _ => ?_) (fun c_22 => absurd c_22 (fun e => absurd (nI_inj (by omega) (by decide) (show nI (lowN x 8) = nI 0 from e)) (by omega)))
      refine ev_iload (pc := 39) dL_ends_39 rfl ?_
      refine ev_iconst (pc := 41) (v := 4) dL_ends_41 (by decide) ?_
      refine ev_ic_ge (pc := 42) (tgt := 168) dL_ends_42 (by decide) (fun c_42 => absurd c_42 (nI_ge hk (by decide))) (fun _ => ?_)
      refine ev_iload_n (pc := 45) dL_ends_45 rfl rfl ?_
      refine ev_bipush (pc := 46) (v := 6) dL_ends_46 (by decide) ?_
      refine cS2 (pc := 48) lk_L_ends_48 (Nat.le_of_ble_eq_true rfl) ⟨Nat.le_of_ble_eq_true rfl, Nat.le_of_ble_eq_true rfl⟩ (r_low (n := 6) (by decide) (by decide)) ?_
      refine ev_istore (pc := 51) dL_ends_51 rfl rfl ?_
      refine ev_aload_n (pc := 53) dL_ends_53 rfl rfl ?_
      refine ev_iload (pc := 54) dL_ends_54 rfl ?_
      refine cX2 (pc := 56) lk_L_ends_56 (Nat.le_of_ble_eq_true rfl) ⟨Nat.le_of_ble_eq_true rfl, Nat.le_of_ble_eq_true rfl⟩ (m_cicT3 C hn hz ho) ?_
      refine ev_istore (pc := 59) dL_ends_59 rfl rfl ?_
      refine ev_iload (pc := 61) dL_ends_61 rfl ?_
      refine ev_iconst (pc := 63) (v := 5) dL_ends_63 (by decide) ?_
      refine ev_ic_eq (pc := 64) (tgt := 96) dL_ends_64 (by decide) (fun c_64 => absurd c_64 (fun e => h5 (nI_inj (by omega) (by decide) (show nI (lowN y 6) = nI 5 from e)))) (fun _ => ?_)
      refine ev_aload (pc := 67) dL_ends_67 rfl ?_
      refine ev_iconst (pc := 69) (v := 1) dL_ends_69 (by decide) ?_
      refine ev_ialdN (pc := 70) dL_ends_70 (t3_i C) ⟨(show _ = nI 1 from rfl), by decide, by decide⟩ hi ?_
      refine ev_if_eq (pc := 71) (tgt := 96) dL_ends_71 (by decide) (fun c_71 => absurd c_71 (by decide)) (fun _ => ?_)
      refine ev_iload (pc := 74) dL_ends_74 rfl ?_
      refine ev_if_le (pc := 76) (tgt := 120) dL_ends_76 (by decide) (fun c_76 => absurd c_76 (nI_nle hn.1 (by omega))) (fun _ => ?_)
      refine ev_iload (pc := 79) dL_ends_79 rfl ?_
      refine ev_iconst (pc := 81) (v := 4) dL_ends_81 (by decide) ?_
      refine ev_ic_ge (pc := 82) (tgt := 120) dL_ends_82 (by decide) (fun c_82 => absurd c_82 (nI_ge hn.2 (by decide))) (fun _ => ?_)
      refine ev_aload (pc := 85) dL_ends_85 rfl ?_
      refine ev_bipush (pc := 87) (v := 6) dL_ends_87 (by decide) ?_
      refine ev_iload (pc := 89) dL_ends_89 rfl ?_
      refine ev_iadd (pc := 91) dL_ends_91 ?_
      rw [e_6s]
      refine ev_ialdN (pc := 92) dL_ends_92 (t3_i C) ⟨(show _ = nI (6 + gS σ) from rfl), by omega, by decide⟩ his ?_
      refine ev_if_ne (pc := 93) (tgt := 120) dL_ends_93 (by decide) (fun c_93 => absurd rfl c_93) (fun _ => ?_)
      refine ev_iload (pc := 96) dL_ends_96 rfl ?_
      refine ev_iload (pc := 98) dL_ends_98 rfl ?_
      refine ev_iconst (pc := 100) (v := 5) dL_ends_100 (by decide) ?_
      refine ev_ic_ne (pc := 101) (tgt := 109) dL_ends_101 (by decide) (fun _ => ?_) (fun c_101 => absurd c_101 (fun e => h5 (nI_inj (by omega) (by decide) (show nI (lowN y 6) = nI 5 from e))))
      refine ev_ldc (pc := 109) dL_ends_109 ki_L_30 ?_
      refine ev_ic_ne (pc := 111) (tgt := 118) dL_ends_111 (by decide) (fun c_111 => absurd rfl c_111) (fun _ => ?_)
      refine ev_iconst (pc := 114) (v := 1) dL_ends_114 (by decide) ?_
      refine ev_goto (pc := 115) (tgt := 119) dL_ends_115 (by decide) ?_
      exact ev_zretE (pc := 119) dL_ends_119 rfl ⟨Nat.le_of_ble_eq_true rfl, Nat.le_of_ble_eq_true rfl⟩ (by first | exact Or.inl rfl | exact Or.inr rfl | assumption | exact i10_o) rfl rfl
theorem endc_0 (C : CG N σ (T3 cc ep is) w) (hN : N ≤ 500) (hI : LI σ cc ep is) (x y : Int32) (h0 : 0 < lowN x 8) (hk : lowN x 8 < 4) (hn : lowN y 6 = 0) {z : RS3} (hb : gB σ = some z) : ∃ (σ' : SS) (w' : mW) (cc' : Nat → Int64) (ep' is' : Nat → Int32), CG (N + 1) σ' (T3 cc' ep' is') w' ∧ LI σ' cc' ep' is' ∧ EvS m_L_ends [.ref 0, .int x, .int y, .ref 21, .ref 22, .ref 23] w (.inl (some (.int 1))) w' := by
  have hs2 := g_s2 C
  obtain ⟨hi, -, -⟩ := ob_s hI.2.1 hb
  obtain ⟨fs, hfs⟩ := cg_0 C
  obtain ⟨w1, s', q, h2, hlat, hq, C1, e1⟩ := m_cic C (by omega) (n := 0) (by decide) hb (fun h => absurd h.1 (by decide))
  obtain ⟨w2, cc', ep', is', C2, hI2, e2⟩ := r_wakes C1 (by omega) h2 hlat hq rfl rfl (fun t ht => ob_T (σ := σ) (hI.2.2.2 t ht) rfl (fun i hi => rfl) rfl rfl)
  refine ⟨_, w2, cc', ep', is', C2, hI2, ?_⟩
  refine evs_of (by decide +kernel) (Nat.le_of_ble_eq_true rfl) (by decide) rfl ?_
  refine ev_iload_n (pc := 0) dL_ends_0 rfl rfl ?_
  refine ev_bipush (pc := 1) (v := 8) dL_ends_1 (by decide) ?_
  refine cS2 (pc := 3) lk_L_ends_3 (Nat.le_of_ble_eq_true rfl) ⟨Nat.le_of_ble_eq_true rfl, Nat.le_of_ble_eq_true rfl⟩ (r_low (n := 8) (by decide) (by decide)) ?_
  refine ev_istore (pc := 6) dL_ends_6 rfl rfl ?_
  refine ev_aload_n (pc := 8) dL_ends_8 rfl rfl ?_
  refine cV0 (pc := 9) lk_L_ends_9 hfs rfl rfl (Nat.le_of_ble_eq_true rfl) ⟨Nat.le_of_ble_eq_true rfl, Nat.le_of_ble_eq_true rfl⟩ (r_curSlot C) ?_
  refine ev_istore (pc := 12) dL_ends_12 rfl rfl ?_
  refine ev_iconst (pc := 14) (v := 1) dL_ends_14 (by decide) ?_
  refine ev_iload (pc := 15) dL_ends_15 rfl ?_
  refine ev_isub (pc := 17) dL_ends_17 ?_
  rw [e_1s hs2]
  refine ev_istore (pc := 18) dL_ends_18 rfl rfl ?_
  refine ev_iload (pc := 20) dL_ends_20 rfl ?_
  refine ev_if_ne (pc := 22) (tgt := 39) dL_ends_22 (by decide) (fun _ => ?_) (fun c_22 => absurd c_22 (fun e => absurd (nI_inj (by omega) (by decide) (show nI (lowN x 8) = nI 0 from e)) (by omega)))
  refine ev_iload (pc := 39) dL_ends_39 rfl ?_
  refine ev_iconst (pc := 41) (v := 4) dL_ends_41 (by decide) ?_
  refine ev_ic_ge (pc := 42) (tgt := 168) dL_ends_42 (by decide) (fun c_42 => absurd c_42 (nI_ge hk (by decide))) (fun _ => ?_)
  refine ev_iload_n (pc := 45) dL_ends_45 rfl rfl ?_
  refine ev_bipush (pc := 46) (v := 6) dL_ends_46 (by decide) ?_
  refine cS2 (pc := 48) lk_L_ends_48 (Nat.le_of_ble_eq_true rfl) ⟨Nat.le_of_ble_eq_true rfl, Nat.le_of_ble_eq_true rfl⟩ (r_low (n := 6) (by decide) (by decide)) ?_
  rw [hn]
  refine ev_istore (pc := 51) dL_ends_51 rfl rfl ?_
  refine ev_aload_n (pc := 53) dL_ends_53 rfl rfl ?_
  refine ev_iload (pc := 54) dL_ends_54 rfl ?_
  refine cX2 (pc := 56) lk_L_ends_56 (Nat.le_of_ble_eq_true rfl) ⟨Nat.le_of_ble_eq_true rfl, Nat.le_of_ble_eq_true rfl⟩ e1 ?_
  refine ev_istore (pc := 59) dL_ends_59 rfl rfl ?_
  refine ev_iload (pc := 61) dL_ends_61 rfl ?_
  refine ev_iconst (pc := 63) (v := 5) dL_ends_63 (by decide) ?_
  refine ev_ic_eq (pc := 64) (tgt := 96) dL_ends_64 (by decide) (fun c_64 => absurd c_64 (by decide)) (fun _ => ?_)
  refine ev_aload (pc := 67) dL_ends_67 rfl ?_
  refine ev_iconst (pc := 69) (v := 1) dL_ends_69 (by decide) ?_
  refine ev_ialdN (pc := 70) dL_ends_70 (t3_i C1) ⟨(show _ = nI 1 from rfl), by decide, by decide⟩ hi ?_
  refine ev_if_eq (pc := 71) (tgt := 96) dL_ends_71 (by decide) (fun c_71 => absurd c_71 (by decide)) (fun _ => ?_)
  refine ev_iload (pc := 74) dL_ends_74 rfl ?_
  refine ev_if_le (pc := 76) (tgt := 120) dL_ends_76 (by decide) (fun _ => ?_) (fun c_76 => absurd (by decide) c_76)
  refine ev_iload (pc := 120) dL_ends_120 rfl ?_
  refine ev_if_le (pc := 122) (tgt := 156) dL_ends_122 (by decide) (fun _ => ?_) (fun c_122 => absurd (by decide) c_122)
  refine ev_aload_n (pc := 156) dL_ends_156 rfl rfl ?_
  refine ev_iload (pc := 157) dL_ends_157 rfl ?_
  refine ev_aload_n (pc := 159) dL_ends_159 rfl rfl ?_
  refine ev_aload (pc := 160) dL_ends_160 rfl ?_
  refine ev_aload (pc := 162) dL_ends_162 rfl ?_
  refine cS5 (pc := 164) lk_L_ends_164 (Nat.le_of_ble_eq_true rfl) ⟨Nat.le_of_ble_eq_true rfl, Nat.le_of_ble_eq_true rfl⟩ e2 ?_
  exact ev_zretE (pc := 167) dL_ends_167 rfl ⟨Nat.le_of_ble_eq_true rfl, Nat.le_of_ble_eq_true rfl⟩ (by first | exact Or.inl rfl | exact Or.inr rfl | assumption | exact i10_o) rfl rfl
theorem endc_n (C : CG N σ (T3 cc ep is) w) (hN : N ≤ 500) (hI : LI σ cc ep is) (x y : Int32) (h0 : 0 < lowN x 8) (hk : lowN x 8 < 4) (hn : 0 < lowN y 6 ∧ lowN y 6 ≤ 4) {z : RS3} (hb : gB σ = some z) (ho : 0 < lowN y 6 ∧ lowN y 6 < 4 → ∃ z, gO σ (gS σ) = some z) : ∃ (σ' : SS) (w' : mW) (cc' : Nat → Int64) (ep' is' : Nat → Int32), CG (N + 1) σ' (T3 cc' ep' is') w' ∧ LI σ' cc' ep' is' ∧ EvS m_L_ends [.ref 0, .int x, .int y, .ref 21, .ref 22, .ref 23] w (.inl (some (.int 1))) w' := by
  have hs2 := g_s2 C
  obtain ⟨hi, hcn, hep⟩ := ob_s hI.2.1 hb
  obtain ⟨fs, hfs⟩ := cg_0 C
  obtain ⟨n, hnn⟩ : ∃ n, n = lowN y 6 := ⟨_, rfl⟩
  have elow : ∀ w : mW, EvS m_L_low [.int y, .int 6] w (.inl (some (.int (nI n)))) w := fun w => by
    rw [hnn]
    exact r_low (n := 6) (by decide) (by decide)
  rw [← hnn] at hn ho
  obtain ⟨t, ht⟩ : ∃ t, t = 1 - gS σ := ⟨_, rfl⟩
  have ht2 : t < 2 := by omega
  obtain ⟨w1, s', q, h2, hlat, hq, C1, e1⟩ := m_cic C (by omega) (n := n) hn.2 hb ho
  obtain ⟨bi, hbi⟩ : ∃ bi : Int32, bi = if n = 4 then 1 else 0 := ⟨_, rfl⟩
  have C2 := t3_si C1 (upd is (6 + t) bi)
  have ec := r_copies (p := 21) (pe := 22) (a := 1) (b := 6 + t) (t3_c C2) (by decide) (t3_e C2) (by decide) (by omega) (by omega)
  have C3 := t3_se (t3_sc C2 (cpP cc 1 (6 + t) 3)) (upd ep (6 + t) (ep 1))
  have tno : ∀ {s i : Nat}, i < 32 → s ≠ 6 + t → tn (cpP cc 1 (6 + t) 3) s i = tn cc s i := fun {s i} h1 h3 => by rw [tn_cp (by omega), if_neg h3]
  have tns : ∀ {i : Nat}, i < 32 → tn (cpP cc 1 (6 + t) 3) (6 + t) i = tn cc 1 i := fun {i} h1 => by rw [tn_cp (by omega), if_pos rfl]
  have hsI : stI σ cc ep 1 z := ⟨hcn, hep⟩
  have hO : ∀ u, u < 2 → obI (craS σ (cicO σ n z) (wrS (gD σ) (1 - gS σ) z n) s' q) (cpP cc 1 (6 + t) 3) (upd ep (6 + t) (ep 1)) (upd is (6 + t) bi) (6 + u) (cicO σ n z u) := fun u hu => by
    unfold cicO
    rw [if_neg (by omega), ← ht]
    by_cases h4 : n = 4
    · rw [if_pos h4] at hbi ⊢
      unfold setR
      by_cases hut : u = t
      · rw [if_pos hut, hut, hbi]
        exact ⟨pk_us, st_T hsI rfl (fun i hi => tns hi) pk_us⟩
      · rw [if_neg hut]
        exact ob_T (hI.2.2.2 u hu) rfl (fun i hi => tno hi (by omega)) (pk_un (by omega)) (pk_un (by omega))
    · rw [if_neg h4] at hbi ⊢
      unfold setR
      by_cases hut : u = t
      · rw [if_pos hut, hut, hbi]
        exact pk_us
      · rw [if_neg hut]
        exact ob_T (hI.2.2.2 u hu) rfl (fun i hi => tno hi (by omega)) (pk_un (by omega)) (pk_un (by omega))
  obtain ⟨w2, cc', ep', is', C4, hI2, e2⟩ := r_wakes C3 (by omega) h2 hlat hq rfl rfl hO
  refine ⟨_, w2, cc', ep', is', C4, hI2, ?_⟩
  have fin : EvF m_L_ends (mQm m_L_ends (.inl (some (.int 1))) w2) 120 [.ref 0, .int x, .int y, .ref 21, .ref 22, .ref 23, .int (nI (lowN x 8)), .int (nI (gS σ)), .int (nI t), .int (nI n), .int (nI q.1)] [] 6 36 w1 := by
    by_cases h4 : n = 4
    · rw [if_pos h4] at hbi
      refine ev_iload (pc := 120) dL_ends_120 rfl ?_
      refine ev_if_le (pc := 122) (tgt := 156) dL_ends_122 (by decide) (fun c_122 => absurd c_122 (nI_nle hn.1 (by omega))) (fun _ => ?_)
      refine ev_aload (pc := 125) dL_ends_125 rfl ?_
      refine ev_bipush (pc := 127) (v := 6) dL_ends_127 (by decide) ?_
      refine ev_iload (pc := 129) dL_ends_129 rfl ?_
      refine ev_iadd (pc := 131) dL_ends_131 ?_
      rw [e_6s]
      refine ev_iload (pc := 132) dL_ends_132 rfl ?_
      refine ev_iconst (pc := 134) (v := 4) dL_ends_134 (by decide) ?_
      refine ev_ic_ne (pc := 135) (tgt := 142) dL_ends_135 (by decide) (fun c_135 => absurd (congrArg nI h4) c_135) (fun _ => ?_)
      refine ev_iconst (pc := 138) (v := 1) dL_ends_138 (by decide) ?_
      refine ev_goto (pc := 139) (tgt := 143) dL_ends_139 (by decide) ?_
      refine ev_iastN (pc := 143) dL_ends_143 (t3_i C1) ⟨(show _ = nI (6 + t) from rfl), by omega, by decide⟩ (show upd is (6 + t) 1 = upd is (6 + t) bi by rw [hbi]) rfl ?_
      refine ev_aload_n (pc := 144) dL_ends_144 rfl rfl ?_
      refine ev_aload (pc := 145) dL_ends_145 rfl ?_
      refine ev_iconst (pc := 147) (v := 1) dL_ends_147 (by decide) ?_
      refine ev_bipush (pc := 148) (v := 6) dL_ends_148 (by decide) ?_
      refine ev_iload (pc := 150) dL_ends_150 rfl ?_
      refine ev_iadd (pc := 152) dL_ends_152 ?_
      rw [e_6s]
      refine cS4 (pc := 153) lk_L_ends_153 (Nat.le_of_ble_eq_true rfl) ⟨Nat.le_of_ble_eq_true rfl, Nat.le_of_ble_eq_true rfl⟩ ec ?_
      refine ev_aload_n (pc := 156) dL_ends_156 rfl rfl ?_
      refine ev_iload (pc := 157) dL_ends_157 rfl ?_
      refine ev_aload_n (pc := 159) dL_ends_159 rfl rfl ?_
      refine ev_aload (pc := 160) dL_ends_160 rfl ?_
      refine ev_aload (pc := 162) dL_ends_162 rfl ?_
      refine cS5 (pc := 164) lk_L_ends_164 (Nat.le_of_ble_eq_true rfl) ⟨Nat.le_of_ble_eq_true rfl, Nat.le_of_ble_eq_true rfl⟩ e2 ?_
      exact ev_zretE (pc := 167) dL_ends_167 rfl ⟨Nat.le_of_ble_eq_true rfl, Nat.le_of_ble_eq_true rfl⟩ (by first | exact Or.inl rfl | exact Or.inr rfl | assumption | exact i10_o) rfl rfl
    · rw [if_neg h4] at hbi
      refine ev_iload (pc := 120) dL_ends_120 rfl ?_
      refine ev_if_le (pc := 122) (tgt := 156) dL_ends_122 (by decide) (fun c_122 => absurd c_122 (nI_nle hn.1 (by omega))) (fun _ => ?_)
      refine ev_aload (pc := 125) dL_ends_125 rfl ?_
      refine ev_bipush (pc := 127) (v := 6) dL_ends_127 (by decide) ?_
      refine ev_iload (pc := 129) dL_ends_129 rfl ?_
      refine ev_iadd (pc := 131) dL_ends_131 ?_
      rw [e_6s]
      refine ev_iload (pc := 132) dL_ends_132 rfl ?_
      refine ev_iconst (pc := 134) (v := 4) dL_ends_134 (by decide) ?_
      refine ev_ic_ne (pc := 135) (tgt := 142) dL_ends_135 (by decide) (fun _ => ?_) (fun c_135 => absurd c_135 (fun e => h4 (nI_inj (by omega) (by decide) (show nI n = nI 4 from e))))
      refine ev_iconst (pc := 142) (v := 0) dL_ends_142 (by decide) ?_
      refine ev_iastN (pc := 143) dL_ends_143 (t3_i C1) ⟨(show _ = nI (6 + t) from rfl), by omega, by decide⟩ (show upd is (6 + t) 0 = upd is (6 + t) bi by rw [hbi]) rfl ?_
      refine ev_aload_n (pc := 144) dL_ends_144 rfl rfl ?_
      refine ev_aload (pc := 145) dL_ends_145 rfl ?_
      refine ev_iconst (pc := 147) (v := 1) dL_ends_147 (by decide) ?_
      refine ev_bipush (pc := 148) (v := 6) dL_ends_148 (by decide) ?_
      refine ev_iload (pc := 150) dL_ends_150 rfl ?_
      refine ev_iadd (pc := 152) dL_ends_152 ?_
      rw [e_6s]
      refine cS4 (pc := 153) lk_L_ends_153 (Nat.le_of_ble_eq_true rfl) ⟨Nat.le_of_ble_eq_true rfl, Nat.le_of_ble_eq_true rfl⟩ ec ?_
      refine ev_aload_n (pc := 156) dL_ends_156 rfl rfl ?_
      refine ev_iload (pc := 157) dL_ends_157 rfl ?_
      refine ev_aload_n (pc := 159) dL_ends_159 rfl rfl ?_
      refine ev_aload (pc := 160) dL_ends_160 rfl ?_
      refine ev_aload (pc := 162) dL_ends_162 rfl ?_
      refine cS5 (pc := 164) lk_L_ends_164 (Nat.le_of_ble_eq_true rfl) ⟨Nat.le_of_ble_eq_true rfl, Nat.le_of_ble_eq_true rfl⟩ e2 ?_
      exact ev_zretE (pc := 167) dL_ends_167 rfl ⟨Nat.le_of_ble_eq_true rfl, Nat.le_of_ble_eq_true rfl⟩ (by first | exact Or.inl rfl | exact Or.inr rfl | assumption | exact i10_o) rfl rfl
  refine evs_of (by decide +kernel) (Nat.le_of_ble_eq_true rfl) (by decide) rfl ?_
  by_cases h4 : n = 4
  · refine ev_iload_n (pc := 0) dL_ends_0 rfl rfl ?_
    refine ev_bipush (pc := 1) (v := 8) dL_ends_1 (by decide) ?_
    refine cS2 (pc := 3) lk_L_ends_3 (Nat.le_of_ble_eq_true rfl) ⟨Nat.le_of_ble_eq_true rfl, Nat.le_of_ble_eq_true rfl⟩ (r_low (n := 8) (by decide) (by decide)) ?_
    refine ev_istore (pc := 6) dL_ends_6 rfl rfl ?_
    refine ev_aload_n (pc := 8) dL_ends_8 rfl rfl ?_
    refine cV0 (pc := 9) lk_L_ends_9 hfs rfl rfl (Nat.le_of_ble_eq_true rfl) ⟨Nat.le_of_ble_eq_true rfl, Nat.le_of_ble_eq_true rfl⟩ (r_curSlot C) ?_
    refine ev_istore (pc := 12) dL_ends_12 rfl rfl ?_
    refine ev_iconst (pc := 14) (v := 1) dL_ends_14 (by decide) ?_
    refine ev_iload (pc := 15) dL_ends_15 rfl ?_
    refine ev_isub (pc := 17) dL_ends_17 ?_
    rw [e_1s hs2, ← ht]
    refine ev_istore (pc := 18) dL_ends_18 rfl rfl ?_
    refine ev_iload (pc := 20) dL_ends_20 rfl ?_
    refine ev_if_ne (pc := 22) (tgt := 39) dL_ends_22 (by decide) (fun _ => ?_) (fun c_22 => absurd c_22 (fun e => absurd (nI_inj (by omega) (by decide) (show nI (lowN x 8) = nI 0 from e)) (by omega)))
    refine ev_iload (pc := 39) dL_ends_39 rfl ?_
    refine ev_iconst (pc := 41) (v := 4) dL_ends_41 (by decide) ?_
    refine ev_ic_ge (pc := 42) (tgt := 168) dL_ends_42 (by decide) (fun c_42 => absurd c_42 (nI_ge hk (by decide))) (fun _ => ?_)
    refine ev_iload_n (pc := 45) dL_ends_45 rfl rfl ?_
    refine ev_bipush (pc := 46) (v := 6) dL_ends_46 (by decide) ?_
    refine cS2 (pc := 48) lk_L_ends_48 (Nat.le_of_ble_eq_true rfl) ⟨Nat.le_of_ble_eq_true rfl, Nat.le_of_ble_eq_true rfl⟩ (elow _) ?_
    refine ev_istore (pc := 51) dL_ends_51 rfl rfl ?_
    refine ev_aload_n (pc := 53) dL_ends_53 rfl rfl ?_
    refine ev_iload (pc := 54) dL_ends_54 rfl ?_
    refine cX2 (pc := 56) lk_L_ends_56 (Nat.le_of_ble_eq_true rfl) ⟨Nat.le_of_ble_eq_true rfl, Nat.le_of_ble_eq_true rfl⟩ e1 ?_
    refine ev_istore (pc := 59) dL_ends_59 rfl rfl ?_
    refine ev_iload (pc := 61) dL_ends_61 rfl ?_
    refine ev_iconst (pc := 63) (v := 5) dL_ends_63 (by decide) ?_
    refine ev_ic_eq (pc := 64) (tgt := 96) dL_ends_64 (by decide) (fun c_64 => absurd c_64 (fun e => absurd (nI_inj (by omega) (by decide) (show nI n = nI 5 from e)) (by omega))) (fun _ => ?_)
    refine ev_aload (pc := 67) dL_ends_67 rfl ?_
    refine ev_iconst (pc := 69) (v := 1) dL_ends_69 (by decide) ?_
    refine ev_ialdN (pc := 70) dL_ends_70 (t3_i C1) ⟨(show _ = nI 1 from rfl), by decide, by decide⟩ hi ?_
    refine ev_if_eq (pc := 71) (tgt := 96) dL_ends_71 (by decide) (fun c_71 => absurd c_71 (by decide)) (fun _ => ?_)
    refine ev_iload (pc := 74) dL_ends_74 rfl ?_
    refine ev_if_le (pc := 76) (tgt := 120) dL_ends_76 (by decide) (fun c_76 => absurd c_76 (nI_nle hn.1 (by omega))) (fun _ => ?_)
    refine ev_iload (pc := 79) dL_ends_79 rfl ?_
    refine ev_iconst (pc := 81) (v := 4) dL_ends_81 (by decide) ?_
    refine ev_ic_ge (pc := 82) (tgt := 120) dL_ends_82 (by decide) (fun _ => ?_) (fun c_82 => absurd (nI_le (show 4 ≤ n by omega) (by omega)) c_82)
    exact ev_widen (Nat.le_of_ble_eq_true rfl) (Nat.le_of_ble_eq_true rfl) fin
  · obtain ⟨v, hv⟩ := ho ⟨hn.1, by omega⟩
    obtain ⟨his, -, -⟩ := ob_s (hI.2.2.2 (gS σ) hs2) hv
    refine ev_iload_n (pc := 0) dL_ends_0 rfl rfl ?_
    refine ev_bipush (pc := 1) (v := 8) dL_ends_1 (by decide) ?_
    refine cS2 (pc := 3) lk_L_ends_3 (Nat.le_of_ble_eq_true rfl) ⟨Nat.le_of_ble_eq_true rfl, Nat.le_of_ble_eq_true rfl⟩ (r_low (n := 8) (by decide) (by decide)) ?_
    refine ev_istore (pc := 6) dL_ends_6 rfl rfl ?_
    refine ev_aload_n (pc := 8) dL_ends_8 rfl rfl ?_
    refine cV0 (pc := 9) lk_L_ends_9 hfs rfl rfl (Nat.le_of_ble_eq_true rfl) ⟨Nat.le_of_ble_eq_true rfl, Nat.le_of_ble_eq_true rfl⟩ (r_curSlot C) ?_
    refine ev_istore (pc := 12) dL_ends_12 rfl rfl ?_
    refine ev_iconst (pc := 14) (v := 1) dL_ends_14 (by decide) ?_
    refine ev_iload (pc := 15) dL_ends_15 rfl ?_
    refine ev_isub (pc := 17) dL_ends_17 ?_
    rw [e_1s hs2, ← ht]
    refine ev_istore (pc := 18) dL_ends_18 rfl rfl ?_
    refine ev_iload (pc := 20) dL_ends_20 rfl ?_
    refine ev_if_ne (pc := 22) (tgt := 39) dL_ends_22 (by decide) (fun _ => ?_) (fun c_22 => absurd c_22 (fun e => absurd (nI_inj (by omega) (by decide) (show nI (lowN x 8) = nI 0 from e)) (by omega)))
    refine ev_iload (pc := 39) dL_ends_39 rfl ?_
    refine ev_iconst (pc := 41) (v := 4) dL_ends_41 (by decide) ?_
    refine ev_ic_ge (pc := 42) (tgt := 168) dL_ends_42 (by decide) (fun c_42 => absurd c_42 (nI_ge hk (by decide))) (fun _ => ?_)
    refine ev_iload_n (pc := 45) dL_ends_45 rfl rfl ?_
    refine ev_bipush (pc := 46) (v := 6) dL_ends_46 (by decide) ?_
    refine cS2 (pc := 48) lk_L_ends_48 (Nat.le_of_ble_eq_true rfl) ⟨Nat.le_of_ble_eq_true rfl, Nat.le_of_ble_eq_true rfl⟩ (elow _) ?_
    refine ev_istore (pc := 51) dL_ends_51 rfl rfl ?_
    refine ev_aload_n (pc := 53) dL_ends_53 rfl rfl ?_
    refine ev_iload (pc := 54) dL_ends_54 rfl ?_
    refine cX2 (pc := 56) lk_L_ends_56 (Nat.le_of_ble_eq_true rfl) ⟨Nat.le_of_ble_eq_true rfl, Nat.le_of_ble_eq_true rfl⟩ e1 ?_
    refine ev_istore (pc := 59) dL_ends_59 rfl rfl ?_
    refine ev_iload (pc := 61) dL_ends_61 rfl ?_
    refine ev_iconst (pc := 63) (v := 5) dL_ends_63 (by decide) ?_
    refine ev_ic_eq (pc := 64) (tgt := 96) dL_ends_64 (by decide) (fun c_64 => absurd c_64 (fun e => absurd (nI_inj (by omega) (by decide) (show nI n = nI 5 from e)) (by omega))) (fun _ => ?_)
    refine ev_aload (pc := 67) dL_ends_67 rfl ?_
    refine ev_iconst (pc := 69) (v := 1) dL_ends_69 (by decide) ?_
    refine ev_ialdN (pc := 70) dL_ends_70 (t3_i C1) ⟨(show _ = nI 1 from rfl), by decide, by decide⟩ hi ?_
    refine ev_if_eq (pc := 71) (tgt := 96) dL_ends_71 (by decide) (fun c_71 => absurd c_71 (by decide)) (fun _ => ?_)
    refine ev_iload (pc := 74) dL_ends_74 rfl ?_
    refine ev_if_le (pc := 76) (tgt := 120) dL_ends_76 (by decide) (fun c_76 => absurd c_76 (nI_nle hn.1 (by omega))) (fun _ => ?_)
    refine ev_iload (pc := 79) dL_ends_79 rfl ?_
    refine ev_iconst (pc := 81) (v := 4) dL_ends_81 (by decide) ?_
    refine ev_ic_ge (pc := 82) (tgt := 120) dL_ends_82 (by decide) (fun c_82 => absurd c_82 (nI_ge (show n < 4 by omega) (by decide))) (fun _ => ?_)
    refine ev_aload (pc := 85) dL_ends_85 rfl ?_
    refine ev_bipush (pc := 87) (v := 6) dL_ends_87 (by decide) ?_
    refine ev_iload (pc := 89) dL_ends_89 rfl ?_
    refine ev_iadd (pc := 91) dL_ends_91 ?_
    rw [e_6s]
    refine ev_ialdN (pc := 92) dL_ends_92 (t3_i C1) ⟨(show _ = nI (6 + gS σ) from rfl), by omega, by decide⟩ his ?_
    refine ev_if_ne (pc := 93) (tgt := 120) dL_ends_93 (by decide) (fun _ => ?_) (fun c_93 => absurd c_93 (by decide))
    exact ev_widen (Nat.le_of_ble_eq_true rfl) (Nat.le_of_ble_eq_true rfl) fin
theorem r_ends (C : CG N σ (T3 cc ep is) w) (hN : N ≤ 500) (hI : LI σ cc ep is) (x y : Int32) : ∃ (σ' : SS) (w' : mW) (cc' : Nat → Int64) (ep' is' : Nat → Int32), CG (N + 1) σ' (T3 cc' ep' is') w' ∧ LI σ' cc' ep' is' ∧ EvS m_L_ends [.ref 0, .int x, .int y, .ref 21, .ref 22, .ref 23] w (.inl (some (.int 1))) w' := by
  have l6 := lowN_lt y (show 0 < 6 by decide)
  by_cases h0 : lowN x 8 = 0
  · exact ends_0 C hN hI x y h0
  by_cases h4 : lowN x 8 < 4
  · by_cases h5 : lowN y 6 = 5
    · exact ⟨σ, w, cc, ep, is, CG.mono (by omega) C, hI, endc_no C hI x y (by omega) h4 (Or.inl h5)⟩
    cases hb : gB σ with
    | none => exact ⟨σ, w, cc, ep, is, CG.mono (by omega) C, hI, endc_no C hI x y (by omega) h4 (Or.inr (Or.inl hb))⟩
    | some z =>
      by_cases hn : lowN y 6 = 0
      · exact endc_0 C hN hI x y (by omega) h4 hn hb
      cases ho : gO σ (gS σ) with
      | some v => exact endc_n C hN hI x y (by omega) h4 ⟨by omega, by omega⟩ hb (fun _ => ⟨v, ho⟩)
      | none =>
        by_cases hn4 : lowN y 6 = 4
        · exact endc_n C hN hI x y (by omega) h4 ⟨by omega, by omega⟩ hb (fun h => absurd h.2 (by omega))
        · exact ⟨σ, w, cc, ep, is, CG.mono (by omega) C, hI, endc_no C hI x y (by omega) h4 (Or.inr (Or.inr ⟨z, hb, ⟨by omega, by omega⟩, ho⟩))⟩
  cases hb : gB σ with
  | none => exact ⟨σ, w, cc, ep, is, CG.mono (by omega) C, hI, ends_no C hI x y (by omega) hb⟩
  | some z =>
    by_cases h : lowN x 8 = 4
    · exact ends_4 C hI x y h hb
    · exact ends_5 C hN hI x y (by omega) hb
end EN6
