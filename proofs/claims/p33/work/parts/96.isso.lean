/-! THE LAW: all that is told is as it must be -/
theorem gV_m1 (σ : SS) : gV σ (-1) = some ((gB σ).getD (gC σ)) := if_pos rfl
theorem gV_rd (σ : SS) {k : Nat} (hk : k < 4) : gV σ (nI k) = gR σ k := by
  show vwF (gC σ) (gB σ) (gR σ) (nI k) = _
  unfold vwF
  rcases lt4 hk with rfl | rfl | rfl | rfl
  · rw [if_neg (by decide), if_pos rfl]
  · rw [if_neg (by decide), if_neg (by decide), if_pos rfl]
  · rw [if_neg (by decide), if_neg (by decide), if_neg (by decide), if_pos rfl]
  · rw [if_neg (by decide), if_neg (by decide), if_neg (by decide), if_neg (by decide), if_pos rfl]
section ISO
variable {N : Nat} {σ : SS} {w : mW} {cc g : Nat → Int64} {ep is f : Nat → Int32}
theorem li_now (hI : LI σ cc ep is) : ∃ nw y, nw < 2 ∧ gV σ (-1) = some y ∧ cN (gT σ) y.2.1 (ct (tn cc nw)) ∧ ep nw = nI y.1 ∧ ((gB σ = none ∧ nw = 0 ∧ y = gC σ) ∨ (gB σ = some y ∧ nw = 1)) ∧ is 1 = nI nw := by
  obtain ⟨⟨c1, c2⟩, hb, -, -⟩ := hI
  cases hx : gB σ with
  | none => exact ⟨0, gC σ, by decide, by rw [gV_m1, hx]; rfl, c1, c2, Or.inl ⟨rfl, rfl, rfl⟩, ob_n hb hx⟩
  | some y =>
    obtain ⟨h1, h2, h3⟩ := ob_s hb hx
    exact ⟨1, y, by decide, by rw [gV_m1, hx]; rfl, h2, h3, Or.inr ⟨rfl, rfl⟩, h1⟩
theorem so_step (h : CG N σ (TL cc ep is f g) w) (hI : LI σ cc ep is) {k : Nat} (hk : k < 4) (v4 : Int32) : ∃ (w' : mW) (f' : Nat → Int32) (g' : Nat → Int64), CG N σ (TL cc ep is f' g') w' ∧ (∀ q, mb g' q = true ↔ ((∃ x, gR σ k = some x ∧ Rch (gT σ) x.2.1 q) ∨ mb g q = true)) ∧ ∀ (Qf : mQ) (rn kc ks c : Nat) (v9 v10 v11 v12 v13 : Value), rn ≤ 10 → c = (if lowN (v4 >>> (5 &&& 31)) 4 = k then 2300 else 0) → kc + 1401 + c ≤ 13000 → ks + 8850 + 7 * c ≤ 82000 → EvF m_L_isSo Qf 18 [.ref 0, .ref 21, .ref 22, .ref 23, .int v4, .ref 24, .ref 25, .int (nI (rn + (oRt (gR σ k)).length)), .int (nI (k + 1)), v9, v10, v11, v12, v13] [] (kc + 1401 + c) (ks + 8850 + 7 * c) w' → EvF m_L_isSo Qf 18 [.ref 0, .ref 21, .ref 22, .ref 23, .int v4, .ref 24, .ref 25, .int (nI rn), .int (nI k), v9, v10, v11, v12, v13] [] kc ks w := by
  have e2 : (2 : Int32) + nI k = nI (2 + k) := by rw [show (2 : Int32) = nI 2 from rfl, nI_add]
  have hob := hI.2.2.1 k hk
  obtain ⟨nw, y, n2, hv1, hy, hye, -, -⟩ := li_now hI
  cases hx : gR σ k with
  | none =>
    have his := ob_n hob hx
    have hv : gV σ (nI k) = none := by rw [gV_rd σ hk]; exact hx
    refine ⟨w, f, g, h, fun q => ⟨Or.inr, fun hq => hq.resolve_left (fun ⟨x, h1, _⟩ => by cases h1)⟩, fun Qf rn kc ks c v9 v10 v11 v12 v13 hr hc h1 h2 kk => ?_⟩
    have kk : EvF m_L_isSo Qf 18 [.ref 0, .ref 21, .ref 22, .ref 23, .int v4, .ref 24, .ref 25, .int (nI rn), .int (nI (k + 1)), v9, v10, v11, v12, v13] [] (kc + 1401 + c) (ks + 8850 + 7 * c) w := kk
    refine ev_iload (pc := 18) dL_isSo_18 rfl ?_
    refine ev_iconst (pc := 20) (v := 4) dL_isSo_20 (by decide) ?_
    refine ev_ic_ge (pc := 21) (tgt := 163) dL_isSo_21 (by decide) (fun c_21 => absurd c_21 (nI_ge hk (by decide))) (fun _ => ?_)
    refine ev_iload (pc := 24) dL_isSo_24 rfl ?_
    refine ev_aload_n (pc := 26) dL_isSo_26 rfl rfl ?_
    refine ev_iconst (pc := 27) (v := 2) dL_isSo_27 (by decide) ?_
    refine ev_iload (pc := 28) dL_isSo_28 rfl ?_
    refine ev_iadd (pc := 30) dL_isSo_30 ?_
    rw [e2]
    refine ev_ialdN (pc := 31) dL_isSo_31 (tl_i h) ⟨(show _ = nI (2 + k) from rfl), by omega, by decide⟩ his ?_
    refine ev_iadd (pc := 32) dL_isSo_32 ?_
    rw [Int32.add_zero]
    refine ev_istore (pc := 33) dL_isSo_33 rfl rfl ?_
    refine ev_aload_n (pc := 35) dL_isSo_35 rfl rfl ?_
    refine ev_iconst (pc := 36) (v := 2) dL_isSo_36 (by decide) ?_
    refine ev_iload (pc := 37) dL_isSo_37 rfl ?_
    refine ev_iadd (pc := 39) dL_isSo_39 ?_
    rw [e2]
    refine ev_ialdN (pc := 40) dL_isSo_40 (tl_i h) ⟨(show _ = nI (2 + k) from rfl), by omega, by decide⟩ his ?_
    refine ev_iconst (pc := 41) (v := 1) dL_isSo_41 (by decide) ?_
    refine ev_ic_ne (pc := 42) (tgt := 108) dL_isSo_42 (by decide) (fun _ => ?_) (fun c_42 => absurd c_42 (by decide))
    refine ev_aload_n (pc := 108) dL_isSo_108 rfl rfl ?_
    refine ev_iload (pc := 109) dL_isSo_109 rfl ?_
    refine cX2 (pc := 111) lk_L_isSo_111 (Nat.le_of_ble_eq_true rfl) ⟨(show kc + 1 ≤ 13000 by omega), (show ks + 6 ≤ 82000 by omega)⟩ (r_epochOfT h hv) ?_
    refine ev_widen (k2 := kc + 1) (s2 := ks + 6) (show kc + 1 ≤ kc + 1 by omega) (show ks + 6 ≤ ks + 6 by omega) ?_
    refine ev_ldc (pc := 114) dL_isSo_114 ki_L_23 ?_
    refine ev_ic_ne (pc := 116) (tgt := 155) dL_isSo_116 (by decide) (fun c_116 => absurd rfl c_116) (fun _ => ?_)
    refine ev_aload_n (pc := 119) dL_isSo_119 rfl rfl ?_
    refine ev_iload (pc := 120) dL_isSo_120 rfl ?_
    refine ev_bipush (pc := 122) (v := 100) dL_isSo_122 (by decide) ?_
    refine cX3 (pc := 124) lk_L_isSo_124 (Nat.le_of_ble_eq_true rfl) ⟨(show kc + 1 + 3 ≤ 13000 by omega), (show ks + 6 + 18 ≤ 82000 by omega)⟩ (r_getT1 h hv) ?_
    refine ev_widen (k2 := kc + 4) (s2 := ks + 24) (show kc + 1 + 3 ≤ kc + 4 by omega) (show ks + 6 + 18 ≤ ks + 24 by omega) ?_
    refine ev_ldc (pc := 127) dL_isSo_127 ki_L_23 ?_
    refine ev_ic_ne (pc := 129) (tgt := 155) dL_isSo_129 (by decide) (fun c_129 => absurd rfl c_129) (fun _ => ?_)
    refine ev_aload_n (pc := 132) dL_isSo_132 rfl rfl ?_
    refine ev_iload (pc := 133) dL_isSo_133 rfl ?_
    refine cX2 (pc := 135) lk_L_isSo_135 (Nat.le_of_ble_eq_true rfl) ⟨(show kc + 4 + 1 ≤ 13000 by omega), (show ks + 24 + 6 ≤ 82000 by omega)⟩ (r_heldByT h (fun j hj e => by rw [← nI_inj (by omega) (by omega) e]; exact hx)) ?_
    refine ev_widen (k2 := kc + 5) (s2 := ks + 30) (show kc + 4 + 1 ≤ kc + 5 by omega) (show ks + 24 + 6 ≤ ks + 30 by omega) ?_
    refine ev_ldc (pc := 138) dL_isSo_138 ki_L_23 ?_
    refine ev_ic_ne (pc := 140) (tgt := 155) dL_isSo_140 (by decide) (fun c_140 => absurd rfl c_140) (fun _ => ?_)
    refine ev_aload_n (pc := 143) dL_isSo_143 rfl rfl ?_
    refine ev_iconst (pc := 144) (v := (-1)) dL_isSo_144 (by decide) ?_
    refine ev_iload (pc := 145) dL_isSo_145 rfl ?_
    refine cX3 (pc := 147) lk_L_isSo_147 (Nat.le_of_ble_eq_true rfl) ⟨(show kc + 5 + 2 ≤ 13000 by omega), (show ks + 30 + 12 ≤ 82000 by omega)⟩ (r_sharedT2 h hv1 hv) ?_
    refine ev_widen (k2 := kc + 7) (s2 := ks + 42) (show kc + 5 + 2 ≤ kc + 7 by omega) (show ks + 30 + 12 ≤ ks + 42 by omega) ?_
    refine ev_ldc (pc := 150) dL_isSo_150 ki_L_23 ?_
    refine ev_ic_eq (pc := 152) (tgt := 157) dL_isSo_152 (by decide) (fun _ => ?_) (fun c_152 => absurd rfl c_152)
    refine ev_iinc (pc := 157) dL_isSo_157 rfl rfl rfl ?_
    refine ev_goto (pc := 160) (tgt := 18) dL_isSo_160 (by decide) ?_
    rw [nI_i1]
    exact ev_widen (by omega) (by omega) kk
  | some x =>
    obtain ⟨his, hL, hep⟩ := ob_s hob hx
    have hv : gV σ (nI k) = some x := by rw [gV_rd σ hk]; exact hx
    obtain ⟨w1, f1, g1, C1, m1, e1⟩ := r_shows h (v6 := v4 + nI k) hv hL (show 2 + k < 8 by omega)
    have hmb : ∀ q, mb g1 q = true ↔ ((∃ x', some x = some x' ∧ Rch (gT σ) x'.2.1 q) ∨ mb g q = true) := fun q => by
      rw [m1]
      constructor
      · rintro (hq | hq)
        · exact Or.inl ⟨x, rfl, hq⟩
        · exact Or.inr hq
      · rintro (⟨z, hz, hq⟩ | hq)
        · cases hz
          exact Or.inl hq
        · exact Or.inr hq
    by_cases hlw : lowN (v4 >>> (5 &&& 31)) 4 = k
    · obtain ⟨w2, C2, e3⟩ := r_shares C1 hv1 hv hy hL
      refine ⟨w2, f1, g1, C2, hmb, fun Qf rn kc ks c v9 v10 v11 v12 v13 hr hc h1 h2 kk => ?_⟩
      rw [if_pos hlw] at hc
      subst hc
      have kk : EvF m_L_isSo Qf 18 [.ref 0, .ref 21, .ref 22, .ref 23, .int v4, .ref 24, .ref 25, .int (nI (rn + 1)), .int (nI (k + 1)), v9, v10, v11, v12, v13] [] (kc + 1401 + 2300) (ks + 8850 + 7 * 2300) w2 := kk
      refine ev_iload (pc := 18) dL_isSo_18 rfl ?_
      refine ev_iconst (pc := 20) (v := 4) dL_isSo_20 (by decide) ?_
      refine ev_ic_ge (pc := 21) (tgt := 163) dL_isSo_21 (by decide) (fun c_21 => absurd c_21 (nI_ge hk (by decide))) (fun _ => ?_)
      refine ev_iload (pc := 24) dL_isSo_24 rfl ?_
      refine ev_aload_n (pc := 26) dL_isSo_26 rfl rfl ?_
      refine ev_iconst (pc := 27) (v := 2) dL_isSo_27 (by decide) ?_
      refine ev_iload (pc := 28) dL_isSo_28 rfl ?_
      refine ev_iadd (pc := 30) dL_isSo_30 ?_
      rw [e2]
      refine ev_ialdN (pc := 31) dL_isSo_31 (tl_i h) ⟨(show _ = nI (2 + k) from rfl), by omega, by decide⟩ his ?_
      refine ev_iadd (pc := 32) dL_isSo_32 ?_
      rw [nI_a1]
      refine ev_istore (pc := 33) dL_isSo_33 rfl rfl ?_
      refine ev_aload_n (pc := 35) dL_isSo_35 rfl rfl ?_
      refine ev_iconst (pc := 36) (v := 2) dL_isSo_36 (by decide) ?_
      refine ev_iload (pc := 37) dL_isSo_37 rfl ?_
      refine ev_iadd (pc := 39) dL_isSo_39 ?_
      rw [e2]
      refine ev_ialdN (pc := 40) dL_isSo_40 (tl_i h) ⟨(show _ = nI (2 + k) from rfl), by omega, by decide⟩ his ?_
      refine ev_iconst (pc := 41) (v := 1) dL_isSo_41 (by decide) ?_
      refine ev_ic_ne (pc := 42) (tgt := 108) dL_isSo_42 (by decide) (fun c_42 => absurd rfl c_42) (fun _ => ?_)
      refine ev_aload_n (pc := 45) dL_isSo_45 rfl rfl ?_
      refine ev_iload (pc := 46) dL_isSo_46 rfl ?_
      refine ev_aload_n (pc := 48) dL_isSo_48 rfl rfl ?_
      refine ev_iconst (pc := 49) (v := 2) dL_isSo_49 (by decide) ?_
      refine ev_iload (pc := 50) dL_isSo_50 rfl ?_
      refine ev_iadd (pc := 52) dL_isSo_52 ?_
      rw [e2]
      refine ev_aload (pc := 53) dL_isSo_53 rfl ?_
      refine ev_aload (pc := 55) dL_isSo_55 rfl ?_
      refine ev_iload (pc := 57) dL_isSo_57 rfl ?_
      refine ev_iload (pc := 59) dL_isSo_59 rfl ?_
      refine ev_iadd (pc := 61) dL_isSo_61 ?_
      refine cS7 (pc := 62) lk_L_isSo_62 (Nat.le_of_ble_eq_true rfl) ⟨(show kc + 1400 ≤ 13000 by omega), (show ks + 8800 ≤ 82000 by omega)⟩ e1 ?_
      refine ev_widen (k2 := kc + 1400) (s2 := ks + 8800) (show kc + 1400 ≤ kc + 1400 by omega) (show ks + 8800 ≤ ks + 8800 by omega) ?_
      refine ev_if_eq (pc := 65) (tgt := 106) dL_isSo_65 (by decide) (fun c_65 => absurd c_65 (by decide)) (fun _ => ?_)
      refine ev_aload_n (pc := 68) dL_isSo_68 rfl rfl ?_
      refine ev_iload (pc := 69) dL_isSo_69 rfl ?_
      refine cX2 (pc := 71) lk_L_isSo_71 (Nat.le_of_ble_eq_true rfl) ⟨(show kc + 1400 + 1 ≤ 13000 by omega), (show ks + 8800 + 6 ≤ 82000 by omega)⟩ (r_epochOf C1 hv) ?_
      refine ev_widen (k2 := kc + 1401) (s2 := ks + 8806) (show kc + 1400 + 1 ≤ kc + 1401 by omega) (show ks + 8800 + 6 ≤ ks + 8806 by omega) ?_
      refine ev_aload_n (pc := 74) dL_isSo_74 rfl rfl ?_
      refine ev_iconst (pc := 75) (v := 2) dL_isSo_75 (by decide) ?_
      refine ev_iload (pc := 76) dL_isSo_76 rfl ?_
      refine ev_iadd (pc := 78) dL_isSo_78 ?_
      rw [e2]
      refine ev_ialdN (pc := 79) dL_isSo_79 (tl_e C1) ⟨(show _ = nI (2 + k) from rfl), by omega, by decide⟩ hep ?_
      refine ev_ic_ne (pc := 80) (tgt := 106) dL_isSo_80 (by decide) (fun c_80 => absurd rfl c_80) (fun _ => ?_)
      refine ev_iload (pc := 83) dL_isSo_83 rfl ?_
      refine ev_iconst (pc := 85) (v := 5) dL_isSo_85 (by decide) ?_
      refine ev_ishr (pc := 86) dL_isSo_86 rfl ?_
      refine ev_iconst (pc := 87) (v := 4) dL_isSo_87 (by decide) ?_
      refine cS2 (pc := 88) lk_L_isSo_88 (Nat.le_of_ble_eq_true rfl) ⟨(show kc + 1401 + 0 ≤ 13000 by omega), (show ks + 8806 + 0 ≤ 82000 by omega)⟩ (r_low (n := 4) (by decide) (by decide)) ?_
      refine ev_widen (k2 := kc + 1401) (s2 := ks + 8806) (show kc + 1401 + 0 ≤ kc + 1401 by omega) (show ks + 8806 + 0 ≤ ks + 8806 by omega) ?_
      refine ev_iload (pc := 91) dL_isSo_91 rfl ?_
      refine ev_ic_ne (pc := 93) (tgt := 157) dL_isSo_93 (by decide) (fun c_93 => absurd (by rw [hlw]) c_93) (fun _ => ?_)
      refine ev_aload_n (pc := 96) dL_isSo_96 rfl rfl ?_
      refine ev_iconst (pc := 97) (v := (-1)) dL_isSo_97 (by decide) ?_
      refine ev_iload (pc := 98) dL_isSo_98 rfl ?_
      refine cS3 (pc := 100) lk_L_isSo_100 (Nat.le_of_ble_eq_true rfl) ⟨(show kc + 1401 + 2300 ≤ 13000 by omega), (show ks + 8806 + 14000 ≤ 82000 by omega)⟩ e3 ?_
      refine ev_widen (k2 := kc + 3701) (s2 := ks + 22806) (show kc + 1401 + 2300 ≤ kc + 3701 by omega) (show ks + 8806 + 14000 ≤ ks + 22806 by omega) ?_
      refine ev_if_ne (pc := 103) (tgt := 157) dL_isSo_103 (by decide) (fun _ => ?_) (fun c_103 => absurd c_103 (by decide))
      refine ev_iinc (pc := 157) dL_isSo_157 rfl rfl rfl ?_
      refine ev_goto (pc := 160) (tgt := 18) dL_isSo_160 (by decide) ?_
      rw [nI_i1]
      exact ev_widen (by omega) (by omega) kk
    · refine ⟨w1, f1, g1, C1, hmb, fun Qf rn kc ks c v9 v10 v11 v12 v13 hr hc h1 h2 kk => ?_⟩
      rw [if_neg hlw] at hc
      subst hc
      have hl4 := lowN_lt (v4 >>> (5 &&& 31)) (n := 4) (by decide)
      have kk : EvF m_L_isSo Qf 18 [.ref 0, .ref 21, .ref 22, .ref 23, .int v4, .ref 24, .ref 25, .int (nI (rn + 1)), .int (nI (k + 1)), v9, v10, v11, v12, v13] [] (kc + 1401 + 0) (ks + 8850 + 7 * 0) w1 := kk
      refine ev_iload (pc := 18) dL_isSo_18 rfl ?_
      refine ev_iconst (pc := 20) (v := 4) dL_isSo_20 (by decide) ?_
      refine ev_ic_ge (pc := 21) (tgt := 163) dL_isSo_21 (by decide) (fun c_21 => absurd c_21 (nI_ge hk (by decide))) (fun _ => ?_)
      refine ev_iload (pc := 24) dL_isSo_24 rfl ?_
      refine ev_aload_n (pc := 26) dL_isSo_26 rfl rfl ?_
      refine ev_iconst (pc := 27) (v := 2) dL_isSo_27 (by decide) ?_
      refine ev_iload (pc := 28) dL_isSo_28 rfl ?_
      refine ev_iadd (pc := 30) dL_isSo_30 ?_
      rw [e2]
      refine ev_ialdN (pc := 31) dL_isSo_31 (tl_i h) ⟨(show _ = nI (2 + k) from rfl), by omega, by decide⟩ his ?_
      refine ev_iadd (pc := 32) dL_isSo_32 ?_
      rw [nI_a1]
      refine ev_istore (pc := 33) dL_isSo_33 rfl rfl ?_
      refine ev_aload_n (pc := 35) dL_isSo_35 rfl rfl ?_
      refine ev_iconst (pc := 36) (v := 2) dL_isSo_36 (by decide) ?_
      refine ev_iload (pc := 37) dL_isSo_37 rfl ?_
      refine ev_iadd (pc := 39) dL_isSo_39 ?_
      rw [e2]
      refine ev_ialdN (pc := 40) dL_isSo_40 (tl_i h) ⟨(show _ = nI (2 + k) from rfl), by omega, by decide⟩ his ?_
      refine ev_iconst (pc := 41) (v := 1) dL_isSo_41 (by decide) ?_
      refine ev_ic_ne (pc := 42) (tgt := 108) dL_isSo_42 (by decide) (fun c_42 => absurd rfl c_42) (fun _ => ?_)
      refine ev_aload_n (pc := 45) dL_isSo_45 rfl rfl ?_
      refine ev_iload (pc := 46) dL_isSo_46 rfl ?_
      refine ev_aload_n (pc := 48) dL_isSo_48 rfl rfl ?_
      refine ev_iconst (pc := 49) (v := 2) dL_isSo_49 (by decide) ?_
      refine ev_iload (pc := 50) dL_isSo_50 rfl ?_
      refine ev_iadd (pc := 52) dL_isSo_52 ?_
      rw [e2]
      refine ev_aload (pc := 53) dL_isSo_53 rfl ?_
      refine ev_aload (pc := 55) dL_isSo_55 rfl ?_
      refine ev_iload (pc := 57) dL_isSo_57 rfl ?_
      refine ev_iload (pc := 59) dL_isSo_59 rfl ?_
      refine ev_iadd (pc := 61) dL_isSo_61 ?_
      refine cS7 (pc := 62) lk_L_isSo_62 (Nat.le_of_ble_eq_true rfl) ⟨(show kc + 1400 ≤ 13000 by omega), (show ks + 8800 ≤ 82000 by omega)⟩ e1 ?_
      refine ev_widen (k2 := kc + 1400) (s2 := ks + 8800) (show kc + 1400 ≤ kc + 1400 by omega) (show ks + 8800 ≤ ks + 8800 by omega) ?_
      refine ev_if_eq (pc := 65) (tgt := 106) dL_isSo_65 (by decide) (fun c_65 => absurd c_65 (by decide)) (fun _ => ?_)
      refine ev_aload_n (pc := 68) dL_isSo_68 rfl rfl ?_
      refine ev_iload (pc := 69) dL_isSo_69 rfl ?_
      refine cX2 (pc := 71) lk_L_isSo_71 (Nat.le_of_ble_eq_true rfl) ⟨(show kc + 1400 + 1 ≤ 13000 by omega), (show ks + 8800 + 6 ≤ 82000 by omega)⟩ (r_epochOf C1 hv) ?_
      refine ev_widen (k2 := kc + 1401) (s2 := ks + 8806) (show kc + 1400 + 1 ≤ kc + 1401 by omega) (show ks + 8800 + 6 ≤ ks + 8806 by omega) ?_
      refine ev_aload_n (pc := 74) dL_isSo_74 rfl rfl ?_
      refine ev_iconst (pc := 75) (v := 2) dL_isSo_75 (by decide) ?_
      refine ev_iload (pc := 76) dL_isSo_76 rfl ?_
      refine ev_iadd (pc := 78) dL_isSo_78 ?_
      rw [e2]
      refine ev_ialdN (pc := 79) dL_isSo_79 (tl_e C1) ⟨(show _ = nI (2 + k) from rfl), by omega, by decide⟩ hep ?_
      refine ev_ic_ne (pc := 80) (tgt := 106) dL_isSo_80 (by decide) (fun c_80 => absurd rfl c_80) (fun _ => ?_)
      refine ev_iload (pc := 83) dL_isSo_83 rfl ?_
      refine ev_iconst (pc := 85) (v := 5) dL_isSo_85 (by decide) ?_
      refine ev_ishr (pc := 86) dL_isSo_86 rfl ?_
      refine ev_iconst (pc := 87) (v := 4) dL_isSo_87 (by decide) ?_
      refine cS2 (pc := 88) lk_L_isSo_88 (Nat.le_of_ble_eq_true rfl) ⟨(show kc + 1401 + 0 ≤ 13000 by omega), (show ks + 8806 + 0 ≤ 82000 by omega)⟩ (r_low (n := 4) (by decide) (by decide)) ?_
      refine ev_widen (k2 := kc + 1401) (s2 := ks + 8806) (show kc + 1401 + 0 ≤ kc + 1401 by omega) (show ks + 8806 + 0 ≤ ks + 8806 by omega) ?_
      refine ev_iload (pc := 91) dL_isSo_91 rfl ?_
      refine ev_ic_ne (pc := 93) (tgt := 157) dL_isSo_93 (by decide) (fun _ => ?_) (fun c_93 => absurd c_93 (fun e => hlw (nI_inj (by omega) (by omega) e)))
      refine ev_iinc (pc := 157) dL_isSo_157 rfl rfl rfl ?_
      refine ev_goto (pc := 160) (tgt := 18) dL_isSo_160 (by decide) ?_
      rw [nI_i1]
      exact ev_widen (by omega) (by omega) kk
/-- what is met is what is in use; all of it, where the current state's tree is met too -/
theorem so_met (h : gI N σ) {y : RS3} (hv : gV σ (-1) = some y) (hm : ∀ q, mb g q = true ↔ ((∃ t x, t < 2 ∧ gO σ t = some x ∧ Rch (gT σ) x.2.1 q) ∨ Rch (gT σ) y.2.1 q ∨ ∃ k x, k < 4 ∧ gR σ k = some x ∧ Rch (gT σ) x.2.1 q)) : (∀ q, mb g q = true → gU σ q) ∧ ((gB σ = none ∨ ∃ z, gO σ (gS σ) = some z) → ∀ q, gU σ q → mb g q = true) := by
  obtain ⟨K, W, T, c, b, so, rd, s, sw⟩ := σ
  have h : AI N K W T c b so rd s sw := h
  have hv : some (b.getD c) = some y := by rw [← hv]; exact (gV_m1 (K, W, T, c, b, so, rd, s, sw)).symm
  cases hv
  constructor
  · intro q hq
    refine (ai_use h q).mp ?_
    rcases (hm q).mp hq with ⟨t, x, ht, hx, hR⟩ | hR | ⟨k, x, hk, hx, hR⟩
    · exact Or.inl ⟨x.2.1, mem_rts.mpr (Or.inr (Or.inl ⟨t, x, ht, hx, rfl⟩)), hR⟩
    · cases b with
      | none => exact Or.inl ⟨c.2.1, mem_rts.mpr (Or.inl rfl), hR⟩
      | some z => exact Or.inr ⟨z.2.1, List.mem_singleton.mpr rfl, hR⟩
    · exact Or.inl ⟨x.2.1, mem_rts.mpr (Or.inr (Or.inr ⟨k, x, hk, hx, rfl⟩)), hR⟩
  · intro hall q hq
    refine (hm q).mpr ?_
    rcases (ai_use h q).mpr hq with ⟨r, hr, hR⟩ | ⟨r, hr, hR⟩
    · rcases mem_rts.mp hr with rfl | ⟨t, x, ht, hx, rfl⟩ | ⟨k, x, hk, hx, rfl⟩
      · rcases hall with hb | ⟨z, hz⟩
        · have hb : b = none := hb
          subst hb
          exact Or.inr (Or.inl hR)
        · have hz : so s = some z := hz
          have hc : so s = some c := by
            rcases h.2.2.2.2.2.2.1 with h1 | ⟨h1, -⟩
            · exact h1
            · rw [h1] at hz; cases hz
          exact Or.inl ⟨s, c, h.2.2.2.2.1, hc, hR⟩
      · exact Or.inl ⟨t, x, ht, hx, hR⟩
      · exact Or.inr (Or.inr ⟨k, x, hk, hx, hR⟩)
    · cases b with
      | none => exact absurd hr List.not_mem_nil
      | some z =>
        rw [List.mem_singleton.mp hr] at hR
        exact Or.inr (Or.inl hR)
/-- is a page met -/
def usd (g : Nat → Int64) (q : Nat) : Nat := if mb g q = true then 1 else 0
theorem so_pages {Qf : mQ} {v4 v7 : Int32} {v8 : Value} {al : Int32} {n0 : Nat} (C : CG N σ (TL cc ep is f g) w) (hal : al = 0 ∨ al = 1) (hU : ∀ q, mb g q = true → gU σ q) (hA : al = 1 → ∀ q, gU σ q → mb g q = true) (hf : frs (gK σ) (gW σ) n0)
    (k : ∀ (lv : Int32) (kc ks : Nat) (v13 : Value), (al = 1 → lv = nI n0) → kc ≤ 12900 → ks ≤ 81000 → EvF m_L_isSo Qf 400 [.ref 0, .ref 21, .ref 22, .ref 23, .int v4, .ref 24, .ref 25, .int v7, v8, .int al, .int (nI (sumT (usd g) 768)), .int lv, .int (nI 768), v13] [] kc ks w) :
    ∀ (m n : Nat) (lv : Int32) (kc ks : Nat) (v13 : Value), n + m = 768 → (al = 1 → lv = if n0 < n then nI n0 else -1) → kc ≤ 12000 + n → ks ≤ 76000 + 6 * n → EvF m_L_isSo Qf 285 [.ref 0, .ref 21, .ref 22, .ref 23, .int v4, .ref 24, .ref 25, .int v7, v8, .int al, .int (nI (sumT (usd g) n)), .int lv, .int (nI n), v13] [] kc ks w := by
  intro m
  induction m with
  | zero =>
    intro n lv kc ks v13 hn hlv hkc hks
    have hn : n = 768 := by omega
    subst hn
    refine ev_iload (pc := 285) dL_isSo_285 rfl ?_
    refine ev_sipush (pc := 287) (v := 768) dL_isSo_287 (by decide) ?_
    refine ev_ic_ge (pc := 290) (tgt := 400) dL_isSo_290 (by decide) (fun _ => ?_) (fun c_290 => absurd (by decide) c_290)
    exact k lv _ _ _ (fun h1 => by rw [hlv h1, if_pos (Nat.lt_trans hf.1 (by decide))]) (by omega) (by omega)
  | succ m ih =>
    intro n lv kc ks v13 hn hlv hkc hks
    have hn8 : n < 768 := by omega
    have hbit : (if lb (g (n / 64)) (n % 64) then (1 : Int64) else 0) = if mb g n = true then 1 else 0 := rfl
    by_cases hu : mb g n = true
    · have hus := hU n hu
      have hne : n ≠ n0 := fun e => hf.2.1 (e ▸ hus)
      have hs : sumT (usd g) (n + 1) = sumT (usd g) n + 1 := by
        rw [sumT_s]
        unfold usd
        rw [if_pos hu]
      refine ev_iload (pc := 285) dL_isSo_285 rfl ?_
      refine ev_sipush (pc := 287) (v := 768) dL_isSo_287 (by decide) ?_
      refine ev_ic_ge (pc := 290) (tgt := 400) dL_isSo_290 (by decide) (fun c_290 => absurd c_290 (by exact nI_ge hn8 (by decide))) (fun _ => ?_)
      refine ev_aload (pc := 293) dL_isSo_293 rfl ?_
      refine ev_iload (pc := 295) dL_isSo_295 rfl ?_
      refine ev_bipush (pc := 297) (v := 64) dL_isSo_297 (by decide) ?_
      refine ev_idiv (pc := 299) dL_isSo_299 (by decide) (pk_div (d := 64) (by omega) (by decide) (by decide)) ?_
      refine ev_laldN (pc := 300) dL_isSo_300 (tl_g C) ⟨(show _ = nI (n / 64) from rfl), by omega, by decide⟩ rfl ?_
      refine ev_iload (pc := 301) dL_isSo_301 rfl ?_
      refine ev_bipush (pc := 303) (v := 64) dL_isSo_303 (by decide) ?_
      refine ev_irem (pc := 305) dL_isSo_305 (by decide) (pk_rem (d := 64) (by omega) (by decide) (by decide)) ?_
      refine ev_lshr (pc := 306) dL_isSo_306 rfl ?_
      refine ev_lconst (pc := 307) (v := 1) dL_isSo_307 (by decide) ?_
      refine ev_land (pc := 308) dL_isSo_308 (lb_get _ (Nat.mod_lt _ (by decide))) ?_
      refine ev_lconst (pc := 309) (v := 1) dL_isSo_309 (by decide) ?_
      refine ev_lcmp (pc := 310) dL_isSo_310 ?_
      refine ev_if_ne (pc := 311) (tgt := 318) dL_isSo_311 (by decide) (fun c_311 => absurd (by rw [hbit, if_pos hu]; decide) c_311) (fun _ => ?_)
      refine ev_iconst (pc := 314) (v := 1) dL_isSo_314 (by decide) ?_
      refine ev_goto (pc := 315) (tgt := 319) dL_isSo_315 (by decide) ?_
      refine ev_istore (pc := 319) dL_isSo_319 rfl rfl ?_
      refine ev_iload (pc := 321) dL_isSo_321 rfl ?_
      refine ev_iload (pc := 323) dL_isSo_323 rfl ?_
      refine ev_if_eq (pc := 325) (tgt := 332) dL_isSo_325 (by decide) (fun c_325 => absurd c_325 (by decide)) (fun _ => ?_)
      refine ev_iconst (pc := 328) (v := 1) dL_isSo_328 (by decide) ?_
      refine ev_goto (pc := 329) (tgt := 333) dL_isSo_329 (by decide) ?_
      refine ev_iadd (pc := 333) dL_isSo_333 ?_
      rw [nI_a1, ← hs]
      refine ev_istore (pc := 334) dL_isSo_334 rfl rfl ?_
      refine ev_iload (pc := 336) dL_isSo_336 rfl ?_
      refine ev_if_ne (pc := 338) (tgt := 346) dL_isSo_338 (by decide) (fun _ => ?_) (fun c_338 => absurd c_338 (by decide))
      refine ev_iload (pc := 346) dL_isSo_346 rfl ?_
      refine ev_goto (pc := 348) (tgt := 353) dL_isSo_348 (by decide) ?_
      refine ev_istore (pc := 353) dL_isSo_353 rfl rfl ?_
      refine ev_iload (pc := 355) dL_isSo_355 rfl ?_
      refine ev_if_ne (pc := 357) (tgt := 373) dL_isSo_357 (by decide) (fun _ => ?_) (fun c_357 => absurd c_357 (by decide))
      refine ev_aload_n (pc := 373) dL_isSo_373 rfl rfl ?_
      refine ev_iload (pc := 374) dL_isSo_374 rfl ?_
      refine cX2 (pc := 376) lk_L_isSo_376 (Nat.le_of_ble_eq_true rfl) ⟨(show kc + 1 ≤ 13000 by omega), (show ks + 6 ≤ 82000 by omega)⟩ (r_isFree0 C (by omega) hus) ?_
      refine ev_widen (k2 := kc + 1) (s2 := ks + 6) (show kc + 1 ≤ kc + 1 by omega) (show ks + 6 ≤ ks + 6 by omega) ?_
      refine ev_iload (pc := 379) dL_isSo_379 rfl ?_
      refine ev_if_eq (pc := 381) (tgt := 388) dL_isSo_381 (by decide) (fun c_381 => absurd c_381 (by decide)) (fun _ => ?_)
      refine ev_iconst (pc := 384) (v := 0) dL_isSo_384 (by decide) ?_
      refine ev_goto (pc := 385) (tgt := 389) dL_isSo_385 (by decide) ?_
      refine ev_ic_eq (pc := 389) (tgt := 394) dL_isSo_389 (by decide) (fun _ => ?_) (fun c_389 => absurd rfl c_389)
      refine ev_iinc (pc := 394) dL_isSo_394 rfl rfl rfl ?_
      refine ev_goto (pc := 397) (tgt := 285) dL_isSo_397 (by decide) ?_
      rw [nI_i1]
      exact ih (n + 1) lv _ _ _ (by omega) (fun h1 => by
        rw [hlv h1]
        by_cases h9 : n0 < n
        · rw [if_pos h9, if_pos (by omega)]
        · rw [if_neg h9, if_neg (by omega)]) (by omega) (by omega)
    · have hs : sumT (usd g) (n + 1) = sumT (usd g) n := by
        rw [sumT_s]
        unfold usd
        rw [if_neg hu]
        rfl
      have hlv2 : al = 1 → (if lv < 0 then nI n else lv) = if n0 < n + 1 then nI n0 else -1 := fun h1 => by
        have hnu : ¬ gU σ n := fun h => hu (hA h1 n h)
        have hge : ¬ n < n0 := fun h => hnu (hf.2.2 n h)
        rw [hlv h1]
        by_cases h9 : n0 < n
        · rw [if_pos h9, if_neg (nI_pos (by omega)), if_pos (by omega)]
        · have e : n0 = n := by omega
          subst e
          rw [if_neg h9, if_pos (by decide), if_pos (by omega)]
      have tail : ∀ (lv' : Int32), (al = 1 → lv' = if n0 < n + 1 then nI n0 else -1) → EvF m_L_isSo Qf 355 [.ref 0, .ref 21, .ref 22, .ref 23, .int v4, .ref 24, .ref 25, .int v7, v8, .int al, .int (nI (sumT (usd g) (n + 1))), .int lv', .int (nI n), .int 0] [] kc ks w := fun lv' hl' => by
        rcases hal with rfl | rfl
        · refine ev_iload (pc := 355) dL_isSo_355 rfl ?_
          refine ev_if_ne (pc := 357) (tgt := 373) dL_isSo_357 (by decide) (fun c_357 => absurd rfl c_357) (fun _ => ?_)
          refine ev_iload (pc := 360) dL_isSo_360 rfl ?_
          refine ev_if_eq (pc := 362) (tgt := 394) dL_isSo_362 (by decide) (fun _ => ?_) (fun c_362 => absurd rfl c_362)
          refine ev_iinc (pc := 394) dL_isSo_394 rfl rfl rfl ?_
          refine ev_goto (pc := 397) (tgt := 285) dL_isSo_397 (by decide) ?_
          rw [nI_i1]
          exact ih (n + 1) lv' _ _ _ (by omega) hl' (by omega) (by omega)
        · have hnu : ¬ gU σ n := fun h => hu (hA rfl n h)
          refine ev_iload (pc := 355) dL_isSo_355 rfl ?_
          refine ev_if_ne (pc := 357) (tgt := 373) dL_isSo_357 (by decide) (fun c_357 => absurd rfl c_357) (fun _ => ?_)
          refine ev_iload (pc := 360) dL_isSo_360 rfl ?_
          refine ev_if_eq (pc := 362) (tgt := 394) dL_isSo_362 (by decide) (fun c_362 => absurd c_362 (by decide)) (fun _ => ?_)
          refine ev_iload (pc := 365) dL_isSo_365 rfl ?_
          refine ev_sipush (pc := 367) (v := 150) dL_isSo_367 (by decide) ?_
          refine ev_ic_ge (pc := 370) (tgt := 394) dL_isSo_370 (by decide) (fun c9 => ?_) (fun c9 => ?_)
          · refine ev_iinc (pc := 394) dL_isSo_394 rfl rfl rfl ?_
            refine ev_goto (pc := 397) (tgt := 285) dL_isSo_397 (by decide) ?_
            rw [nI_i1]
            exact ih (n + 1) lv' _ _ _ (by omega) hl' (by omega) (by omega)
          · refine ev_aload_n (pc := 373) dL_isSo_373 rfl rfl ?_
            refine ev_iload (pc := 374) dL_isSo_374 rfl ?_
            refine cX2 (pc := 376) lk_L_isSo_376 (Nat.le_of_ble_eq_true rfl) ⟨(show kc + 1 ≤ 13000 by omega), (show ks + 6 ≤ 82000 by omega)⟩ (r_isFree1 C (by omega) hnu) ?_
            refine ev_widen (k2 := kc + 1) (s2 := ks + 6) (show kc + 1 ≤ kc + 1 by omega) (show ks + 6 ≤ ks + 6 by omega) ?_
            refine ev_iload (pc := 379) dL_isSo_379 rfl ?_
            refine ev_if_eq (pc := 381) (tgt := 388) dL_isSo_381 (by decide) (fun _ => ?_) (fun c_381 => absurd rfl c_381)
            refine ev_iconst (pc := 388) (v := 1) dL_isSo_388 (by decide) ?_
            refine ev_ic_eq (pc := 389) (tgt := 394) dL_isSo_389 (by decide) (fun _ => ?_) (fun c_389 => absurd rfl c_389)
            refine ev_iinc (pc := 394) dL_isSo_394 rfl rfl rfl ?_
            refine ev_goto (pc := 397) (tgt := 285) dL_isSo_397 (by decide) ?_
            rw [nI_i1]
            exact ih (n + 1) lv' _ _ _ (by omega) hl' (by omega) (by omega)
      refine ev_iload (pc := 285) dL_isSo_285 rfl ?_
      refine ev_sipush (pc := 287) (v := 768) dL_isSo_287 (by decide) ?_
      refine ev_ic_ge (pc := 290) (tgt := 400) dL_isSo_290 (by decide) (fun c_290 => absurd c_290 (by exact nI_ge hn8 (by decide))) (fun _ => ?_)
      refine ev_aload (pc := 293) dL_isSo_293 rfl ?_
      refine ev_iload (pc := 295) dL_isSo_295 rfl ?_
      refine ev_bipush (pc := 297) (v := 64) dL_isSo_297 (by decide) ?_
      refine ev_idiv (pc := 299) dL_isSo_299 (by decide) (pk_div (d := 64) (by omega) (by decide) (by decide)) ?_
      refine ev_laldN (pc := 300) dL_isSo_300 (tl_g C) ⟨(show _ = nI (n / 64) from rfl), by omega, by decide⟩ rfl ?_
      refine ev_iload (pc := 301) dL_isSo_301 rfl ?_
      refine ev_bipush (pc := 303) (v := 64) dL_isSo_303 (by decide) ?_
      refine ev_irem (pc := 305) dL_isSo_305 (by decide) (pk_rem (d := 64) (by omega) (by decide) (by decide)) ?_
      refine ev_lshr (pc := 306) dL_isSo_306 rfl ?_
      refine ev_lconst (pc := 307) (v := 1) dL_isSo_307 (by decide) ?_
      refine ev_land (pc := 308) dL_isSo_308 (lb_get _ (Nat.mod_lt _ (by decide))) ?_
      refine ev_lconst (pc := 309) (v := 1) dL_isSo_309 (by decide) ?_
      refine ev_lcmp (pc := 310) dL_isSo_310 ?_
      refine ev_if_ne (pc := 311) (tgt := 318) dL_isSo_311 (by decide) (fun _ => ?_) (fun c_311 => absurd c_311 (by rw [hbit, if_neg hu]; decide))
      refine ev_iconst (pc := 318) (v := 0) dL_isSo_318 (by decide) ?_
      refine ev_istore (pc := 319) dL_isSo_319 rfl rfl ?_
      refine ev_iload (pc := 321) dL_isSo_321 rfl ?_
      refine ev_iload (pc := 323) dL_isSo_323 rfl ?_
      refine ev_if_eq (pc := 325) (tgt := 332) dL_isSo_325 (by decide) (fun _ => ?_) (fun c_325 => absurd rfl c_325)
      refine ev_iconst (pc := 332) (v := 0) dL_isSo_332 (by decide) ?_
      refine ev_iadd (pc := 333) dL_isSo_333 ?_
      rw [Int32.add_zero, ← hs]
      refine ev_istore (pc := 334) dL_isSo_334 rfl rfl ?_
      refine ev_iload (pc := 336) dL_isSo_336 rfl ?_
      refine ev_if_ne (pc := 338) (tgt := 346) dL_isSo_338 (by decide) (fun c_338 => absurd rfl c_338) (fun _ => ?_)
      refine ev_iload (pc := 341) dL_isSo_341 rfl ?_
      refine ev_if_lt (pc := 343) (tgt := 351) dL_isSo_343 (by decide) (fun c9 => ?_) (fun c9 => ?_)
      · refine ev_iload (pc := 351) dL_isSo_351 rfl ?_
        refine ev_istore (pc := 353) dL_isSo_353 rfl rfl ?_
        exact tail (nI n) (fun h1 => by rw [← hlv2 h1, if_pos c9])
      · refine ev_iload (pc := 346) dL_isSo_346 rfl ?_
        refine ev_goto (pc := 348) (tgt := 353) dL_isSo_348 (by decide) ?_
        refine ev_istore (pc := 353) dL_isSo_353 rfl rfl ?_
        exact tail lv (fun h1 => by rw [← hlv2 h1, if_neg c9])
end ISO
