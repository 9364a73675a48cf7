/-! WHAT THE LAW KNOWS of the store; THE LAW: slots -/
def stI (σ : SS) (cc : Nat → Int64) (ep : Nat → Int32) (j : Nat) (x : RS3) : Prop := cN (gT σ) x.2.1 (ct (tn cc j)) ∧ ep j = nI x.1
def obI (σ : SS) (cc : Nat → Int64) (ep is : Nat → Int32) (j : Nat) (o : Option RS3) : Prop := match o with
  | none => is j = 0
  | some x => is j = 1 ∧ stI σ cc ep j x
def LI (σ : SS) (cc : Nat → Int64) (ep is : Nat → Int32) : Prop := stI σ cc ep 0 (gC σ) ∧ obI σ cc ep is 1 (gB σ) ∧ (∀ k, k < 4 → obI σ cc ep is (2 + k) (gR σ k)) ∧ ∀ t, t < 2 → obI σ cc ep is (6 + t) (gO σ t)
section SL9
variable {N : Nat} {σ : SS} {w : mW} {cc g : Nat → Int64} {ep is f : Nat → Int32}
theorem ob_n {j : Nat} {o : Option RS3} (h : obI σ cc ep is j o) (ho : o = none) : is j = 0 := by
  subst ho
  exact h
theorem ob_s {j : Nat} {o : Option RS3} {x : RS3} (h : obI σ cc ep is j o) (ho : o = some x) : is j = 1 ∧ cN (gT σ) x.2.1 (ct (tn cc j)) ∧ ep j = nI x.1 := by
  subst ho
  exact h
theorem g_slot (h : gI N σ) {t : Nat} {x : RS3} (ht : t < 2) (hx : gO σ t = some x) {L : List (Nat × Int32)} (hL : cN (gT σ) x.2.1 L) : ∃ d, gT1 σ d x.2.1 L ∧ x.2.2 = L.length ∧ x.2.1 < 720 := by
  obtain ⟨d, a1, a2, a3, a4, a5, a6, a7, a8⟩ := oR_use ((ai_oU h).2.1 t x ht hx) (fun q hq => hq)
  have e := cN_at a1 hL
  rw [e] at a5
  exact ⟨d, ⟨a1, e, a2⟩, a5, h.2.2.1 _ (rt_U a1)⟩
theorem slots_step (h : CG N σ (TL cc ep is f g) w) {t : Nat} (ht : t < 2) (hI : obI σ cc ep is (6 + t) (gO σ t)) : ∃ (w' : mW) (f' : Nat → Int32) (g' : Nat → Int64), CG N σ (TL cc ep is f' g') w' ∧ (∀ q, mb g' q = true ↔ ((∃ x, gO σ t = some x ∧ Rch (gT σ) x.2.1 q) ∨ mb g q = true)) ∧ ∀ (Qf : mQ) (v7 : Value) (kc ks : Nat), kc + 1120 ≤ 2400 → ks + 7000 ≤ 14800 → (∀ v7 : Value, EvF m_L_slots Qf 3 [.ref 0, .ref 21, .ref 22, .ref 23, .ref 24, .ref 25, .int (nI (t + 1)), v7, hole] [] (kc + 1120) (ks + 7000) w') → EvF m_L_slots Qf 3 [.ref 0, .ref 21, .ref 22, .ref 23, .ref 24, .ref 25, .int (nI t), v7, hole] [] kc ks w := by
  have hSL : SLR (gD σ) (gO σ) := (cg_I h).2.2.2.2.2.1
  have e6 : (6 : Int32) + nI t = nI (6 + t) := by rw [show (6 : Int32) = nI 6 from rfl, nI_add]
  cases hx : gO σ t with
  | none =>
    have his := ob_n hI hx
    have hwh := SLR_no hSL ht hx
    have hW := r_isWhole h ht
    rw [hx] at hW
    have hW : EvS m_L_isWhole [.ref 0, .int (nI t)] w (.inl (some (.int 0))) w := hW
    refine ⟨w, f, g, h, fun q => ⟨Or.inr, fun hq => hq.resolve_left (fun ⟨x, h1, _⟩ => by cases h1)⟩, fun Qf v7 kc ks h1 h2 k => ?_⟩
    refine ev_iload (pc := 3) dL_slots_3 rfl ?_
    refine ev_iconst (pc := 5) (v := 2) dL_slots_5 (by decide) ?_
    refine ev_ic_ge (pc := 6) (tgt := 168) dL_slots_6 (by decide) (fun c_6 => absurd c_6 (nI_ge ht (by decide))) (fun _ => ?_)
    refine ev_ldc2 (pc := 9) dL_slots_9 kl_L_185 ?_
    refine ev_aload_n (pc := 12) dL_slots_12 rfl rfl ?_
    refine ev_iload (pc := 13) dL_slots_13 rfl ?_
    refine ev_iconst (pc := 15) (v := 0) dL_slots_15 (by decide) ?_
    refine cX3 (pc := 16) lk_L_slots_16 (Nat.le_of_ble_eq_true rfl) ⟨(show kc + 2 ≤ 2400 by omega), (show ks + 12 ≤ 14800 by omega)⟩ (r_slotWord h ht (j := 0) (by decide)) ?_
    refine ev_widen (k2 := kc + 2) (s2 := ks + 12) (show kc + 2 ≤ kc + 2 by omega) (show ks + 12 ≤ ks + 12 by omega) ?_
    refine ev_lmul (pc := 19) dL_slots_19 ?_
    refine ev_ldc2 (pc := 20) dL_slots_20 kl_L_187 ?_
    refine ev_aload_n (pc := 23) dL_slots_23 rfl rfl ?_
    refine ev_iload (pc := 24) dL_slots_24 rfl ?_
    refine ev_iconst (pc := 26) (v := 1) dL_slots_26 (by decide) ?_
    refine cX3 (pc := 27) lk_L_slots_27 (Nat.le_of_ble_eq_true rfl) ⟨(show kc + 2 + 2 ≤ 2400 by omega), (show ks + 12 + 12 ≤ 14800 by omega)⟩ (r_slotWord h ht (j := 1) (by decide)) ?_
    refine ev_widen (k2 := kc + 4) (s2 := ks + 24) (show kc + 2 + 2 ≤ kc + 4 by omega) (show ks + 12 + 12 ≤ ks + 24 by omega) ?_
    refine ev_lmul (pc := 30) dL_slots_30 ?_
    refine ev_ladd (pc := 31) dL_slots_31 ?_
    refine ev_aload_n (pc := 32) dL_slots_32 rfl rfl ?_
    refine ev_iload (pc := 33) dL_slots_33 rfl ?_
    refine ev_iconst (pc := 35) (v := 2) dL_slots_35 (by decide) ?_
    refine cX3 (pc := 36) lk_L_slots_36 (Nat.le_of_ble_eq_true rfl) ⟨(show kc + 4 + 2 ≤ 2400 by omega), (show ks + 24 + 12 ≤ 14800 by omega)⟩ (r_slotWord h ht (j := 2) (by decide)) ?_
    refine ev_widen (k2 := kc + 6) (s2 := ks + 36) (show kc + 4 + 2 ≤ kc + 6 by omega) (show ks + 24 + 12 ≤ ks + 36 by omega) ?_
    refine ev_ladd (pc := 39) dL_slots_39 ?_
    refine ev_lstore (pc := 40) dL_slots_40 rfl rfl ?_
    refine ev_aload_n (pc := 42) dL_slots_42 rfl rfl ?_
    refine ev_iload (pc := 43) dL_slots_43 rfl ?_
    refine cX2 (pc := 45) lk_L_slots_45 (Nat.le_of_ble_eq_true rfl) ⟨(show kc + 6 + 1 ≤ 2400 by omega), (show ks + 36 + 6 ≤ 14800 by omega)⟩ hW ?_
    refine ev_widen (k2 := kc + 7) (s2 := ks + 42) (show kc + 6 + 1 ≤ kc + 7 by omega) (show ks + 36 + 6 ≤ ks + 42 by omega) ?_
    refine ev_aload_n (pc := 48) dL_slots_48 rfl rfl ?_
    refine ev_bipush (pc := 49) (v := 6) dL_slots_49 (by decide) ?_
    refine ev_iload (pc := 51) dL_slots_51 rfl ?_
    refine ev_iadd (pc := 53) dL_slots_53 ?_
    rw [e6]
    refine ev_ialdN (pc := 54) dL_slots_54 (tl_i h) ⟨(show _ = nI (6 + t) from rfl), by omega, by decide⟩ his ?_
    refine ev_ic_ne (pc := 55) (tgt := 86) dL_slots_55 (by decide) (fun c_55 => absurd rfl c_55) (fun _ => ?_)
    refine ev_aload_n (pc := 58) dL_slots_58 rfl rfl ?_
    refine ev_iload (pc := 59) dL_slots_59 rfl ?_
    refine ev_iconst (pc := 61) (v := 3) dL_slots_61 (by decide) ?_
    refine cX3 (pc := 62) lk_L_slots_62 (Nat.le_of_ble_eq_true rfl) ⟨(show kc + 7 + 2 ≤ 2400 by omega), (show ks + 42 + 12 ≤ 14800 by omega)⟩ (r_slotWord h ht (j := 3) (by decide)) ?_
    refine ev_widen (k2 := kc + 9) (s2 := ks + 54) (show kc + 7 + 2 ≤ kc + 9 by omega) (show ks + 42 + 12 ≤ ks + 54 by omega) ?_
    refine ev_lload (pc := 65) dL_slots_65 rfl ?_
    refine ev_lcmp (pc := 67) dL_slots_67 ?_
    refine ev_if_ne (pc := 68) (tgt := 75) dL_slots_68 (by decide) (fun _ => ?_) (fun c_68 => absurd c_68 (by rw [lg_cmp_eq]; exact hwh))
    refine ev_iconst (pc := 75) (v := 0) dL_slots_75 (by decide) ?_
    refine ev_aload_n (pc := 76) dL_slots_76 rfl rfl ?_
    refine ev_bipush (pc := 77) (v := 6) dL_slots_77 (by decide) ?_
    refine ev_iload (pc := 79) dL_slots_79 rfl ?_
    refine ev_iadd (pc := 81) dL_slots_81 ?_
    rw [e6]
    refine ev_ialdN (pc := 82) dL_slots_82 (tl_i h) ⟨(show _ = nI (6 + t) from rfl), by omega, by decide⟩ his ?_
    refine ev_ic_eq (pc := 83) (tgt := 88) dL_slots_83 (by decide) (fun _ => ?_) (fun c_83 => absurd rfl c_83)
    refine ev_aload_n (pc := 88) dL_slots_88 rfl rfl ?_
    refine ev_bipush (pc := 89) (v := 6) dL_slots_89 (by decide) ?_
    refine ev_iload (pc := 91) dL_slots_91 rfl ?_
    refine ev_iadd (pc := 93) dL_slots_93 ?_
    rw [e6]
    refine ev_ialdN (pc := 94) dL_slots_94 (tl_i h) ⟨(show _ = nI (6 + t) from rfl), by omega, by decide⟩ his ?_
    refine ev_iconst (pc := 95) (v := 1) dL_slots_95 (by decide) ?_
    refine ev_ic_ne (pc := 96) (tgt := 162) dL_slots_96 (by decide) (fun _ => ?_) (fun c_96 => absurd c_96 (by decide))
    refine ev_iinc (pc := 162) dL_slots_162 rfl rfl rfl ?_
    refine ev_goto (pc := 165) (tgt := 3) dL_slots_165 (by decide) ?_
    rw [nI_i1]
    exact ev_widen (by omega) (by omega) (k _)
  | some x =>
    obtain ⟨his, hL, hep⟩ := ob_s hI hx
    obtain ⟨hwh, g0, g1, g2⟩ := SLR_at hSL ht hx
    obtain ⟨d, hd, hk, h7⟩ := g_slot (cg_I h) ht hx hL
    have hW := r_isWhole h ht
    rw [hx] at hW
    have hW : EvS m_L_isWhole [.ref 0, .int (nI t)] w (.inl (some (.int 1))) w := hW
    obtain ⟨w1, C1, e1⟩ := r_holds h (s := 6 + t) (dp := -1) hd (by omega) (Or.inl (by decide))
    have hw1 : (gD σ (4 * t + 1)).toInt32 = nI x.2.1 := by rw [g1, Int32.toInt32_toInt64]
    refine ⟨w1, _, _, C1, fun q => ?_, fun Qf v7 kc ks h1 h2 k => ?_⟩
    · rw [mb_fold, Bool.or_eq_true, decide_eq_true_iff, okR_mem hd.1]
      constructor
      · rintro (hq | hq)
        · exact Or.inl ⟨x, rfl, hq⟩
        · exact Or.inr hq
      · rintro (⟨y, hy, hq⟩ | hq)
        · cases hy
          exact Or.inl hq
        · exact Or.inr hq
    refine ev_iload (pc := 3) dL_slots_3 rfl ?_
    refine ev_iconst (pc := 5) (v := 2) dL_slots_5 (by decide) ?_
    refine ev_ic_ge (pc := 6) (tgt := 168) dL_slots_6 (by decide) (fun c_6 => absurd c_6 (nI_ge ht (by decide))) (fun _ => ?_)
    refine ev_ldc2 (pc := 9) dL_slots_9 kl_L_185 ?_
    refine ev_aload_n (pc := 12) dL_slots_12 rfl rfl ?_
    refine ev_iload (pc := 13) dL_slots_13 rfl ?_
    refine ev_iconst (pc := 15) (v := 0) dL_slots_15 (by decide) ?_
    refine cX3 (pc := 16) lk_L_slots_16 (Nat.le_of_ble_eq_true rfl) ⟨(show kc + 2 ≤ 2400 by omega), (show ks + 12 ≤ 14800 by omega)⟩ (r_slotWord h ht (j := 0) (by decide)) ?_
    refine ev_widen (k2 := kc + 2) (s2 := ks + 12) (show kc + 2 ≤ kc + 2 by omega) (show ks + 12 ≤ ks + 12 by omega) ?_
    refine ev_lmul (pc := 19) dL_slots_19 ?_
    refine ev_ldc2 (pc := 20) dL_slots_20 kl_L_187 ?_
    refine ev_aload_n (pc := 23) dL_slots_23 rfl rfl ?_
    refine ev_iload (pc := 24) dL_slots_24 rfl ?_
    refine ev_iconst (pc := 26) (v := 1) dL_slots_26 (by decide) ?_
    refine cX3 (pc := 27) lk_L_slots_27 (Nat.le_of_ble_eq_true rfl) ⟨(show kc + 2 + 2 ≤ 2400 by omega), (show ks + 12 + 12 ≤ 14800 by omega)⟩ (r_slotWord h ht (j := 1) (by decide)) ?_
    refine ev_widen (k2 := kc + 4) (s2 := ks + 24) (show kc + 2 + 2 ≤ kc + 4 by omega) (show ks + 12 + 12 ≤ ks + 24 by omega) ?_
    refine ev_lmul (pc := 30) dL_slots_30 ?_
    refine ev_ladd (pc := 31) dL_slots_31 ?_
    refine ev_aload_n (pc := 32) dL_slots_32 rfl rfl ?_
    refine ev_iload (pc := 33) dL_slots_33 rfl ?_
    refine ev_iconst (pc := 35) (v := 2) dL_slots_35 (by decide) ?_
    refine cX3 (pc := 36) lk_L_slots_36 (Nat.le_of_ble_eq_true rfl) ⟨(show kc + 4 + 2 ≤ 2400 by omega), (show ks + 24 + 12 ≤ 14800 by omega)⟩ (r_slotWord h ht (j := 2) (by decide)) ?_
    refine ev_widen (k2 := kc + 6) (s2 := ks + 36) (show kc + 4 + 2 ≤ kc + 6 by omega) (show ks + 24 + 12 ≤ ks + 36 by omega) ?_
    refine ev_ladd (pc := 39) dL_slots_39 ?_
    refine ev_lstore (pc := 40) dL_slots_40 rfl rfl ?_
    refine ev_aload_n (pc := 42) dL_slots_42 rfl rfl ?_
    refine ev_iload (pc := 43) dL_slots_43 rfl ?_
    refine cX2 (pc := 45) lk_L_slots_45 (Nat.le_of_ble_eq_true rfl) ⟨(show kc + 6 + 1 ≤ 2400 by omega), (show ks + 36 + 6 ≤ 14800 by omega)⟩ hW ?_
    refine ev_widen (k2 := kc + 7) (s2 := ks + 42) (show kc + 6 + 1 ≤ kc + 7 by omega) (show ks + 36 + 6 ≤ ks + 42 by omega) ?_
    refine ev_aload_n (pc := 48) dL_slots_48 rfl rfl ?_
    refine ev_bipush (pc := 49) (v := 6) dL_slots_49 (by decide) ?_
    refine ev_iload (pc := 51) dL_slots_51 rfl ?_
    refine ev_iadd (pc := 53) dL_slots_53 ?_
    rw [e6]
    refine ev_ialdN (pc := 54) dL_slots_54 (tl_i h) ⟨(show _ = nI (6 + t) from rfl), by omega, by decide⟩ his ?_
    refine ev_ic_ne (pc := 55) (tgt := 86) dL_slots_55 (by decide) (fun c_55 => absurd rfl c_55) (fun _ => ?_)
    refine ev_aload_n (pc := 58) dL_slots_58 rfl rfl ?_
    refine ev_iload (pc := 59) dL_slots_59 rfl ?_
    refine ev_iconst (pc := 61) (v := 3) dL_slots_61 (by decide) ?_
    refine cX3 (pc := 62) lk_L_slots_62 (Nat.le_of_ble_eq_true rfl) ⟨(show kc + 7 + 2 ≤ 2400 by omega), (show ks + 42 + 12 ≤ 14800 by omega)⟩ (r_slotWord h ht (j := 3) (by decide)) ?_
    refine ev_widen (k2 := kc + 9) (s2 := ks + 54) (show kc + 7 + 2 ≤ kc + 9 by omega) (show ks + 42 + 12 ≤ ks + 54 by omega) ?_
    refine ev_lload (pc := 65) dL_slots_65 rfl ?_
    refine ev_lcmp (pc := 67) dL_slots_67 ?_
    refine ev_if_ne (pc := 68) (tgt := 75) dL_slots_68 (by decide) (fun c_68 => absurd (by rw [lg_cmp_eq]; exact hwh) c_68) (fun _ => ?_)
    refine ev_iconst (pc := 71) (v := 1) dL_slots_71 (by decide) ?_
    refine ev_goto (pc := 72) (tgt := 76) dL_slots_72 (by decide) ?_
    refine ev_aload_n (pc := 76) dL_slots_76 rfl rfl ?_
    refine ev_bipush (pc := 77) (v := 6) dL_slots_77 (by decide) ?_
    refine ev_iload (pc := 79) dL_slots_79 rfl ?_
    refine ev_iadd (pc := 81) dL_slots_81 ?_
    rw [e6]
    refine ev_ialdN (pc := 82) dL_slots_82 (tl_i h) ⟨(show _ = nI (6 + t) from rfl), by omega, by decide⟩ his ?_
    refine ev_ic_eq (pc := 83) (tgt := 88) dL_slots_83 (by decide) (fun _ => ?_) (fun c_83 => absurd rfl c_83)
    refine ev_aload_n (pc := 88) dL_slots_88 rfl rfl ?_
    refine ev_bipush (pc := 89) (v := 6) dL_slots_89 (by decide) ?_
    refine ev_iload (pc := 91) dL_slots_91 rfl ?_
    refine ev_iadd (pc := 93) dL_slots_93 ?_
    rw [e6]
    refine ev_ialdN (pc := 94) dL_slots_94 (tl_i h) ⟨(show _ = nI (6 + t) from rfl), by omega, by decide⟩ his ?_
    refine ev_iconst (pc := 95) (v := 1) dL_slots_95 (by decide) ?_
    refine ev_ic_ne (pc := 96) (tgt := 162) dL_slots_96 (by decide) (fun c_96 => absurd rfl c_96) (fun _ => ?_)
    refine ev_aload_n (pc := 99) dL_slots_99 rfl rfl ?_
    refine ev_iload (pc := 100) dL_slots_100 rfl ?_
    refine ev_iconst (pc := 102) (v := 0) dL_slots_102 (by decide) ?_
    refine cX3 (pc := 103) lk_L_slots_103 (Nat.le_of_ble_eq_true rfl) ⟨(show kc + 9 + 2 ≤ 2400 by omega), (show ks + 54 + 12 ≤ 14800 by omega)⟩ (r_slotWord h ht (j := 0) (by decide)) ?_
    refine ev_widen (k2 := kc + 11) (s2 := ks + 66) (show kc + 9 + 2 ≤ kc + 11 by omega) (show ks + 54 + 12 ≤ ks + 66 by omega) ?_
    refine ev_aload_n (pc := 106) dL_slots_106 rfl rfl ?_
    refine ev_bipush (pc := 107) (v := 6) dL_slots_107 (by decide) ?_
    refine ev_iload (pc := 109) dL_slots_109 rfl ?_
    refine ev_iadd (pc := 111) dL_slots_111 ?_
    rw [e6]
    refine ev_ialdN (pc := 112) dL_slots_112 (tl_e h) ⟨(show _ = nI (6 + t) from rfl), by omega, by decide⟩ hep ?_
    refine ev_i2l (pc := 113) dL_slots_113 ?_
    refine ev_lcmp (pc := 114) dL_slots_114 ?_
    refine ev_if_ne (pc := 115) (tgt := 160) dL_slots_115 (by decide) (fun c_115 => absurd (by rw [lg_cmp_eq]; exact g0) c_115) (fun _ => ?_)
    refine ev_aload_n (pc := 118) dL_slots_118 rfl rfl ?_
    refine ev_aload_n (pc := 119) dL_slots_119 rfl rfl ?_
    refine ev_iload (pc := 120) dL_slots_120 rfl ?_
    refine ev_iconst (pc := 122) (v := 1) dL_slots_122 (by decide) ?_
    refine cX3 (pc := 123) lk_L_slots_123 (Nat.le_of_ble_eq_true rfl) ⟨(show kc + 11 + 2 ≤ 2400 by omega), (show ks + 66 + 12 ≤ 14800 by omega)⟩ (r_slotWord h ht (j := 1) (by decide)) ?_
    refine ev_widen (k2 := kc + 13) (s2 := ks + 78) (show kc + 11 + 2 ≤ kc + 13 by omega) (show ks + 66 + 12 ≤ ks + 78 by omega) ?_
    refine ev_l2i (pc := 126) dL_slots_126 ?_
    rw [hw1]
    refine ev_iconst (pc := 127) (v := (-1)) dL_slots_127 (by decide) ?_
    refine ev_aload_n (pc := 128) dL_slots_128 rfl rfl ?_
    refine ev_bipush (pc := 129) (v := 6) dL_slots_129 (by decide) ?_
    refine ev_iload (pc := 131) dL_slots_131 rfl ?_
    refine ev_iadd (pc := 133) dL_slots_133 ?_
    rw [e6]
    refine ev_aload (pc := 134) dL_slots_134 rfl ?_
    refine ev_aload (pc := 136) dL_slots_136 rfl ?_
    refine cS7 (pc := 138) lk_L_slots_138 (Nat.le_of_ble_eq_true rfl) ⟨(show kc + 13 + 1100 ≤ 2400 by omega), (show ks + 78 + 6800 ≤ 14800 by omega)⟩ e1 ?_
    refine ev_widen (k2 := kc + 1113) (s2 := ks + 6878) (show kc + 13 + 1100 ≤ kc + 1113 by omega) (show ks + 78 + 6800 ≤ ks + 6878 by omega) ?_
    refine ev_if_eq (pc := 141) (tgt := 160) dL_slots_141 (by decide) (fun c_141 => absurd c_141 (by decide)) (fun _ => ?_)
    refine ev_aload_n (pc := 144) dL_slots_144 rfl rfl ?_
    refine ev_iload (pc := 145) dL_slots_145 rfl ?_
    refine ev_iconst (pc := 147) (v := 2) dL_slots_147 (by decide) ?_
    refine cX3 (pc := 148) lk_L_slots_148 (Nat.le_of_ble_eq_true rfl) ⟨(show kc + 1113 + 2 ≤ 2400 by omega), (show ks + 6878 + 12 ≤ 14800 by omega)⟩ (r_slotWord C1 ht (j := 2) (by decide)) ?_
    refine ev_widen (k2 := kc + 1115) (s2 := ks + 6890) (show kc + 1113 + 2 ≤ kc + 1115 by omega) (show ks + 6878 + 12 ≤ ks + 6890 by omega) ?_
    refine ev_aload (pc := 151) dL_slots_151 rfl ?_
    refine ev_iconst (pc := 153) (v := 0) dL_slots_153 (by decide) ?_
    refine ev_ialdN (pc := 154) dL_slots_154 (tl_f C1) ⟨(show _ = nI 0 from rfl), by decide, by decide⟩ fF_0 ?_
    refine ev_i2l (pc := 155) dL_slots_155 ?_
    refine ev_lcmp (pc := 156) dL_slots_156 ?_
    refine ev_if_eq (pc := 157) (tgt := 162) dL_slots_157 (by decide) (fun _ => ?_) (fun c_157 => absurd (by rw [lg_cmp_eq, ← hk]; exact g2) c_157)
    refine ev_iinc (pc := 162) dL_slots_162 rfl rfl rfl ?_
    refine ev_goto (pc := 165) (tgt := 3) dL_slots_165 (by decide) ?_
    rw [nI_i1]
    exact ev_widen (by omega) (by omega) (k _)
theorem r_slots (h : CG N σ (TL cc ep is f g) w) (hI : LI σ cc ep is) : ∃ (w' : mW) (f' : Nat → Int32) (g' : Nat → Int64), CG N σ (TL cc ep is f' g') w' ∧ (∀ q, mb g' q = true ↔ ((∃ t x, t < 2 ∧ gO σ t = some x ∧ Rch (gT σ) x.2.1 q) ∨ mb g q = true)) ∧ EvS m_L_slots [.ref 0, .ref 21, .ref 22, .ref 23, .ref 24, .ref 25] w (.inl (some (.int 1))) w' := by
  obtain ⟨-, -, -, hO⟩ := hI
  obtain ⟨w1, f1, g1, C1, m1, k1⟩ := slots_step h (t := 0) (by decide) (hO 0 (by decide))
  obtain ⟨w2, f2, g2, C2, m2, k2⟩ := slots_step C1 (t := 1) (by decide) (hO 1 (by decide))
  refine ⟨w2, f2, g2, C2, fun q => ?_, ?_⟩
  · rw [m2, m1]
    constructor
    · rintro (⟨x, h1, h2⟩ | ⟨x, h1, h2⟩ | hq)
      · exact Or.inl ⟨1, x, by decide, h1, h2⟩
      · exact Or.inl ⟨0, x, by decide, h1, h2⟩
      · exact Or.inr hq
    · rintro (⟨t, x, ht, h1, h2⟩ | hq)
      · have t2 : t = 0 ∨ t = 1 := by omega
        rcases t2 with rfl | rfl
        · exact Or.inr (Or.inl ⟨x, h1, h2⟩)
        · exact Or.inl ⟨x, h1, h2⟩
      · exact Or.inr (Or.inr hq)
  refine evs_of (by decide +kernel) (Nat.le_of_ble_eq_true rfl) (by decide) rfl ?_
  refine ev_iconst (pc := 0) (v := 0) dL_slots_0 (by decide) ?_
  refine ev_istore (pc := 1) dL_slots_1 rfl rfl ?_
  refine k1 _ _ 0 0 (by decide) (by decide) (fun v7 => ?_)
  refine k2 _ _ _ _ (by decide) (by decide) (fun v7 => ?_)
  refine ev_iload (pc := 3) dL_slots_3 rfl ?_
  refine ev_iconst (pc := 5) (v := 2) dL_slots_5 (by decide) ?_
  refine ev_ic_ge (pc := 6) (tgt := 168) dL_slots_6 (by decide) (fun _ => ?_) (fun c_6 => absurd (by decide) c_6)
  refine ev_iconst (pc := 168) (v := 1) dL_slots_168 (by decide) ?_
  exact ev_zretE (pc := 169) dL_slots_169 rfl ⟨Nat.le_of_ble_eq_true rfl, Nat.le_of_ble_eq_true rfl⟩ (by first | exact Or.inl rfl | exact Or.inr rfl | assumption | exact i10_o) rfl rfl
end SL9
