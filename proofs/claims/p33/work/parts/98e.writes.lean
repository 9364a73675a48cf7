/-! THE LAW: writes -/
section WT5
variable {N : Nat} {σ : SS} {w : mW} {cc : Nat → Int64} {ep is : Nat → Int32}
/-- the batch's state moves, the others stay -/
theorem wr_LI (hG : gI N σ) (hI : LI σ cc ep is) {σ' : SS} {z z' : RS3} {cc' : Nat → Int64} (hb : gB σ = some z) (hs : sameB σ σ' z') (hz : z'.1 = z.1) (hc : cN (gT σ') z'.2.1 (ct (tn cc' 1))) (ht : ∀ s i, s ≠ 1 → i < 32 → tn cc' s i = tn cc s i) : LI σ' cc' ep is ∧ gB σ' = some z' := by
  obtain ⟨a1, a2, a3, a4, a5, a6, a7, a8⟩ := hs
  obtain ⟨-, ⟨o1, o2, o3⟩, -⟩ := hG
  obtain ⟨hi, hcn, hep⟩ := ob_s hI.2.1 hb
  have mv : ∀ x : RS3, oR (gT σ) (gK σ) x → ∀ L, cN (gT σ) x.2.1 L → cN (gT σ') x.2.1 L := fun x hx L hL => cN_fr hL (fun q hq => a8 q (oR_Rch hx hq))
  refine ⟨⟨?_, ?_, fun k hk => ?_, fun t h2 => ?_⟩, a2⟩
  · rw [a1]
    exact st_mv hI.1 (mv _ o1) (fun i h => ht 0 i (by decide) h) rfl
  · rw [a2]
    exact ⟨hi, hc, by rw [hz]; exact hep⟩
  · rw [a4]
    exact ob_mv (hI.2.2.1 k hk) (fun x hx => mv x (o3 k x hk hx)) (fun i h => ht _ i (by omega) h) rfl rfl
  · rw [a3]
    exact ob_mv (hI.2.2.2 t h2) (fun x hx => mv x (o2 t x h2 hx)) (fun i h => ht _ i (by omega) h) rfl rfl
theorem wr_rem {n i : Nat} (hx : n % 32 = i) (h : n < 10000) : nI n - nI n / 32 * 32 = nI i := by
  rw [← hx]
  exact pk_rem (by omega) (by decide) (by decide)
theorem wr_step (C : CG N σ (T3 cc ep is) w) (hI : LI σ cc ep is) {z : RS3} (hb : gB σ = some z) (x y : Int32) {i tv : Nat} (hi : i < 32) (h0 : 0 < tv) (htv : tv < 32) : ∃ (σ' : SS) (w' : mW) (cc' : Nat → Int64) (z' : RS3), CG N σ' (T3 cc' ep is) w' ∧ LI σ' cc' ep is ∧ gB σ' = some z' ∧ ∀ (Qf : mQ) (f s m k kc ks : Nat) (v12 v13 : Value), (f + k * s) % 32 = i → f + k * s < 10000 → k < m → m < 100 → kc + 3 ≤ 90 → ks + 18 ≤ 560 → (∀ v12 v13 : Value, EvF m_L_writes Qf 87 [.ref 0, .int x, .int y, .int (nI tv), .ref 21, .ref 22, .ref 23, .int 1, .int (nI f), .int (nI s), .int (nI m), .int (nI (k + 1)), v12, v13] [] (kc + 3) (ks + 18) w') → EvF m_L_writes Qf 87 [.ref 0, .int x, .int y, .int (nI tv), .ref 21, .ref 22, .ref 23, .int 1, .int (nI f), .int (nI s), .int (nI m), .int (nI k), v12, v13] [] kc ks w := by
  obtain ⟨his, hcn, hep⟩ := ob_s hI.2.1 hb
  have hG := cg_I C
  have hkey : 3 * i + 6 < 100 + 2 := by omega
  by_cases hput : lowN (x >>> (5 &&& 31)) 5 < 3
  · by_cases hk1 : 3 * i + 6 < 100
    · obtain ⟨σ', w', z', nw, C1, e1, hs, hz, hL⟩ := m_put C hb hk1 (valN tv i)
      obtain ⟨hnw, L', hL', hsr, hm⟩ := hL _ hcn
      have e9 : L' = ct (tn (setT cc 1 i tv) 1) := ct_put hi h0 rfl hsr hm (fun j hj => by rw [tn_set htv (by omega) (by omega)]; simp)
      rw [e9] at hL'
      obtain ⟨hI', hb'⟩ := wr_LI hG hI hb hs hz hL' (fun s j h1 h2 => by rw [tn_set htv (by omega) (by omega), if_neg (fun h => h1 h.1)])
      refine ⟨σ', _, _, z', t3_sc C1 (setT cc 1 i tv), hI', hb', fun Qf f s m k kc ks v12 v13 hx h10 hk hm2 h1 h2 kk => ?_⟩
      by_cases ht0 : 0 < tn cc 1 i
      · have hn : nw = false := by
          cases hc : nw with
          | false => rfl
          | true => exact absurd ⟨_, ct_in hi ht0, rfl⟩ (hnw.mp hc)
        rw [hn] at e1
        have tl32 := tn_lt (cc := cc) (s := 1) (i := i)
        refine ev_iload (pc := 87) dL_writes_87 rfl ?_
        refine ev_iload (pc := 89) dL_writes_89 rfl ?_
        refine ev_ic_ge (pc := 91) (tgt := 236) dL_writes_91 (by decide) (fun c_91 => absurd c_91 (nI_ge hk (by omega))) (fun _ => ?_)
        refine ev_iload (pc := 94) dL_writes_94 rfl ?_
        refine ev_iload (pc := 96) dL_writes_96 rfl ?_
        refine ev_iload (pc := 98) dL_writes_98 rfl ?_
        refine ev_imul (pc := 100) dL_writes_100 ?_
        rw [pk_mul]
        refine ev_iadd (pc := 101) dL_writes_101 ?_
        rw [nI_add]
        refine ev_bipush (pc := 102) (v := 32) dL_writes_102 (by decide) ?_
        refine ev_irem (pc := 104) dL_writes_104 (by decide) (wr_rem hx h10) ?_
        refine ev_istore (pc := 105) dL_writes_105 rfl rfl ?_
        refine ev_aload (pc := 107) dL_writes_107 rfl ?_
        refine ev_iconst (pc := 109) (v := 1) dL_writes_109 (by decide) ?_
        refine ev_iload (pc := 110) dL_writes_110 rfl ?_
        refine cS3 (pc := 112) lk_L_writes_112 (Nat.le_of_ble_eq_true rfl) ⟨(show kc + 0 ≤ 100 by omega), (show ks + 0 ≤ 600 by omega)⟩ (r_turn (t3_c C) (s := 1) (by decide) (by omega)) ?_
        refine ev_widen (k2 := kc + 0) (s2 := ks + 0) (show kc + 0 ≤ kc + 0 by omega) (show ks + 0 ≤ ks + 0 by omega) ?_
        refine ev_istore (pc := 115) dL_writes_115 rfl rfl ?_
        refine ev_iload_n (pc := 117) dL_writes_117 rfl rfl ?_
        refine ev_iconst (pc := 118) (v := 5) dL_writes_118 (by decide) ?_
        refine ev_ishr (pc := 119) dL_writes_119 rfl ?_
        refine ev_iconst (pc := 120) (v := 5) dL_writes_120 (by decide) ?_
        refine cS2 (pc := 121) lk_L_writes_121 (Nat.le_of_ble_eq_true rfl) ⟨(show kc + 0 ≤ 100 by omega), (show ks + 0 ≤ 600 by omega)⟩ (r_low (n := 5) (by decide) (by decide)) ?_
        refine ev_widen (k2 := kc + 0) (s2 := ks + 0) (show kc + 0 ≤ kc + 0 by omega) (show ks + 0 ≤ ks + 0 by omega) ?_
        refine ev_iconst (pc := 124) (v := 3) dL_writes_124 (by decide) ?_
        refine ev_ic_ge (pc := 125) (tgt := 180) dL_writes_125 (by decide) (fun c_125 => absurd c_125 (nI_ge hput (by decide))) (fun _ => ?_)
        refine ev_iload (pc := 128) dL_writes_128 rfl ?_
        refine ev_if_eq (pc := 130) (tgt := 165) dL_writes_130 (by decide) (fun c_130 => absurd c_130 (by decide)) (fun _ => ?_)
        refine ev_aload_n (pc := 133) dL_writes_133 rfl rfl ?_
        refine ev_iload (pc := 134) dL_writes_134 rfl ?_
        refine cS1 (pc := 136) lk_L_writes_136 (Nat.le_of_ble_eq_true rfl) ⟨(show kc + 0 ≤ 100 by omega), (show ks + 0 ≤ 600 by omega)⟩ r_key ?_
        refine ev_widen (k2 := kc + 0) (s2 := ks + 0) (show kc + 0 ≤ kc + 0 by omega) (show ks + 0 ≤ ks + 0 by omega) ?_
        refine ev_iload_n (pc := 139) dL_writes_139 rfl rfl ?_
        refine ev_iload (pc := 140) dL_writes_140 rfl ?_
        refine cS2 (pc := 142) lk_L_writes_142 (Nat.le_of_ble_eq_true rfl) ⟨(show kc + 0 ≤ 100 by omega), (show ks + 0 ≤ 600 by omega)⟩ r_value ?_
        refine ev_widen (k2 := kc + 0) (s2 := ks + 0) (show kc + 0 ≤ kc + 0 by omega) (show ks + 0 ≤ ks + 0 by omega) ?_
        refine cX3 (pc := 145) lk_L_writes_145 (Nat.le_of_ble_eq_true rfl) ⟨(show kc + 2 ≤ 100 by omega), (show ks + 12 ≤ 600 by omega)⟩ e1 ?_
        refine ev_widen (k2 := kc + 2) (s2 := ks + 12) (show kc + 2 ≤ kc + 2 by omega) (show ks + 12 ≤ ks + 12 by omega) ?_
        refine ev_iload (pc := 148) dL_writes_148 rfl ?_
        refine ev_if_le (pc := 150) (tgt := 157) dL_writes_150 (by decide) (fun c_150 => absurd c_150 (nI_nle ht0 (by omega))) (fun _ => ?_)
        refine ev_iconst (pc := 153) (v := 0) dL_writes_153 (by decide) ?_
        refine ev_goto (pc := 154) (tgt := 158) dL_writes_154 (by decide) ?_
        refine ev_ic_ne (pc := 158) (tgt := 165) dL_writes_158 (by decide) (fun c_158 => absurd rfl c_158) (fun _ => ?_)
        refine ev_iconst (pc := 161) (v := 1) dL_writes_161 (by decide) ?_
        refine ev_goto (pc := 162) (tgt := 166) dL_writes_162 (by decide) ?_
        refine ev_istore (pc := 166) dL_writes_166 rfl rfl ?_
        refine ev_aload (pc := 168) dL_writes_168 rfl ?_
        refine ev_iconst (pc := 170) (v := 1) dL_writes_170 (by decide) ?_
        refine ev_iload (pc := 171) dL_writes_171 rfl ?_
        refine ev_iload_n (pc := 173) dL_writes_173 rfl rfl ?_
        refine cS4 (pc := 174) lk_L_writes_174 (Nat.le_of_ble_eq_true rfl) ⟨(show kc + 2 + 0 ≤ 100 by omega), (show ks + 12 + 0 ≤ 600 by omega)⟩ (r_sets (t3_c C1) (s := 1) (by decide) (by omega)) ?_
        refine ev_widen (k2 := kc + 2) (s2 := ks + 12) (show kc + 2 + 0 ≤ kc + 2 by omega) (show ks + 12 + 0 ≤ ks + 12 by omega) ?_
        refine ev_goto (pc := 177) (tgt := 230) dL_writes_177 (by decide) ?_
        refine ev_iinc (pc := 230) dL_writes_230 rfl rfl rfl ?_
        refine ev_goto (pc := 233) (tgt := 87) dL_writes_233 (by decide) ?_
        rw [nI_i1]
        exact ev_widen (by omega) (by omega) (kk _ _)
      · have hn : nw = true := hnw.mpr (ct_no ht0)
        rw [hn] at e1
        have tn0 : tn cc 1 i = 0 := by omega
        have etn : ∀ w : mW, w[21]? = some (lA 24 cc) → EvS m_L_turn [.ref 21, .int 1, .int (nI i)] w (.inl (some (.int (nI 0)))) w := fun w h => by
          rw [← tn0]
          exact r_turn h (s := 1) (by decide) (by omega)
        refine ev_iload (pc := 87) dL_writes_87 rfl ?_
        refine ev_iload (pc := 89) dL_writes_89 rfl ?_
        refine ev_ic_ge (pc := 91) (tgt := 236) dL_writes_91 (by decide) (fun c_91 => absurd c_91 (nI_ge hk (by omega))) (fun _ => ?_)
        refine ev_iload (pc := 94) dL_writes_94 rfl ?_
        refine ev_iload (pc := 96) dL_writes_96 rfl ?_
        refine ev_iload (pc := 98) dL_writes_98 rfl ?_
        refine ev_imul (pc := 100) dL_writes_100 ?_
        rw [pk_mul]
        refine ev_iadd (pc := 101) dL_writes_101 ?_
        rw [nI_add]
        refine ev_bipush (pc := 102) (v := 32) dL_writes_102 (by decide) ?_
        refine ev_irem (pc := 104) dL_writes_104 (by decide) (wr_rem hx h10) ?_
        refine ev_istore (pc := 105) dL_writes_105 rfl rfl ?_
        refine ev_aload (pc := 107) dL_writes_107 rfl ?_
        refine ev_iconst (pc := 109) (v := 1) dL_writes_109 (by decide) ?_
        refine ev_iload (pc := 110) dL_writes_110 rfl ?_
        refine cS3 (pc := 112) lk_L_writes_112 (Nat.le_of_ble_eq_true rfl) ⟨(show kc + 0 ≤ 100 by omega), (show ks + 0 ≤ 600 by omega)⟩ (etn _ (t3_c C)) ?_
        refine ev_widen (k2 := kc + 0) (s2 := ks + 0) (show kc + 0 ≤ kc + 0 by omega) (show ks + 0 ≤ ks + 0 by omega) ?_
        refine ev_istore (pc := 115) dL_writes_115 rfl rfl ?_
        refine ev_iload_n (pc := 117) dL_writes_117 rfl rfl ?_
        refine ev_iconst (pc := 118) (v := 5) dL_writes_118 (by decide) ?_
        refine ev_ishr (pc := 119) dL_writes_119 rfl ?_
        refine ev_iconst (pc := 120) (v := 5) dL_writes_120 (by decide) ?_
        refine cS2 (pc := 121) lk_L_writes_121 (Nat.le_of_ble_eq_true rfl) ⟨(show kc + 0 ≤ 100 by omega), (show ks + 0 ≤ 600 by omega)⟩ (r_low (n := 5) (by decide) (by decide)) ?_
        refine ev_widen (k2 := kc + 0) (s2 := ks + 0) (show kc + 0 ≤ kc + 0 by omega) (show ks + 0 ≤ ks + 0 by omega) ?_
        refine ev_iconst (pc := 124) (v := 3) dL_writes_124 (by decide) ?_
        refine ev_ic_ge (pc := 125) (tgt := 180) dL_writes_125 (by decide) (fun c_125 => absurd c_125 (nI_ge hput (by decide))) (fun _ => ?_)
        refine ev_iload (pc := 128) dL_writes_128 rfl ?_
        refine ev_if_eq (pc := 130) (tgt := 165) dL_writes_130 (by decide) (fun c_130 => absurd c_130 (by decide)) (fun _ => ?_)
        refine ev_aload_n (pc := 133) dL_writes_133 rfl rfl ?_
        refine ev_iload (pc := 134) dL_writes_134 rfl ?_
        refine cS1 (pc := 136) lk_L_writes_136 (Nat.le_of_ble_eq_true rfl) ⟨(show kc + 0 ≤ 100 by omega), (show ks + 0 ≤ 600 by omega)⟩ r_key ?_
        refine ev_widen (k2 := kc + 0) (s2 := ks + 0) (show kc + 0 ≤ kc + 0 by omega) (show ks + 0 ≤ ks + 0 by omega) ?_
        refine ev_iload_n (pc := 139) dL_writes_139 rfl rfl ?_
        refine ev_iload (pc := 140) dL_writes_140 rfl ?_
        refine cS2 (pc := 142) lk_L_writes_142 (Nat.le_of_ble_eq_true rfl) ⟨(show kc + 0 ≤ 100 by omega), (show ks + 0 ≤ 600 by omega)⟩ r_value ?_
        refine ev_widen (k2 := kc + 0) (s2 := ks + 0) (show kc + 0 ≤ kc + 0 by omega) (show ks + 0 ≤ ks + 0 by omega) ?_
        refine cX3 (pc := 145) lk_L_writes_145 (Nat.le_of_ble_eq_true rfl) ⟨(show kc + 2 ≤ 100 by omega), (show ks + 12 ≤ 600 by omega)⟩ e1 ?_
        refine ev_widen (k2 := kc + 2) (s2 := ks + 12) (show kc + 2 ≤ kc + 2 by omega) (show ks + 12 ≤ ks + 12 by omega) ?_
        refine ev_iload (pc := 148) dL_writes_148 rfl ?_
        refine ev_if_le (pc := 150) (tgt := 157) dL_writes_150 (by decide) (fun _ => ?_) (fun c_150 => absurd (by decide) c_150)
        refine ev_iconst (pc := 157) (v := 1) dL_writes_157 (by decide) ?_
        refine ev_ic_ne (pc := 158) (tgt := 165) dL_writes_158 (by decide) (fun c_158 => absurd rfl c_158) (fun _ => ?_)
        refine ev_iconst (pc := 161) (v := 1) dL_writes_161 (by decide) ?_
        refine ev_goto (pc := 162) (tgt := 166) dL_writes_162 (by decide) ?_
        refine ev_istore (pc := 166) dL_writes_166 rfl rfl ?_
        refine ev_aload (pc := 168) dL_writes_168 rfl ?_
        refine ev_iconst (pc := 170) (v := 1) dL_writes_170 (by decide) ?_
        refine ev_iload (pc := 171) dL_writes_171 rfl ?_
        refine ev_iload_n (pc := 173) dL_writes_173 rfl rfl ?_
        refine cS4 (pc := 174) lk_L_writes_174 (Nat.le_of_ble_eq_true rfl) ⟨(show kc + 2 + 0 ≤ 100 by omega), (show ks + 12 + 0 ≤ 600 by omega)⟩ (r_sets (t3_c C1) (s := 1) (by decide) (by omega)) ?_
        refine ev_widen (k2 := kc + 2) (s2 := ks + 12) (show kc + 2 + 0 ≤ kc + 2 by omega) (show ks + 12 + 0 ≤ ks + 12 by omega) ?_
        refine ev_goto (pc := 177) (tgt := 230) dL_writes_177 (by decide) ?_
        refine ev_iinc (pc := 230) dL_writes_230 rfl rfl rfl ?_
        refine ev_goto (pc := 233) (tgt := 87) dL_writes_233 (by decide) ?_
        rw [nI_i1]
        exact ev_widen (by omega) (by omega) (kk _ _)
    · exact absurd hk1 (by omega)
  · have hk1 : 3 * i + 6 < 100 := by omega
    have hlow := lowN_lt (x >>> (5 &&& 31)) (show 0 < 5 by decide)
    by_cases ht0 : 0 < tn cc 1 i
    · obtain ⟨σ', w', z', C1, e1, hs, hz, L', hL', hsr, hm⟩ := m_delete C hb hk1 hcn (ct_in hi ht0)
      have e9 : L' = ct (tn (setT cc 1 i 0) 1) := ct_del rfl hsr hm (fun j hj => by rw [tn_set (by decide) (by omega) (by omega)]; simp)
      rw [e9] at hL'
      obtain ⟨hI', hb'⟩ := wr_LI hG hI hb hs hz hL' (fun s j h1 h2 => by rw [tn_set (by decide) (by omega) (by omega), if_neg (fun h => h1 h.1)])
      refine ⟨σ', _, _, z', t3_sc C1 (setT cc 1 i 0), hI', hb', fun Qf f s m k kc ks v12 v13 hx h10 hk hm2 h1 h2 kk => ?_⟩
      have tl32 := tn_lt (cc := cc) (s := 1) (i := i)
      refine ev_iload (pc := 87) dL_writes_87 rfl ?_
      refine ev_iload (pc := 89) dL_writes_89 rfl ?_
      refine ev_ic_ge (pc := 91) (tgt := 236) dL_writes_91 (by decide) (fun c_91 => absurd c_91 (nI_ge hk (by omega))) (fun _ => ?_)
      refine ev_iload (pc := 94) dL_writes_94 rfl ?_
      refine ev_iload (pc := 96) dL_writes_96 rfl ?_
      refine ev_iload (pc := 98) dL_writes_98 rfl ?_
      refine ev_imul (pc := 100) dL_writes_100 ?_
      rw [pk_mul]
      refine ev_iadd (pc := 101) dL_writes_101 ?_
      rw [nI_add]
      refine ev_bipush (pc := 102) (v := 32) dL_writes_102 (by decide) ?_
      refine ev_irem (pc := 104) dL_writes_104 (by decide) (wr_rem hx h10) ?_
      refine ev_istore (pc := 105) dL_writes_105 rfl rfl ?_
      refine ev_aload (pc := 107) dL_writes_107 rfl ?_
      refine ev_iconst (pc := 109) (v := 1) dL_writes_109 (by decide) ?_
      refine ev_iload (pc := 110) dL_writes_110 rfl ?_
      refine cS3 (pc := 112) lk_L_writes_112 (Nat.le_of_ble_eq_true rfl) ⟨(show kc + 0 ≤ 100 by omega), (show ks + 0 ≤ 600 by omega)⟩ (r_turn (t3_c C) (s := 1) (by decide) (by omega)) ?_
      refine ev_widen (k2 := kc + 0) (s2 := ks + 0) (show kc + 0 ≤ kc + 0 by omega) (show ks + 0 ≤ ks + 0 by omega) ?_
      refine ev_istore (pc := 115) dL_writes_115 rfl rfl ?_
      refine ev_iload_n (pc := 117) dL_writes_117 rfl rfl ?_
      refine ev_iconst (pc := 118) (v := 5) dL_writes_118 (by decide) ?_
      refine ev_ishr (pc := 119) dL_writes_119 rfl ?_
      refine ev_iconst (pc := 120) (v := 5) dL_writes_120 (by decide) ?_
      refine cS2 (pc := 121) lk_L_writes_121 (Nat.le_of_ble_eq_true rfl) ⟨(show kc + 0 ≤ 100 by omega), (show ks + 0 ≤ 600 by omega)⟩ (r_low (n := 5) (by decide) (by decide)) ?_
      refine ev_widen (k2 := kc + 0) (s2 := ks + 0) (show kc + 0 ≤ kc + 0 by omega) (show ks + 0 ≤ ks + 0 by omega) ?_
      refine ev_iconst (pc := 124) (v := 3) dL_writes_124 (by decide) ?_
      refine ev_ic_ge (pc := 125) (tgt := 180) dL_writes_125 (by decide) (fun _ => ?_) (fun c_125 => absurd (nI_le (show 3 ≤ _ by omega) (by omega)) c_125)
      refine ev_iload (pc := 180) dL_writes_180 rfl ?_
      refine ev_if_eq (pc := 182) (tgt := 218) dL_writes_182 (by decide) (fun c_182 => absurd c_182 (by decide)) (fun _ => ?_)
      refine ev_aload_n (pc := 185) dL_writes_185 rfl rfl ?_
      refine ev_iload (pc := 186) dL_writes_186 rfl ?_
      refine cS1 (pc := 188) lk_L_writes_188 (Nat.le_of_ble_eq_true rfl) ⟨(show kc + 0 ≤ 100 by omega), (show ks + 0 ≤ 600 by omega)⟩ r_key ?_
      refine ev_widen (k2 := kc + 0) (s2 := ks + 0) (show kc + 0 ≤ kc + 0 by omega) (show ks + 0 ≤ ks + 0 by omega) ?_
      refine cX2 (pc := 191) lk_L_writes_191 (Nat.le_of_ble_eq_true rfl) ⟨(show kc + 3 ≤ 100 by omega), (show ks + 18 ≤ 600 by omega)⟩ e1 ?_
      refine ev_widen (k2 := kc + 3) (s2 := ks + 18) (show kc + 3 ≤ kc + 3 by omega) (show ks + 18 ≤ ks + 18 by omega) ?_
      refine ev_iload (pc := 194) dL_writes_194 rfl ?_
      refine ev_if_le (pc := 196) (tgt := 209) dL_writes_196 (by decide) (fun c_196 => absurd c_196 (nI_nle ht0 (by omega))) (fun _ => ?_)
      refine ev_iload (pc := 199) dL_writes_199 rfl ?_
      refine ev_iload (pc := 201) dL_writes_201 rfl ?_
      refine cS2 (pc := 203) lk_L_writes_203 (Nat.le_of_ble_eq_true rfl) ⟨(show kc + 3 + 0 ≤ 100 by omega), (show ks + 18 + 0 ≤ 600 by omega)⟩ r_value ?_
      refine ev_widen (k2 := kc + 3) (s2 := ks + 18) (show kc + 3 + 0 ≤ kc + 3 by omega) (show ks + 18 + 0 ≤ ks + 18 by omega) ?_
      refine ev_goto (pc := 206) (tgt := 211) dL_writes_206 (by decide) ?_
      refine ev_ic_ne (pc := 211) (tgt := 218) dL_writes_211 (by decide) (fun c_211 => absurd rfl c_211) (fun _ => ?_)
      refine ev_iconst (pc := 214) (v := 1) dL_writes_214 (by decide) ?_
      refine ev_goto (pc := 215) (tgt := 219) dL_writes_215 (by decide) ?_
      refine ev_istore (pc := 219) dL_writes_219 rfl rfl ?_
      refine ev_aload (pc := 221) dL_writes_221 rfl ?_
      refine ev_iconst (pc := 223) (v := 1) dL_writes_223 (by decide) ?_
      refine ev_iload (pc := 224) dL_writes_224 rfl ?_
      refine ev_iconst (pc := 226) (v := 0) dL_writes_226 (by decide) ?_
      refine cS4 (pc := 227) lk_L_writes_227 (Nat.le_of_ble_eq_true rfl) ⟨(show kc + 3 + 0 ≤ 100 by omega), (show ks + 18 + 0 ≤ 600 by omega)⟩ (r_sets (t := 0) (t3_c C1) (s := 1) (by decide) (by omega)) ?_
      refine ev_widen (k2 := kc + 3) (s2 := ks + 18) (show kc + 3 + 0 ≤ kc + 3 by omega) (show ks + 18 + 0 ≤ ks + 18 by omega) ?_
      refine ev_iinc (pc := 230) dL_writes_230 rfl rfl rfl ?_
      refine ev_goto (pc := 233) (tgt := 87) dL_writes_233 (by decide) ?_
      rw [nI_i1]
      exact ev_widen (by omega) (by omega) (kk _ _)
    · have tn0 : tn cc 1 i = 0 := by omega
      have etn : ∀ w : mW, w[21]? = some (lA 24 cc) → EvS m_L_turn [.ref 21, .int 1, .int (nI i)] w (.inl (some (.int (nI 0)))) w := fun w h => by
        rw [← tn0]
        exact r_turn h (s := 1) (by decide) (by omega)
      have e9 : ct (tn (setT cc 1 i 0) 1) = ct (tn cc 1) := ct_keep ht0 (fun j hj => by rw [tn_set (by decide) (by omega) (by omega)]; simp)
      have hh : sameB σ σ z := ⟨rfl, hb, rfl, rfl, rfl, rfl, rfl, fun _ _ => rfl⟩
      obtain ⟨hI', hb'⟩ := wr_LI (cc' := setT cc 1 i 0) hG hI hb hh rfl (by rw [e9]; exact hcn) (fun s j h1 h2 => by rw [tn_set (by decide) (by omega) (by omega), if_neg (fun h => h1 h.1)])
      refine ⟨σ, _, _, z, t3_sc C (setT cc 1 i 0), hI', hb', fun Qf f s m k kc ks v12 v13 hx h10 hk hm2 h1 h2 kk => ?_⟩
      refine ev_iload (pc := 87) dL_writes_87 rfl ?_
      refine ev_iload (pc := 89) dL_writes_89 rfl ?_
      refine ev_ic_ge (pc := 91) (tgt := 236) dL_writes_91 (by decide) (fun c_91 => absurd c_91 (nI_ge hk (by omega))) (fun _ => ?_)
      refine ev_iload (pc := 94) dL_writes_94 rfl ?_
      refine ev_iload (pc := 96) dL_writes_96 rfl ?_
      refine ev_iload (pc := 98) dL_writes_98 rfl ?_
      refine ev_imul (pc := 100) dL_writes_100 ?_
      rw [pk_mul]
      refine ev_iadd (pc := 101) dL_writes_101 ?_
      rw [nI_add]
      refine ev_bipush (pc := 102) (v := 32) dL_writes_102 (by decide) ?_
      refine ev_irem (pc := 104) dL_writes_104 (by decide) (wr_rem hx h10) ?_
      refine ev_istore (pc := 105) dL_writes_105 rfl rfl ?_
      refine ev_aload (pc := 107) dL_writes_107 rfl ?_
      refine ev_iconst (pc := 109) (v := 1) dL_writes_109 (by decide) ?_
      refine ev_iload (pc := 110) dL_writes_110 rfl ?_
      refine cS3 (pc := 112) lk_L_writes_112 (Nat.le_of_ble_eq_true rfl) ⟨(show kc + 0 ≤ 100 by omega), (show ks + 0 ≤ 600 by omega)⟩ (etn _ (t3_c C)) ?_
      refine ev_widen (k2 := kc + 0) (s2 := ks + 0) (show kc + 0 ≤ kc + 0 by omega) (show ks + 0 ≤ ks + 0 by omega) ?_
      refine ev_istore (pc := 115) dL_writes_115 rfl rfl ?_
      refine ev_iload_n (pc := 117) dL_writes_117 rfl rfl ?_
      refine ev_iconst (pc := 118) (v := 5) dL_writes_118 (by decide) ?_
      refine ev_ishr (pc := 119) dL_writes_119 rfl ?_
      refine ev_iconst (pc := 120) (v := 5) dL_writes_120 (by decide) ?_
      refine cS2 (pc := 121) lk_L_writes_121 (Nat.le_of_ble_eq_true rfl) ⟨(show kc + 0 ≤ 100 by omega), (show ks + 0 ≤ 600 by omega)⟩ (r_low (n := 5) (by decide) (by decide)) ?_
      refine ev_widen (k2 := kc + 0) (s2 := ks + 0) (show kc + 0 ≤ kc + 0 by omega) (show ks + 0 ≤ ks + 0 by omega) ?_
      refine ev_iconst (pc := 124) (v := 3) dL_writes_124 (by decide) ?_
      refine ev_ic_ge (pc := 125) (tgt := 180) dL_writes_125 (by decide) (fun _ => ?_) (fun c_125 => absurd (nI_le (show 3 ≤ _ by omega) (by omega)) c_125)
      refine ev_iload (pc := 180) dL_writes_180 rfl ?_
      refine ev_if_eq (pc := 182) (tgt := 218) dL_writes_182 (by decide) (fun c_182 => absurd c_182 (by decide)) (fun _ => ?_)
      refine ev_aload_n (pc := 185) dL_writes_185 rfl rfl ?_
      refine ev_iload (pc := 186) dL_writes_186 rfl ?_
      refine cS1 (pc := 188) lk_L_writes_188 (Nat.le_of_ble_eq_true rfl) ⟨(show kc + 0 ≤ 100 by omega), (show ks + 0 ≤ 600 by omega)⟩ r_key ?_
      refine ev_widen (k2 := kc + 0) (s2 := ks + 0) (show kc + 0 ≤ kc + 0 by omega) (show ks + 0 ≤ ks + 0 by omega) ?_
      refine cX2 (pc := 191) lk_L_writes_191 (Nat.le_of_ble_eq_true rfl) ⟨(show kc + 3 ≤ 100 by omega), (show ks + 18 ≤ 600 by omega)⟩ (m_deleteT3 C hb hk1 hcn (ct_no ht0)) ?_
      refine ev_widen (k2 := kc + 3) (s2 := ks + 18) (show kc + 3 ≤ kc + 3 by omega) (show ks + 18 ≤ ks + 18 by omega) ?_
      refine ev_iload (pc := 194) dL_writes_194 rfl ?_
      refine ev_if_le (pc := 196) (tgt := 209) dL_writes_196 (by decide) (fun _ => ?_) (fun c_196 => absurd (by decide) c_196)
      refine ev_ldc (pc := 209) dL_writes_209 ki_L_37 ?_
      refine ev_ic_ne (pc := 211) (tgt := 218) dL_writes_211 (by decide) (fun c_211 => absurd rfl c_211) (fun _ => ?_)
      refine ev_iconst (pc := 214) (v := 1) dL_writes_214 (by decide) ?_
      refine ev_goto (pc := 215) (tgt := 219) dL_writes_215 (by decide) ?_
      refine ev_istore (pc := 219) dL_writes_219 rfl rfl ?_
      refine ev_aload (pc := 221) dL_writes_221 rfl ?_
      refine ev_iconst (pc := 223) (v := 1) dL_writes_223 (by decide) ?_
      refine ev_iload (pc := 224) dL_writes_224 rfl ?_
      refine ev_iconst (pc := 226) (v := 0) dL_writes_226 (by decide) ?_
      refine cS4 (pc := 227) lk_L_writes_227 (Nat.le_of_ble_eq_true rfl) ⟨(show kc + 3 + 0 ≤ 100 by omega), (show ks + 18 + 0 ≤ 600 by omega)⟩ (r_sets (t := 0) (t3_c C) (s := 1) (by decide) (by omega)) ?_
      refine ev_widen (k2 := kc + 3) (s2 := ks + 18) (show kc + 3 + 0 ≤ kc + 3 by omega) (show ks + 18 + 0 ≤ ks + 18 by omega) ?_
      refine ev_iinc (pc := 230) dL_writes_230 rfl rfl rfl ?_
      refine ev_goto (pc := 233) (tgt := 87) dL_writes_233 (by decide) ?_
      rw [nI_i1]
      exact ev_widen (by omega) (by omega) (kk _ _)
theorem wr_loop (x y : Int32) {f s m tv : Nat} (h0 : 0 < tv) (htv : tv < 32) (hf : f < 32) (hs : s < 8) (hm : m < 10) : ∀ (r k : Nat) {σ : SS} {w : mW} {cc : Nat → Int64} {z : RS3}, k + r = m → CG N σ (T3 cc ep is) w → LI σ cc ep is → gB σ = some z → ∃ (σ' : SS) (w' : mW) (cc' : Nat → Int64) (z' : RS3), CG N σ' (T3 cc' ep is) w' ∧ LI σ' cc' ep is ∧ gB σ' = some z' ∧ ∀ (Qf : mQ) (kc ks : Nat) (v12 v13 : Value), kc + 3 * r ≤ 90 → ks + 18 * r ≤ 560 → (∀ v12 v13 : Value, EvF m_L_writes Qf 236 [.ref 0, .int x, .int y, .int (nI tv), .ref 21, .ref 22, .ref 23, .int 1, .int (nI f), .int (nI s), .int (nI m), .int (nI m), v12, v13] [] (kc + 3 * r) (ks + 18 * r) w') → EvF m_L_writes Qf 87 [.ref 0, .int x, .int y, .int (nI tv), .ref 21, .ref 22, .ref 23, .int 1, .int (nI f), .int (nI s), .int (nI m), .int (nI k), v12, v13] [] kc ks w
  | 0, k, σ, w, cc, z, hk, C, hI, hb => by
    have hk : k = m := by omega
    subst hk
    refine ⟨σ, w, cc, z, C, hI, hb, fun Qf kc ks v12 v13 h1 h2 kk => ?_⟩
    refine ev_iload (pc := 87) dL_writes_87 rfl ?_
    refine ev_iload (pc := 89) dL_writes_89 rfl ?_
    refine ev_ic_ge (pc := 91) (tgt := 236) dL_writes_91 (by decide) (fun _ => ?_) (fun c_91 => absurd (nI_le (Nat.le_refl _) (by omega)) c_91)
    exact kk _ _
  | r + 1, k, σ, w, cc, z, hk, C, hI, hb => by
    have hks : k * s ≤ 10 * 8 := Nat.mul_le_mul (by omega) (by omega)
    obtain ⟨σ1, w1, cc1, z1, C1, hI1, hb1, k1⟩ := wr_step C hI hb x y (i := (f + k * s) % 32) (Nat.mod_lt _ (by decide)) h0 htv
    obtain ⟨σ2, w2, cc2, z2, C2, hI2, hb2, k2⟩ := wr_loop x y h0 htv hf hs hm r (k + 1) (by omega) C1 hI1 hb1
    refine ⟨σ2, w2, cc2, z2, C2, hI2, hb2, fun Qf kc ks v12 v13 h1 h2 kk => ?_⟩
    refine k1 Qf f s m k kc ks v12 v13 rfl (by omega) (by omega) (by omega) (by omega) (by omega) (fun v12 v13 => ?_)
    refine k2 Qf (kc + 3) (ks + 18) v12 v13 (by omega) (by omega) (fun v12 v13 => ?_)
    exact ev_widen (by omega) (by omega) (kk v12 v13)
end WT5
