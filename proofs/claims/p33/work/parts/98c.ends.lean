/-! THE LAW: ends -/
section EN5
variable {N : Nat} {σ : SS} {w : mW} {cc : Nat → Int64} {ep is : Nat → Int32}
theorem g_s2 (C : CG N σ (T3 cc ep is) w) : gS σ < 2 := (cg_I C).2.2.2.2.1
theorem e_1s {s : Nat} (h : s < 2) : (1 : Int32) - nI s = nI (1 - s) := by rw [show (1 : Int32) = nI 1 from rfl, pk_sub (by omega)]
theorem e_6s {s : Nat} : (6 : Int32) + nI s = nI (6 + s) := by rw [show (6 : Int32) = nI 6 from rfl, nI_add]
theorem ends_0 (C : CG N σ (T3 cc ep is) w) (hN : N ≤ 500) (hI : LI σ cc ep is) (x y : Int32) (hk : lowN x 8 = 0) : ∃ (σ' : SS) (w' : mW) (cc' : Nat → Int64) (ep' is' : Nat → Int32), CG (N + 1) σ' (T3 cc' ep' is') w' ∧ LI σ' cc' ep' is' ∧ EvS m_L_ends [.ref 0, .int x, .int y, .ref 21, .ref 22, .ref 23] w (.inl (some (.int 1))) w' := by
  have hs2 := g_s2 C
  obtain ⟨fs, hfs⟩ := cg_0 C
  obtain ⟨w1, s', z, h2, hlat, hz, C1, e1⟩ := m_crash C (by omega)
  obtain ⟨w2, cc', ep', is', C2, hI2, e2⟩ := r_wakes C1 (by omega) h2 hlat hz rfl rfl (fun t ht => ob_T (σ := σ) (hI.2.2.2 t ht) rfl (fun i hi => rfl) rfl rfl)
  refine ⟨_, w2, cc', ep', is', CG.mono (by omega) C2, hI2, ?_⟩
  refine evs_of (by decide +kernel) (Nat.le_of_ble_eq_true rfl) (by decide) rfl ?_
  refine ev_iload_n (pc := 0) dL_ends_0 rfl rfl ?_
  refine ev_bipush (pc := 1) (v := 8) dL_ends_1 (by decide) ?_
  refine cS2 (pc := 3) lk_L_ends_3 (Nat.le_of_ble_eq_true rfl) ⟨Nat.le_of_ble_eq_true rfl, Nat.le_of_ble_eq_true rfl⟩ (r_low (n := 8) (by decide) (by decide)) ?_
  refine ev_istore (pc := 6) dL_ends_6 rfl rfl ?_
  refine ev_aload_n (pc := 8) dL_ends_8 rfl rfl ?_
  refine cV0 (pc := 9) lk_L_ends_9 hfs rfl rfl (Nat.le_of_ble_eq_true rfl) ⟨Nat.le_of_ble_eq_true rfl, Nat.le_of_ble_eq_true rfl⟩ (r_curSlot C) ?_
  refine ev_istore (pc := 12) dL_ends_12 rfl rfl ?_
  refine ev_iconst (pc := 14) (v := 1) dL_ends_14 (by decide) ?_
  refine ev_iload (pc := 15) dL_ends_15 rfl ?_
  refine ev_isub (pc := 17) dL_ends_17 ?_
  rw [e_1s hs2]
  refine ev_istore (pc := 18) dL_ends_18 rfl rfl ?_
  refine ev_iload (pc := 20) dL_ends_20 rfl ?_
  refine ev_if_ne (pc := 22) (tgt := 39) dL_ends_22 (by decide) (fun c_22 => absurd (congrArg nI hk) c_22) (fun _ => ?_)
  refine ev_aload_n (pc := 25) dL_ends_25 rfl rfl ?_
  refine ev_aload_n (pc := 26) dL_ends_26 rfl rfl ?_
  refine cV0 (pc := 27) lk_L_ends_27 hfs rfl rfl (Nat.le_of_ble_eq_true rfl) ⟨Nat.le_of_ble_eq_true rfl, Nat.le_of_ble_eq_true rfl⟩ e1 ?_
  refine ev_aload_n (pc := 30) dL_ends_30 rfl rfl ?_
  refine ev_aload (pc := 31) dL_ends_31 rfl ?_
  refine ev_aload (pc := 33) dL_ends_33 rfl ?_
  refine cS5 (pc := 35) lk_L_ends_35 (Nat.le_of_ble_eq_true rfl) ⟨Nat.le_of_ble_eq_true rfl, Nat.le_of_ble_eq_true rfl⟩ e2 ?_
  exact ev_zretE (pc := 38) dL_ends_38 rfl ⟨Nat.le_of_ble_eq_true rfl, Nat.le_of_ble_eq_true rfl⟩ (by first | exact Or.inl rfl | exact Or.inr rfl | assumption | exact i10_o) rfl rfl
theorem ends_no (C : CG N σ (T3 cc ep is) w) (hI : LI σ cc ep is) (x y : Int32) (hk : 4 ≤ lowN x 8) (hb : gB σ = none) : EvS m_L_ends [.ref 0, .int x, .int y, .ref 21, .ref 22, .ref 23] w (.inl (some (.int 1))) w := by
  have hs2 := g_s2 C
  have l8 := lowN_lt x (show 0 < 8 by decide)
  have hi := ob_n hI.2.1 hb
  obtain ⟨fs, hfs⟩ := cg_0 C
  refine evs_of (by decide +kernel) (Nat.le_of_ble_eq_true rfl) (by decide) rfl ?_
  by_cases h4 : lowN x 8 = 4
  · refine ev_iload_n (pc := 0) dL_ends_0 rfl rfl ?_
    refine ev_bipush (pc := 1) (v := 8) dL_ends_1 (by decide) ?_
    refine cS2 (pc := 3) lk_L_ends_3 (Nat.le_of_ble_eq_true rfl) ⟨Nat.le_of_ble_eq_true rfl, Nat.le_of_ble_eq_true rfl⟩ (r_low (n := 8) (by decide) (by decide)) ?_
    refine ev_istore (pc := 6) dL_ends_6 rfl rfl ?_
    refine ev_aload_n (pc := 8) dL_ends_8 rfl rfl ?_
    refine cV0 (pc := 9) lk_L_ends_9 hfs rfl rfl (Nat.le_of_ble_eq_true rfl) ⟨Nat.le_of_ble_eq_true rfl, Nat.le_of_ble_eq_true rfl⟩ (r_curSlot C) ?_
    refine ev_istore (pc := 12) dL_ends_12 rfl rfl ?_
    refine ev_iconst (pc := 14) (v := 1) dL_ends_14 (by decide) ?_
    refine ev_iload (pc := 15) dL_ends_15 rfl ?_
    refine ev_isub (pc := 17) dL_ends_17 ?_
    rw [e_1s hs2]
    refine ev_istore (pc := 18) dL_ends_18 rfl rfl ?_
    refine ev_iload (pc := 20) dL_ends_20 rfl ?_
    refine ev_if_ne (pc := 22) (tgt := 39) dL_ends_22 (by decide) (fun _ => ?_) (fun c_22 => absurd c_22 (fun e => absurd (nI_inj (by omega) (by decide) (show nI (lowN x 8) = nI 0 from e)) (by omega)))
    refine ev_iload (pc := 39) dL_ends_39 rfl ?_
    refine ev_iconst (pc := 41) (v := 4) dL_ends_41 (by decide) ?_
    refine ev_ic_ge (pc := 42) (tgt := 168) dL_ends_42 (by decide) (fun _ => ?_) (fun c_42 => absurd (nI_le hk (by omega)) c_42)
    refine ev_aload (pc := 168) dL_ends_168 rfl ?_
    refine ev_iconst (pc := 170) (v := 1) dL_ends_170 (by decide) ?_
    refine ev_ialdN (pc := 171) dL_ends_171 (t3_i C) ⟨(show _ = nI 1 from rfl), by decide, by decide⟩ hi ?_
    refine ev_if_ne (pc := 172) (tgt := 203) dL_ends_172 (by decide) (fun c_172 => absurd rfl c_172) (fun _ => ?_)
    refine ev_iload (pc := 175) dL_ends_175 rfl ?_
    refine ev_iconst (pc := 177) (v := 4) dL_ends_177 (by decide) ?_
    refine ev_ic_ne (pc := 178) (tgt := 188) dL_ends_178 (by decide) (fun c_178 => absurd (congrArg nI h4) c_178) (fun _ => ?_)
    refine ev_aload_n (pc := 181) dL_ends_181 rfl rfl ?_
    refine cX1 (pc := 182) lk_L_ends_182 (Nat.le_of_ble_eq_true rfl) ⟨Nat.le_of_ble_eq_true rfl, Nat.le_of_ble_eq_true rfl⟩ (m_abandonT C hb) ?_
    refine ev_goto (pc := 185) (tgt := 192) dL_ends_185 (by decide) ?_
    refine ev_ldc (pc := 192) dL_ends_192 ki_L_23 ?_
    refine ev_ic_ne (pc := 194) (tgt := 201) dL_ends_194 (by decide) (fun c_194 => absurd rfl c_194) (fun _ => ?_)
    refine ev_iconst (pc := 197) (v := 1) dL_ends_197 (by decide) ?_
    refine ev_goto (pc := 198) (tgt := 202) dL_ends_198 (by decide) ?_
    exact ev_zretE (pc := 202) dL_ends_202 rfl ⟨Nat.le_of_ble_eq_true rfl, Nat.le_of_ble_eq_true rfl⟩ (by first | exact Or.inl rfl | exact Or.inr rfl | assumption | exact i10_o) rfl rfl
  · refine ev_iload_n (pc := 0) dL_ends_0 rfl rfl ?_
    refine ev_bipush (pc := 1) (v := 8) dL_ends_1 (by decide) ?_
    refine cS2 (pc := 3) lk_L_ends_3 (Nat.le_of_ble_eq_true rfl) ⟨Nat.le_of_ble_eq_true rfl, Nat.le_of_ble_eq_true rfl⟩ (r_low (n := 8) (by decide) (by decide)) ?_
    refine ev_istore (pc := 6) dL_ends_6 rfl rfl ?_
    refine ev_aload_n (pc := 8) dL_ends_8 rfl rfl ?_
    refine cV0 (pc := 9) lk_L_ends_9 hfs rfl rfl (Nat.le_of_ble_eq_true rfl) ⟨Nat.le_of_ble_eq_true rfl, Nat.le_of_ble_eq_true rfl⟩ (r_curSlot C) ?_
    refine ev_istore (pc := 12) dL_ends_12 rfl rfl ?_
    refine ev_iconst (pc := 14) (v := 1) dL_ends_14 (by decide) ?_
    refine ev_iload (pc := 15) dL_ends_15 rfl ?_
    refine ev_isub (pc := 17) dL_ends_17 ?_
    rw [e_1s hs2]
    refine ev_istore (pc := 18) dL_ends_18 rfl rfl ?_
    refine ev_iload (pc := 20) dL_ends_20 rfl ?_
    refine ev_if_ne (pc := 22) (tgt := 39) dL_ends_22 (by decide) (fun _ => ?_) (fun c_22 => absurd c_22 (fun e => absurd (nI_inj (by omega) (by decide) (show nI (lowN x 8) = nI 0 from e)) (by omega)))
    refine ev_iload (pc := 39) dL_ends_39 rfl ?_
    refine ev_iconst (pc := 41) (v := 4) dL_ends_41 (by decide) ?_
    refine ev_ic_ge (pc := 42) (tgt := 168) dL_ends_42 (by decide) (fun _ => ?_) (fun c_42 => absurd (nI_le hk (by omega)) c_42)
    refine ev_aload (pc := 168) dL_ends_168 rfl ?_
    refine ev_iconst (pc := 170) (v := 1) dL_ends_170 (by decide) ?_
    refine ev_ialdN (pc := 171) dL_ends_171 (t3_i C) ⟨(show _ = nI 1 from rfl), by decide, by decide⟩ hi ?_
    refine ev_if_ne (pc := 172) (tgt := 203) dL_ends_172 (by decide) (fun c_172 => absurd rfl c_172) (fun _ => ?_)
    refine ev_iload (pc := 175) dL_ends_175 rfl ?_
    refine ev_iconst (pc := 177) (v := 4) dL_ends_177 (by decide) ?_
    refine ev_ic_ne (pc := 178) (tgt := 188) dL_ends_178 (by decide) (fun _ => ?_) (fun c_178 => absurd c_178 (fun e => absurd (nI_inj (by omega) (by decide) (show nI (lowN x 8) = nI 4 from e)) (by omega)))
    refine ev_aload_n (pc := 188) dL_ends_188 rfl rfl ?_
    refine cX1 (pc := 189) lk_L_ends_189 (Nat.le_of_ble_eq_true rfl) ⟨Nat.le_of_ble_eq_true rfl, Nat.le_of_ble_eq_true rfl⟩ (m_commitT C hb) ?_
    refine ev_ldc (pc := 192) dL_ends_192 ki_L_23 ?_
    refine ev_ic_ne (pc := 194) (tgt := 201) dL_ends_194 (by decide) (fun c_194 => absurd rfl c_194) (fun _ => ?_)
    refine ev_iconst (pc := 197) (v := 1) dL_ends_197 (by decide) ?_
    refine ev_goto (pc := 198) (tgt := 202) dL_ends_198 (by decide) ?_
    exact ev_zretE (pc := 202) dL_ends_202 rfl ⟨Nat.le_of_ble_eq_true rfl, Nat.le_of_ble_eq_true rfl⟩ (by first | exact Or.inl rfl | exact Or.inr rfl | assumption | exact i10_o) rfl rfl
theorem ends_4 (C : CG N σ (T3 cc ep is) w) (hI : LI σ cc ep is) (x y : Int32) (hk : lowN x 8 = 4) {z : RS3} (hb : gB σ = some z) : ∃ (σ' : SS) (w' : mW) (cc' : Nat → Int64) (ep' is' : Nat → Int32), CG (N + 1) σ' (T3 cc' ep' is') w' ∧ LI σ' cc' ep' is' ∧ EvS m_L_ends [.ref 0, .int x, .int y, .ref 21, .ref 22, .ref 23] w (.inl (some (.int 1))) w' := by
  have hs2 := g_s2 C
  obtain ⟨hi, -, -⟩ := ob_s hI.2.1 hb
  obtain ⟨fs, hfs⟩ := cg_0 C
  have C1 := t3_si C (upd is 1 0)
  obtain ⟨fs1, hfs1⟩ := cg_0 C1
  obtain ⟨n1, h1⟩ := cntR_ex (gU σ) 800
  obtain ⟨n2, h2⟩ := cntR_ex (gU (abaS σ)) 800
  have hle := cntR_sub h1 h2 aba_sub
  have hn1 := cntR_le h1
  obtain ⟨w2, C2, e2⟩ := m_abandon C1 hb h1 h2
  rw [pk_sub hle] at e2
  obtain ⟨fs2, hfs2⟩ := cg_0 C2
  refine ⟨abaS σ, w2, cc, ep, _, CG.mono (by omega) C2, ⟨hI.1, pk_us, fun k hk => ob_T (hI.2.2.1 k hk) rfl (fun i hi => rfl) rfl (pk_un (by omega)), fun t ht => ob_T (hI.2.2.2 t ht) rfl (fun i hi => rfl) rfl (pk_un (by omega))⟩, ?_⟩
  refine evs_of (by decide +kernel) (Nat.le_of_ble_eq_true rfl) (by decide) rfl ?_
  refine ev_iload_n (pc := 0) dL_ends_0 rfl rfl ?_
  refine ev_bipush (pc := 1) (v := 8) dL_ends_1 (by decide) ?_
  refine cS2 (pc := 3) lk_L_ends_3 (Nat.le_of_ble_eq_true rfl) ⟨Nat.le_of_ble_eq_true rfl, Nat.le_of_ble_eq_true rfl⟩ (r_low (n := 8) (by decide) (by decide)) ?_
  refine ev_istore (pc := 6) dL_ends_6 rfl rfl ?_
  refine ev_aload_n (pc := 8) dL_ends_8 rfl rfl ?_
  refine cV0 (pc := 9) lk_L_ends_9 hfs rfl rfl (Nat.le_of_ble_eq_true rfl) ⟨Nat.le_of_ble_eq_true rfl, Nat.le_of_ble_eq_true rfl⟩ (r_curSlot C) ?_
  refine ev_istore (pc := 12) dL_ends_12 rfl rfl ?_
  refine ev_iconst (pc := 14) (v := 1) dL_ends_14 (by decide) ?_
  refine ev_iload (pc := 15) dL_ends_15 rfl ?_
  refine ev_isub (pc := 17) dL_ends_17 ?_
  rw [e_1s hs2]
  refine ev_istore (pc := 18) dL_ends_18 rfl rfl ?_
  refine ev_iload (pc := 20) dL_ends_20 rfl ?_
  refine ev_if_ne (pc := 22) (tgt := 39) dL_ends_22 (by decide) (fun _ => ?_) (fun c_22 => absurd c_22 (fun e => absurd (nI_inj (by omega) (by decide) (show nI (lowN x 8) = nI 0 from e)) (by omega)))
  refine ev_iload (pc := 39) dL_ends_39 rfl ?_
  refine ev_iconst (pc := 41) (v := 4) dL_ends_41 (by decide) ?_
  refine ev_ic_ge (pc := 42) (tgt := 168) dL_ends_42 (by decide) (fun _ => ?_) (fun c_42 => absurd (nI_le (show 4 ≤ lowN x 8 by omega) (by omega)) c_42)
  refine ev_aload (pc := 168) dL_ends_168 rfl ?_
  refine ev_iconst (pc := 170) (v := 1) dL_ends_170 (by decide) ?_
  refine ev_ialdN (pc := 171) dL_ends_171 (t3_i C) ⟨(show _ = nI 1 from rfl), by decide, by decide⟩ hi ?_
  refine ev_if_ne (pc := 172) (tgt := 203) dL_ends_172 (by decide) (fun _ => ?_) (fun c_172 => absurd c_172 (by decide))
  refine ev_aload (pc := 203) dL_ends_203 rfl ?_
  refine ev_iconst (pc := 205) (v := 1) dL_ends_205 (by decide) ?_
  refine ev_iconst (pc := 206) (v := 0) dL_ends_206 (by decide) ?_
  refine ev_iastN (pc := 207) dL_ends_207 (t3_i C) ⟨(show _ = nI 1 from rfl), by decide, by decide⟩ rfl rfl ?_
  refine ev_aload_n (pc := 208) dL_ends_208 rfl rfl ?_
  refine cV0 (pc := 209) lk_L_ends_209 hfs1 rfl rfl (Nat.le_of_ble_eq_true rfl) ⟨Nat.le_of_ble_eq_true rfl, Nat.le_of_ble_eq_true rfl⟩ (r_inUse C1 h1) ?_
  refine ev_istore (pc := 212) dL_ends_212 rfl rfl ?_
  refine ev_iload (pc := 214) dL_ends_214 rfl ?_
  refine ev_iconst (pc := 216) (v := 4) dL_ends_216 (by decide) ?_
  refine ev_ic_ne (pc := 217) (tgt := 249) dL_ends_217 (by decide) (fun c_217 => absurd (congrArg nI hk) c_217) (fun _ => ?_)
  refine ev_aload_n (pc := 220) dL_ends_220 rfl rfl ?_
  refine cX1 (pc := 221) lk_L_ends_221 (Nat.le_of_ble_eq_true rfl) ⟨Nat.le_of_ble_eq_true rfl, Nat.le_of_ble_eq_true rfl⟩ e2 ?_
  refine ev_istore (pc := 224) dL_ends_224 rfl rfl ?_
  refine ev_iload (pc := 226) dL_ends_226 rfl ?_
  refine ev_if_lt (pc := 228) (tgt := 247) dL_ends_228 (by decide) (fun c_228 => absurd c_228 (nI_pos (by omega))) (fun _ => ?_)
  refine ev_aload_n (pc := 231) dL_ends_231 rfl rfl ?_
  refine cV0 (pc := 232) lk_L_ends_232 hfs2 rfl rfl (Nat.le_of_ble_eq_true rfl) ⟨Nat.le_of_ble_eq_true rfl, Nat.le_of_ble_eq_true rfl⟩ (r_inUse C2 h2) ?_
  refine ev_iload (pc := 235) dL_ends_235 rfl ?_
  refine ev_iload (pc := 237) dL_ends_237 rfl ?_
  refine ev_isub (pc := 239) dL_ends_239 ?_
  refine ev_ic_ne (pc := 240) (tgt := 247) dL_ends_240 (by decide) (fun c_240 => absurd (by rw [pk_sub (by omega)]; congr 1; omega) c_240) (fun _ => ?_)
  refine ev_iconst (pc := 243) (v := 1) dL_ends_243 (by decide) ?_
  refine ev_goto (pc := 244) (tgt := 248) dL_ends_244 (by decide) ?_
  exact ev_zretE (pc := 248) dL_ends_248 rfl ⟨Nat.le_of_ble_eq_true rfl, Nat.le_of_ble_eq_true rfl⟩ (by first | exact Or.inl rfl | exact Or.inr rfl | assumption | exact i10_o) rfl rfl
theorem ends_5 (C : CG N σ (T3 cc ep is) w) (hN : N ≤ 500) (hI : LI σ cc ep is) (x y : Int32) (hk : 4 < lowN x 8) {z : RS3} (hb : gB σ = some z) : ∃ (σ' : SS) (w' : mW) (cc' : Nat → Int64) (ep' is' : Nat → Int32), CG (N + 1) σ' (T3 cc' ep' is') w' ∧ LI σ' cc' ep' is' ∧ EvS m_L_ends [.ref 0, .int x, .int y, .ref 21, .ref 22, .ref 23] w (.inl (some (.int 1))) w' := by
  have hs2 := g_s2 C
  have l8 := lowN_lt x (show 0 < 8 by decide)
  obtain ⟨hi, hcn, hep⟩ := ob_s hI.2.1 hb
  obtain ⟨fs, hfs⟩ := cg_0 C
  have C1 := t3_si C (upd is 1 0)
  obtain ⟨fs1, hfs1⟩ := cg_0 C1
  obtain ⟨n1, h1⟩ := cntR_ex (gU σ) 800
  obtain ⟨t, ht⟩ : ∃ t, t = 1 - gS σ := ⟨_, rfl⟩
  have ht2 : t < 2 := by omega
  have ec1 := r_copies (p := 21) (pe := 22) (a := 1) (b := 0) (t3_c C1) (by decide) (t3_e C1) (by decide) (by decide) (by decide)
  have C2 := t3_se (t3_sc C1 (cpP cc 1 0 3)) (upd ep 0 (ep 1))
  have ec2 := r_copies (p := 21) (pe := 22) (a := 1) (b := 6 + t) (t3_c C2) (by decide) (t3_e C2) (by decide) (by omega) (by omega)
  have C3 := t3_se (t3_sc C2 (cpP (cpP cc 1 0 3) 1 (6 + t) 3)) (upd (upd ep 0 (ep 1)) (6 + t) ((upd ep 0 (ep 1)) 1))
  have C4 := t3_si C3 (upd (upd is 1 0) (6 + t) 1)
  obtain ⟨w5, C5, e5⟩ := m_commit C4 (by omega) hb
  obtain ⟨fs5, hfs5⟩ := cg_0 C5
  have u1 : (upd ep 0 (ep 1)) 1 = ep 1 := pk_un (by decide)
  have ep0 : (upd (upd ep 0 (ep 1)) (6 + t) ((upd ep 0 (ep 1)) 1)) 0 = nI z.1 := by
    rw [pk_un (by omega), pk_us]
    exact hep
  have tno : ∀ {s i : Nat}, i < 32 → s ≠ 0 → s ≠ 6 + t → tn (cpP (cpP cc 1 0 3) 1 (6 + t) 3) s i = tn cc s i := fun {s i} h1 h2 h3 => by rw [tn_cp (by omega), if_neg h3, tn_cp (by omega), if_neg h2]
  have tn0 : ∀ {i : Nat}, i < 32 → tn (cpP (cpP cc 1 0 3) 1 (6 + t) 3) 0 i = tn cc 1 i := fun {i} h1 => by rw [tn_cp (by omega), if_neg (by omega), tn_cp (by omega), if_pos rfl]
  have tns : ∀ {i : Nat}, i < 32 → tn (cpP (cpP cc 1 0 3) 1 (6 + t) 3) (6 + t) i = tn cc 1 i := fun {i} h1 => by rw [tn_cp (by omega), if_pos rfl, tn_cp (by omega), if_neg (by decide)]
  have epo : ∀ {s : Nat}, s ≠ 0 → s ≠ 6 + t → (upd (upd ep 0 (ep 1)) (6 + t) ((upd ep 0 (ep 1)) 1)) s = ep s := fun {s} h2 h3 => by rw [pk_un h3, pk_un h2]
  have iso : ∀ {s : Nat}, s ≠ 1 → s ≠ 6 + t → (upd (upd is 1 0) (6 + t) 1) s = is s := fun {s} h2 h3 => by rw [pk_un h3, pk_un h2]
  have hsI : stI σ cc ep 1 z := ⟨hcn, hep⟩
  refine ⟨comS σ z, w5, _, _, _, C5, ⟨st_T hsI rfl (fun i hi => tn0 hi) (ep0.trans hep.symm), ?_, fun k hk => ob_T (hI.2.2.1 k hk) rfl (fun i hi => tno hi (by omega) (by omega)) (epo (by omega) (by omega)) (iso (by omega) (by omega)), fun u hu => ?_⟩, ?_⟩
  · show _ = _
    rw [pk_un (by omega), pk_us]
  · show obI (comS σ z) _ _ _ (6 + u) (setR (gO σ) (1 - gS σ) (some z) u)
    rw [← ht]
    unfold setR
    by_cases hut : u = t
    · rw [if_pos hut, hut]
      exact ⟨pk_us, st_T hsI rfl (fun i hi => tns hi) (pk_us.trans u1)⟩
    · rw [if_neg hut]
      exact ob_T (hI.2.2.2 u hu) rfl (fun i hi => tno hi (by omega) (by omega)) (epo (by omega) (by omega)) (iso (by omega) (by omega))
  refine evs_of (by decide +kernel) (Nat.le_of_ble_eq_true rfl) (by decide) rfl ?_
  refine ev_iload_n (pc := 0) dL_ends_0 rfl rfl ?_
  refine ev_bipush (pc := 1) (v := 8) dL_ends_1 (by decide) ?_
  refine cS2 (pc := 3) lk_L_ends_3 (Nat.le_of_ble_eq_true rfl) ⟨Nat.le_of_ble_eq_true rfl, Nat.le_of_ble_eq_true rfl⟩ (r_low (n := 8) (by decide) (by decide)) ?_
  refine ev_istore (pc := 6) dL_ends_6 rfl rfl ?_
  refine ev_aload_n (pc := 8) dL_ends_8 rfl rfl ?_
  refine cV0 (pc := 9) lk_L_ends_9 hfs rfl rfl (Nat.le_of_ble_eq_true rfl) ⟨Nat.le_of_ble_eq_true rfl, Nat.le_of_ble_eq_true rfl⟩ (r_curSlot C) ?_
  refine ev_istore (pc := 12) dL_ends_12 rfl rfl ?_
  refine ev_iconst (pc := 14) (v := 1) dL_ends_14 (by decide) ?_
  refine ev_iload (pc := 15) dL_ends_15 rfl ?_
  refine ev_isub (pc := 17) dL_ends_17 ?_
  rw [e_1s hs2, ← ht]
  refine ev_istore (pc := 18) dL_ends_18 rfl rfl ?_
  refine ev_iload (pc := 20) dL_ends_20 rfl ?_
  refine ev_if_ne (pc := 22) (tgt := 39) dL_ends_22 (by decide) (fun _ => ?_) (fun c_22 => absurd c_22 (fun e => absurd (nI_inj (by omega) (by decide) (show nI (lowN x 8) = nI 0 from e)) (by omega)))
  refine ev_iload (pc := 39) dL_ends_39 rfl ?_
  refine ev_iconst (pc := 41) (v := 4) dL_ends_41 (by decide) ?_
  refine ev_ic_ge (pc := 42) (tgt := 168) dL_ends_42 (by decide) (fun _ => ?_) (fun c_42 => absurd (nI_le (show 4 ≤ lowN x 8 by omega) (by omega)) c_42)
  refine ev_aload (pc := 168) dL_ends_168 rfl ?_
  refine ev_iconst (pc := 170) (v := 1) dL_ends_170 (by decide) ?_
  refine ev_ialdN (pc := 171) dL_ends_171 (t3_i C) ⟨(show _ = nI 1 from rfl), by decide, by decide⟩ hi ?_
  refine ev_if_ne (pc := 172) (tgt := 203) dL_ends_172 (by decide) (fun _ => ?_) (fun c_172 => absurd c_172 (by decide))
  refine ev_aload (pc := 203) dL_ends_203 rfl ?_
  refine ev_iconst (pc := 205) (v := 1) dL_ends_205 (by decide) ?_
  refine ev_iconst (pc := 206) (v := 0) dL_ends_206 (by decide) ?_
  refine ev_iastN (pc := 207) dL_ends_207 (t3_i C) ⟨(show _ = nI 1 from rfl), by decide, by decide⟩ rfl rfl ?_
  refine ev_aload_n (pc := 208) dL_ends_208 rfl rfl ?_
  refine cV0 (pc := 209) lk_L_ends_209 hfs1 rfl rfl (Nat.le_of_ble_eq_true rfl) ⟨Nat.le_of_ble_eq_true rfl, Nat.le_of_ble_eq_true rfl⟩ (r_inUse C1 h1) ?_
  refine ev_istore (pc := 212) dL_ends_212 rfl rfl ?_
  refine ev_iload (pc := 214) dL_ends_214 rfl ?_
  refine ev_iconst (pc := 216) (v := 4) dL_ends_216 (by decide) ?_
  refine ev_ic_ne (pc := 217) (tgt := 249) dL_ends_217 (by decide) (fun _ => ?_) (fun c_217 => absurd c_217 (fun e => absurd (nI_inj (by omega) (by decide) (show nI (lowN x 8) = nI 4 from e)) (by omega)))
  refine ev_aload_n (pc := 249) dL_ends_249 rfl rfl ?_
  refine ev_aload (pc := 250) dL_ends_250 rfl ?_
  refine ev_iconst (pc := 252) (v := 1) dL_ends_252 (by decide) ?_
  refine ev_iconst (pc := 253) (v := 0) dL_ends_253 (by decide) ?_
  refine cS4 (pc := 254) lk_L_ends_254 (Nat.le_of_ble_eq_true rfl) ⟨Nat.le_of_ble_eq_true rfl, Nat.le_of_ble_eq_true rfl⟩ ec1 ?_
  refine ev_aload_n (pc := 257) dL_ends_257 rfl rfl ?_
  refine ev_aload (pc := 258) dL_ends_258 rfl ?_
  refine ev_iconst (pc := 260) (v := 1) dL_ends_260 (by decide) ?_
  refine ev_bipush (pc := 261) (v := 6) dL_ends_261 (by decide) ?_
  refine ev_iload (pc := 263) dL_ends_263 rfl ?_
  refine ev_iadd (pc := 265) dL_ends_265 ?_
  rw [e_6s]
  refine cS4 (pc := 266) lk_L_ends_266 (Nat.le_of_ble_eq_true rfl) ⟨Nat.le_of_ble_eq_true rfl, Nat.le_of_ble_eq_true rfl⟩ ec2 ?_
  refine ev_aload (pc := 269) dL_ends_269 rfl ?_
  refine ev_bipush (pc := 271) (v := 6) dL_ends_271 (by decide) ?_
  refine ev_iload (pc := 273) dL_ends_273 rfl ?_
  refine ev_iadd (pc := 275) dL_ends_275 ?_
  rw [e_6s]
  refine ev_iconst (pc := 276) (v := 1) dL_ends_276 (by decide) ?_
  refine ev_iastN (pc := 277) dL_ends_277 (t3_i C3) ⟨(show _ = nI (6 + t) from rfl), by omega, by decide⟩ rfl rfl ?_
  refine ev_aload_n (pc := 278) dL_ends_278 rfl rfl ?_
  refine cX1 (pc := 279) lk_L_ends_279 (Nat.le_of_ble_eq_true rfl) ⟨Nat.le_of_ble_eq_true rfl, Nat.le_of_ble_eq_true rfl⟩ e5 ?_
  refine ev_aload (pc := 282) dL_ends_282 rfl ?_
  refine ev_iconst (pc := 284) (v := 0) dL_ends_284 (by decide) ?_
  refine ev_ialdN (pc := 285) dL_ends_285 (t3_e C5) ⟨(show _ = nI 0 from rfl), by decide, by decide⟩ ep0 ?_
  refine ev_ic_ne (pc := 286) (tgt := 302) dL_ends_286 (by decide) (fun c_286 => absurd rfl c_286) (fun _ => ?_)
  refine ev_aload_n (pc := 289) dL_ends_289 rfl rfl ?_
  refine cV0 (pc := 290) lk_L_ends_290 hfs5 rfl rfl (Nat.le_of_ble_eq_true rfl) ⟨Nat.le_of_ble_eq_true rfl, Nat.le_of_ble_eq_true rfl⟩ (r_curSlot C5) ?_
  refine ev_iload (pc := 293) dL_ends_293 rfl ?_
  refine ev_ic_ne (pc := 295) (tgt := 302) dL_ends_295 (by decide) (fun c_295 => absurd (show nI (1 - gS σ) = nI t from congrArg nI ht.symm) c_295) (fun _ => ?_)
  refine ev_iconst (pc := 298) (v := 1) dL_ends_298 (by decide) ?_
  refine ev_goto (pc := 299) (tgt := 303) dL_ends_299 (by decide) ?_
  exact ev_zretE (pc := 303) dL_ends_303 rfl ⟨Nat.le_of_ble_eq_true rfl, Nat.le_of_ble_eq_true rfl⟩ (by first | exact Or.inl rfl | exact Or.inr rfl | assumption | exact i10_o) rfl rfl
end EN5
