/-! THE LAW: isSo, whole -/
section IS2
variable {N : Nat} {σ : SS} {w : mW} {cc : Nat → Int64} {ep is : Nat → Int32}
theorem rts_len (rd : Nat → Option RS3) : (rtsF rd 0 4).length = 0 + (oRt (rd 0)).length + (oRt (rd 1)).length + (oRt (rd 2)).length + (oRt (rd 3)).length := by
  show (oRt (rd 0) ++ (oRt (rd 1) ++ (oRt (rd 2) ++ (oRt (rd 3) ++ [])))).length = _
  simp only [List.length_append, List.length_nil]
  omega
theorem oRt_1 : ∀ o : Option RS3, (oRt o).length ≤ 1
  | none => Nat.zero_le _
  | some _ => Nat.le_refl _
theorem r_isSo (h : CG N σ [lA 24 cc, iA 8 ep, iA 8 is] w) (hI : LI σ cc ep is) (v4 : Int32) : ∃ w', CG N σ [lA 24 cc, iA 8 ep, iA 8 is] w' ∧ EvS m_L_isSo [.ref 0, .ref 21, .ref 22, .ref 23, .int v4] w (.inl (some (.int 1))) w' := by
  have hG := cg_I h
  have hlen : w.length = 24 := cg_len h
  have C0 : CG N σ (TL cc ep is (fun _ => 0) (fun _ => 0)) ((w ++ [iA 64 (fun _ => 0)]) ++ [lA 12 (fun _ => 0)]) := cg_app (cg_app h _) _
  obtain ⟨w1, f1, g1, C1, m1, k1⟩ := so_step C0 hI (k := 0) (by decide) v4
  obtain ⟨w2, f2, g2, C2, m2, k2⟩ := so_step C1 hI (k := 1) (by decide) v4
  obtain ⟨w3, f3, g3, C3, m3, k3⟩ := so_step C2 hI (k := 2) (by decide) v4
  obtain ⟨w4, f4, g4, C4, m4, k4⟩ := so_step C3 hI (k := 3) (by decide) v4
  obtain ⟨nw, y, n2, hv, hy, hye, hnow, his1⟩ := li_now hI
  obtain ⟨w5, f5, g5, C5, m5, e5⟩ := r_shows C4 (v6 := v4 >>> (3 &&& 31)) hv hy (show nw < 8 by omega)
  obtain ⟨w6, f6, g6, C6, m6, e6⟩ := r_slots C5 hI
  obtain ⟨n0, hf⟩ := ai_free hG
  obtain ⟨n, hn⟩ := cntR_ex (gU σ) 800
  obtain ⟨w', hw6, C7⟩ := cg_cut (tl := [lA 24 cc, iA 8 ep, iA 8 is]) (t := [iA 64 f6, lA 12 g6]) C6
  have hl7 : w'.length = 24 := cg_len C7
  have hz : ∀ q, mb (fun _ => (0 : Int64)) q = false := fun q => by
    unfold mb lb
    rw [show (0 : Int64).toBitVec = 0#64 from rfl, BitVec.getLsbD_zero]
  have hm : ∀ q, mb g6 q = true ↔ ((∃ t x, t < 2 ∧ gO σ t = some x ∧ Rch (gT σ) x.2.1 q) ∨ Rch (gT σ) y.2.1 q ∨ ∃ k x, k < 4 ∧ gR σ k = some x ∧ Rch (gT σ) x.2.1 q) := fun q => by
    rw [m6, m5, m4, m3, m2, m1, hz]
    constructor
    · rintro (hq | hq | ⟨x, h1, h2⟩ | ⟨x, h1, h2⟩ | ⟨x, h1, h2⟩ | ⟨x, h1, h2⟩ | hq)
      · exact Or.inl hq
      · exact Or.inr (Or.inl hq)
      · exact Or.inr (Or.inr ⟨3, x, by decide, h1, h2⟩)
      · exact Or.inr (Or.inr ⟨2, x, by decide, h1, h2⟩)
      · exact Or.inr (Or.inr ⟨1, x, by decide, h1, h2⟩)
      · exact Or.inr (Or.inr ⟨0, x, by decide, h1, h2⟩)
      · cases hq
    · rintro (hq | hq | ⟨k, x, hk, h1, h2⟩)
      · exact Or.inl hq
      · exact Or.inr (Or.inl hq)
      · rcases lt4 hk with rfl | rfl | rfl | rfl
        · exact Or.inr (Or.inr (Or.inr (Or.inr (Or.inr (Or.inl ⟨x, h1, h2⟩)))))
        · exact Or.inr (Or.inr (Or.inr (Or.inr (Or.inl ⟨x, h1, h2⟩))))
        · exact Or.inr (Or.inr (Or.inr (Or.inl ⟨x, h1, h2⟩)))
        · exact Or.inr (Or.inr (Or.inl ⟨x, h1, h2⟩))
  obtain ⟨hU, hAll⟩ := so_met hG hv hm
  have hn8 : n = sumT (ind (gU σ)) 768 := cntR_sum (cntR_dn (m := 32) (fun q h7 hu => by have := hG.2.2.1 q hu; omega) hn)
  have hnle : sumT (usd g6) 768 ≤ n := by
    rw [hn8]
    refine sumT_le (fun q _ => ?_)
    unfold usd
    by_cases hq : mb g6 q = true
    · rw [if_pos hq, ind_1 (hU q hq)]
      exact Nat.le_refl _
    · rw [if_neg hq]
      exact Nat.zero_le _
  have hneq : (∀ q, gU σ q → mb g6 q = true) → sumT (usd g6) 768 = n := fun hA => by
    rw [hn8]
    refine sumT_cg (fun q _ => ?_)
    unfold usd
    by_cases hq : mb g6 q = true
    · rw [if_pos hq, ind_1 (hU q hq)]
    · rw [if_neg hq, ind_0 (fun hu => hq (hA q hu))]
  have hn800 : n ≤ 800 := cntR_le hn
  obtain ⟨fs, hfs⟩ := cg_0 C6
  obtain ⟨fs5, h5⟩ := cg_0 C5
  have hok : ∀ m, 24 ≤ m → mQok (mQm m_L_isSo (.inl (some (.int 1))) w') m := fun m hm => mQok_m (by omega) (cg_wf C7 (by omega) (fun e he => by
    simp only [List.mem_cons, List.not_mem_nil, or_false] at he
    rcases he with rfl | rfl | rfl <;> exact trivial)) rfl
  have hw0 : wOk 24 w := cg_wf h (by decide) (fun e he => by
    simp only [List.mem_cons, List.not_mem_nil, or_false] at he
    rcases he with rfl | rfl | rfl <;> exact trivial)
  have hw1 : wOk 25 (w ++ [iA 64 (fun _ => 0)]) := cg_wf (cg_app h [iA 64 (fun _ => 0)]) (by decide) (fun e he => by
    simp only [List.mem_append, List.mem_cons, List.not_mem_nil, or_false] at he
    rcases he with (rfl | rfl | rfl) | rfl <;> exact trivial)
  have fin : ∀ (al v7 : Int32) (v8 v10 v11 v12 v13 : Value) (kc ks : Nat), (al = 0 ∨ al = 1) → (al = 1 → ∀ q, gU σ q → mb g6 q = true) → kc ≤ 12000 → ks ≤ 76000 → EvF m_L_isSo (mQm m_L_isSo (.inl (some (.int 1))) w') 276 [.ref 0, .ref 21, .ref 22, .ref 23, .int v4, .ref 24, .ref 25, .int v7, v8, .int al, v10, v11, v12, v13] [] kc ks w6 := fun al v7 v8 v10 v11 v12 v13 kc ks hal hA hkc hks => by
    refine ev_iconst (pc := 276) (v := 0) dL_isSo_276 (by decide) ?_
    refine ev_istore (pc := 277) dL_isSo_277 rfl rfl ?_
    refine ev_iconst (pc := 279) (v := (-1)) dL_isSo_279 (by decide) ?_
    refine ev_istore (pc := 280) dL_isSo_280 rfl rfl ?_
    refine ev_iconst (pc := 282) (v := 0) dL_isSo_282 (by decide) ?_
    refine ev_istore (pc := 283) dL_isSo_283 rfl rfl ?_
    refine so_pages C6 hal hU hA hf (fun lv kc ks v13 hlv h1 h2 => ?_) 768 0 (-1) kc ks v13 (by omega) (fun _ => by rw [if_neg (by omega)]) (by omega) (by omega)
    rcases hal with rfl | rfl
    · refine ev_iload (pc := 400) dL_isSo_400 rfl ?_
      refine ev_if_eq (pc := 402) (tgt := 431) dL_isSo_402 (by decide) (fun _ => ?_) (fun c_402 => absurd rfl c_402)
      refine ev_aload_n (pc := 431) dL_isSo_431 rfl rfl ?_
      refine cV0 (pc := 432) lk_L_isSo_432 hfs rfl rfl (Nat.le_of_ble_eq_true rfl) ⟨(show kc + 0 ≤ 13000 by omega), (show ks + 0 ≤ 82000 by omega)⟩ (r_inUse C6 hn) ?_
      refine ev_widen (k2 := kc + 0) (s2 := ks + 0) (show kc + 0 ≤ kc + 0 by omega) (show ks + 0 ≤ ks + 0 by omega) ?_
      refine ev_iload (pc := 435) dL_isSo_435 rfl ?_
      refine ev_ic_lt (pc := 437) (tgt := 444) dL_isSo_437 (by decide) (fun c_437 => absurd c_437 (by exact nI_nlt hnle (by omega))) (fun _ => ?_)
      refine ev_iconst (pc := 440) (v := 1) dL_isSo_440 (by decide) ?_
      refine ev_goto (pc := 441) (tgt := 445) dL_isSo_441 (by decide) ?_
      refine ev_dropG hw6 ?_
      exact ev_zretE (pc := 445) dL_isSo_445 rfl ⟨(show _ ≤ 13000 by omega), (show _ ≤ 82000 by omega)⟩ (Or.inr rfl) rfl rfl
    · have hq := hneq (hA rfl)
      refine ev_iload (pc := 400) dL_isSo_400 rfl ?_
      refine ev_if_eq (pc := 402) (tgt := 431) dL_isSo_402 (by decide) (fun c_402 => absurd c_402 (by decide)) (fun _ => ?_)
      refine ev_aload_n (pc := 405) dL_isSo_405 rfl rfl ?_
      refine cV0 (pc := 406) lk_L_isSo_406 hfs rfl rfl (Nat.le_of_ble_eq_true rfl) ⟨(show kc + 0 ≤ 13000 by omega), (show ks + 0 ≤ 82000 by omega)⟩ (r_inUse C6 hn) ?_
      refine ev_widen (k2 := kc + 0) (s2 := ks + 0) (show kc + 0 ≤ kc + 0 by omega) (show ks + 0 ≤ ks + 0 by omega) ?_
      refine ev_iload (pc := 409) dL_isSo_409 rfl ?_
      refine ev_ic_ne (pc := 411) (tgt := 427) dL_isSo_411 (by decide) (fun c_411 => absurd (by rw [hq]) c_411) (fun _ => ?_)
      refine ev_aload_n (pc := 414) dL_isSo_414 rfl rfl ?_
      refine cV0 (pc := 415) lk_L_isSo_415 hfs rfl rfl (Nat.le_of_ble_eq_true rfl) ⟨(show kc + 0 ≤ 13000 by omega), (show ks + 0 ≤ 82000 by omega)⟩ (r_leastFree C6 hf) ?_
      refine ev_widen (k2 := kc + 0) (s2 := ks + 0) (show kc + 0 ≤ kc + 0 by omega) (show ks + 0 ≤ ks + 0 by omega) ?_
      refine ev_iload (pc := 418) dL_isSo_418 rfl ?_
      refine ev_ic_ne (pc := 420) (tgt := 427) dL_isSo_420 (by decide) (fun c_420 => absurd (by rw [hlv rfl]) c_420) (fun _ => ?_)
      refine ev_iconst (pc := 423) (v := 1) dL_isSo_423 (by decide) ?_
      refine ev_goto (pc := 424) (tgt := 445) dL_isSo_424 (by decide) ?_
      refine ev_dropG hw6 ?_
      exact ev_zretE (pc := 445) dL_isSo_445 rfl ⟨(show _ ≤ 13000 by omega), (show _ ≤ 82000 by omega)⟩ (Or.inr rfl) rfl rfl
  refine ⟨w', C7, ?_⟩
  obtain ⟨c0, hc0⟩ : ∃ c, c = (if lowN (v4 >>> (5 &&& 31)) 4 = 0 then 2300 else 0) := ⟨_, rfl⟩
  obtain ⟨c1, hc1⟩ : ∃ c, c = (if lowN (v4 >>> (5 &&& 31)) 4 = 1 then 2300 else 0) := ⟨_, rfl⟩
  obtain ⟨c2, hc2⟩ : ∃ c, c = (if lowN (v4 >>> (5 &&& 31)) 4 = 2 then 2300 else 0) := ⟨_, rfl⟩
  obtain ⟨c3, hc3⟩ : ∃ c, c = (if lowN (v4 >>> (5 &&& 31)) 4 = 3 then 2300 else 0) := ⟨_, rfl⟩
  have hcs : c0 + c1 + c2 + c3 ≤ 2300 := by
    rw [hc0, hc1, hc2, hc3]
    by_cases h0 : lowN (v4 >>> (5 &&& 31)) 4 = 0
    · rw [h0]
      decide
    · by_cases h1 : lowN (v4 >>> (5 &&& 31)) 4 = 1
      · rw [h1]
        decide
      · by_cases h2 : lowN (v4 >>> (5 &&& 31)) 4 = 2
        · rw [h2]
          decide
        · rw [if_neg h0, if_neg h1, if_neg h2]
          split <;> omega
  refine evs_of (by decide +kernel) (Nat.le_of_ble_eq_true rfl) (by decide) rfl ?_
  refine ev_bipush (pc := 0) (v := 64) dL_isSo_0 (by decide) ?_
  refine ev_naIF (pc := 2) (N := 64) (n := 24) dL_isSo_2 rfl (Nat.le_of_ble_eq_true rfl) rfl hlen hw0 rfl rfl (hok 24 (by decide)) ⟨Nat.le_of_ble_eq_true rfl, Nat.le_of_ble_eq_true rfl⟩ rfl ?_
  refine ev_astore (pc := 4) dL_isSo_4 rfl rfl ?_
  refine ev_bipush (pc := 6) (v := 12) dL_isSo_6 (by decide) ?_
  refine ev_naLF (pc := 8) (N := 12) (n := 25) dL_isSo_8 rfl (Nat.le_of_ble_eq_true rfl) rfl (by rw [List.length_append, hlen]; rfl) hw1 rfl rfl (hok 25 (by decide)) ⟨Nat.le_of_ble_eq_true rfl, Nat.le_of_ble_eq_true rfl⟩ rfl ?_
  refine ev_astore (pc := 10) dL_isSo_10 rfl rfl ?_
  refine ev_iconst (pc := 12) (v := 0) dL_isSo_12 (by decide) ?_
  refine ev_istore (pc := 13) dL_isSo_13 rfl rfl ?_
  refine ev_iconst (pc := 15) (v := 0) dL_isSo_15 (by decide) ?_
  refine ev_istore (pc := 16) dL_isSo_16 rfl rfl ?_
  refine k1 _ 0 _ _ c0 _ _ _ _ _ (by decide) hc0 (by omega) (by omega) ?_
  have l0 := oRt_1 (gR σ 0)
  have l1 := oRt_1 (gR σ 1)
  have l2 := oRt_1 (gR σ 2)
  have l3 := oRt_1 (gR σ 3)
  refine k2 _ _ _ _ c1 _ _ _ _ _ (by omega) hc1 (by omega) (by omega) ?_
  refine k3 _ _ _ _ c2 _ _ _ _ _ (by omega) hc2 (by omega) (by omega) ?_
  refine k4 _ _ _ _ c3 _ _ _ _ _ (by omega) hc3 (by omega) (by omega) ?_
  rw [← rts_len]
  refine ev_widen (k2 := 7910) (s2 := 51600) (by omega) (by omega) ?_
  rcases hnow with ⟨hb, rfl, rfl⟩ | ⟨hb, rfl⟩
  · refine ev_iload (pc := 18) dL_isSo_18 rfl ?_
    refine ev_iconst (pc := 20) (v := 4) dL_isSo_20 (by decide) ?_
    refine ev_ic_ge (pc := 21) (tgt := 163) dL_isSo_21 (by decide) (fun _ => ?_) (fun c_21 => absurd (by decide) c_21)
    refine ev_aload_n (pc := 163) dL_isSo_163 rfl rfl ?_
    refine ev_iconst (pc := 164) (v := 1) dL_isSo_164 (by decide) ?_
    refine ev_ialdN (pc := 165) dL_isSo_165 (tl_i C4) ⟨(show _ = nI 1 from rfl), by decide, by decide⟩ his1 ?_
    refine ev_iconst (pc := 166) (v := 1) dL_isSo_166 (by decide) ?_
    refine ev_ic_ne (pc := 167) (tgt := 174) dL_isSo_167 (by decide) (fun _ => ?_) (fun c_167 => absurd c_167 (by decide))
    refine ev_iconst (pc := 174) (v := 0) dL_isSo_174 (by decide) ?_
    refine ev_istore (pc := 175) dL_isSo_175 rfl rfl ?_
    refine ev_aload_n (pc := 177) dL_isSo_177 rfl rfl ?_
    refine ev_iconst (pc := 178) (v := (-1)) dL_isSo_178 (by decide) ?_
    refine ev_aload_n (pc := 179) dL_isSo_179 rfl rfl ?_
    refine ev_iload (pc := 180) dL_isSo_180 rfl ?_
    refine ev_aload (pc := 182) dL_isSo_182 rfl ?_
    refine ev_aload (pc := 184) dL_isSo_184 rfl ?_
    refine ev_iload (pc := 186) dL_isSo_186 rfl ?_
    refine ev_iconst (pc := 188) (v := 3) dL_isSo_188 (by decide) ?_
    refine ev_ishr (pc := 189) dL_isSo_189 rfl ?_
    refine cS7 (pc := 190) lk_L_isSo_190 (Nat.le_of_ble_eq_true rfl) ⟨(show 7910 + 1400 ≤ 13000 by omega), (show 51600 + 8800 ≤ 82000 by omega)⟩ e5 ?_
    refine ev_widen (k2 := 7910 + 1400) (s2 := 51600 + 8800) (show 7910 + 1400 ≤ 7910 + 1400 by omega) (show 51600 + 8800 ≤ 51600 + 8800 by omega) ?_
    refine ev_if_eq (pc := 193) (tgt := 249) dL_isSo_193 (by decide) (fun c_193 => absurd c_193 (by decide)) (fun _ => ?_)
    refine ev_aload_n (pc := 196) dL_isSo_196 rfl rfl ?_
    refine ev_iconst (pc := 197) (v := (-1)) dL_isSo_197 (by decide) ?_
    refine cX2 (pc := 198) lk_L_isSo_198 (Nat.le_of_ble_eq_true rfl) ⟨(show 7910 + 1400 + 1 ≤ 13000 by omega), (show 51600 + 8800 + 6 ≤ 82000 by omega)⟩ (r_epochOf C5 hv) ?_
    refine ev_widen (k2 := 7910 + 1401) (s2 := 51600 + 8806) (show 7910 + 1400 + 1 ≤ 7910 + 1401 by omega) (show 51600 + 8800 + 6 ≤ 51600 + 8806 by omega) ?_
    refine ev_aload_n (pc := 201) dL_isSo_201 rfl rfl ?_
    refine ev_iload (pc := 202) dL_isSo_202 rfl ?_
    refine ev_ialdN (pc := 204) dL_isSo_204 (tl_e C5) ⟨(show _ = nI 0 from rfl), by decide, by decide⟩ hye ?_
    refine ev_ic_ne (pc := 205) (tgt := 249) dL_isSo_205 (by decide) (fun c_205 => absurd rfl c_205) (fun _ => ?_)
    refine ev_aload_n (pc := 208) dL_isSo_208 rfl rfl ?_
    refine cV0 (pc := 209) lk_L_isSo_209 h5 rfl rfl (Nat.le_of_ble_eq_true rfl) ⟨(show 7910 + 1401 + 0 ≤ 13000 by omega), (show 51600 + 8806 + 0 ≤ 82000 by omega)⟩ (r_hasBatch0 C5 hb) ?_
    refine ev_widen (k2 := 7910 + 1401) (s2 := 51600 + 8806) (show 7910 + 1401 + 0 ≤ 7910 + 1401 by omega) (show 51600 + 8806 + 0 ≤ 51600 + 8806 by omega) ?_
    refine ev_iload (pc := 212) dL_isSo_212 rfl ?_
    refine ev_iconst (pc := 214) (v := 1) dL_isSo_214 (by decide) ?_
    refine ev_ic_ne (pc := 215) (tgt := 222) dL_isSo_215 (by decide) (fun _ => ?_) (fun c_215 => absurd c_215 (by decide))
    refine ev_iconst (pc := 222) (v := 0) dL_isSo_222 (by decide) ?_
    refine ev_ic_ne (pc := 223) (tgt := 249) dL_isSo_223 (by decide) (fun c_223 => absurd rfl c_223) (fun _ => ?_)
    refine ev_aload_n (pc := 226) dL_isSo_226 rfl rfl ?_
    refine cV0 (pc := 227) lk_L_isSo_227 h5 rfl rfl (Nat.le_of_ble_eq_true rfl) ⟨(show 7910 + 1401 + 0 ≤ 13000 by omega), (show 51600 + 8806 + 0 ≤ 82000 by omega)⟩ (r_readers C5) ?_
    refine ev_widen (k2 := 7910 + 1401) (s2 := 51600 + 8806) (show 7910 + 1401 + 0 ≤ 7910 + 1401 by omega) (show 51600 + 8806 + 0 ≤ 51600 + 8806 by omega) ?_
    refine ev_iload (pc := 230) dL_isSo_230 rfl ?_
    refine ev_ic_ne (pc := 232) (tgt := 249) dL_isSo_232 (by decide) (fun c_232 => absurd rfl c_232) (fun _ => ?_)
    refine ev_aload_n (pc := 235) dL_isSo_235 rfl rfl ?_
    refine ev_aload_n (pc := 236) dL_isSo_236 rfl rfl ?_
    refine ev_aload_n (pc := 237) dL_isSo_237 rfl rfl ?_
    refine ev_aload_n (pc := 238) dL_isSo_238 rfl rfl ?_
    refine ev_aload (pc := 239) dL_isSo_239 rfl ?_
    refine ev_aload (pc := 241) dL_isSo_241 rfl ?_
    refine cS6 (pc := 243) lk_L_isSo_243 (Nat.le_of_ble_eq_true rfl) ⟨(show 7910 + 1401 + 2400 ≤ 13000 by omega), (show 51600 + 8806 + 14800 ≤ 82000 by omega)⟩ e6 ?_
    refine ev_widen (k2 := 7910 + 3801) (s2 := 51600 + 23606) (show 7910 + 1401 + 2400 ≤ 7910 + 3801 by omega) (show 51600 + 8806 + 14800 ≤ 51600 + 23606 by omega) ?_
    refine ev_if_ne (pc := 246) (tgt := 251) dL_isSo_246 (by decide) (fun _ => ?_) (fun c_246 => absurd c_246 (by decide))
    refine ev_iload (pc := 251) dL_isSo_251 rfl ?_
    refine ev_if_eq (pc := 253) (tgt := 269) dL_isSo_253 (by decide) (fun _ => ?_) (fun c_253 => absurd rfl c_253)
    refine ev_iconst (pc := 269) (v := 1) dL_isSo_269 (by decide) ?_
    refine ev_goto (pc := 270) (tgt := 274) dL_isSo_270 (by decide) ?_
    refine ev_istore (pc := 274) dL_isSo_274 rfl rfl ?_
    exact fin 1 _ _ _ _ _ _ _ _ (Or.inr rfl) (fun _ => hAll (Or.inl hb)) (by omega) (by omega)
  · have hs2 := hG.2.2.2.2.1
    have e6s : (6 : Int32) + nI (gS σ) = nI (6 + gS σ) := by rw [show (6 : Int32) = nI 6 from rfl, nI_add]
    cases hx : gO σ (gS σ) with
    | none =>
      have hiss := ob_n (hI.2.2.2 (gS σ) hs2) hx
      refine ev_iload (pc := 18) dL_isSo_18 rfl ?_
      refine ev_iconst (pc := 20) (v := 4) dL_isSo_20 (by decide) ?_
      refine ev_ic_ge (pc := 21) (tgt := 163) dL_isSo_21 (by decide) (fun _ => ?_) (fun c_21 => absurd (by decide) c_21)
      refine ev_aload_n (pc := 163) dL_isSo_163 rfl rfl ?_
      refine ev_iconst (pc := 164) (v := 1) dL_isSo_164 (by decide) ?_
      refine ev_ialdN (pc := 165) dL_isSo_165 (tl_i C4) ⟨(show _ = nI 1 from rfl), by decide, by decide⟩ his1 ?_
      refine ev_iconst (pc := 166) (v := 1) dL_isSo_166 (by decide) ?_
      refine ev_ic_ne (pc := 167) (tgt := 174) dL_isSo_167 (by decide) (fun c_167 => absurd rfl c_167) (fun _ => ?_)
      refine ev_iconst (pc := 170) (v := 1) dL_isSo_170 (by decide) ?_
      refine ev_goto (pc := 171) (tgt := 175) dL_isSo_171 (by decide) ?_
      refine ev_istore (pc := 175) dL_isSo_175 rfl rfl ?_
      refine ev_aload_n (pc := 177) dL_isSo_177 rfl rfl ?_
      refine ev_iconst (pc := 178) (v := (-1)) dL_isSo_178 (by decide) ?_
      refine ev_aload_n (pc := 179) dL_isSo_179 rfl rfl ?_
      refine ev_iload (pc := 180) dL_isSo_180 rfl ?_
      refine ev_aload (pc := 182) dL_isSo_182 rfl ?_
      refine ev_aload (pc := 184) dL_isSo_184 rfl ?_
      refine ev_iload (pc := 186) dL_isSo_186 rfl ?_
      refine ev_iconst (pc := 188) (v := 3) dL_isSo_188 (by decide) ?_
      refine ev_ishr (pc := 189) dL_isSo_189 rfl ?_
      refine cS7 (pc := 190) lk_L_isSo_190 (Nat.le_of_ble_eq_true rfl) ⟨(show 7910 + 1400 ≤ 13000 by omega), (show 51600 + 8800 ≤ 82000 by omega)⟩ e5 ?_
      refine ev_widen (k2 := 7910 + 1400) (s2 := 51600 + 8800) (show 7910 + 1400 ≤ 7910 + 1400 by omega) (show 51600 + 8800 ≤ 51600 + 8800 by omega) ?_
      refine ev_if_eq (pc := 193) (tgt := 249) dL_isSo_193 (by decide) (fun c_193 => absurd c_193 (by decide)) (fun _ => ?_)
      refine ev_aload_n (pc := 196) dL_isSo_196 rfl rfl ?_
      refine ev_iconst (pc := 197) (v := (-1)) dL_isSo_197 (by decide) ?_
      refine cX2 (pc := 198) lk_L_isSo_198 (Nat.le_of_ble_eq_true rfl) ⟨(show 7910 + 1400 + 1 ≤ 13000 by omega), (show 51600 + 8800 + 6 ≤ 82000 by omega)⟩ (r_epochOf C5 hv) ?_
      refine ev_widen (k2 := 7910 + 1401) (s2 := 51600 + 8806) (show 7910 + 1400 + 1 ≤ 7910 + 1401 by omega) (show 51600 + 8800 + 6 ≤ 51600 + 8806 by omega) ?_
      refine ev_aload_n (pc := 201) dL_isSo_201 rfl rfl ?_
      refine ev_iload (pc := 202) dL_isSo_202 rfl ?_
      refine ev_ialdN (pc := 204) dL_isSo_204 (tl_e C5) ⟨(show _ = nI 1 from rfl), by decide, by decide⟩ hye ?_
      refine ev_ic_ne (pc := 205) (tgt := 249) dL_isSo_205 (by decide) (fun c_205 => absurd rfl c_205) (fun _ => ?_)
      refine ev_aload_n (pc := 208) dL_isSo_208 rfl rfl ?_
      refine cV0 (pc := 209) lk_L_isSo_209 h5 rfl rfl (Nat.le_of_ble_eq_true rfl) ⟨(show 7910 + 1401 + 0 ≤ 13000 by omega), (show 51600 + 8806 + 0 ≤ 82000 by omega)⟩ (r_hasBatch1 C5 hb) ?_
      refine ev_widen (k2 := 7910 + 1401) (s2 := 51600 + 8806) (show 7910 + 1401 + 0 ≤ 7910 + 1401 by omega) (show 51600 + 8806 + 0 ≤ 51600 + 8806 by omega) ?_
      refine ev_iload (pc := 212) dL_isSo_212 rfl ?_
      refine ev_iconst (pc := 214) (v := 1) dL_isSo_214 (by decide) ?_
      refine ev_ic_ne (pc := 215) (tgt := 222) dL_isSo_215 (by decide) (fun c_215 => absurd rfl c_215) (fun _ => ?_)
      refine ev_iconst (pc := 218) (v := 1) dL_isSo_218 (by decide) ?_
      refine ev_goto (pc := 219) (tgt := 223) dL_isSo_219 (by decide) ?_
      refine ev_ic_ne (pc := 223) (tgt := 249) dL_isSo_223 (by decide) (fun c_223 => absurd rfl c_223) (fun _ => ?_)
      refine ev_aload_n (pc := 226) dL_isSo_226 rfl rfl ?_
      refine cV0 (pc := 227) lk_L_isSo_227 h5 rfl rfl (Nat.le_of_ble_eq_true rfl) ⟨(show 7910 + 1401 + 0 ≤ 13000 by omega), (show 51600 + 8806 + 0 ≤ 82000 by omega)⟩ (r_readers C5) ?_
      refine ev_widen (k2 := 7910 + 1401) (s2 := 51600 + 8806) (show 7910 + 1401 + 0 ≤ 7910 + 1401 by omega) (show 51600 + 8806 + 0 ≤ 51600 + 8806 by omega) ?_
      refine ev_iload (pc := 230) dL_isSo_230 rfl ?_
      refine ev_ic_ne (pc := 232) (tgt := 249) dL_isSo_232 (by decide) (fun c_232 => absurd rfl c_232) (fun _ => ?_)
      refine ev_aload_n (pc := 235) dL_isSo_235 rfl rfl ?_
      refine ev_aload_n (pc := 236) dL_isSo_236 rfl rfl ?_
      refine ev_aload_n (pc := 237) dL_isSo_237 rfl rfl ?_
      refine ev_aload_n (pc := 238) dL_isSo_238 rfl rfl ?_
      refine ev_aload (pc := 239) dL_isSo_239 rfl ?_
      refine ev_aload (pc := 241) dL_isSo_241 rfl ?_
      refine cS6 (pc := 243) lk_L_isSo_243 (Nat.le_of_ble_eq_true rfl) ⟨(show 7910 + 1401 + 2400 ≤ 13000 by omega), (show 51600 + 8806 + 14800 ≤ 82000 by omega)⟩ e6 ?_
      refine ev_widen (k2 := 7910 + 3801) (s2 := 51600 + 23606) (show 7910 + 1401 + 2400 ≤ 7910 + 3801 by omega) (show 51600 + 8806 + 14800 ≤ 51600 + 23606 by omega) ?_
      refine ev_if_ne (pc := 246) (tgt := 251) dL_isSo_246 (by decide) (fun _ => ?_) (fun c_246 => absurd c_246 (by decide))
      refine ev_iload (pc := 251) dL_isSo_251 rfl ?_
      refine ev_if_eq (pc := 253) (tgt := 269) dL_isSo_253 (by decide) (fun c_253 => absurd c_253 (by decide)) (fun _ => ?_)
      refine ev_aload_n (pc := 256) dL_isSo_256 rfl rfl ?_
      refine ev_bipush (pc := 257) (v := 6) dL_isSo_257 (by decide) ?_
      refine ev_aload_n (pc := 259) dL_isSo_259 rfl rfl ?_
      refine cV0 (pc := 260) lk_L_isSo_260 hfs rfl rfl (Nat.le_of_ble_eq_true rfl) ⟨(show 7910 + 3801 + 0 ≤ 13000 by omega), (show 51600 + 23606 + 0 ≤ 82000 by omega)⟩ (r_curSlot C6) ?_
      refine ev_widen (k2 := 7910 + 3801) (s2 := 51600 + 23606) (show 7910 + 3801 + 0 ≤ 7910 + 3801 by omega) (show 51600 + 23606 + 0 ≤ 51600 + 23606 by omega) ?_
      refine ev_iadd (pc := 263) dL_isSo_263 ?_
      rw [e6s]
      refine ev_ialdN (pc := 264) dL_isSo_264 (tl_i C6) ⟨(show _ = nI (6 + gS σ) from rfl), by omega, by decide⟩ hiss ?_
      refine ev_iconst (pc := 265) (v := 1) dL_isSo_265 (by decide) ?_
      refine ev_ic_ne (pc := 266) (tgt := 273) dL_isSo_266 (by decide) (fun _ => ?_) (fun c_266 => absurd c_266 (by decide))
      refine ev_iconst (pc := 273) (v := 0) dL_isSo_273 (by decide) ?_
      refine ev_istore (pc := 274) dL_isSo_274 rfl rfl ?_
      exact fin 0 _ _ _ _ _ _ _ _ (Or.inl rfl) (fun h => by cases h) (by omega) (by omega)
    | some z =>
      obtain ⟨hiss, -, -⟩ := ob_s (hI.2.2.2 (gS σ) hs2) hx
      refine ev_iload (pc := 18) dL_isSo_18 rfl ?_
      refine ev_iconst (pc := 20) (v := 4) dL_isSo_20 (by decide) ?_
      refine ev_ic_ge (pc := 21) (tgt := 163) dL_isSo_21 (by decide) (fun _ => ?_) (fun c_21 => absurd (by decide) c_21)
      refine ev_aload_n (pc := 163) dL_isSo_163 rfl rfl ?_
      refine ev_iconst (pc := 164) (v := 1) dL_isSo_164 (by decide) ?_
      refine ev_ialdN (pc := 165) dL_isSo_165 (tl_i C4) ⟨(show _ = nI 1 from rfl), by decide, by decide⟩ his1 ?_
      refine ev_iconst (pc := 166) (v := 1) dL_isSo_166 (by decide) ?_
      refine ev_ic_ne (pc := 167) (tgt := 174) dL_isSo_167 (by decide) (fun c_167 => absurd rfl c_167) (fun _ => ?_)
      refine ev_iconst (pc := 170) (v := 1) dL_isSo_170 (by decide) ?_
      refine ev_goto (pc := 171) (tgt := 175) dL_isSo_171 (by decide) ?_
      refine ev_istore (pc := 175) dL_isSo_175 rfl rfl ?_
      refine ev_aload_n (pc := 177) dL_isSo_177 rfl rfl ?_
      refine ev_iconst (pc := 178) (v := (-1)) dL_isSo_178 (by decide) ?_
      refine ev_aload_n (pc := 179) dL_isSo_179 rfl rfl ?_
      refine ev_iload (pc := 180) dL_isSo_180 rfl ?_
      refine ev_aload (pc := 182) dL_isSo_182 rfl ?_
      refine ev_aload (pc := 184) dL_isSo_184 rfl ?_
      refine ev_iload (pc := 186) dL_isSo_186 rfl ?_
      refine ev_iconst (pc := 188) (v := 3) dL_isSo_188 (by decide) ?_
      refine ev_ishr (pc := 189) dL_isSo_189 rfl ?_
      refine cS7 (pc := 190) lk_L_isSo_190 (Nat.le_of_ble_eq_true rfl) ⟨(show 7910 + 1400 ≤ 13000 by omega), (show 51600 + 8800 ≤ 82000 by omega)⟩ e5 ?_
      refine ev_widen (k2 := 7910 + 1400) (s2 := 51600 + 8800) (show 7910 + 1400 ≤ 7910 + 1400 by omega) (show 51600 + 8800 ≤ 51600 + 8800 by omega) ?_
      refine ev_if_eq (pc := 193) (tgt := 249) dL_isSo_193 (by decide) (fun c_193 => absurd c_193 (by decide)) (fun _ => ?_)
      refine ev_aload_n (pc := 196) dL_isSo_196 rfl rfl ?_
      refine ev_iconst (pc := 197) (v := (-1)) dL_isSo_197 (by decide) ?_
      refine cX2 (pc := 198) lk_L_isSo_198 (Nat.le_of_ble_eq_true rfl) ⟨(show 7910 + 1400 + 1 ≤ 13000 by omega), (show 51600 + 8800 + 6 ≤ 82000 by omega)⟩ (r_epochOf C5 hv) ?_
      refine ev_widen (k2 := 7910 + 1401) (s2 := 51600 + 8806) (show 7910 + 1400 + 1 ≤ 7910 + 1401 by omega) (show 51600 + 8800 + 6 ≤ 51600 + 8806 by omega) ?_
      refine ev_aload_n (pc := 201) dL_isSo_201 rfl rfl ?_
      refine ev_iload (pc := 202) dL_isSo_202 rfl ?_
      refine ev_ialdN (pc := 204) dL_isSo_204 (tl_e C5) ⟨(show _ = nI 1 from rfl), by decide, by decide⟩ hye ?_
      refine ev_ic_ne (pc := 205) (tgt := 249) dL_isSo_205 (by decide) (fun c_205 => absurd rfl c_205) (fun _ => ?_)
      refine ev_aload_n (pc := 208) dL_isSo_208 rfl rfl ?_
      refine cV0 (pc := 209) lk_L_isSo_209 h5 rfl rfl (Nat.le_of_ble_eq_true rfl) ⟨(show 7910 + 1401 + 0 ≤ 13000 by omega), (show 51600 + 8806 + 0 ≤ 82000 by omega)⟩ (r_hasBatch1 C5 hb) ?_
      refine ev_widen (k2 := 7910 + 1401) (s2 := 51600 + 8806) (show 7910 + 1401 + 0 ≤ 7910 + 1401 by omega) (show 51600 + 8806 + 0 ≤ 51600 + 8806 by omega) ?_
      refine ev_iload (pc := 212) dL_isSo_212 rfl ?_
      refine ev_iconst (pc := 214) (v := 1) dL_isSo_214 (by decide) ?_
      refine ev_ic_ne (pc := 215) (tgt := 222) dL_isSo_215 (by decide) (fun c_215 => absurd rfl c_215) (fun _ => ?_)
      refine ev_iconst (pc := 218) (v := 1) dL_isSo_218 (by decide) ?_
      refine ev_goto (pc := 219) (tgt := 223) dL_isSo_219 (by decide) ?_
      refine ev_ic_ne (pc := 223) (tgt := 249) dL_isSo_223 (by decide) (fun c_223 => absurd rfl c_223) (fun _ => ?_)
      refine ev_aload_n (pc := 226) dL_isSo_226 rfl rfl ?_
      refine cV0 (pc := 227) lk_L_isSo_227 h5 rfl rfl (Nat.le_of_ble_eq_true rfl) ⟨(show 7910 + 1401 + 0 ≤ 13000 by omega), (show 51600 + 8806 + 0 ≤ 82000 by omega)⟩ (r_readers C5) ?_
      refine ev_widen (k2 := 7910 + 1401) (s2 := 51600 + 8806) (show 7910 + 1401 + 0 ≤ 7910 + 1401 by omega) (show 51600 + 8806 + 0 ≤ 51600 + 8806 by omega) ?_
      refine ev_iload (pc := 230) dL_isSo_230 rfl ?_
      refine ev_ic_ne (pc := 232) (tgt := 249) dL_isSo_232 (by decide) (fun c_232 => absurd rfl c_232) (fun _ => ?_)
      refine ev_aload_n (pc := 235) dL_isSo_235 rfl rfl ?_
      refine ev_aload_n (pc := 236) dL_isSo_236 rfl rfl ?_
      refine ev_aload_n (pc := 237) dL_isSo_237 rfl rfl ?_
      refine ev_aload_n (pc := 238) dL_isSo_238 rfl rfl ?_
      refine ev_aload (pc := 239) dL_isSo_239 rfl ?_
      refine ev_aload (pc := 241) dL_isSo_241 rfl ?_
      refine cS6 (pc := 243) lk_L_isSo_243 (Nat.le_of_ble_eq_true rfl) ⟨(show 7910 + 1401 + 2400 ≤ 13000 by omega), (show 51600 + 8806 + 14800 ≤ 82000 by omega)⟩ e6 ?_
      refine ev_widen (k2 := 7910 + 3801) (s2 := 51600 + 23606) (show 7910 + 1401 + 2400 ≤ 7910 + 3801 by omega) (show 51600 + 8806 + 14800 ≤ 51600 + 23606 by omega) ?_
      refine ev_if_ne (pc := 246) (tgt := 251) dL_isSo_246 (by decide) (fun _ => ?_) (fun c_246 => absurd c_246 (by decide))
      refine ev_iload (pc := 251) dL_isSo_251 rfl ?_
      refine ev_if_eq (pc := 253) (tgt := 269) dL_isSo_253 (by decide) (fun c_253 => absurd c_253 (by decide)) (fun _ => ?_)
      refine ev_aload_n (pc := 256) dL_isSo_256 rfl rfl ?_
      refine ev_bipush (pc := 257) (v := 6) dL_isSo_257 (by decide) ?_
      refine ev_aload_n (pc := 259) dL_isSo_259 rfl rfl ?_
      refine cV0 (pc := 260) lk_L_isSo_260 hfs rfl rfl (Nat.le_of_ble_eq_true rfl) ⟨(show 7910 + 3801 + 0 ≤ 13000 by omega), (show 51600 + 23606 + 0 ≤ 82000 by omega)⟩ (r_curSlot C6) ?_
      refine ev_widen (k2 := 7910 + 3801) (s2 := 51600 + 23606) (show 7910 + 3801 + 0 ≤ 7910 + 3801 by omega) (show 51600 + 23606 + 0 ≤ 51600 + 23606 by omega) ?_
      refine ev_iadd (pc := 263) dL_isSo_263 ?_
      rw [e6s]
      refine ev_ialdN (pc := 264) dL_isSo_264 (tl_i C6) ⟨(show _ = nI (6 + gS σ) from rfl), by omega, by decide⟩ hiss ?_
      refine ev_iconst (pc := 265) (v := 1) dL_isSo_265 (by decide) ?_
      refine ev_ic_ne (pc := 266) (tgt := 273) dL_isSo_266 (by decide) (fun c_266 => absurd rfl c_266) (fun _ => ?_)
      refine ev_iconst (pc := 269) (v := 1) dL_isSo_269 (by decide) ?_
      refine ev_goto (pc := 270) (tgt := 274) dL_isSo_270 (by decide) ?_
      refine ev_istore (pc := 274) dL_isSo_274 rfl rfl ?_
      exact fin 1 _ _ _ _ _ _ _ _ (Or.inr rfl) (fun _ => hAll (Or.inr ⟨z, hx⟩)) (by omega) (by omega)
end IS2
