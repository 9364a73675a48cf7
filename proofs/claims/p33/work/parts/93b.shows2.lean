/-! THE LAW: a view shows what its state has -/
section SH
variable {N : Nat} {σ : SS} {w : mW} {cc g : Nat → Int64} {ep is f : Nat → Int32}
theorem shows_scan {Qf : mQ} {v1 v6 : Int32} {s : Nat} {v11 : Value} {f0 : Nat → Int32} {L : List (Nat × Int32)} {a : Int32} {kc ks : Nat} (C : CG N σ (TL cc ep is (fF f0 L) g) w) (hl : L.length ≤ 60)
    (k : EvF m_L_shows Qf 113 [.ref 0, .int v1, .ref 21, .int (nI s), .ref 24, .ref 25, .int v6, .int a, .int (lkL L a), .int (nI (cnL L a)), .int (nI 0), v11] [] kc ks w) :
    ∀ n, n ≤ L.length → EvF m_L_shows Qf 60 [.ref 0, .int v1, .ref 21, .int (nI s), .ref 24, .ref 25, .int v6, .int a, .int (lkL (L.drop n) a), .int (nI (cnL (L.drop n) a)), .int (nI n), v11] [] kc ks w
  | 0, _ => by
    rw [List.drop_zero]
    refine ev_iload (pc := 60) dL_shows_60 rfl ?_
    refine ev_if_le (pc := 62) (tgt := 113) dL_shows_62 (by decide) (fun _ => ?_) (fun c_62 => absurd (by decide) c_62)
    exact k
  | n + 1, hn => by
    have hlt : n < L.length := by omega
    obtain ⟨x, hx⟩ : ∃ x, L[n]? = some x := ⟨_, List.getElem?_eq_getElem hlt⟩
    have hd : L.drop n = x :: L.drop (n + 1) := by
      obtain ⟨hh, he⟩ := List.getElem_of_getElem? hx
      rw [← he]
      exact List.drop_eq_getElem_cons hlt
    have ih := shows_scan C hl k n (by omega)
    rw [hd, lkL_s, cnL_s] at ih
    have hi : nI (n + 1) + Int32.ofInt (-1) = nI n := nI_im (by omega)
    by_cases hxa : nI x.1 < a
    · rw [if_pos hxa, if_pos hxa, Nat.add_comm 1] at ih
      refine ev_iload (pc := 60) dL_shows_60 rfl ?_
      refine ev_if_le (pc := 62) (tgt := 113) dL_shows_62 (by decide) (fun c_62 => absurd c_62 (nI_nle (by omega) (by omega))) (fun _ => ?_)
      refine ev_aload (pc := 65) dL_shows_65 rfl ?_
      refine ev_iload (pc := 67) dL_shows_67 rfl ?_
      refine ev_ialdN (pc := 69) dL_shows_69 (tl_f C) ⟨(show _ = nI (n + 1) from rfl), by omega, by decide⟩ (fF_s hx) ?_
      refine ev_iload (pc := 70) dL_shows_70 rfl ?_
      refine ev_ic_lt (pc := 72) (tgt := 83) dL_shows_72 (by decide) (fun _ => ?_) (fun c_72 => absurd hxa c_72)
      refine ev_iload (pc := 83) dL_shows_83 rfl ?_
      refine ev_istore (pc := 85) dL_shows_85 rfl rfl ?_
      refine ev_iload (pc := 87) dL_shows_87 rfl ?_
      refine ev_aload (pc := 89) dL_shows_89 rfl ?_
      refine ev_iload (pc := 91) dL_shows_91 rfl ?_
      refine ev_ialdN (pc := 93) dL_shows_93 (tl_f C) ⟨(show _ = nI (n + 1) from rfl), by omega, by decide⟩ (fF_s hx) ?_
      refine ev_iload (pc := 94) dL_shows_94 rfl ?_
      refine ev_ic_ge (pc := 96) (tgt := 103) dL_shows_96 (by decide) (fun c_96 => absurd c_96 (Int32.not_le.mpr hxa)) (fun _ => ?_)
      refine ev_iconst (pc := 99) (v := 1) dL_shows_99 (by decide) ?_
      refine ev_goto (pc := 100) (tgt := 104) dL_shows_100 (by decide) ?_
      refine ev_iadd (pc := 104) dL_shows_104 ?_
      rw [nI_a1]
      refine ev_istore (pc := 105) dL_shows_105 rfl rfl ?_
      refine ev_iinc (pc := 107) dL_shows_107 rfl rfl rfl ?_
      refine ev_goto (pc := 110) (tgt := 60) dL_shows_110 (by decide) ?_
      rw [hi]
      exact ih
    · rw [if_neg hxa, if_neg hxa, Nat.zero_add] at ih
      refine ev_iload (pc := 60) dL_shows_60 rfl ?_
      refine ev_if_le (pc := 62) (tgt := 113) dL_shows_62 (by decide) (fun c_62 => absurd c_62 (nI_nle (by omega) (by omega))) (fun _ => ?_)
      refine ev_aload (pc := 65) dL_shows_65 rfl ?_
      refine ev_iload (pc := 67) dL_shows_67 rfl ?_
      refine ev_ialdN (pc := 69) dL_shows_69 (tl_f C) ⟨(show _ = nI (n + 1) from rfl), by omega, by decide⟩ (fF_s hx) ?_
      refine ev_iload (pc := 70) dL_shows_70 rfl ?_
      refine ev_ic_lt (pc := 72) (tgt := 83) dL_shows_72 (by decide) (fun c_72 => absurd c_72 hxa) (fun _ => ?_)
      refine ev_aload (pc := 75) dL_shows_75 rfl ?_
      refine ev_iload (pc := 77) dL_shows_77 rfl ?_
      refine ev_ialdN (pc := 79) dL_shows_79 (tl_f C) ⟨(show _ = nI (n + 1) from rfl), by omega, by decide⟩ (fF_s hx) ?_
      refine ev_goto (pc := 80) (tgt := 85) dL_shows_80 (by decide) ?_
      refine ev_istore (pc := 85) dL_shows_85 rfl rfl ?_
      refine ev_iload (pc := 87) dL_shows_87 rfl ?_
      refine ev_aload (pc := 89) dL_shows_89 rfl ?_
      refine ev_iload (pc := 91) dL_shows_91 rfl ?_
      refine ev_ialdN (pc := 93) dL_shows_93 (tl_f C) ⟨(show _ = nI (n + 1) from rfl), by omega, by decide⟩ (fF_s hx) ?_
      refine ev_iload (pc := 94) dL_shows_94 rfl ?_
      refine ev_ic_ge (pc := 96) (tgt := 103) dL_shows_96 (by decide) (fun _ => ?_) (fun c_96 => absurd (Int32.not_lt.mp hxa) c_96)
      refine ev_iconst (pc := 103) (v := 0) dL_shows_103 (by decide) ?_
      refine ev_iadd (pc := 104) dL_shows_104 ?_
      rw [Int32.add_zero]
      refine ev_istore (pc := 105) dL_shows_105 rfl rfl ?_
      refine ev_iinc (pc := 107) dL_shows_107 rfl rfl rfl ?_
      refine ev_goto (pc := 110) (tgt := 60) dL_shows_110 (by decide) ?_
      rw [hi]
      exact ih
theorem shows_gets {v1 v6 v7 v8 v9 : Int32} {s : Nat} {x : RS3} (C : CG N σ (TL cc ep is f g) w) (hv : gV σ v1 = some x) (hL : cN (gT σ) x.2.1 (ct (tn cc s))) (hs : s < 8) : ∀ (m n kc ks : Nat) (v11 : Value), n + m = 32 → kc ≤ 1110 + 6 * n → ks ≤ 6900 + 36 * n → EvF m_L_shows (mQm m_L_shows (.inl (some (.int 1))) w) 192 [.ref 0, .int v1, .ref 21, .int (nI s), .ref 24, .ref 25, .int v6, .int v7, .int v8, .int v9, .int (nI n), v11] [] kc ks w
  | 0, n, kc, ks, v11, hn, hkc, hks => by
    have hn : n = 32 := by omega
    subst hn
    refine ev_iload (pc := 192) dL_shows_192 rfl ?_
    refine ev_bipush (pc := 194) (v := 32) dL_shows_194 (by decide) ?_
    refine ev_ic_ge (pc := 196) (tgt := 263) dL_shows_196 (by decide) (fun _ => ?_) (fun c_196 => absurd (by decide) c_196)
    refine ev_aload_n (pc := 263) dL_shows_263 rfl rfl ?_
    refine ev_iload_n (pc := 264) dL_shows_264 rfl rfl ?_
    refine ev_bipush (pc := 265) (v := 100) dL_shows_265 (by decide) ?_
    refine cX3 (pc := 267) lk_L_shows_267 (Nat.le_of_ble_eq_true rfl) ⟨(show kc + 3 ≤ 1400 by omega), (show ks + 18 ≤ 8800 by omega)⟩ (r_getT2 C hv (Or.inr (by decide))) ?_
    refine ev_widen (k2 := kc + 3) (s2 := ks + 18) (show kc + 3 ≤ kc + 3 by omega) (show ks + 18 ≤ ks + 18 by omega) ?_
    refine ev_ldc (pc := 270) dL_shows_270 ki_L_30 ?_
    refine ev_ic_ne (pc := 272) (tgt := 290) dL_shows_272 (by decide) (fun c_272 => absurd rfl c_272) (fun _ => ?_)
    refine ev_aload_n (pc := 275) dL_shows_275 rfl rfl ?_
    refine ev_iload_n (pc := 276) dL_shows_276 rfl rfl ?_
    refine ev_iconst (pc := 277) (v := (-1)) dL_shows_277 (by decide) ?_
    refine cX3 (pc := 278) lk_L_shows_278 (Nat.le_of_ble_eq_true rfl) ⟨(show kc + 3 + 3 ≤ 1400 by omega), (show ks + 18 + 18 ≤ 8800 by omega)⟩ (r_getT2 C hv (Or.inl (by decide))) ?_
    refine ev_widen (k2 := kc + 6) (s2 := ks + 36) (show kc + 3 + 3 ≤ kc + 6 by omega) (show ks + 18 + 18 ≤ ks + 36 by omega) ?_
    refine ev_ldc (pc := 281) dL_shows_281 ki_L_30 ?_
    refine ev_ic_ne (pc := 283) (tgt := 290) dL_shows_283 (by decide) (fun c_283 => absurd rfl c_283) (fun _ => ?_)
    refine ev_iconst (pc := 286) (v := 1) dL_shows_286 (by decide) ?_
    refine ev_goto (pc := 287) (tgt := 291) dL_shows_287 (by decide) ?_
    exact ev_zretE (pc := 291) dL_shows_291 rfl ⟨(show kc + 6 ≤ 1400 by omega), (show ks + 36 ≤ 8800 by omega)⟩ (by first | exact Or.inl rfl | exact Or.inr rfl | assumption | exact i10_o) rfl rfl
  | m + 1, n, kc, ks, v11, hn, hkc, hks => by
    have h5 : nI (3 * n + 6) - 1 = nI (3 * n + 5) := nI_s1 (by omega)
    have ih := shows_gets (v6 := v6) (v7 := v7) (v8 := v8) (v9 := v9) C hv hL hs m (n + 1)
    by_cases ht : 0 < tn cc s n
    · refine ev_iload (pc := 192) dL_shows_192 rfl ?_
      refine ev_bipush (pc := 194) (v := 32) dL_shows_194 (by decide) ?_
      refine ev_ic_ge (pc := 196) (tgt := 263) dL_shows_196 (by decide) (fun c_196 => absurd c_196 (nI_ge (show n < 32 by omega) (by decide))) (fun _ => ?_)
      refine ev_aload_n (pc := 199) dL_shows_199 rfl rfl ?_
      refine ev_iload_n (pc := 200) dL_shows_200 rfl rfl ?_
      refine ev_iload (pc := 201) dL_shows_201 rfl ?_
      refine cS3 (pc := 203) lk_L_shows_203 (Nat.le_of_ble_eq_true rfl) ⟨(show kc + 0 ≤ 1400 by omega), (show ks + 0 ≤ 8800 by omega)⟩ (r_turn (tl_c C) hs (show n < 36 by omega)) ?_
      refine ev_widen (k2 := kc + 0) (s2 := ks + 0) (show kc + 0 ≤ kc + 0 by omega) (show ks + 0 ≤ ks + 0 by omega) ?_
      refine ev_istore (pc := 206) dL_shows_206 rfl rfl ?_
      refine ev_aload_n (pc := 208) dL_shows_208 rfl rfl ?_
      refine ev_iload_n (pc := 209) dL_shows_209 rfl rfl ?_
      refine ev_iload (pc := 210) dL_shows_210 rfl ?_
      refine cS1 (pc := 212) lk_L_shows_212 (Nat.le_of_ble_eq_true rfl) ⟨(show kc + 0 ≤ 1400 by omega), (show ks + 0 ≤ 8800 by omega)⟩ r_key ?_
      refine ev_widen (k2 := kc + 0) (s2 := ks + 0) (show kc + 0 ≤ kc + 0 by omega) (show ks + 0 ≤ ks + 0 by omega) ?_
      refine cX3 (pc := 215) lk_L_shows_215 (Nat.le_of_ble_eq_true rfl) ⟨(show kc + 3 ≤ 1400 by omega), (show ks + 18 ≤ 8800 by omega)⟩ (r_get C hv hL (show 3 * n + 6 < 100 by omega) (ct_in (show n < 32 by omega) ht)) ?_
      refine ev_widen (k2 := kc + 3) (s2 := ks + 18) (show kc + 3 ≤ kc + 3 by omega) (show ks + 18 ≤ ks + 18 by omega) ?_
      refine ev_iload (pc := 218) dL_shows_218 rfl ?_
      refine ev_if_le (pc := 220) (tgt := 233) dL_shows_220 (by decide) (fun c_220 => absurd c_220 (nI_nle ht (by have := tn_lt (cc := cc) (s := s) (i := n); omega))) (fun _ => ?_)
      refine ev_iload (pc := 223) dL_shows_223 rfl ?_
      refine ev_iload (pc := 225) dL_shows_225 rfl ?_
      refine cS2 (pc := 227) lk_L_shows_227 (Nat.le_of_ble_eq_true rfl) ⟨(show kc + 3 + 0 ≤ 1400 by omega), (show ks + 18 + 0 ≤ 8800 by omega)⟩ r_value ?_
      refine ev_widen (k2 := kc + 3) (s2 := ks + 18) (show kc + 3 + 0 ≤ kc + 3 by omega) (show ks + 18 + 0 ≤ ks + 18 by omega) ?_
      refine ev_goto (pc := 230) (tgt := 235) dL_shows_230 (by decide) ?_
      refine ev_ic_ne (pc := 235) (tgt := 255) dL_shows_235 (by decide) (fun c_235 => absurd rfl c_235) (fun _ => ?_)
      refine ev_aload_n (pc := 238) dL_shows_238 rfl rfl ?_
      refine ev_iload_n (pc := 239) dL_shows_239 rfl rfl ?_
      refine ev_iload (pc := 240) dL_shows_240 rfl ?_
      refine cS1 (pc := 242) lk_L_shows_242 (Nat.le_of_ble_eq_true rfl) ⟨(show kc + 3 + 0 ≤ 1400 by omega), (show ks + 18 + 0 ≤ 8800 by omega)⟩ r_key ?_
      refine ev_widen (k2 := kc + 3) (s2 := ks + 18) (show kc + 3 + 0 ≤ kc + 3 by omega) (show ks + 18 + 0 ≤ ks + 18 by omega) ?_
      refine ev_iconst (pc := 245) (v := 1) dL_shows_245 (by decide) ?_
      refine ev_isub (pc := 246) dL_shows_246 ?_
      rw [h5]
      refine cX3 (pc := 247) lk_L_shows_247 (Nat.le_of_ble_eq_true rfl) ⟨(show kc + 3 + 3 ≤ 1400 by omega), (show ks + 18 + 18 ≤ 8800 by omega)⟩ (r_getT3 C hv hL (show 3 * n + 5 < 100 by omega) ct_no5) ?_
      refine ev_widen (k2 := kc + 6) (s2 := ks + 36) (show kc + 3 + 3 ≤ kc + 6 by omega) (show ks + 18 + 18 ≤ ks + 36 by omega) ?_
      refine ev_ldc (pc := 250) dL_shows_250 ki_L_37 ?_
      refine ev_ic_eq (pc := 252) (tgt := 257) dL_shows_252 (by decide) (fun _ => ?_) (fun c_252 => absurd rfl c_252)
      refine ev_iinc (pc := 257) dL_shows_257 rfl rfl rfl ?_
      refine ev_goto (pc := 260) (tgt := 192) dL_shows_260 (by decide) ?_
      rw [nI_i1]
      exact ih _ _ _ (by omega) (by omega) (by omega)
    · have h0 : tn cc s n = 0 := by omega
      refine ev_iload (pc := 192) dL_shows_192 rfl ?_
      refine ev_bipush (pc := 194) (v := 32) dL_shows_194 (by decide) ?_
      refine ev_ic_ge (pc := 196) (tgt := 263) dL_shows_196 (by decide) (fun c_196 => absurd c_196 (nI_ge (show n < 32 by omega) (by decide))) (fun _ => ?_)
      refine ev_aload_n (pc := 199) dL_shows_199 rfl rfl ?_
      refine ev_iload_n (pc := 200) dL_shows_200 rfl rfl ?_
      refine ev_iload (pc := 201) dL_shows_201 rfl ?_
      refine cS3 (pc := 203) lk_L_shows_203 (Nat.le_of_ble_eq_true rfl) ⟨(show kc + 0 ≤ 1400 by omega), (show ks + 0 ≤ 8800 by omega)⟩ (r_turn (tl_c C) hs (show n < 36 by omega)) ?_
      refine ev_widen (k2 := kc + 0) (s2 := ks + 0) (show kc + 0 ≤ kc + 0 by omega) (show ks + 0 ≤ ks + 0 by omega) ?_
      refine ev_istore (pc := 206) dL_shows_206 rfl rfl ?_
      refine ev_aload_n (pc := 208) dL_shows_208 rfl rfl ?_
      refine ev_iload_n (pc := 209) dL_shows_209 rfl rfl ?_
      refine ev_iload (pc := 210) dL_shows_210 rfl ?_
      refine cS1 (pc := 212) lk_L_shows_212 (Nat.le_of_ble_eq_true rfl) ⟨(show kc + 0 ≤ 1400 by omega), (show ks + 0 ≤ 8800 by omega)⟩ r_key ?_
      refine ev_widen (k2 := kc + 0) (s2 := ks + 0) (show kc + 0 ≤ kc + 0 by omega) (show ks + 0 ≤ ks + 0 by omega) ?_
      refine cX3 (pc := 215) lk_L_shows_215 (Nat.le_of_ble_eq_true rfl) ⟨(show kc + 3 ≤ 1400 by omega), (show ks + 18 ≤ 8800 by omega)⟩ (r_getT3 C hv hL (show 3 * n + 6 < 100 by omega) (ct_no ht)) ?_
      refine ev_widen (k2 := kc + 3) (s2 := ks + 18) (show kc + 3 ≤ kc + 3 by omega) (show ks + 18 ≤ ks + 18 by omega) ?_
      refine ev_iload (pc := 218) dL_shows_218 rfl ?_
      refine ev_if_le (pc := 220) (tgt := 233) dL_shows_220 (by decide) (fun _ => ?_) (fun c_220 => absurd (by rw [h0]; decide) c_220)
      refine ev_ldc (pc := 233) dL_shows_233 ki_L_37 ?_
      refine ev_ic_ne (pc := 235) (tgt := 255) dL_shows_235 (by decide) (fun c_235 => absurd rfl c_235) (fun _ => ?_)
      refine ev_aload_n (pc := 238) dL_shows_238 rfl rfl ?_
      refine ev_iload_n (pc := 239) dL_shows_239 rfl rfl ?_
      refine ev_iload (pc := 240) dL_shows_240 rfl ?_
      refine cS1 (pc := 242) lk_L_shows_242 (Nat.le_of_ble_eq_true rfl) ⟨(show kc + 3 + 0 ≤ 1400 by omega), (show ks + 18 + 0 ≤ 8800 by omega)⟩ r_key ?_
      refine ev_widen (k2 := kc + 3) (s2 := ks + 18) (show kc + 3 + 0 ≤ kc + 3 by omega) (show ks + 18 + 0 ≤ ks + 18 by omega) ?_
      refine ev_iconst (pc := 245) (v := 1) dL_shows_245 (by decide) ?_
      refine ev_isub (pc := 246) dL_shows_246 ?_
      rw [h5]
      refine cX3 (pc := 247) lk_L_shows_247 (Nat.le_of_ble_eq_true rfl) ⟨(show kc + 3 + 3 ≤ 1400 by omega), (show ks + 18 + 18 ≤ 8800 by omega)⟩ (r_getT3 C hv hL (show 3 * n + 5 < 100 by omega) ct_no5) ?_
      refine ev_widen (k2 := kc + 6) (s2 := ks + 36) (show kc + 3 + 3 ≤ kc + 6 by omega) (show ks + 18 + 18 ≤ ks + 36 by omega) ?_
      refine ev_ldc (pc := 250) dL_shows_250 ki_L_37 ?_
      refine ev_ic_eq (pc := 252) (tgt := 257) dL_shows_252 (by decide) (fun _ => ?_) (fun c_252 => absurd rfl c_252)
      refine ev_iinc (pc := 257) dL_shows_257 rfl rfl rfl ?_
      refine ev_goto (pc := 260) (tgt := 192) dL_shows_260 (by decide) ?_
      rw [nI_i1]
      exact ih _ _ _ (by omega) (by omega) (by omega)
theorem r_shows (h : CG N σ (TL cc ep is f g) w) {v1 v6 : Int32} {s : Nat} {x : RS3} (hv : gV σ v1 = some x) (hL : cN (gT σ) x.2.1 (ct (tn cc s))) (hs : s < 8) : ∃ (w' : mW) (f' : Nat → Int32) (g' : Nat → Int64), CG N σ (TL cc ep is f' g') w' ∧ (∀ q, mb g' q = true ↔ (Rch (gT σ) x.2.1 q ∨ mb g q = true)) ∧ EvS m_L_shows [.ref 0, .int v1, .ref 21, .int (nI s), .ref 24, .ref 25, .int v6] w (.inl (some (.int 1))) w' := by
  obtain ⟨d, a1, a2, a3, a4, a5, a6, a7, a8⟩ := g_view (cg_I h) hv hL
  obtain ⟨w1, C1, e1⟩ := r_holds h (dp := nI (d + 1)) (⟨a1, a3, a2⟩ : gT1 σ d x.2.1 (ct (tn cc s))) hs (Or.inr rfl)
  have hlen : (ct (tn cc s)).length ≤ 32 := ctL_len _ _
  obtain ⟨w2, C2, e2⟩ := r_next C1 (a := nI (lowN v6 106) - 2) hv hL
  obtain ⟨w3, C3, e3⟩ := r_rank C2 (a := nI (lowN v6 106) - 2) hv hL
  obtain ⟨w4, C4, e4⟩ := r_next C3 (a := -2147483648) hv hL
  obtain ⟨w5, C5, e5⟩ := r_next C4 (a := 2147483647) hv hL
  obtain ⟨w6, C6, e6⟩ := r_rank C5 (a := 2147483647) hv hL
  have hmx : ∀ y ∈ ct (tn cc s), nI y.1 < (2147483647 : Int32) := fun y hy => nI_max (a5 y hy)
  rw [lkL_all hmx] at e5
  rw [cnL_all hmx] at e6
  refine ⟨w6, _, _, C6, fun q => ?_, ?_⟩
  · rw [mb_fold, Bool.or_eq_true, decide_eq_true_iff, okR_mem a1]
  have hfin := fun kc ks v11 h1 h2 => shows_gets (v6 := v6) (v7 := nI (lowN v6 106) - 2) (v8 := lkL (ct (tn cc s)) (nI (lowN v6 106) - 2)) (v9 := nI (cnL (ct (tn cc s)) (nI (lowN v6 106) - 2))) C6 hv hL hs 32 0 kc ks v11 (by omega) h1 h2
  refine evs_of (by decide +kernel) (Nat.le_of_ble_eq_true rfl) (by decide) rfl ?_
  refine ev_aload_n (pc := 0) dL_shows_0 rfl rfl ?_
  refine ev_aload_n (pc := 1) dL_shows_1 rfl rfl ?_
  refine ev_iload_n (pc := 2) dL_shows_2 rfl rfl ?_
  refine cX2 (pc := 3) lk_L_shows_3 (Nat.le_of_ble_eq_true rfl) ⟨Nat.le_of_ble_eq_true rfl, Nat.le_of_ble_eq_true rfl⟩ (r_rootOf h hv) ?_
  refine ev_aload_n (pc := 6) dL_shows_6 rfl rfl ?_
  refine ev_iload_n (pc := 7) dL_shows_7 rfl rfl ?_
  refine cX2 (pc := 8) lk_L_shows_8 (Nat.le_of_ble_eq_true rfl) ⟨Nat.le_of_ble_eq_true rfl, Nat.le_of_ble_eq_true rfl⟩ (r_depth h hv (by omega) a1) ?_
  refine ev_aload_n (pc := 11) dL_shows_11 rfl rfl ?_
  refine ev_iload_n (pc := 12) dL_shows_12 rfl rfl ?_
  refine ev_aload (pc := 13) dL_shows_13 rfl ?_
  refine ev_aload (pc := 15) dL_shows_15 rfl ?_
  refine cS7 (pc := 17) lk_L_shows_17 (Nat.le_of_ble_eq_true rfl) ⟨Nat.le_of_ble_eq_true rfl, Nat.le_of_ble_eq_true rfl⟩ e1 ?_
  refine ev_if_eq (pc := 20) (tgt := 35) dL_shows_20 (by decide) (fun c_20 => absurd c_20 (by decide)) (fun _ => ?_)
  refine ev_aload_n (pc := 23) dL_shows_23 rfl rfl ?_
  refine ev_iload_n (pc := 24) dL_shows_24 rfl rfl ?_
  refine cX2 (pc := 25) lk_L_shows_25 (Nat.le_of_ble_eq_true rfl) ⟨Nat.le_of_ble_eq_true rfl, Nat.le_of_ble_eq_true rfl⟩ (r_size C1 hv) ?_
  refine ev_aload (pc := 28) dL_shows_28 rfl ?_
  refine ev_iconst (pc := 30) (v := 0) dL_shows_30 (by decide) ?_
  refine ev_ialdN (pc := 31) dL_shows_31 (tl_f C1) ⟨(show _ = nI 0 from rfl), by decide, by decide⟩ fF_0 ?_
  refine ev_ic_eq (pc := 32) (tgt := 37) dL_shows_32 (by decide) (fun _ => ?_) (fun c_32 => absurd (by rw [a6]) c_32)
  refine ev_iload (pc := 37) dL_shows_37 rfl ?_
  refine ev_bipush (pc := 39) (v := 106) dL_shows_39 (by decide) ?_
  refine cS2 (pc := 41) lk_L_shows_41 (Nat.le_of_ble_eq_true rfl) ⟨Nat.le_of_ble_eq_true rfl, Nat.le_of_ble_eq_true rfl⟩ (r_low (n := 106) (by decide) (by decide)) ?_
  refine ev_iconst (pc := 44) (v := 2) dL_shows_44 (by decide) ?_
  refine ev_isub (pc := 45) dL_shows_45 ?_
  refine ev_istore (pc := 46) dL_shows_46 rfl rfl ?_
  refine ev_iconst (pc := 48) (v := (-1)) dL_shows_48 (by decide) ?_
  refine ev_istore (pc := 49) dL_shows_49 rfl rfl ?_
  refine ev_iconst (pc := 51) (v := 0) dL_shows_51 (by decide) ?_
  refine ev_istore (pc := 52) dL_shows_52 rfl rfl ?_
  refine ev_aload (pc := 54) dL_shows_54 rfl ?_
  refine ev_iconst (pc := 56) (v := 0) dL_shows_56 (by decide) ?_
  refine ev_ialdN (pc := 57) dL_shows_57 (tl_f C1) ⟨(show _ = nI 0 from rfl), by decide, by decide⟩ fF_0 ?_
  refine ev_istore (pc := 58) dL_shows_58 rfl rfl ?_
  have hdr : (ct (tn cc s)).drop (ct (tn cc s)).length = [] := List.drop_length
  have h9 := fun Qf kc ks v11 k => shows_scan (Qf := Qf) (v1 := v1) (v6 := v6) (s := s) (v11 := v11) (a := nI (lowN v6 106) - 2) (kc := kc) (ks := ks) C1 (by omega) k (ct (tn cc s)).length (Nat.le_refl _)
  rw [hdr] at h9
  refine h9 _ _ _ _ ?_
  refine ev_aload_n (pc := 113) dL_shows_113 rfl rfl ?_
  refine ev_iload_n (pc := 114) dL_shows_114 rfl rfl ?_
  refine ev_iload (pc := 115) dL_shows_115 rfl ?_
  refine cX3 (pc := 117) lk_L_shows_117 (Nat.le_of_ble_eq_true rfl) ⟨Nat.le_of_ble_eq_true rfl, Nat.le_of_ble_eq_true rfl⟩ e2 ?_
  refine ev_iload (pc := 120) dL_shows_120 rfl ?_
  refine ev_ic_ne (pc := 122) (tgt := 187) dL_shows_122 (by decide) (fun c_122 => absurd rfl c_122) (fun _ => ?_)
  refine ev_aload_n (pc := 125) dL_shows_125 rfl rfl ?_
  refine ev_iload_n (pc := 126) dL_shows_126 rfl rfl ?_
  refine ev_iload (pc := 127) dL_shows_127 rfl ?_
  refine cX3 (pc := 129) lk_L_shows_129 (Nat.le_of_ble_eq_true rfl) ⟨Nat.le_of_ble_eq_true rfl, Nat.le_of_ble_eq_true rfl⟩ e3 ?_
  refine ev_iload (pc := 132) dL_shows_132 rfl ?_
  refine ev_ic_ne (pc := 134) (tgt := 187) dL_shows_134 (by decide) (fun c_134 => absurd rfl c_134) (fun _ => ?_)
  refine ev_aload_n (pc := 137) dL_shows_137 rfl rfl ?_
  refine ev_iload_n (pc := 138) dL_shows_138 rfl rfl ?_
  refine ev_ldc (pc := 139) dL_shows_139 ki_L_172 ?_
  refine cX3 (pc := 141) lk_L_shows_141 (Nat.le_of_ble_eq_true rfl) ⟨Nat.le_of_ble_eq_true rfl, Nat.le_of_ble_eq_true rfl⟩ e4 ?_
  refine ev_aload (pc := 144) dL_shows_144 rfl ?_
  refine ev_iconst (pc := 146) (v := 0) dL_shows_146 (by decide) ?_
  refine ev_ialdN (pc := 147) dL_shows_147 (tl_f C4) ⟨(show _ = nI 0 from rfl), by decide, by decide⟩ fF_0 ?_
  refine ev_if_ne (pc := 148) (tgt := 155) dL_shows_148 (by decide) (fun c9 => ?_) (fun c9 => ?_)
  · obtain ⟨y, r, hyr⟩ : ∃ y r, ct (tn cc s) = y :: r := by
      cases hc : ct (tn cc s) with
      | nil => rw [hc] at c9; exact absurd rfl c9
      | cons y r => exact ⟨y, r, rfl⟩
    have hy : nI y.1 = lkL (ct (tn cc s)) (-2147483648) := by
      rw [hyr, lkL_s, if_neg (nI_min (a5 y (by rw [hyr]; exact List.mem_cons_self)))]
    refine ev_aload (pc := 155) dL_shows_155 rfl ?_
    refine ev_iconst (pc := 157) (v := 1) dL_shows_157 (by decide) ?_
    refine ev_ialdN (pc := 158) dL_shows_158 (tl_f C4) ⟨(show _ = nI 1 from rfl), by decide, by decide⟩ (fF_s (j := 0) (x := y) (by rw [hyr]; rfl)) ?_
    refine ev_ic_ne (pc := 159) (tgt := 187) dL_shows_159 (by decide) (fun c_159 => absurd hy.symm c_159) (fun _ => ?_)
    refine ev_aload_n (pc := 162) dL_shows_162 rfl rfl ?_
    refine ev_iload_n (pc := 163) dL_shows_163 rfl rfl ?_
    refine ev_ldc (pc := 164) dL_shows_164 ki_L_9 ?_
    refine cX3 (pc := 166) lk_L_shows_166 (Nat.le_of_ble_eq_true rfl) ⟨Nat.le_of_ble_eq_true rfl, Nat.le_of_ble_eq_true rfl⟩ e5 ?_
    refine ev_iconst (pc := 169) (v := (-1)) dL_shows_169 (by decide) ?_
    refine ev_ic_ne (pc := 170) (tgt := 187) dL_shows_170 (by decide) (fun c_170 => absurd rfl c_170) (fun _ => ?_)
    refine ev_aload_n (pc := 173) dL_shows_173 rfl rfl ?_
    refine ev_iload_n (pc := 174) dL_shows_174 rfl rfl ?_
    refine ev_ldc (pc := 175) dL_shows_175 ki_L_9 ?_
    refine cX3 (pc := 177) lk_L_shows_177 (Nat.le_of_ble_eq_true rfl) ⟨Nat.le_of_ble_eq_true rfl, Nat.le_of_ble_eq_true rfl⟩ e6 ?_
    refine ev_aload (pc := 180) dL_shows_180 rfl ?_
    refine ev_iconst (pc := 182) (v := 0) dL_shows_182 (by decide) ?_
    refine ev_ialdN (pc := 183) dL_shows_183 (tl_f C6) ⟨(show _ = nI 0 from rfl), by decide, by decide⟩ fF_0 ?_
    refine ev_ic_eq (pc := 184) (tgt := 189) dL_shows_184 (by decide) (fun _ => ?_) (fun c_184 => absurd rfl c_184)
    refine ev_iconst (pc := 189) (v := 0) dL_shows_189 (by decide) ?_
    refine ev_istore (pc := 190) dL_shows_190 rfl rfl ?_
    exact hfin _ _ _ (Nat.le_of_ble_eq_true rfl) (Nat.le_of_ble_eq_true rfl)
  · refine ev_iconst (pc := 151) (v := (-1)) dL_shows_151 (by decide) ?_
    refine ev_goto (pc := 152) (tgt := 159) dL_shows_152 (by decide) ?_
    refine ev_ic_ne (pc := 159) (tgt := 187) dL_shows_159 (by decide) (fun c_159 => absurd (by
    have h0 : ct (tn cc s) = [] := by
      cases hc : ct (tn cc s) with
      | nil => rfl
      | cons y r => rw [hc] at c9; exact absurd c9 (nI_ne0 (by simp) (by rw [hc] at hlen; omega))
    rw [h0]
    rfl) c_159) (fun _ => ?_)
    refine ev_aload_n (pc := 162) dL_shows_162 rfl rfl ?_
    refine ev_iload_n (pc := 163) dL_shows_163 rfl rfl ?_
    refine ev_ldc (pc := 164) dL_shows_164 ki_L_9 ?_
    refine cX3 (pc := 166) lk_L_shows_166 (Nat.le_of_ble_eq_true rfl) ⟨Nat.le_of_ble_eq_true rfl, Nat.le_of_ble_eq_true rfl⟩ e5 ?_
    refine ev_iconst (pc := 169) (v := (-1)) dL_shows_169 (by decide) ?_
    refine ev_ic_ne (pc := 170) (tgt := 187) dL_shows_170 (by decide) (fun c_170 => absurd rfl c_170) (fun _ => ?_)
    refine ev_aload_n (pc := 173) dL_shows_173 rfl rfl ?_
    refine ev_iload_n (pc := 174) dL_shows_174 rfl rfl ?_
    refine ev_ldc (pc := 175) dL_shows_175 ki_L_9 ?_
    refine cX3 (pc := 177) lk_L_shows_177 (Nat.le_of_ble_eq_true rfl) ⟨Nat.le_of_ble_eq_true rfl, Nat.le_of_ble_eq_true rfl⟩ e6 ?_
    refine ev_aload (pc := 180) dL_shows_180 rfl ?_
    refine ev_iconst (pc := 182) (v := 0) dL_shows_182 (by decide) ?_
    refine ev_ialdN (pc := 183) dL_shows_183 (tl_f C6) ⟨(show _ = nI 0 from rfl), by decide, by decide⟩ fF_0 ?_
    refine ev_ic_eq (pc := 184) (tgt := 189) dL_shows_184 (by decide) (fun _ => ?_) (fun c_184 => absurd rfl c_184)
    refine ev_iconst (pc := 189) (v := 0) dL_shows_189 (by decide) ?_
    refine ev_istore (pc := 190) dL_shows_190 rfl rfl ?_
    exact hfin _ _ _ (Nat.le_of_ble_eq_true rfl) (Nat.le_of_ble_eq_true rfl)
end SH
