/-! THE LAW'S CASES 0 to 9 -/
theorem lc_0 {n j kc ks : Nat} {q : Nat × (Nat → Int32)} {A : List mC} {o : Nat → Int64} {v5 v6 v7 : Value} (hA : GI n A) (hw : wf A) (hn : n ≤ 512) (hj : j + 2 < q.1) (hq : q.1 ≤ 1536) (hkc : kc ≤ 500000) (hks : ks ≤ 7000000) (k : LK q n j kc ks) : EvF (m_L_law q) QL 172 [scr1, .ref 0, .ref 21, .ref 34, .int (nI j), v5, v6, v7] [] kc ks (A ++ [ouC o]) := by
  obtain ⟨h34, ⟨fs, h0⟩, -⟩ := id hw
  rcases st_beginBatch hA with ⟨v, hs⟩ | hs
  · obtain ⟨A1, f1, e1, hs⟩ := hs (ouC o)
    obtain ⟨A2, g1, e2, e3, g4⟩ := hs (ouC (vp_updL o 0 v.toInt64))
    obtain ⟨f34, -, ⟨fs1, f21⟩⟩ := id f1
    obtain ⟨g34, -, ⟨fs2, g21⟩⟩ := id g1
    refine ev_aload_n (pc := 172) dL_law_172 rfl rfl ?_
    refine ev_aload_n (pc := 173) dL_law_173 rfl rfl ?_
    refine cX2 (pc := 174) (lk_L_law_174 _) (Nat.le_of_ble_eq_true rfl) ⟨(by show kc + 1 ≤ 601024; omega), (by show ks + 6 ≤ 7293034; omega)⟩ (w_beginBatch hw f1 e1) ?_
    refine ev_istore (pc := 177) dL_law_177 rfl rfl ?_
    refine ev_aload_n (pc := 179) dL_law_179 rfl rfl ?_
    refine cV0 (pc := 180) (lk_L_law_180 _) (ou_0 f21) rfl rfl (Nat.le_of_ble_eq_true rfl) ⟨(by show kc + 1 + 0 ≤ 601024; omega), (by show ks + 6 + 0 ≤ 7293034; omega)⟩ e2 ?_
    refine ev_istore (pc := 183) dL_law_183 rfl rfl ?_
    refine ev_aload_n (pc := 185) dL_law_185 rfl rfl ?_
    refine cV0 (pc := 186) (lk_L_law_186 _) (ou_0 g21) rfl rfl (Nat.le_of_ble_eq_true rfl) ⟨(by show kc + 1 + 0 + 0 ≤ 601024; omega), (by show ks + 6 + 0 + 0 ≤ 7293034; omega)⟩ e3 ?_
    refine ev_iload (pc := 189) dL_law_189 rfl ?_
    refine ev_ic_eq (pc := 191) (tgt := 196) dL_law_191 (by decide) (fun _ => ?_) (fun c_191 => absurd rfl c_191)
    refine ev_iload (pc := 196) dL_law_196 rfl ?_
    refine ev_if_ne (pc := 198) (tgt := 213) dL_law_198 (by decide) (fun c_198 => absurd rfl c_198) (fun _ => ?_)
    refine ev_aload_n (pc := 201) dL_law_201 rfl rfl ?_
    refine ev_iconst (pc := 202) (v := 0) dL_law_202 (by decide) ?_
    refine ev_laldN (pc := 203) dL_law_203 (ou_get g34) ⟨(show _ = nI 0 from rfl), by decide, by decide⟩ pk_uLs ?_
    refine ev_iload (pc := 204) dL_law_204 rfl ?_
    refine ev_i2l (pc := 206) dL_law_206 ?_
    refine ev_lcmp (pc := 207) dL_law_207 ?_
    refine ev_if_eq (pc := 208) (tgt := 213) dL_law_208 (by decide) (fun _ => ?_) (fun c_208 => absurd ((lg_cmp_eq _ _).mpr rfl) c_208)
    refine ev_goto (pc := 213) (tgt := 1662) dL_law_213 (by decide) ?_
    exact k A2 _ _ _ _ _ _ g4 g1 (by show kc + 1 + 0 + 0 ≤ kc + 8; omega) (by show ks + 6 + 0 + 0 ≤ ks + 64; omega)
  · obtain ⟨A1, f1, e1, hs⟩ := hs (ouC o)
    obtain ⟨A2, g1, e2, e3, g4⟩ := hs (ouC o)
    obtain ⟨-, -, ⟨fs1, f21⟩⟩ := id f1
    obtain ⟨-, -, ⟨fs2, g21⟩⟩ := id g1
    refine ev_aload_n (pc := 172) dL_law_172 rfl rfl ?_
    refine ev_aload_n (pc := 173) dL_law_173 rfl rfl ?_
    refine cX2 (pc := 174) (lk_L_law_174 _) (Nat.le_of_ble_eq_true rfl) ⟨(by show kc + 1 ≤ 601024; omega), (by show ks + 6 ≤ 7293034; omega)⟩ (w_beginBatch_T1 hw f1 e1) ?_
    refine ev_istore (pc := 177) dL_law_177 rfl rfl ?_
    refine ev_aload_n (pc := 179) dL_law_179 rfl rfl ?_
    refine cV0 (pc := 180) (lk_L_law_180 _) (ou_0 f21) rfl rfl (Nat.le_of_ble_eq_true rfl) ⟨(by show kc + 1 + 0 ≤ 601024; omega), (by show ks + 6 + 0 ≤ 7293034; omega)⟩ e2 ?_
    refine ev_istore (pc := 183) dL_law_183 rfl rfl ?_
    refine ev_aload_n (pc := 185) dL_law_185 rfl rfl ?_
    refine cV0 (pc := 186) (lk_L_law_186 _) (ou_0 g21) rfl rfl (Nat.le_of_ble_eq_true rfl) ⟨(by show kc + 1 + 0 + 0 ≤ 601024; omega), (by show ks + 6 + 0 + 0 ≤ 7293034; omega)⟩ e3 ?_
    refine ev_iload (pc := 189) dL_law_189 rfl ?_
    refine ev_ic_eq (pc := 191) (tgt := 196) dL_law_191 (by decide) (fun _ => ?_) (fun c_191 => absurd rfl c_191)
    refine ev_iload (pc := 196) dL_law_196 rfl ?_
    refine ev_if_ne (pc := 198) (tgt := 213) dL_law_198 (by decide) (fun _ => ?_) (fun c_198 => absurd c_198 (by decide))
    refine ev_goto (pc := 213) (tgt := 1662) dL_law_213 (by decide) ?_
    exact k A2 _ _ _ _ _ _ g4 g1 (by show kc + 1 + 0 + 0 ≤ kc + 8; omega) (by show ks + 6 + 0 + 0 ≤ ks + 64; omega)
theorem lc_1 {n j kc ks : Nat} {q : Nat × (Nat → Int32)} {A : List mC} {o : Nat → Int64} {v5 v6 v7 : Value} (hA : GI n A) (hw : wf A) (hn : n ≤ 512) (hj : j + 2 < q.1) (hq : q.1 ≤ 1536) (hkc : kc ≤ 500000) (hks : ks ≤ 7000000) (k : LK q n j kc ks) : EvF (m_L_law q) QL 216 [scr1, .ref 0, .ref 21, .ref 34, .int (nI j), v5, v6, v7] [] kc ks (A ++ [ouC o]) := by
  obtain ⟨h34, ⟨fs, h0⟩, -⟩ := id hw
  obtain ⟨a, hs⟩ := st_hasBatch hA
  obtain ⟨A1, f1, e1, hs⟩ := hs (ouC o)
  obtain ⟨A2, g1, e2, e3, g4⟩ := hs (ouC o)
  obtain ⟨-, -, ⟨fs1, f21⟩⟩ := id f1
  refine ev_aload_n (pc := 216) dL_law_216 rfl rfl ?_
  refine cV0 (pc := 217) (lk_L_law_217 _) (ou_0 h0) rfl rfl (Nat.le_of_ble_eq_true rfl) ⟨(by show kc + 0 ≤ 601024; omega), (by show ks + 0 ≤ 7293034; omega)⟩ e1 ?_
  refine ev_aload_n (pc := 220) dL_law_220 rfl rfl ?_
  refine cV0 (pc := 221) (lk_L_law_221 _) (ou_0 f21) rfl rfl (Nat.le_of_ble_eq_true rfl) ⟨(by show kc + 0 + 0 ≤ 601024; omega), (by show ks + 0 + 0 ≤ 7293034; omega)⟩ e2 ?_
  refine ev_ic_eq (pc := 224) (tgt := 1662) dL_law_224 (by decide) (fun _ => ?_) (fun c_224 => absurd rfl c_224)
  exact k A2 o v5 v6 v7 _ _ (gi_mono (Nat.le_succ n) g4) g1 (by show kc + 0 + 0 ≤ kc + 8; omega) (by show ks + 0 + 0 ≤ ks + 64; omega)
theorem lc_2 {n j kc ks : Nat} {q : Nat × (Nat → Int32)} {A : List mC} {o : Nat → Int64} {v5 v6 v7 : Value} (hA : GI n A) (hw : wf A) (hn : n ≤ 512) (hj : j + 2 < q.1) (hq : q.1 ≤ 1536) (hkc : kc ≤ 500000) (hks : ks ≤ 7000000) (k : LK q n j kc ks) : EvF (m_L_law q) QL 229 [scr1, .ref 0, .ref 21, .ref 34, .int (nI j), v5, v6, v7] [] kc ks (A ++ [ouC o]) := by
  obtain ⟨h34, ⟨fs, h0⟩, -⟩ := id hw
  rcases st_put hA (q.2 (nI (j + 1)).toNatClampNeg) (q.2 (nI (j + 2)).toNatClampNeg) with ⟨v, hv, hs⟩ | hs | hs
  · obtain ⟨A1, f1, e1, hs⟩ := hs (ouC o)
    obtain ⟨A2, g1, e2, e3, g4⟩ := hs (ouC (vp_updL o 0 v.toInt64))
    obtain ⟨f34, -, ⟨fs1, f21⟩⟩ := id f1
    obtain ⟨g34, -, ⟨fs2, g21⟩⟩ := id g1
    have hv0 := hv
    rcases hv with rfl | rfl
    · refine ev_aload_n (pc := 229) dL_law_229 rfl rfl ?_
      refine ev_aloadS_n (pc := 230) dL_law_230 rfl rfl ?_
      refine ev_iload (pc := 231) dL_law_231 rfl ?_
      refine ev_iconst (pc := 233) (v := 1) dL_law_233 (by decide) ?_
      refine ev_iadd (pc := 234) dL_law_234 ?_
      rw [nI_a1]
      refine ev_sld (pc := 235) dL_law_235 rfl (vp_in_nI (show j + 1 < q.1 by omega) (by omega)) ?_
      refine ev_aloadS_n (pc := 236) dL_law_236 rfl rfl ?_
      refine ev_iload (pc := 237) dL_law_237 rfl ?_
      refine ev_iconst (pc := 239) (v := 2) dL_law_239 (by decide) ?_
      refine ev_iadd (pc := 240) dL_law_240 ?_
      rw [nI_a2]
      refine ev_sld (pc := 241) dL_law_241 rfl (vp_in_nI (show j + 2 < q.1 by omega) (by omega)) ?_
      refine ev_aload_n (pc := 242) dL_law_242 rfl rfl ?_
      refine cX4 (pc := 243) (lk_L_law_243 _) (Nat.le_of_ble_eq_true rfl) ⟨(by show kc + 2 ≤ 601024; omega), (by show ks + 12 ≤ 7293034; omega)⟩ (w_put hw f1 hv0 e1) ?_
      refine ev_istore (pc := 246) dL_law_246 rfl rfl ?_
      refine ev_aload_n (pc := 248) dL_law_248 rfl rfl ?_
      refine ev_aloadS_n (pc := 249) dL_law_249 rfl rfl ?_
      refine ev_iload (pc := 250) dL_law_250 rfl ?_
      refine ev_iconst (pc := 252) (v := 1) dL_law_252 (by decide) ?_
      refine ev_iadd (pc := 253) dL_law_253 ?_
      rw [nI_a1]
      refine ev_sld (pc := 254) dL_law_254 rfl (vp_in_nI (show j + 1 < q.1 by omega) (by omega)) ?_
      refine ev_aloadS_n (pc := 255) dL_law_255 rfl rfl ?_
      refine ev_iload (pc := 256) dL_law_256 rfl ?_
      refine ev_iconst (pc := 258) (v := 2) dL_law_258 (by decide) ?_
      refine ev_iadd (pc := 259) dL_law_259 ?_
      rw [nI_a2]
      refine ev_sld (pc := 260) dL_law_260 rfl (vp_in_nI (show j + 2 < q.1 by omega) (by omega)) ?_
      refine cV2 (pc := 261) (lk_L_law_261 _) (ou_0 f21) rfl rfl (Nat.le_of_ble_eq_true rfl) ⟨(by show kc + 2 + 0 ≤ 601024; omega), (by show ks + 12 + 0 ≤ 7293034; omega)⟩ e2 ?_
      refine ev_istore (pc := 264) dL_law_264 rfl rfl ?_
      refine ev_aload_n (pc := 266) dL_law_266 rfl rfl ?_
      refine cV0 (pc := 267) (lk_L_law_267 _) (ou_0 g21) rfl rfl (Nat.le_of_ble_eq_true rfl) ⟨(by show kc + 2 + 0 + 0 ≤ 601024; omega), (by show ks + 12 + 0 + 0 ≤ 7293034; omega)⟩ e3 ?_
      refine ev_iload (pc := 270) dL_law_270 rfl ?_
      refine ev_ic_eq (pc := 272) (tgt := 277) dL_law_272 (by decide) (fun _ => ?_) (fun c_272 => absurd rfl c_272)
      refine ev_iload (pc := 277) dL_law_277 rfl ?_
      refine ev_if_ne (pc := 279) (tgt := 301) dL_law_279 (by decide) (fun c_279 => absurd rfl c_279) (fun _ => ?_)
      refine ev_aload_n (pc := 282) dL_law_282 rfl rfl ?_
      refine ev_iconst (pc := 283) (v := 0) dL_law_283 (by decide) ?_
      refine ev_laldN (pc := 284) dL_law_284 (ou_get g34) ⟨(show _ = nI 0 from rfl), by decide, by decide⟩ pk_uLs ?_
      refine ev_iload (pc := 285) dL_law_285 rfl ?_
      refine ev_if_eq (pc := 287) (tgt := 294) dL_law_287 (by decide) (fun _ => ?_) (fun c_287 => absurd rfl c_287)
      refine ev_lconst (pc := 294) (v := 0) dL_law_294 (by decide) ?_
      refine ev_lcmp (pc := 295) dL_law_295 ?_
      refine ev_if_eq (pc := 296) (tgt := 301) dL_law_296 (by decide) (fun _ => ?_) (fun c_296 => absurd ((lg_cmp_eq _ _).mpr rfl) c_296)
      refine ev_goto (pc := 301) (tgt := 1662) dL_law_301 (by decide) ?_
      exact k A2 _ _ _ _ _ _ (gi_mono (Nat.le_succ n) g4) g1 (by show kc + 2 + 0 + 0 ≤ kc + 8; omega) (by show ks + 12 + 0 + 0 ≤ ks + 64; omega)
    · refine ev_aload_n (pc := 229) dL_law_229 rfl rfl ?_
      refine ev_aloadS_n (pc := 230) dL_law_230 rfl rfl ?_
      refine ev_iload (pc := 231) dL_law_231 rfl ?_
      refine ev_iconst (pc := 233) (v := 1) dL_law_233 (by decide) ?_
      refine ev_iadd (pc := 234) dL_law_234 ?_
      rw [nI_a1]
      refine ev_sld (pc := 235) dL_law_235 rfl (vp_in_nI (show j + 1 < q.1 by omega) (by omega)) ?_
      refine ev_aloadS_n (pc := 236) dL_law_236 rfl rfl ?_
      refine ev_iload (pc := 237) dL_law_237 rfl ?_
      refine ev_iconst (pc := 239) (v := 2) dL_law_239 (by decide) ?_
      refine ev_iadd (pc := 240) dL_law_240 ?_
      rw [nI_a2]
      refine ev_sld (pc := 241) dL_law_241 rfl (vp_in_nI (show j + 2 < q.1 by omega) (by omega)) ?_
      refine ev_aload_n (pc := 242) dL_law_242 rfl rfl ?_
      refine cX4 (pc := 243) (lk_L_law_243 _) (Nat.le_of_ble_eq_true rfl) ⟨(by show kc + 2 ≤ 601024; omega), (by show ks + 12 ≤ 7293034; omega)⟩ (w_put hw f1 hv0 e1) ?_
      refine ev_istore (pc := 246) dL_law_246 rfl rfl ?_
      refine ev_aload_n (pc := 248) dL_law_248 rfl rfl ?_
      refine ev_aloadS_n (pc := 249) dL_law_249 rfl rfl ?_
      refine ev_iload (pc := 250) dL_law_250 rfl ?_
      refine ev_iconst (pc := 252) (v := 1) dL_law_252 (by decide) ?_
      refine ev_iadd (pc := 253) dL_law_253 ?_
      rw [nI_a1]
      refine ev_sld (pc := 254) dL_law_254 rfl (vp_in_nI (show j + 1 < q.1 by omega) (by omega)) ?_
      refine ev_aloadS_n (pc := 255) dL_law_255 rfl rfl ?_
      refine ev_iload (pc := 256) dL_law_256 rfl ?_
      refine ev_iconst (pc := 258) (v := 2) dL_law_258 (by decide) ?_
      refine ev_iadd (pc := 259) dL_law_259 ?_
      rw [nI_a2]
      refine ev_sld (pc := 260) dL_law_260 rfl (vp_in_nI (show j + 2 < q.1 by omega) (by omega)) ?_
      refine cV2 (pc := 261) (lk_L_law_261 _) (ou_0 f21) rfl rfl (Nat.le_of_ble_eq_true rfl) ⟨(by show kc + 2 + 0 ≤ 601024; omega), (by show ks + 12 + 0 ≤ 7293034; omega)⟩ e2 ?_
      refine ev_istore (pc := 264) dL_law_264 rfl rfl ?_
      refine ev_aload_n (pc := 266) dL_law_266 rfl rfl ?_
      refine cV0 (pc := 267) (lk_L_law_267 _) (ou_0 g21) rfl rfl (Nat.le_of_ble_eq_true rfl) ⟨(by show kc + 2 + 0 + 0 ≤ 601024; omega), (by show ks + 12 + 0 + 0 ≤ 7293034; omega)⟩ e3 ?_
      refine ev_iload (pc := 270) dL_law_270 rfl ?_
      refine ev_ic_eq (pc := 272) (tgt := 277) dL_law_272 (by decide) (fun _ => ?_) (fun c_272 => absurd rfl c_272)
      refine ev_iload (pc := 277) dL_law_277 rfl ?_
      refine ev_if_ne (pc := 279) (tgt := 301) dL_law_279 (by decide) (fun c_279 => absurd rfl c_279) (fun _ => ?_)
      refine ev_aload_n (pc := 282) dL_law_282 rfl rfl ?_
      refine ev_iconst (pc := 283) (v := 0) dL_law_283 (by decide) ?_
      refine ev_laldN (pc := 284) dL_law_284 (ou_get g34) ⟨(show _ = nI 0 from rfl), by decide, by decide⟩ pk_uLs ?_
      refine ev_iload (pc := 285) dL_law_285 rfl ?_
      refine ev_if_eq (pc := 287) (tgt := 294) dL_law_287 (by decide) (fun c_287 => absurd c_287 (by decide)) (fun _ => ?_)
      refine ev_lconst (pc := 290) (v := 1) dL_law_290 (by decide) ?_
      refine ev_goto (pc := 291) (tgt := 295) dL_law_291 (by decide) ?_
      refine ev_lcmp (pc := 295) dL_law_295 ?_
      refine ev_if_eq (pc := 296) (tgt := 301) dL_law_296 (by decide) (fun _ => ?_) (fun c_296 => absurd ((lg_cmp_eq _ _).mpr rfl) c_296)
      refine ev_goto (pc := 301) (tgt := 1662) dL_law_301 (by decide) ?_
      exact k A2 _ _ _ _ _ _ (gi_mono (Nat.le_succ n) g4) g1 (by show kc + 2 + 0 + 0 ≤ kc + 8; omega) (by show ks + 12 + 0 + 0 ≤ ks + 64; omega)
  · obtain ⟨A1, f1, e1, hs⟩ := hs (ouC o)
    obtain ⟨A2, g1, e2, e3, g4⟩ := hs (ouC o)
    obtain ⟨-, -, ⟨fs1, f21⟩⟩ := id f1
    obtain ⟨-, -, ⟨fs2, g21⟩⟩ := id g1
    refine ev_aload_n (pc := 229) dL_law_229 rfl rfl ?_
    refine ev_aloadS_n (pc := 230) dL_law_230 rfl rfl ?_
    refine ev_iload (pc := 231) dL_law_231 rfl ?_
    refine ev_iconst (pc := 233) (v := 1) dL_law_233 (by decide) ?_
    refine ev_iadd (pc := 234) dL_law_234 ?_
    rw [nI_a1]
    refine ev_sld (pc := 235) dL_law_235 rfl (vp_in_nI (show j + 1 < q.1 by omega) (by omega)) ?_
    refine ev_aloadS_n (pc := 236) dL_law_236 rfl rfl ?_
    refine ev_iload (pc := 237) dL_law_237 rfl ?_
    refine ev_iconst (pc := 239) (v := 2) dL_law_239 (by decide) ?_
    refine ev_iadd (pc := 240) dL_law_240 ?_
    rw [nI_a2]
    refine ev_sld (pc := 241) dL_law_241 rfl (vp_in_nI (show j + 2 < q.1 by omega) (by omega)) ?_
    refine ev_aload_n (pc := 242) dL_law_242 rfl rfl ?_
    refine cX4 (pc := 243) (lk_L_law_243 _) (Nat.le_of_ble_eq_true rfl) ⟨(by show kc + 2 ≤ 601024; omega), (by show ks + 12 ≤ 7293034; omega)⟩ (w_put_T1 hw f1 e1) ?_
    refine ev_istore (pc := 246) dL_law_246 rfl rfl ?_
    refine ev_aload_n (pc := 248) dL_law_248 rfl rfl ?_
    refine ev_aloadS_n (pc := 249) dL_law_249 rfl rfl ?_
    refine ev_iload (pc := 250) dL_law_250 rfl ?_
    refine ev_iconst (pc := 252) (v := 1) dL_law_252 (by decide) ?_
    refine ev_iadd (pc := 253) dL_law_253 ?_
    rw [nI_a1]
    refine ev_sld (pc := 254) dL_law_254 rfl (vp_in_nI (show j + 1 < q.1 by omega) (by omega)) ?_
    refine ev_aloadS_n (pc := 255) dL_law_255 rfl rfl ?_
    refine ev_iload (pc := 256) dL_law_256 rfl ?_
    refine ev_iconst (pc := 258) (v := 2) dL_law_258 (by decide) ?_
    refine ev_iadd (pc := 259) dL_law_259 ?_
    rw [nI_a2]
    refine ev_sld (pc := 260) dL_law_260 rfl (vp_in_nI (show j + 2 < q.1 by omega) (by omega)) ?_
    refine cV2 (pc := 261) (lk_L_law_261 _) (ou_0 f21) rfl rfl (Nat.le_of_ble_eq_true rfl) ⟨(by show kc + 2 + 0 ≤ 601024; omega), (by show ks + 12 + 0 ≤ 7293034; omega)⟩ e2 ?_
    refine ev_istore (pc := 264) dL_law_264 rfl rfl ?_
    refine ev_aload_n (pc := 266) dL_law_266 rfl rfl ?_
    refine cV0 (pc := 267) (lk_L_law_267 _) (ou_0 g21) rfl rfl (Nat.le_of_ble_eq_true rfl) ⟨(by show kc + 2 + 0 + 0 ≤ 601024; omega), (by show ks + 12 + 0 + 0 ≤ 7293034; omega)⟩ e3 ?_
    refine ev_iload (pc := 270) dL_law_270 rfl ?_
    refine ev_ic_eq (pc := 272) (tgt := 277) dL_law_272 (by decide) (fun _ => ?_) (fun c_272 => absurd rfl c_272)
    refine ev_iload (pc := 277) dL_law_277 rfl ?_
    refine ev_if_ne (pc := 279) (tgt := 301) dL_law_279 (by decide) (fun _ => ?_) (fun c_279 => absurd c_279 (by decide))
    refine ev_goto (pc := 301) (tgt := 1662) dL_law_301 (by decide) ?_
    exact k A2 _ _ _ _ _ _ (gi_mono (Nat.le_succ n) g4) g1 (by show kc + 2 + 0 + 0 ≤ kc + 8; omega) (by show ks + 12 + 0 + 0 ≤ ks + 64; omega)
  · obtain ⟨A1, f1, e1, hs⟩ := hs (ouC o)
    obtain ⟨A2, g1, e2, e3, g4⟩ := hs (ouC o)
    obtain ⟨-, -, ⟨fs1, f21⟩⟩ := id f1
    obtain ⟨-, -, ⟨fs2, g21⟩⟩ := id g1
    refine ev_aload_n (pc := 229) dL_law_229 rfl rfl ?_
    refine ev_aloadS_n (pc := 230) dL_law_230 rfl rfl ?_
    refine ev_iload (pc := 231) dL_law_231 rfl ?_
    refine ev_iconst (pc := 233) (v := 1) dL_law_233 (by decide) ?_
    refine ev_iadd (pc := 234) dL_law_234 ?_
    rw [nI_a1]
    refine ev_sld (pc := 235) dL_law_235 rfl (vp_in_nI (show j + 1 < q.1 by omega) (by omega)) ?_
    refine ev_aloadS_n (pc := 236) dL_law_236 rfl rfl ?_
    refine ev_iload (pc := 237) dL_law_237 rfl ?_
    refine ev_iconst (pc := 239) (v := 2) dL_law_239 (by decide) ?_
    refine ev_iadd (pc := 240) dL_law_240 ?_
    rw [nI_a2]
    refine ev_sld (pc := 241) dL_law_241 rfl (vp_in_nI (show j + 2 < q.1 by omega) (by omega)) ?_
    refine ev_aload_n (pc := 242) dL_law_242 rfl rfl ?_
    refine cX4 (pc := 243) (lk_L_law_243 _) (Nat.le_of_ble_eq_true rfl) ⟨(by show kc + 2 ≤ 601024; omega), (by show ks + 12 ≤ 7293034; omega)⟩ (w_put_T2 hw f1 e1) ?_
    refine ev_istore (pc := 246) dL_law_246 rfl rfl ?_
    refine ev_aload_n (pc := 248) dL_law_248 rfl rfl ?_
    refine ev_aloadS_n (pc := 249) dL_law_249 rfl rfl ?_
    refine ev_iload (pc := 250) dL_law_250 rfl ?_
    refine ev_iconst (pc := 252) (v := 1) dL_law_252 (by decide) ?_
    refine ev_iadd (pc := 253) dL_law_253 ?_
    rw [nI_a1]
    refine ev_sld (pc := 254) dL_law_254 rfl (vp_in_nI (show j + 1 < q.1 by omega) (by omega)) ?_
    refine ev_aloadS_n (pc := 255) dL_law_255 rfl rfl ?_
    refine ev_iload (pc := 256) dL_law_256 rfl ?_
    refine ev_iconst (pc := 258) (v := 2) dL_law_258 (by decide) ?_
    refine ev_iadd (pc := 259) dL_law_259 ?_
    rw [nI_a2]
    refine ev_sld (pc := 260) dL_law_260 rfl (vp_in_nI (show j + 2 < q.1 by omega) (by omega)) ?_
    refine cV2 (pc := 261) (lk_L_law_261 _) (ou_0 f21) rfl rfl (Nat.le_of_ble_eq_true rfl) ⟨(by show kc + 2 + 0 ≤ 601024; omega), (by show ks + 12 + 0 ≤ 7293034; omega)⟩ e2 ?_
    refine ev_istore (pc := 264) dL_law_264 rfl rfl ?_
    refine ev_aload_n (pc := 266) dL_law_266 rfl rfl ?_
    refine cV0 (pc := 267) (lk_L_law_267 _) (ou_0 g21) rfl rfl (Nat.le_of_ble_eq_true rfl) ⟨(by show kc + 2 + 0 + 0 ≤ 601024; omega), (by show ks + 12 + 0 + 0 ≤ 7293034; omega)⟩ e3 ?_
    refine ev_iload (pc := 270) dL_law_270 rfl ?_
    refine ev_ic_eq (pc := 272) (tgt := 277) dL_law_272 (by decide) (fun _ => ?_) (fun c_272 => absurd rfl c_272)
    refine ev_iload (pc := 277) dL_law_277 rfl ?_
    refine ev_if_ne (pc := 279) (tgt := 301) dL_law_279 (by decide) (fun _ => ?_) (fun c_279 => absurd c_279 (by decide))
    refine ev_goto (pc := 301) (tgt := 1662) dL_law_301 (by decide) ?_
    exact k A2 _ _ _ _ _ _ (gi_mono (Nat.le_succ n) g4) g1 (by show kc + 2 + 0 + 0 ≤ kc + 8; omega) (by show ks + 12 + 0 + 0 ≤ ks + 64; omega)
theorem lc_3 {n j kc ks : Nat} {q : Nat × (Nat → Int32)} {A : List mC} {o : Nat → Int64} {v5 v6 v7 : Value} (hA : GI n A) (hw : wf A) (hn : n ≤ 512) (hj : j + 2 < q.1) (hq : q.1 ≤ 1536) (hkc : kc ≤ 500000) (hks : ks ≤ 7000000) (k : LK q n j kc ks) : EvF (m_L_law q) QL 304 [scr1, .ref 0, .ref 21, .ref 34, .int (nI j), v5, v6, v7] [] kc ks (A ++ [ouC o]) := by
  obtain ⟨h34, ⟨fs, h0⟩, -⟩ := id hw
  rcases st_delete hA (q.2 (nI (j + 1)).toNatClampNeg) with ⟨v, hs⟩ | hs | hs | hs
  · obtain ⟨A1, f1, e1, hs⟩ := hs (ouC o)
    obtain ⟨A2, g1, e2, e3, g4⟩ := hs (ouC (vp_updL o 0 v.toInt64))
    obtain ⟨f34, -, ⟨fs1, f21⟩⟩ := id f1
    obtain ⟨g34, -, ⟨fs2, g21⟩⟩ := id g1
    refine ev_aload_n (pc := 304) dL_law_304 rfl rfl ?_
    refine ev_aloadS_n (pc := 305) dL_law_305 rfl rfl ?_
    refine ev_iload (pc := 306) dL_law_306 rfl ?_
    refine ev_iconst (pc := 308) (v := 1) dL_law_308 (by decide) ?_
    refine ev_iadd (pc := 309) dL_law_309 ?_
    rw [nI_a1]
    refine ev_sld (pc := 310) dL_law_310 rfl (vp_in_nI (show j + 1 < q.1 by omega) (by omega)) ?_
    refine ev_aload_n (pc := 311) dL_law_311 rfl rfl ?_
    refine cX3 (pc := 312) (lk_L_law_312 _) (Nat.le_of_ble_eq_true rfl) ⟨(by show kc + 3 ≤ 601024; omega), (by show ks + 18 ≤ 7293034; omega)⟩ (w_delete hw f1 e1) ?_
    refine ev_istore (pc := 315) dL_law_315 rfl rfl ?_
    refine ev_aload_n (pc := 317) dL_law_317 rfl rfl ?_
    refine ev_aloadS_n (pc := 318) dL_law_318 rfl rfl ?_
    refine ev_iload (pc := 319) dL_law_319 rfl ?_
    refine ev_iconst (pc := 321) (v := 1) dL_law_321 (by decide) ?_
    refine ev_iadd (pc := 322) dL_law_322 ?_
    rw [nI_a1]
    refine ev_sld (pc := 323) dL_law_323 rfl (vp_in_nI (show j + 1 < q.1 by omega) (by omega)) ?_
    refine cV1 (pc := 324) (lk_L_law_324 _) (ou_0 f21) rfl rfl (Nat.le_of_ble_eq_true rfl) ⟨(by show kc + 3 + 0 ≤ 601024; omega), (by show ks + 18 + 0 ≤ 7293034; omega)⟩ e2 ?_
    refine ev_istore (pc := 327) dL_law_327 rfl rfl ?_
    refine ev_aload_n (pc := 329) dL_law_329 rfl rfl ?_
    refine cV0 (pc := 330) (lk_L_law_330 _) (ou_0 g21) rfl rfl (Nat.le_of_ble_eq_true rfl) ⟨(by show kc + 3 + 0 + 0 ≤ 601024; omega), (by show ks + 18 + 0 + 0 ≤ 7293034; omega)⟩ e3 ?_
    refine ev_iload (pc := 333) dL_law_333 rfl ?_
    refine ev_ic_eq (pc := 335) (tgt := 340) dL_law_335 (by decide) (fun _ => ?_) (fun c_335 => absurd rfl c_335)
    refine ev_iload (pc := 340) dL_law_340 rfl ?_
    refine ev_if_ne (pc := 342) (tgt := 357) dL_law_342 (by decide) (fun c_342 => absurd rfl c_342) (fun _ => ?_)
    refine ev_aload_n (pc := 345) dL_law_345 rfl rfl ?_
    refine ev_iconst (pc := 346) (v := 0) dL_law_346 (by decide) ?_
    refine ev_laldN (pc := 347) dL_law_347 (ou_get g34) ⟨(show _ = nI 0 from rfl), by decide, by decide⟩ pk_uLs ?_
    refine ev_iload (pc := 348) dL_law_348 rfl ?_
    refine ev_i2l (pc := 350) dL_law_350 ?_
    refine ev_lcmp (pc := 351) dL_law_351 ?_
    refine ev_if_eq (pc := 352) (tgt := 357) dL_law_352 (by decide) (fun _ => ?_) (fun c_352 => absurd ((lg_cmp_eq _ _).mpr rfl) c_352)
    refine ev_goto (pc := 357) (tgt := 1662) dL_law_357 (by decide) ?_
    exact k A2 _ _ _ _ _ _ (gi_mono (Nat.le_succ n) g4) g1 (by show kc + 3 + 0 + 0 ≤ kc + 8; omega) (by show ks + 18 + 0 + 0 ≤ ks + 64; omega)
  · obtain ⟨A1, f1, e1, hs⟩ := hs (ouC o)
    obtain ⟨A2, g1, e2, e3, g4⟩ := hs (ouC o)
    obtain ⟨-, -, ⟨fs1, f21⟩⟩ := id f1
    obtain ⟨-, -, ⟨fs2, g21⟩⟩ := id g1
    refine ev_aload_n (pc := 304) dL_law_304 rfl rfl ?_
    refine ev_aloadS_n (pc := 305) dL_law_305 rfl rfl ?_
    refine ev_iload (pc := 306) dL_law_306 rfl ?_
    refine ev_iconst (pc := 308) (v := 1) dL_law_308 (by decide) ?_
    refine ev_iadd (pc := 309) dL_law_309 ?_
    rw [nI_a1]
    refine ev_sld (pc := 310) dL_law_310 rfl (vp_in_nI (show j + 1 < q.1 by omega) (by omega)) ?_
    refine ev_aload_n (pc := 311) dL_law_311 rfl rfl ?_
    refine cX3 (pc := 312) (lk_L_law_312 _) (Nat.le_of_ble_eq_true rfl) ⟨(by show kc + 3 ≤ 601024; omega), (by show ks + 18 ≤ 7293034; omega)⟩ (w_delete_T1 hw f1 e1) ?_
    refine ev_istore (pc := 315) dL_law_315 rfl rfl ?_
    refine ev_aload_n (pc := 317) dL_law_317 rfl rfl ?_
    refine ev_aloadS_n (pc := 318) dL_law_318 rfl rfl ?_
    refine ev_iload (pc := 319) dL_law_319 rfl ?_
    refine ev_iconst (pc := 321) (v := 1) dL_law_321 (by decide) ?_
    refine ev_iadd (pc := 322) dL_law_322 ?_
    rw [nI_a1]
    refine ev_sld (pc := 323) dL_law_323 rfl (vp_in_nI (show j + 1 < q.1 by omega) (by omega)) ?_
    refine cV1 (pc := 324) (lk_L_law_324 _) (ou_0 f21) rfl rfl (Nat.le_of_ble_eq_true rfl) ⟨(by show kc + 3 + 0 ≤ 601024; omega), (by show ks + 18 + 0 ≤ 7293034; omega)⟩ e2 ?_
    refine ev_istore (pc := 327) dL_law_327 rfl rfl ?_
    refine ev_aload_n (pc := 329) dL_law_329 rfl rfl ?_
    refine cV0 (pc := 330) (lk_L_law_330 _) (ou_0 g21) rfl rfl (Nat.le_of_ble_eq_true rfl) ⟨(by show kc + 3 + 0 + 0 ≤ 601024; omega), (by show ks + 18 + 0 + 0 ≤ 7293034; omega)⟩ e3 ?_
    refine ev_iload (pc := 333) dL_law_333 rfl ?_
    refine ev_ic_eq (pc := 335) (tgt := 340) dL_law_335 (by decide) (fun _ => ?_) (fun c_335 => absurd rfl c_335)
    refine ev_iload (pc := 340) dL_law_340 rfl ?_
    refine ev_if_ne (pc := 342) (tgt := 357) dL_law_342 (by decide) (fun _ => ?_) (fun c_342 => absurd c_342 (by decide))
    refine ev_goto (pc := 357) (tgt := 1662) dL_law_357 (by decide) ?_
    exact k A2 _ _ _ _ _ _ (gi_mono (Nat.le_succ n) g4) g1 (by show kc + 3 + 0 + 0 ≤ kc + 8; omega) (by show ks + 18 + 0 + 0 ≤ ks + 64; omega)
  · obtain ⟨A1, f1, e1, hs⟩ := hs (ouC o)
    obtain ⟨A2, g1, e2, e3, g4⟩ := hs (ouC o)
    obtain ⟨-, -, ⟨fs1, f21⟩⟩ := id f1
    obtain ⟨-, -, ⟨fs2, g21⟩⟩ := id g1
    refine ev_aload_n (pc := 304) dL_law_304 rfl rfl ?_
    refine ev_aloadS_n (pc := 305) dL_law_305 rfl rfl ?_
    refine ev_iload (pc := 306) dL_law_306 rfl ?_
    refine ev_iconst (pc := 308) (v := 1) dL_law_308 (by decide) ?_
    refine ev_iadd (pc := 309) dL_law_309 ?_
    rw [nI_a1]
    refine ev_sld (pc := 310) dL_law_310 rfl (vp_in_nI (show j + 1 < q.1 by omega) (by omega)) ?_
    refine ev_aload_n (pc := 311) dL_law_311 rfl rfl ?_
    refine cX3 (pc := 312) (lk_L_law_312 _) (Nat.le_of_ble_eq_true rfl) ⟨(by show kc + 3 ≤ 601024; omega), (by show ks + 18 ≤ 7293034; omega)⟩ (w_delete_T2 hw f1 e1) ?_
    refine ev_istore (pc := 315) dL_law_315 rfl rfl ?_
    refine ev_aload_n (pc := 317) dL_law_317 rfl rfl ?_
    refine ev_aloadS_n (pc := 318) dL_law_318 rfl rfl ?_
    refine ev_iload (pc := 319) dL_law_319 rfl ?_
    refine ev_iconst (pc := 321) (v := 1) dL_law_321 (by decide) ?_
    refine ev_iadd (pc := 322) dL_law_322 ?_
    rw [nI_a1]
    refine ev_sld (pc := 323) dL_law_323 rfl (vp_in_nI (show j + 1 < q.1 by omega) (by omega)) ?_
    refine cV1 (pc := 324) (lk_L_law_324 _) (ou_0 f21) rfl rfl (Nat.le_of_ble_eq_true rfl) ⟨(by show kc + 3 + 0 ≤ 601024; omega), (by show ks + 18 + 0 ≤ 7293034; omega)⟩ e2 ?_
    refine ev_istore (pc := 327) dL_law_327 rfl rfl ?_
    refine ev_aload_n (pc := 329) dL_law_329 rfl rfl ?_
    refine cV0 (pc := 330) (lk_L_law_330 _) (ou_0 g21) rfl rfl (Nat.le_of_ble_eq_true rfl) ⟨(by show kc + 3 + 0 + 0 ≤ 601024; omega), (by show ks + 18 + 0 + 0 ≤ 7293034; omega)⟩ e3 ?_
    refine ev_iload (pc := 333) dL_law_333 rfl ?_
    refine ev_ic_eq (pc := 335) (tgt := 340) dL_law_335 (by decide) (fun _ => ?_) (fun c_335 => absurd rfl c_335)
    refine ev_iload (pc := 340) dL_law_340 rfl ?_
    refine ev_if_ne (pc := 342) (tgt := 357) dL_law_342 (by decide) (fun _ => ?_) (fun c_342 => absurd c_342 (by decide))
    refine ev_goto (pc := 357) (tgt := 1662) dL_law_357 (by decide) ?_
    exact k A2 _ _ _ _ _ _ (gi_mono (Nat.le_succ n) g4) g1 (by show kc + 3 + 0 + 0 ≤ kc + 8; omega) (by show ks + 18 + 0 + 0 ≤ ks + 64; omega)
  · obtain ⟨A1, f1, e1, hs⟩ := hs (ouC o)
    obtain ⟨A2, g1, e2, e3, g4⟩ := hs (ouC o)
    obtain ⟨-, -, ⟨fs1, f21⟩⟩ := id f1
    obtain ⟨-, -, ⟨fs2, g21⟩⟩ := id g1
    refine ev_aload_n (pc := 304) dL_law_304 rfl rfl ?_
    refine ev_aloadS_n (pc := 305) dL_law_305 rfl rfl ?_
    refine ev_iload (pc := 306) dL_law_306 rfl ?_
    refine ev_iconst (pc := 308) (v := 1) dL_law_308 (by decide) ?_
    refine ev_iadd (pc := 309) dL_law_309 ?_
    rw [nI_a1]
    refine ev_sld (pc := 310) dL_law_310 rfl (vp_in_nI (show j + 1 < q.1 by omega) (by omega)) ?_
    refine ev_aload_n (pc := 311) dL_law_311 rfl rfl ?_
    refine cX3 (pc := 312) (lk_L_law_312 _) (Nat.le_of_ble_eq_true rfl) ⟨(by show kc + 3 ≤ 601024; omega), (by show ks + 18 ≤ 7293034; omega)⟩ (w_delete_T3 hw f1 e1) ?_
    refine ev_istore (pc := 315) dL_law_315 rfl rfl ?_
    refine ev_aload_n (pc := 317) dL_law_317 rfl rfl ?_
    refine ev_aloadS_n (pc := 318) dL_law_318 rfl rfl ?_
    refine ev_iload (pc := 319) dL_law_319 rfl ?_
    refine ev_iconst (pc := 321) (v := 1) dL_law_321 (by decide) ?_
    refine ev_iadd (pc := 322) dL_law_322 ?_
    rw [nI_a1]
    refine ev_sld (pc := 323) dL_law_323 rfl (vp_in_nI (show j + 1 < q.1 by omega) (by omega)) ?_
    refine cV1 (pc := 324) (lk_L_law_324 _) (ou_0 f21) rfl rfl (Nat.le_of_ble_eq_true rfl) ⟨(by show kc + 3 + 0 ≤ 601024; omega), (by show ks + 18 + 0 ≤ 7293034; omega)⟩ e2 ?_
    refine ev_istore (pc := 327) dL_law_327 rfl rfl ?_
    refine ev_aload_n (pc := 329) dL_law_329 rfl rfl ?_
    refine cV0 (pc := 330) (lk_L_law_330 _) (ou_0 g21) rfl rfl (Nat.le_of_ble_eq_true rfl) ⟨(by show kc + 3 + 0 + 0 ≤ 601024; omega), (by show ks + 18 + 0 + 0 ≤ 7293034; omega)⟩ e3 ?_
    refine ev_iload (pc := 333) dL_law_333 rfl ?_
    refine ev_ic_eq (pc := 335) (tgt := 340) dL_law_335 (by decide) (fun _ => ?_) (fun c_335 => absurd rfl c_335)
    refine ev_iload (pc := 340) dL_law_340 rfl ?_
    refine ev_if_ne (pc := 342) (tgt := 357) dL_law_342 (by decide) (fun _ => ?_) (fun c_342 => absurd c_342 (by decide))
    refine ev_goto (pc := 357) (tgt := 1662) dL_law_357 (by decide) ?_
    exact k A2 _ _ _ _ _ _ (gi_mono (Nat.le_succ n) g4) g1 (by show kc + 3 + 0 + 0 ≤ kc + 8; omega) (by show ks + 18 + 0 + 0 ≤ ks + 64; omega)
theorem lc_4 {n j kc ks : Nat} {q : Nat × (Nat → Int32)} {A : List mC} {o : Nat → Int64} {v5 v6 v7 : Value} (hA : GI n A) (hw : wf A) (hn : n ≤ 512) (hj : j + 2 < q.1) (hq : q.1 ≤ 1536) (hkc : kc ≤ 500000) (hks : ks ≤ 7000000) (k : LK q n j kc ks) : EvF (m_L_law q) QL 360 [scr1, .ref 0, .ref 21, .ref 34, .int (nI j), v5, v6, v7] [] kc ks (A ++ [ouC o]) := by
  obtain ⟨h34, ⟨fs, h0⟩, -⟩ := id hw
  rcases st_commit hA (by omega) with ⟨v, hs⟩ | hs
  · obtain ⟨A1, f1, e1, hs⟩ := hs (ouC o)
    obtain ⟨A2, g1, e2, e3, g4⟩ := hs (ouC (vp_updL o 0 v.toInt64))
    obtain ⟨f34, -, ⟨fs1, f21⟩⟩ := id f1
    obtain ⟨g34, -, ⟨fs2, g21⟩⟩ := id g1
    refine ev_aload_n (pc := 360) dL_law_360 rfl rfl ?_
    refine ev_aload_n (pc := 361) dL_law_361 rfl rfl ?_
    refine cX2 (pc := 362) (lk_L_law_362 _) (Nat.le_of_ble_eq_true rfl) ⟨(by show kc + 1 ≤ 601024; omega), (by show ks + 6 ≤ 7293034; omega)⟩ (w_commit hw f1 e1) ?_
    refine ev_istore (pc := 365) dL_law_365 rfl rfl ?_
    refine ev_aload_n (pc := 367) dL_law_367 rfl rfl ?_
    refine cV0 (pc := 368) (lk_L_law_368 _) (ou_0 f21) rfl rfl (Nat.le_of_ble_eq_true rfl) ⟨(by show kc + 1 + 0 ≤ 601024; omega), (by show ks + 6 + 0 ≤ 7293034; omega)⟩ e2 ?_
    refine ev_istore (pc := 371) dL_law_371 rfl rfl ?_
    refine ev_aload_n (pc := 373) dL_law_373 rfl rfl ?_
    refine cV0 (pc := 374) (lk_L_law_374 _) (ou_0 g21) rfl rfl (Nat.le_of_ble_eq_true rfl) ⟨(by show kc + 1 + 0 + 0 ≤ 601024; omega), (by show ks + 6 + 0 + 0 ≤ 7293034; omega)⟩ e3 ?_
    refine ev_iload (pc := 377) dL_law_377 rfl ?_
    refine ev_ic_eq (pc := 379) (tgt := 384) dL_law_379 (by decide) (fun _ => ?_) (fun c_379 => absurd rfl c_379)
    refine ev_iload (pc := 384) dL_law_384 rfl ?_
    refine ev_if_ne (pc := 386) (tgt := 401) dL_law_386 (by decide) (fun c_386 => absurd rfl c_386) (fun _ => ?_)
    refine ev_aload_n (pc := 389) dL_law_389 rfl rfl ?_
    refine ev_iconst (pc := 390) (v := 0) dL_law_390 (by decide) ?_
    refine ev_laldN (pc := 391) dL_law_391 (ou_get g34) ⟨(show _ = nI 0 from rfl), by decide, by decide⟩ pk_uLs ?_
    refine ev_iload (pc := 392) dL_law_392 rfl ?_
    refine ev_i2l (pc := 394) dL_law_394 ?_
    refine ev_lcmp (pc := 395) dL_law_395 ?_
    refine ev_if_eq (pc := 396) (tgt := 401) dL_law_396 (by decide) (fun _ => ?_) (fun c_396 => absurd ((lg_cmp_eq _ _).mpr rfl) c_396)
    refine ev_goto (pc := 401) (tgt := 1662) dL_law_401 (by decide) ?_
    exact k A2 _ _ _ _ _ _ g4 g1 (by show kc + 1 + 0 + 0 ≤ kc + 8; omega) (by show ks + 6 + 0 + 0 ≤ ks + 64; omega)
  · obtain ⟨A1, f1, e1, hs⟩ := hs (ouC o)
    obtain ⟨A2, g1, e2, e3, g4⟩ := hs (ouC o)
    obtain ⟨-, -, ⟨fs1, f21⟩⟩ := id f1
    obtain ⟨-, -, ⟨fs2, g21⟩⟩ := id g1
    refine ev_aload_n (pc := 360) dL_law_360 rfl rfl ?_
    refine ev_aload_n (pc := 361) dL_law_361 rfl rfl ?_
    refine cX2 (pc := 362) (lk_L_law_362 _) (Nat.le_of_ble_eq_true rfl) ⟨(by show kc + 1 ≤ 601024; omega), (by show ks + 6 ≤ 7293034; omega)⟩ (w_commit_T1 hw f1 e1) ?_
    refine ev_istore (pc := 365) dL_law_365 rfl rfl ?_
    refine ev_aload_n (pc := 367) dL_law_367 rfl rfl ?_
    refine cV0 (pc := 368) (lk_L_law_368 _) (ou_0 f21) rfl rfl (Nat.le_of_ble_eq_true rfl) ⟨(by show kc + 1 + 0 ≤ 601024; omega), (by show ks + 6 + 0 ≤ 7293034; omega)⟩ e2 ?_
    refine ev_istore (pc := 371) dL_law_371 rfl rfl ?_
    refine ev_aload_n (pc := 373) dL_law_373 rfl rfl ?_
    refine cV0 (pc := 374) (lk_L_law_374 _) (ou_0 g21) rfl rfl (Nat.le_of_ble_eq_true rfl) ⟨(by show kc + 1 + 0 + 0 ≤ 601024; omega), (by show ks + 6 + 0 + 0 ≤ 7293034; omega)⟩ e3 ?_
    refine ev_iload (pc := 377) dL_law_377 rfl ?_
    refine ev_ic_eq (pc := 379) (tgt := 384) dL_law_379 (by decide) (fun _ => ?_) (fun c_379 => absurd rfl c_379)
    refine ev_iload (pc := 384) dL_law_384 rfl ?_
    refine ev_if_ne (pc := 386) (tgt := 401) dL_law_386 (by decide) (fun _ => ?_) (fun c_386 => absurd c_386 (by decide))
    refine ev_goto (pc := 401) (tgt := 1662) dL_law_401 (by decide) ?_
    exact k A2 _ _ _ _ _ _ g4 g1 (by show kc + 1 + 0 + 0 ≤ kc + 8; omega) (by show ks + 6 + 0 + 0 ≤ ks + 64; omega)
theorem lc_5 {n j kc ks : Nat} {q : Nat × (Nat → Int32)} {A : List mC} {o : Nat → Int64} {v5 v6 v7 : Value} (hA : GI n A) (hw : wf A) (hn : n ≤ 512) (hj : j + 2 < q.1) (hq : q.1 ≤ 1536) (hkc : kc ≤ 500000) (hks : ks ≤ 7000000) (k : LK q n j kc ks) : EvF (m_L_law q) QL 404 [scr1, .ref 0, .ref 21, .ref 34, .int (nI j), v5, v6, v7] [] kc ks (A ++ [ouC o]) := by
  obtain ⟨h34, ⟨fs, h0⟩, -⟩ := id hw
  rcases st_abandon hA with ⟨v, hs⟩ | hs
  · obtain ⟨A1, f1, e1, hs⟩ := hs (ouC o)
    obtain ⟨A2, g1, e2, e3, g4⟩ := hs (ouC (vp_updL o 0 v.toInt64))
    obtain ⟨f34, -, ⟨fs1, f21⟩⟩ := id f1
    obtain ⟨g34, -, ⟨fs2, g21⟩⟩ := id g1
    refine ev_aload_n (pc := 404) dL_law_404 rfl rfl ?_
    refine ev_aload_n (pc := 405) dL_law_405 rfl rfl ?_
    refine cX2 (pc := 406) (lk_L_law_406 _) (Nat.le_of_ble_eq_true rfl) ⟨(by show kc + 1 ≤ 601024; omega), (by show ks + 6 ≤ 7293034; omega)⟩ (w_abandon hw f1 e1) ?_
    refine ev_istore (pc := 409) dL_law_409 rfl rfl ?_
    refine ev_aload_n (pc := 411) dL_law_411 rfl rfl ?_
    refine cV0 (pc := 412) (lk_L_law_412 _) (ou_0 f21) rfl rfl (Nat.le_of_ble_eq_true rfl) ⟨(by show kc + 1 + 0 ≤ 601024; omega), (by show ks + 6 + 0 ≤ 7293034; omega)⟩ e2 ?_
    refine ev_istore (pc := 415) dL_law_415 rfl rfl ?_
    refine ev_aload_n (pc := 417) dL_law_417 rfl rfl ?_
    refine cV0 (pc := 418) (lk_L_law_418 _) (ou_0 g21) rfl rfl (Nat.le_of_ble_eq_true rfl) ⟨(by show kc + 1 + 0 + 0 ≤ 601024; omega), (by show ks + 6 + 0 + 0 ≤ 7293034; omega)⟩ e3 ?_
    refine ev_iload (pc := 421) dL_law_421 rfl ?_
    refine ev_ic_eq (pc := 423) (tgt := 428) dL_law_423 (by decide) (fun _ => ?_) (fun c_423 => absurd rfl c_423)
    refine ev_iload (pc := 428) dL_law_428 rfl ?_
    refine ev_if_ne (pc := 430) (tgt := 445) dL_law_430 (by decide) (fun c_430 => absurd rfl c_430) (fun _ => ?_)
    refine ev_aload_n (pc := 433) dL_law_433 rfl rfl ?_
    refine ev_iconst (pc := 434) (v := 0) dL_law_434 (by decide) ?_
    refine ev_laldN (pc := 435) dL_law_435 (ou_get g34) ⟨(show _ = nI 0 from rfl), by decide, by decide⟩ pk_uLs ?_
    refine ev_iload (pc := 436) dL_law_436 rfl ?_
    refine ev_i2l (pc := 438) dL_law_438 ?_
    refine ev_lcmp (pc := 439) dL_law_439 ?_
    refine ev_if_eq (pc := 440) (tgt := 445) dL_law_440 (by decide) (fun _ => ?_) (fun c_440 => absurd ((lg_cmp_eq _ _).mpr rfl) c_440)
    refine ev_goto (pc := 445) (tgt := 1662) dL_law_445 (by decide) ?_
    exact k A2 _ _ _ _ _ _ (gi_mono (Nat.le_succ n) g4) g1 (by show kc + 1 + 0 + 0 ≤ kc + 8; omega) (by show ks + 6 + 0 + 0 ≤ ks + 64; omega)
  · obtain ⟨A1, f1, e1, hs⟩ := hs (ouC o)
    obtain ⟨A2, g1, e2, e3, g4⟩ := hs (ouC o)
    obtain ⟨-, -, ⟨fs1, f21⟩⟩ := id f1
    obtain ⟨-, -, ⟨fs2, g21⟩⟩ := id g1
    refine ev_aload_n (pc := 404) dL_law_404 rfl rfl ?_
    refine ev_aload_n (pc := 405) dL_law_405 rfl rfl ?_
    refine cX2 (pc := 406) (lk_L_law_406 _) (Nat.le_of_ble_eq_true rfl) ⟨(by show kc + 1 ≤ 601024; omega), (by show ks + 6 ≤ 7293034; omega)⟩ (w_abandon_T1 hw f1 e1) ?_
    refine ev_istore (pc := 409) dL_law_409 rfl rfl ?_
    refine ev_aload_n (pc := 411) dL_law_411 rfl rfl ?_
    refine cV0 (pc := 412) (lk_L_law_412 _) (ou_0 f21) rfl rfl (Nat.le_of_ble_eq_true rfl) ⟨(by show kc + 1 + 0 ≤ 601024; omega), (by show ks + 6 + 0 ≤ 7293034; omega)⟩ e2 ?_
    refine ev_istore (pc := 415) dL_law_415 rfl rfl ?_
    refine ev_aload_n (pc := 417) dL_law_417 rfl rfl ?_
    refine cV0 (pc := 418) (lk_L_law_418 _) (ou_0 g21) rfl rfl (Nat.le_of_ble_eq_true rfl) ⟨(by show kc + 1 + 0 + 0 ≤ 601024; omega), (by show ks + 6 + 0 + 0 ≤ 7293034; omega)⟩ e3 ?_
    refine ev_iload (pc := 421) dL_law_421 rfl ?_
    refine ev_ic_eq (pc := 423) (tgt := 428) dL_law_423 (by decide) (fun _ => ?_) (fun c_423 => absurd rfl c_423)
    refine ev_iload (pc := 428) dL_law_428 rfl ?_
    refine ev_if_ne (pc := 430) (tgt := 445) dL_law_430 (by decide) (fun _ => ?_) (fun c_430 => absurd c_430 (by decide))
    refine ev_goto (pc := 445) (tgt := 1662) dL_law_445 (by decide) ?_
    exact k A2 _ _ _ _ _ _ (gi_mono (Nat.le_succ n) g4) g1 (by show kc + 1 + 0 + 0 ≤ kc + 8; omega) (by show ks + 6 + 0 + 0 ≤ ks + 64; omega)
theorem lc_6 {n j kc ks : Nat} {q : Nat × (Nat → Int32)} {A : List mC} {o : Nat → Int64} {v5 v6 v7 : Value} (hA : GI n A) (hw : wf A) (hn : n ≤ 512) (hj : j + 2 < q.1) (hq : q.1 ≤ 1536) (hkc : kc ≤ 500000) (hks : ks ≤ 7000000) (k : LK q n j kc ks) : EvF (m_L_law q) QL 448 [scr1, .ref 0, .ref 21, .ref 34, .int (nI j), v5, v6, v7] [] kc ks (A ++ [ouC o]) := by
  obtain ⟨h34, ⟨fs, h0⟩, -⟩ := id hw
  rcases st_openReader hA with ⟨v, hs⟩ | hs
  · obtain ⟨A1, f1, e1, hs⟩ := hs (ouC o)
    obtain ⟨A2, g1, e2, e3, g4⟩ := hs (ouC (vp_updL o 0 v.toInt64))
    obtain ⟨f34, -, ⟨fs1, f21⟩⟩ := id f1
    obtain ⟨g34, -, ⟨fs2, g21⟩⟩ := id g1
    refine ev_aload_n (pc := 448) dL_law_448 rfl rfl ?_
    refine ev_aload_n (pc := 449) dL_law_449 rfl rfl ?_
    refine cX2 (pc := 450) (lk_L_law_450 _) (Nat.le_of_ble_eq_true rfl) ⟨(by show kc + 1 ≤ 601024; omega), (by show ks + 6 ≤ 7293034; omega)⟩ (w_openReader hw f1 e1) ?_
    refine ev_istore (pc := 453) dL_law_453 rfl rfl ?_
    refine ev_aload_n (pc := 455) dL_law_455 rfl rfl ?_
    refine cV0 (pc := 456) (lk_L_law_456 _) (ou_0 f21) rfl rfl (Nat.le_of_ble_eq_true rfl) ⟨(by show kc + 1 + 0 ≤ 601024; omega), (by show ks + 6 + 0 ≤ 7293034; omega)⟩ e2 ?_
    refine ev_istore (pc := 459) dL_law_459 rfl rfl ?_
    refine ev_aload_n (pc := 461) dL_law_461 rfl rfl ?_
    refine cV0 (pc := 462) (lk_L_law_462 _) (ou_0 g21) rfl rfl (Nat.le_of_ble_eq_true rfl) ⟨(by show kc + 1 + 0 + 0 ≤ 601024; omega), (by show ks + 6 + 0 + 0 ≤ 7293034; omega)⟩ e3 ?_
    refine ev_iload (pc := 465) dL_law_465 rfl ?_
    refine ev_ic_eq (pc := 467) (tgt := 472) dL_law_467 (by decide) (fun _ => ?_) (fun c_467 => absurd rfl c_467)
    refine ev_iload (pc := 472) dL_law_472 rfl ?_
    refine ev_if_ne (pc := 474) (tgt := 489) dL_law_474 (by decide) (fun c_474 => absurd rfl c_474) (fun _ => ?_)
    refine ev_aload_n (pc := 477) dL_law_477 rfl rfl ?_
    refine ev_iconst (pc := 478) (v := 0) dL_law_478 (by decide) ?_
    refine ev_laldN (pc := 479) dL_law_479 (ou_get g34) ⟨(show _ = nI 0 from rfl), by decide, by decide⟩ pk_uLs ?_
    refine ev_iload (pc := 480) dL_law_480 rfl ?_
    refine ev_i2l (pc := 482) dL_law_482 ?_
    refine ev_lcmp (pc := 483) dL_law_483 ?_
    refine ev_if_eq (pc := 484) (tgt := 489) dL_law_484 (by decide) (fun _ => ?_) (fun c_484 => absurd ((lg_cmp_eq _ _).mpr rfl) c_484)
    refine ev_goto (pc := 489) (tgt := 1662) dL_law_489 (by decide) ?_
    exact k A2 _ _ _ _ _ _ (gi_mono (Nat.le_succ n) g4) g1 (by show kc + 1 + 0 + 0 ≤ kc + 8; omega) (by show ks + 6 + 0 + 0 ≤ ks + 64; omega)
  · obtain ⟨A1, f1, e1, hs⟩ := hs (ouC o)
    obtain ⟨A2, g1, e2, e3, g4⟩ := hs (ouC o)
    obtain ⟨-, -, ⟨fs1, f21⟩⟩ := id f1
    obtain ⟨-, -, ⟨fs2, g21⟩⟩ := id g1
    refine ev_aload_n (pc := 448) dL_law_448 rfl rfl ?_
    refine ev_aload_n (pc := 449) dL_law_449 rfl rfl ?_
    refine cX2 (pc := 450) (lk_L_law_450 _) (Nat.le_of_ble_eq_true rfl) ⟨(by show kc + 1 ≤ 601024; omega), (by show ks + 6 ≤ 7293034; omega)⟩ (w_openReader_T1 hw f1 e1) ?_
    refine ev_istore (pc := 453) dL_law_453 rfl rfl ?_
    refine ev_aload_n (pc := 455) dL_law_455 rfl rfl ?_
    refine cV0 (pc := 456) (lk_L_law_456 _) (ou_0 f21) rfl rfl (Nat.le_of_ble_eq_true rfl) ⟨(by show kc + 1 + 0 ≤ 601024; omega), (by show ks + 6 + 0 ≤ 7293034; omega)⟩ e2 ?_
    refine ev_istore (pc := 459) dL_law_459 rfl rfl ?_
    refine ev_aload_n (pc := 461) dL_law_461 rfl rfl ?_
    refine cV0 (pc := 462) (lk_L_law_462 _) (ou_0 g21) rfl rfl (Nat.le_of_ble_eq_true rfl) ⟨(by show kc + 1 + 0 + 0 ≤ 601024; omega), (by show ks + 6 + 0 + 0 ≤ 7293034; omega)⟩ e3 ?_
    refine ev_iload (pc := 465) dL_law_465 rfl ?_
    refine ev_ic_eq (pc := 467) (tgt := 472) dL_law_467 (by decide) (fun _ => ?_) (fun c_467 => absurd rfl c_467)
    refine ev_iload (pc := 472) dL_law_472 rfl ?_
    refine ev_if_ne (pc := 474) (tgt := 489) dL_law_474 (by decide) (fun _ => ?_) (fun c_474 => absurd c_474 (by decide))
    refine ev_goto (pc := 489) (tgt := 1662) dL_law_489 (by decide) ?_
    exact k A2 _ _ _ _ _ _ (gi_mono (Nat.le_succ n) g4) g1 (by show kc + 1 + 0 + 0 ≤ kc + 8; omega) (by show ks + 6 + 0 + 0 ≤ ks + 64; omega)
theorem lc_7 {n j kc ks : Nat} {q : Nat × (Nat → Int32)} {A : List mC} {o : Nat → Int64} {v5 v6 v7 : Value} (hA : GI n A) (hw : wf A) (hn : n ≤ 512) (hj : j + 2 < q.1) (hq : q.1 ≤ 1536) (hkc : kc ≤ 500000) (hks : ks ≤ 7000000) (k : LK q n j kc ks) : EvF (m_L_law q) QL 492 [scr1, .ref 0, .ref 21, .ref 34, .int (nI j), v5, v6, v7] [] kc ks (A ++ [ouC o]) := by
  obtain ⟨h34, ⟨fs, h0⟩, -⟩ := id hw
  rcases st_closeReader hA (q.2 (nI (j + 1)).toNatClampNeg) with ⟨v, hs⟩ | hs
  · obtain ⟨A1, f1, e1, hs⟩ := hs (ouC o)
    obtain ⟨A2, g1, e2, e3, g4⟩ := hs (ouC (vp_updL o 0 v.toInt64))
    obtain ⟨f34, -, ⟨fs1, f21⟩⟩ := id f1
    obtain ⟨g34, -, ⟨fs2, g21⟩⟩ := id g1
    refine ev_aload_n (pc := 492) dL_law_492 rfl rfl ?_
    refine ev_aloadS_n (pc := 493) dL_law_493 rfl rfl ?_
    refine ev_iload (pc := 494) dL_law_494 rfl ?_
    refine ev_iconst (pc := 496) (v := 1) dL_law_496 (by decide) ?_
    refine ev_iadd (pc := 497) dL_law_497 ?_
    rw [nI_a1]
    refine ev_sld (pc := 498) dL_law_498 rfl (vp_in_nI (show j + 1 < q.1 by omega) (by omega)) ?_
    refine ev_aload_n (pc := 499) dL_law_499 rfl rfl ?_
    refine cX3 (pc := 500) (lk_L_law_500 _) (Nat.le_of_ble_eq_true rfl) ⟨(by show kc + 1 ≤ 601024; omega), (by show ks + 6 ≤ 7293034; omega)⟩ (w_closeReader hw f1 e1) ?_
    refine ev_istore (pc := 503) dL_law_503 rfl rfl ?_
    refine ev_aload_n (pc := 505) dL_law_505 rfl rfl ?_
    refine ev_aloadS_n (pc := 506) dL_law_506 rfl rfl ?_
    refine ev_iload (pc := 507) dL_law_507 rfl ?_
    refine ev_iconst (pc := 509) (v := 1) dL_law_509 (by decide) ?_
    refine ev_iadd (pc := 510) dL_law_510 ?_
    rw [nI_a1]
    refine ev_sld (pc := 511) dL_law_511 rfl (vp_in_nI (show j + 1 < q.1 by omega) (by omega)) ?_
    refine cV1 (pc := 512) (lk_L_law_512 _) (ou_0 f21) rfl rfl (Nat.le_of_ble_eq_true rfl) ⟨(by show kc + 1 + 0 ≤ 601024; omega), (by show ks + 6 + 0 ≤ 7293034; omega)⟩ e2 ?_
    refine ev_istore (pc := 515) dL_law_515 rfl rfl ?_
    refine ev_aload_n (pc := 517) dL_law_517 rfl rfl ?_
    refine cV0 (pc := 518) (lk_L_law_518 _) (ou_0 g21) rfl rfl (Nat.le_of_ble_eq_true rfl) ⟨(by show kc + 1 + 0 + 0 ≤ 601024; omega), (by show ks + 6 + 0 + 0 ≤ 7293034; omega)⟩ e3 ?_
    refine ev_iload (pc := 521) dL_law_521 rfl ?_
    refine ev_ic_eq (pc := 523) (tgt := 528) dL_law_523 (by decide) (fun _ => ?_) (fun c_523 => absurd rfl c_523)
    refine ev_iload (pc := 528) dL_law_528 rfl ?_
    refine ev_if_ne (pc := 530) (tgt := 545) dL_law_530 (by decide) (fun c_530 => absurd rfl c_530) (fun _ => ?_)
    refine ev_aload_n (pc := 533) dL_law_533 rfl rfl ?_
    refine ev_iconst (pc := 534) (v := 0) dL_law_534 (by decide) ?_
    refine ev_laldN (pc := 535) dL_law_535 (ou_get g34) ⟨(show _ = nI 0 from rfl), by decide, by decide⟩ pk_uLs ?_
    refine ev_iload (pc := 536) dL_law_536 rfl ?_
    refine ev_i2l (pc := 538) dL_law_538 ?_
    refine ev_lcmp (pc := 539) dL_law_539 ?_
    refine ev_if_eq (pc := 540) (tgt := 545) dL_law_540 (by decide) (fun _ => ?_) (fun c_540 => absurd ((lg_cmp_eq _ _).mpr rfl) c_540)
    refine ev_goto (pc := 545) (tgt := 1662) dL_law_545 (by decide) ?_
    exact k A2 _ _ _ _ _ _ (gi_mono (Nat.le_succ n) g4) g1 (by show kc + 1 + 0 + 0 ≤ kc + 8; omega) (by show ks + 6 + 0 + 0 ≤ ks + 64; omega)
  · obtain ⟨A1, f1, e1, hs⟩ := hs (ouC o)
    obtain ⟨A2, g1, e2, e3, g4⟩ := hs (ouC o)
    obtain ⟨-, -, ⟨fs1, f21⟩⟩ := id f1
    obtain ⟨-, -, ⟨fs2, g21⟩⟩ := id g1
    refine ev_aload_n (pc := 492) dL_law_492 rfl rfl ?_
    refine ev_aloadS_n (pc := 493) dL_law_493 rfl rfl ?_
    refine ev_iload (pc := 494) dL_law_494 rfl ?_
    refine ev_iconst (pc := 496) (v := 1) dL_law_496 (by decide) ?_
    refine ev_iadd (pc := 497) dL_law_497 ?_
    rw [nI_a1]
    refine ev_sld (pc := 498) dL_law_498 rfl (vp_in_nI (show j + 1 < q.1 by omega) (by omega)) ?_
    refine ev_aload_n (pc := 499) dL_law_499 rfl rfl ?_
    refine cX3 (pc := 500) (lk_L_law_500 _) (Nat.le_of_ble_eq_true rfl) ⟨(by show kc + 1 ≤ 601024; omega), (by show ks + 6 ≤ 7293034; omega)⟩ (w_closeReader_T1 hw f1 e1) ?_
    refine ev_istore (pc := 503) dL_law_503 rfl rfl ?_
    refine ev_aload_n (pc := 505) dL_law_505 rfl rfl ?_
    refine ev_aloadS_n (pc := 506) dL_law_506 rfl rfl ?_
    refine ev_iload (pc := 507) dL_law_507 rfl ?_
    refine ev_iconst (pc := 509) (v := 1) dL_law_509 (by decide) ?_
    refine ev_iadd (pc := 510) dL_law_510 ?_
    rw [nI_a1]
    refine ev_sld (pc := 511) dL_law_511 rfl (vp_in_nI (show j + 1 < q.1 by omega) (by omega)) ?_
    refine cV1 (pc := 512) (lk_L_law_512 _) (ou_0 f21) rfl rfl (Nat.le_of_ble_eq_true rfl) ⟨(by show kc + 1 + 0 ≤ 601024; omega), (by show ks + 6 + 0 ≤ 7293034; omega)⟩ e2 ?_
    refine ev_istore (pc := 515) dL_law_515 rfl rfl ?_
    refine ev_aload_n (pc := 517) dL_law_517 rfl rfl ?_
    refine cV0 (pc := 518) (lk_L_law_518 _) (ou_0 g21) rfl rfl (Nat.le_of_ble_eq_true rfl) ⟨(by show kc + 1 + 0 + 0 ≤ 601024; omega), (by show ks + 6 + 0 + 0 ≤ 7293034; omega)⟩ e3 ?_
    refine ev_iload (pc := 521) dL_law_521 rfl ?_
    refine ev_ic_eq (pc := 523) (tgt := 528) dL_law_523 (by decide) (fun _ => ?_) (fun c_523 => absurd rfl c_523)
    refine ev_iload (pc := 528) dL_law_528 rfl ?_
    refine ev_if_ne (pc := 530) (tgt := 545) dL_law_530 (by decide) (fun _ => ?_) (fun c_530 => absurd c_530 (by decide))
    refine ev_goto (pc := 545) (tgt := 1662) dL_law_545 (by decide) ?_
    exact k A2 _ _ _ _ _ _ (gi_mono (Nat.le_succ n) g4) g1 (by show kc + 1 + 0 + 0 ≤ kc + 8; omega) (by show ks + 6 + 0 + 0 ≤ ks + 64; omega)
theorem lc_8 {n j kc ks : Nat} {q : Nat × (Nat → Int32)} {A : List mC} {o : Nat → Int64} {v5 v6 v7 : Value} (hA : GI n A) (hw : wf A) (hn : n ≤ 512) (hj : j + 2 < q.1) (hq : q.1 ≤ 1536) (hkc : kc ≤ 500000) (hks : ks ≤ 7000000) (k : LK q n j kc ks) : EvF (m_L_law q) QL 548 [scr1, .ref 0, .ref 21, .ref 34, .int (nI j), v5, v6, v7] [] kc ks (A ++ [ouC o]) := by
  obtain ⟨h34, ⟨fs, h0⟩, -⟩ := id hw
  obtain ⟨a, hs⟩ := st_readers hA
  obtain ⟨A1, f1, e1, hs⟩ := hs (ouC o)
  obtain ⟨A2, g1, e2, e3, g4⟩ := hs (ouC o)
  obtain ⟨-, -, ⟨fs1, f21⟩⟩ := id f1
  refine ev_aload_n (pc := 548) dL_law_548 rfl rfl ?_
  refine cV0 (pc := 549) (lk_L_law_549 _) (ou_0 h0) rfl rfl (Nat.le_of_ble_eq_true rfl) ⟨(by show kc + 0 ≤ 601024; omega), (by show ks + 0 ≤ 7293034; omega)⟩ e1 ?_
  refine ev_aload_n (pc := 552) dL_law_552 rfl rfl ?_
  refine cV0 (pc := 553) (lk_L_law_553 _) (ou_0 f21) rfl rfl (Nat.le_of_ble_eq_true rfl) ⟨(by show kc + 0 + 0 ≤ 601024; omega), (by show ks + 0 + 0 ≤ 7293034; omega)⟩ e2 ?_
  refine ev_ic_eq (pc := 556) (tgt := 1662) dL_law_556 (by decide) (fun _ => ?_) (fun c_556 => absurd rfl c_556)
  exact k A2 o v5 v6 v7 _ _ (gi_mono (Nat.le_succ n) g4) g1 (by show kc + 0 + 0 ≤ kc + 8; omega) (by show ks + 0 + 0 ≤ ks + 64; omega)
theorem lc_9 {n j kc ks : Nat} {q : Nat × (Nat → Int32)} {A : List mC} {o : Nat → Int64} {v5 v6 v7 : Value} (hA : GI n A) (hw : wf A) (hn : n ≤ 512) (hj : j + 2 < q.1) (hq : q.1 ≤ 1536) (hkc : kc ≤ 500000) (hks : ks ≤ 7000000) (k : LK q n j kc ks) : EvF (m_L_law q) QL 561 [scr1, .ref 0, .ref 21, .ref 34, .int (nI j), v5, v6, v7] [] kc ks (A ++ [ouC o]) := by
  obtain ⟨h34, ⟨fs, h0⟩, -⟩ := id hw
  rcases st_heldBy hA (q.2 (nI (j + 1)).toNatClampNeg) with ⟨v, hs⟩ | hs
  · obtain ⟨A1, f1, e1, hs⟩ := hs (ouC o)
    obtain ⟨A2, g1, e2, e3, g4⟩ := hs (ouC (vp_updL o 0 v.toInt64))
    obtain ⟨f34, -, ⟨fs1, f21⟩⟩ := id f1
    obtain ⟨g34, -, ⟨fs2, g21⟩⟩ := id g1
    refine ev_aload_n (pc := 561) dL_law_561 rfl rfl ?_
    refine ev_aloadS_n (pc := 562) dL_law_562 rfl rfl ?_
    refine ev_iload (pc := 563) dL_law_563 rfl ?_
    refine ev_iconst (pc := 565) (v := 1) dL_law_565 (by decide) ?_
    refine ev_iadd (pc := 566) dL_law_566 ?_
    rw [nI_a1]
    refine ev_sld (pc := 567) dL_law_567 rfl (vp_in_nI (show j + 1 < q.1 by omega) (by omega)) ?_
    refine ev_aload_n (pc := 568) dL_law_568 rfl rfl ?_
    refine cX3 (pc := 569) (lk_L_law_569 _) (Nat.le_of_ble_eq_true rfl) ⟨(by show kc + 1 ≤ 601024; omega), (by show ks + 6 ≤ 7293034; omega)⟩ (w_heldBy hw f1 e1) ?_
    refine ev_istore (pc := 572) dL_law_572 rfl rfl ?_
    refine ev_aload_n (pc := 574) dL_law_574 rfl rfl ?_
    refine ev_aloadS_n (pc := 575) dL_law_575 rfl rfl ?_
    refine ev_iload (pc := 576) dL_law_576 rfl ?_
    refine ev_iconst (pc := 578) (v := 1) dL_law_578 (by decide) ?_
    refine ev_iadd (pc := 579) dL_law_579 ?_
    rw [nI_a1]
    refine ev_sld (pc := 580) dL_law_580 rfl (vp_in_nI (show j + 1 < q.1 by omega) (by omega)) ?_
    refine cV1 (pc := 581) (lk_L_law_581 _) (ou_0 f21) rfl rfl (Nat.le_of_ble_eq_true rfl) ⟨(by show kc + 1 + 0 ≤ 601024; omega), (by show ks + 6 + 0 ≤ 7293034; omega)⟩ e2 ?_
    refine ev_istore (pc := 584) dL_law_584 rfl rfl ?_
    refine ev_aload_n (pc := 586) dL_law_586 rfl rfl ?_
    refine cV0 (pc := 587) (lk_L_law_587 _) (ou_0 g21) rfl rfl (Nat.le_of_ble_eq_true rfl) ⟨(by show kc + 1 + 0 + 0 ≤ 601024; omega), (by show ks + 6 + 0 + 0 ≤ 7293034; omega)⟩ e3 ?_
    refine ev_iload (pc := 590) dL_law_590 rfl ?_
    refine ev_ic_eq (pc := 592) (tgt := 597) dL_law_592 (by decide) (fun _ => ?_) (fun c_592 => absurd rfl c_592)
    refine ev_iload (pc := 597) dL_law_597 rfl ?_
    refine ev_if_ne (pc := 599) (tgt := 614) dL_law_599 (by decide) (fun c_599 => absurd rfl c_599) (fun _ => ?_)
    refine ev_aload_n (pc := 602) dL_law_602 rfl rfl ?_
    refine ev_iconst (pc := 603) (v := 0) dL_law_603 (by decide) ?_
    refine ev_laldN (pc := 604) dL_law_604 (ou_get g34) ⟨(show _ = nI 0 from rfl), by decide, by decide⟩ pk_uLs ?_
    refine ev_iload (pc := 605) dL_law_605 rfl ?_
    refine ev_i2l (pc := 607) dL_law_607 ?_
    refine ev_lcmp (pc := 608) dL_law_608 ?_
    refine ev_if_eq (pc := 609) (tgt := 614) dL_law_609 (by decide) (fun _ => ?_) (fun c_609 => absurd ((lg_cmp_eq _ _).mpr rfl) c_609)
    refine ev_goto (pc := 614) (tgt := 1662) dL_law_614 (by decide) ?_
    exact k A2 _ _ _ _ _ _ (gi_mono (Nat.le_succ n) g4) g1 (by show kc + 1 + 0 + 0 ≤ kc + 8; omega) (by show ks + 6 + 0 + 0 ≤ ks + 64; omega)
  · obtain ⟨A1, f1, e1, hs⟩ := hs (ouC o)
    obtain ⟨A2, g1, e2, e3, g4⟩ := hs (ouC o)
    obtain ⟨-, -, ⟨fs1, f21⟩⟩ := id f1
    obtain ⟨-, -, ⟨fs2, g21⟩⟩ := id g1
    refine ev_aload_n (pc := 561) dL_law_561 rfl rfl ?_
    refine ev_aloadS_n (pc := 562) dL_law_562 rfl rfl ?_
    refine ev_iload (pc := 563) dL_law_563 rfl ?_
    refine ev_iconst (pc := 565) (v := 1) dL_law_565 (by decide) ?_
    refine ev_iadd (pc := 566) dL_law_566 ?_
    rw [nI_a1]
    refine ev_sld (pc := 567) dL_law_567 rfl (vp_in_nI (show j + 1 < q.1 by omega) (by omega)) ?_
    refine ev_aload_n (pc := 568) dL_law_568 rfl rfl ?_
    refine cX3 (pc := 569) (lk_L_law_569 _) (Nat.le_of_ble_eq_true rfl) ⟨(by show kc + 1 ≤ 601024; omega), (by show ks + 6 ≤ 7293034; omega)⟩ (w_heldBy_T1 hw f1 e1) ?_
    refine ev_istore (pc := 572) dL_law_572 rfl rfl ?_
    refine ev_aload_n (pc := 574) dL_law_574 rfl rfl ?_
    refine ev_aloadS_n (pc := 575) dL_law_575 rfl rfl ?_
    refine ev_iload (pc := 576) dL_law_576 rfl ?_
    refine ev_iconst (pc := 578) (v := 1) dL_law_578 (by decide) ?_
    refine ev_iadd (pc := 579) dL_law_579 ?_
    rw [nI_a1]
    refine ev_sld (pc := 580) dL_law_580 rfl (vp_in_nI (show j + 1 < q.1 by omega) (by omega)) ?_
    refine cV1 (pc := 581) (lk_L_law_581 _) (ou_0 f21) rfl rfl (Nat.le_of_ble_eq_true rfl) ⟨(by show kc + 1 + 0 ≤ 601024; omega), (by show ks + 6 + 0 ≤ 7293034; omega)⟩ e2 ?_
    refine ev_istore (pc := 584) dL_law_584 rfl rfl ?_
    refine ev_aload_n (pc := 586) dL_law_586 rfl rfl ?_
    refine cV0 (pc := 587) (lk_L_law_587 _) (ou_0 g21) rfl rfl (Nat.le_of_ble_eq_true rfl) ⟨(by show kc + 1 + 0 + 0 ≤ 601024; omega), (by show ks + 6 + 0 + 0 ≤ 7293034; omega)⟩ e3 ?_
    refine ev_iload (pc := 590) dL_law_590 rfl ?_
    refine ev_ic_eq (pc := 592) (tgt := 597) dL_law_592 (by decide) (fun _ => ?_) (fun c_592 => absurd rfl c_592)
    refine ev_iload (pc := 597) dL_law_597 rfl ?_
    refine ev_if_ne (pc := 599) (tgt := 614) dL_law_599 (by decide) (fun _ => ?_) (fun c_599 => absurd c_599 (by decide))
    refine ev_goto (pc := 614) (tgt := 1662) dL_law_614 (by decide) ?_
    exact k A2 _ _ _ _ _ _ (gi_mono (Nat.le_succ n) g4) g1 (by show kc + 1 + 0 + 0 ≤ kc + 8; omega) (by show ks + 6 + 0 + 0 ≤ ks + 64; omega)
