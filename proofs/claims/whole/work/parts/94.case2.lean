/-! THE LAW'S CASES 20 to 29 -/
theorem lc_20 {n j kc ks : Nat} {q : Nat × (Nat → Int32)} {A : List mC} {o : Nat → Int64} {v5 v6 v7 : Value} (hA : GI n A) (hw : wf A) (hn : n ≤ 512) (hj : j + 2 < q.1) (hq : q.1 ≤ 1536) (hkc : kc ≤ 500000) (hks : ks ≤ 7000000) (k : LK q n j kc ks) : EvF (m_L_law q) QL 1189 [scr1, .ref 0, .ref 21, .ref 34, .int (nI j), v5, v6, v7] [] kc ks (A ++ [ouC o]) := by
  obtain ⟨h34, ⟨fs, h0⟩, -⟩ := id hw
  obtain ⟨a, hs⟩ := st_leastFree hA
  obtain ⟨A1, f1, e1, hs⟩ := hs (ouC o)
  obtain ⟨A2, g1, e2, e3, g4⟩ := hs (ouC o)
  obtain ⟨-, -, ⟨fs1, f21⟩⟩ := id f1
  refine ev_aload_n (pc := 1189) dL_law_1189 rfl rfl ?_
  refine cV0 (pc := 1190) (lk_L_law_1190 _) (ou_0 h0) rfl rfl (Nat.le_of_ble_eq_true rfl) ⟨(by show kc + 0 ≤ 601024; omega), (by show ks + 0 ≤ 7293034; omega)⟩ e1 ?_
  refine ev_aload_n (pc := 1193) dL_law_1193 rfl rfl ?_
  refine cV0 (pc := 1194) (lk_L_law_1194 _) (ou_0 f21) rfl rfl (Nat.le_of_ble_eq_true rfl) ⟨(by show kc + 0 + 0 ≤ 601024; omega), (by show ks + 0 + 0 ≤ 7293034; omega)⟩ e2 ?_
  refine ev_ic_eq (pc := 1197) (tgt := 1662) dL_law_1197 (by decide) (fun _ => ?_) (fun c_1197 => absurd rfl c_1197)
  exact k A2 o v5 v6 v7 _ _ (gi_mono (Nat.le_succ n) g4) g1 (by show kc + 0 + 0 ≤ kc + 8; omega) (by show ks + 0 + 0 ≤ ks + 64; omega)
theorem lc_21 {n j kc ks : Nat} {q : Nat × (Nat → Int32)} {A : List mC} {o : Nat → Int64} {v5 v6 v7 : Value} (hA : GI n A) (hw : wf A) (hn : n ≤ 512) (hj : j + 2 < q.1) (hq : q.1 ≤ 1536) (hkc : kc ≤ 500000) (hks : ks ≤ 7000000) (k : LK q n j kc ks) : EvF (m_L_law q) QL 1202 [scr1, .ref 0, .ref 21, .ref 34, .int (nI j), v5, v6, v7] [] kc ks (A ++ [ouC o]) := by
  obtain ⟨h34, ⟨fs, h0⟩, -⟩ := id hw
  rcases st_entries hA (q.2 (nI (j + 1)).toNatClampNeg) with ⟨v, hs⟩ | hs
  · obtain ⟨A1, f1, e1, hs⟩ := hs (ouC o)
    obtain ⟨A2, g1, e2, e3, g4⟩ := hs (ouC (vp_updL o 0 v.toInt64))
    obtain ⟨f34, -, ⟨fs1, f21⟩⟩ := id f1
    obtain ⟨g34, -, ⟨fs2, g21⟩⟩ := id g1
    refine ev_aload_n (pc := 1202) dL_law_1202 rfl rfl ?_
    refine ev_aloadS_n (pc := 1203) dL_law_1203 rfl rfl ?_
    refine ev_iload (pc := 1204) dL_law_1204 rfl ?_
    refine ev_iconst (pc := 1206) (v := 1) dL_law_1206 (by decide) ?_
    refine ev_iadd (pc := 1207) dL_law_1207 ?_
    rw [nI_a1]
    refine ev_sld (pc := 1208) dL_law_1208 rfl (vp_in_nI (show j + 1 < q.1 by omega) (by omega)) ?_
    refine ev_aload_n (pc := 1209) dL_law_1209 rfl rfl ?_
    refine cX3 (pc := 1210) (lk_L_law_1210 _) (Nat.le_of_ble_eq_true rfl) ⟨(by show kc + 1 ≤ 601024; omega), (by show ks + 6 ≤ 7293034; omega)⟩ (w_entries hw f1 e1) ?_
    refine ev_istore (pc := 1213) dL_law_1213 rfl rfl ?_
    refine ev_aload_n (pc := 1215) dL_law_1215 rfl rfl ?_
    refine ev_aloadS_n (pc := 1216) dL_law_1216 rfl rfl ?_
    refine ev_iload (pc := 1217) dL_law_1217 rfl ?_
    refine ev_iconst (pc := 1219) (v := 1) dL_law_1219 (by decide) ?_
    refine ev_iadd (pc := 1220) dL_law_1220 ?_
    rw [nI_a1]
    refine ev_sld (pc := 1221) dL_law_1221 rfl (vp_in_nI (show j + 1 < q.1 by omega) (by omega)) ?_
    refine cV1 (pc := 1222) (lk_L_law_1222 _) (ou_0 f21) rfl rfl (Nat.le_of_ble_eq_true rfl) ⟨(by show kc + 1 + 0 ≤ 601024; omega), (by show ks + 6 + 0 ≤ 7293034; omega)⟩ e2 ?_
    refine ev_istore (pc := 1225) dL_law_1225 rfl rfl ?_
    refine ev_aload_n (pc := 1227) dL_law_1227 rfl rfl ?_
    refine cV0 (pc := 1228) (lk_L_law_1228 _) (ou_0 g21) rfl rfl (Nat.le_of_ble_eq_true rfl) ⟨(by show kc + 1 + 0 + 0 ≤ 601024; omega), (by show ks + 6 + 0 + 0 ≤ 7293034; omega)⟩ e3 ?_
    refine ev_iload (pc := 1231) dL_law_1231 rfl ?_
    refine ev_ic_eq (pc := 1233) (tgt := 1238) dL_law_1233 (by decide) (fun _ => ?_) (fun c_1233 => absurd rfl c_1233)
    refine ev_iload (pc := 1238) dL_law_1238 rfl ?_
    refine ev_if_ne (pc := 1240) (tgt := 1255) dL_law_1240 (by decide) (fun c_1240 => absurd rfl c_1240) (fun _ => ?_)
    refine ev_aload_n (pc := 1243) dL_law_1243 rfl rfl ?_
    refine ev_iconst (pc := 1244) (v := 0) dL_law_1244 (by decide) ?_
    refine ev_laldN (pc := 1245) dL_law_1245 (ou_get g34) ⟨(show _ = nI 0 from rfl), by decide, by decide⟩ pk_uLs ?_
    refine ev_iload (pc := 1246) dL_law_1246 rfl ?_
    refine ev_i2l (pc := 1248) dL_law_1248 ?_
    refine ev_lcmp (pc := 1249) dL_law_1249 ?_
    refine ev_if_eq (pc := 1250) (tgt := 1255) dL_law_1250 (by decide) (fun _ => ?_) (fun c_1250 => absurd ((lg_cmp_eq _ _).mpr rfl) c_1250)
    refine ev_goto (pc := 1255) (tgt := 1662) dL_law_1255 (by decide) ?_
    exact k A2 _ _ _ _ _ _ (gi_mono (Nat.le_succ n) g4) g1 (by show kc + 1 + 0 + 0 ≤ kc + 8; omega) (by show ks + 6 + 0 + 0 ≤ ks + 64; omega)
  · obtain ⟨A1, f1, e1, hs⟩ := hs (ouC o)
    obtain ⟨A2, g1, e2, e3, g4⟩ := hs (ouC o)
    obtain ⟨-, -, ⟨fs1, f21⟩⟩ := id f1
    obtain ⟨-, -, ⟨fs2, g21⟩⟩ := id g1
    refine ev_aload_n (pc := 1202) dL_law_1202 rfl rfl ?_
    refine ev_aloadS_n (pc := 1203) dL_law_1203 rfl rfl ?_
    refine ev_iload (pc := 1204) dL_law_1204 rfl ?_
    refine ev_iconst (pc := 1206) (v := 1) dL_law_1206 (by decide) ?_
    refine ev_iadd (pc := 1207) dL_law_1207 ?_
    rw [nI_a1]
    refine ev_sld (pc := 1208) dL_law_1208 rfl (vp_in_nI (show j + 1 < q.1 by omega) (by omega)) ?_
    refine ev_aload_n (pc := 1209) dL_law_1209 rfl rfl ?_
    refine cX3 (pc := 1210) (lk_L_law_1210 _) (Nat.le_of_ble_eq_true rfl) ⟨(by show kc + 1 ≤ 601024; omega), (by show ks + 6 ≤ 7293034; omega)⟩ (w_entries_T1 hw f1 e1) ?_
    refine ev_istore (pc := 1213) dL_law_1213 rfl rfl ?_
    refine ev_aload_n (pc := 1215) dL_law_1215 rfl rfl ?_
    refine ev_aloadS_n (pc := 1216) dL_law_1216 rfl rfl ?_
    refine ev_iload (pc := 1217) dL_law_1217 rfl ?_
    refine ev_iconst (pc := 1219) (v := 1) dL_law_1219 (by decide) ?_
    refine ev_iadd (pc := 1220) dL_law_1220 ?_
    rw [nI_a1]
    refine ev_sld (pc := 1221) dL_law_1221 rfl (vp_in_nI (show j + 1 < q.1 by omega) (by omega)) ?_
    refine cV1 (pc := 1222) (lk_L_law_1222 _) (ou_0 f21) rfl rfl (Nat.le_of_ble_eq_true rfl) ⟨(by show kc + 1 + 0 ≤ 601024; omega), (by show ks + 6 + 0 ≤ 7293034; omega)⟩ e2 ?_
    refine ev_istore (pc := 1225) dL_law_1225 rfl rfl ?_
    refine ev_aload_n (pc := 1227) dL_law_1227 rfl rfl ?_
    refine cV0 (pc := 1228) (lk_L_law_1228 _) (ou_0 g21) rfl rfl (Nat.le_of_ble_eq_true rfl) ⟨(by show kc + 1 + 0 + 0 ≤ 601024; omega), (by show ks + 6 + 0 + 0 ≤ 7293034; omega)⟩ e3 ?_
    refine ev_iload (pc := 1231) dL_law_1231 rfl ?_
    refine ev_ic_eq (pc := 1233) (tgt := 1238) dL_law_1233 (by decide) (fun _ => ?_) (fun c_1233 => absurd rfl c_1233)
    refine ev_iload (pc := 1238) dL_law_1238 rfl ?_
    refine ev_if_ne (pc := 1240) (tgt := 1255) dL_law_1240 (by decide) (fun _ => ?_) (fun c_1240 => absurd c_1240 (by decide))
    refine ev_goto (pc := 1255) (tgt := 1662) dL_law_1255 (by decide) ?_
    exact k A2 _ _ _ _ _ _ (gi_mono (Nat.le_succ n) g4) g1 (by show kc + 1 + 0 + 0 ≤ kc + 8; omega) (by show ks + 6 + 0 + 0 ≤ ks + 64; omega)
theorem lc_22 {n j kc ks : Nat} {q : Nat × (Nat → Int32)} {A : List mC} {o : Nat → Int64} {v5 v6 v7 : Value} (hA : GI n A) (hw : wf A) (hn : n ≤ 512) (hj : j + 2 < q.1) (hq : q.1 ≤ 1536) (hkc : kc ≤ 500000) (hks : ks ≤ 7000000) (k : LK q n j kc ks) : EvF (m_L_law q) QL 1258 [scr1, .ref 0, .ref 21, .ref 34, .int (nI j), v5, v6, v7] [] kc ks (A ++ [ouC o]) := by
  obtain ⟨h34, ⟨fs, h0⟩, -⟩ := id hw
  rcases st_keyAt hA (q.2 (nI (j + 1)).toNatClampNeg) (q.2 (nI (j + 2)).toNatClampNeg) with ⟨v, hs⟩ | hs
  · obtain ⟨A1, f1, e1, hs⟩ := hs (ouC o)
    obtain ⟨A2, g1, e2, e3, g4⟩ := hs (ouC (vp_updL o 0 v.toInt64))
    obtain ⟨f34, -, ⟨fs1, f21⟩⟩ := id f1
    obtain ⟨g34, -, ⟨fs2, g21⟩⟩ := id g1
    refine ev_aload_n (pc := 1258) dL_law_1258 rfl rfl ?_
    refine ev_aloadS_n (pc := 1259) dL_law_1259 rfl rfl ?_
    refine ev_iload (pc := 1260) dL_law_1260 rfl ?_
    refine ev_iconst (pc := 1262) (v := 1) dL_law_1262 (by decide) ?_
    refine ev_iadd (pc := 1263) dL_law_1263 ?_
    rw [nI_a1]
    refine ev_sld (pc := 1264) dL_law_1264 rfl (vp_in_nI (show j + 1 < q.1 by omega) (by omega)) ?_
    refine ev_aloadS_n (pc := 1265) dL_law_1265 rfl rfl ?_
    refine ev_iload (pc := 1266) dL_law_1266 rfl ?_
    refine ev_iconst (pc := 1268) (v := 2) dL_law_1268 (by decide) ?_
    refine ev_iadd (pc := 1269) dL_law_1269 ?_
    rw [nI_a2]
    refine ev_sld (pc := 1270) dL_law_1270 rfl (vp_in_nI (show j + 2 < q.1 by omega) (by omega)) ?_
    refine ev_aload_n (pc := 1271) dL_law_1271 rfl rfl ?_
    refine cX4 (pc := 1272) (lk_L_law_1272 _) (Nat.le_of_ble_eq_true rfl) ⟨(by show kc + 2 ≤ 601024; omega), (by show ks + 12 ≤ 7293034; omega)⟩ (w_keyAt hw f1 e1) ?_
    refine ev_istore (pc := 1275) dL_law_1275 rfl rfl ?_
    refine ev_aload_n (pc := 1277) dL_law_1277 rfl rfl ?_
    refine ev_aloadS_n (pc := 1278) dL_law_1278 rfl rfl ?_
    refine ev_iload (pc := 1279) dL_law_1279 rfl ?_
    refine ev_iconst (pc := 1281) (v := 1) dL_law_1281 (by decide) ?_
    refine ev_iadd (pc := 1282) dL_law_1282 ?_
    rw [nI_a1]
    refine ev_sld (pc := 1283) dL_law_1283 rfl (vp_in_nI (show j + 1 < q.1 by omega) (by omega)) ?_
    refine ev_aloadS_n (pc := 1284) dL_law_1284 rfl rfl ?_
    refine ev_iload (pc := 1285) dL_law_1285 rfl ?_
    refine ev_iconst (pc := 1287) (v := 2) dL_law_1287 (by decide) ?_
    refine ev_iadd (pc := 1288) dL_law_1288 ?_
    rw [nI_a2]
    refine ev_sld (pc := 1289) dL_law_1289 rfl (vp_in_nI (show j + 2 < q.1 by omega) (by omega)) ?_
    refine cV2 (pc := 1290) (lk_L_law_1290 _) (ou_0 f21) rfl rfl (Nat.le_of_ble_eq_true rfl) ⟨(by show kc + 2 + 0 ≤ 601024; omega), (by show ks + 12 + 0 ≤ 7293034; omega)⟩ e2 ?_
    refine ev_istore (pc := 1293) dL_law_1293 rfl rfl ?_
    refine ev_aload_n (pc := 1295) dL_law_1295 rfl rfl ?_
    refine cV0 (pc := 1296) (lk_L_law_1296 _) (ou_0 g21) rfl rfl (Nat.le_of_ble_eq_true rfl) ⟨(by show kc + 2 + 0 + 0 ≤ 601024; omega), (by show ks + 12 + 0 + 0 ≤ 7293034; omega)⟩ e3 ?_
    refine ev_iload (pc := 1299) dL_law_1299 rfl ?_
    refine ev_ic_eq (pc := 1301) (tgt := 1306) dL_law_1301 (by decide) (fun _ => ?_) (fun c_1301 => absurd rfl c_1301)
    refine ev_iload (pc := 1306) dL_law_1306 rfl ?_
    refine ev_if_ne (pc := 1308) (tgt := 1323) dL_law_1308 (by decide) (fun c_1308 => absurd rfl c_1308) (fun _ => ?_)
    refine ev_aload_n (pc := 1311) dL_law_1311 rfl rfl ?_
    refine ev_iconst (pc := 1312) (v := 0) dL_law_1312 (by decide) ?_
    refine ev_laldN (pc := 1313) dL_law_1313 (ou_get g34) ⟨(show _ = nI 0 from rfl), by decide, by decide⟩ pk_uLs ?_
    refine ev_iload (pc := 1314) dL_law_1314 rfl ?_
    refine ev_i2l (pc := 1316) dL_law_1316 ?_
    refine ev_lcmp (pc := 1317) dL_law_1317 ?_
    refine ev_if_eq (pc := 1318) (tgt := 1323) dL_law_1318 (by decide) (fun _ => ?_) (fun c_1318 => absurd ((lg_cmp_eq _ _).mpr rfl) c_1318)
    refine ev_goto (pc := 1323) (tgt := 1662) dL_law_1323 (by decide) ?_
    exact k A2 _ _ _ _ _ _ (gi_mono (Nat.le_succ n) g4) g1 (by show kc + 2 + 0 + 0 ≤ kc + 8; omega) (by show ks + 12 + 0 + 0 ≤ ks + 64; omega)
  · obtain ⟨A1, f1, e1, hs⟩ := hs (ouC o)
    obtain ⟨A2, g1, e2, e3, g4⟩ := hs (ouC o)
    obtain ⟨-, -, ⟨fs1, f21⟩⟩ := id f1
    obtain ⟨-, -, ⟨fs2, g21⟩⟩ := id g1
    refine ev_aload_n (pc := 1258) dL_law_1258 rfl rfl ?_
    refine ev_aloadS_n (pc := 1259) dL_law_1259 rfl rfl ?_
    refine ev_iload (pc := 1260) dL_law_1260 rfl ?_
    refine ev_iconst (pc := 1262) (v := 1) dL_law_1262 (by decide) ?_
    refine ev_iadd (pc := 1263) dL_law_1263 ?_
    rw [nI_a1]
    refine ev_sld (pc := 1264) dL_law_1264 rfl (vp_in_nI (show j + 1 < q.1 by omega) (by omega)) ?_
    refine ev_aloadS_n (pc := 1265) dL_law_1265 rfl rfl ?_
    refine ev_iload (pc := 1266) dL_law_1266 rfl ?_
    refine ev_iconst (pc := 1268) (v := 2) dL_law_1268 (by decide) ?_
    refine ev_iadd (pc := 1269) dL_law_1269 ?_
    rw [nI_a2]
    refine ev_sld (pc := 1270) dL_law_1270 rfl (vp_in_nI (show j + 2 < q.1 by omega) (by omega)) ?_
    refine ev_aload_n (pc := 1271) dL_law_1271 rfl rfl ?_
    refine cX4 (pc := 1272) (lk_L_law_1272 _) (Nat.le_of_ble_eq_true rfl) ⟨(by show kc + 2 ≤ 601024; omega), (by show ks + 12 ≤ 7293034; omega)⟩ (w_keyAt_T1 hw f1 e1) ?_
    refine ev_istore (pc := 1275) dL_law_1275 rfl rfl ?_
    refine ev_aload_n (pc := 1277) dL_law_1277 rfl rfl ?_
    refine ev_aloadS_n (pc := 1278) dL_law_1278 rfl rfl ?_
    refine ev_iload (pc := 1279) dL_law_1279 rfl ?_
    refine ev_iconst (pc := 1281) (v := 1) dL_law_1281 (by decide) ?_
    refine ev_iadd (pc := 1282) dL_law_1282 ?_
    rw [nI_a1]
    refine ev_sld (pc := 1283) dL_law_1283 rfl (vp_in_nI (show j + 1 < q.1 by omega) (by omega)) ?_
    refine ev_aloadS_n (pc := 1284) dL_law_1284 rfl rfl ?_
    refine ev_iload (pc := 1285) dL_law_1285 rfl ?_
    refine ev_iconst (pc := 1287) (v := 2) dL_law_1287 (by decide) ?_
    refine ev_iadd (pc := 1288) dL_law_1288 ?_
    rw [nI_a2]
    refine ev_sld (pc := 1289) dL_law_1289 rfl (vp_in_nI (show j + 2 < q.1 by omega) (by omega)) ?_
    refine cV2 (pc := 1290) (lk_L_law_1290 _) (ou_0 f21) rfl rfl (Nat.le_of_ble_eq_true rfl) ⟨(by show kc + 2 + 0 ≤ 601024; omega), (by show ks + 12 + 0 ≤ 7293034; omega)⟩ e2 ?_
    refine ev_istore (pc := 1293) dL_law_1293 rfl rfl ?_
    refine ev_aload_n (pc := 1295) dL_law_1295 rfl rfl ?_
    refine cV0 (pc := 1296) (lk_L_law_1296 _) (ou_0 g21) rfl rfl (Nat.le_of_ble_eq_true rfl) ⟨(by show kc + 2 + 0 + 0 ≤ 601024; omega), (by show ks + 12 + 0 + 0 ≤ 7293034; omega)⟩ e3 ?_
    refine ev_iload (pc := 1299) dL_law_1299 rfl ?_
    refine ev_ic_eq (pc := 1301) (tgt := 1306) dL_law_1301 (by decide) (fun _ => ?_) (fun c_1301 => absurd rfl c_1301)
    refine ev_iload (pc := 1306) dL_law_1306 rfl ?_
    refine ev_if_ne (pc := 1308) (tgt := 1323) dL_law_1308 (by decide) (fun _ => ?_) (fun c_1308 => absurd c_1308 (by decide))
    refine ev_goto (pc := 1323) (tgt := 1662) dL_law_1323 (by decide) ?_
    exact k A2 _ _ _ _ _ _ (gi_mono (Nat.le_succ n) g4) g1 (by show kc + 2 + 0 + 0 ≤ kc + 8; omega) (by show ks + 12 + 0 + 0 ≤ ks + 64; omega)
theorem lc_23 {n j kc ks : Nat} {q : Nat × (Nat → Int32)} {A : List mC} {o : Nat → Int64} {v5 v6 v7 : Value} (hA : GI n A) (hw : wf A) (hn : n ≤ 512) (hj : j + 2 < q.1) (hq : q.1 ≤ 1536) (hkc : kc ≤ 500000) (hks : ks ≤ 7000000) (k : LK q n j kc ks) : EvF (m_L_law q) QL 1326 [scr1, .ref 0, .ref 21, .ref 34, .int (nI j), v5, v6, v7] [] kc ks (A ++ [ouC o]) := by
  obtain ⟨h34, ⟨fs, h0⟩, -⟩ := id hw
  rcases st_pageAt hA (q.2 (nI (j + 1)).toNatClampNeg) (q.2 (nI (j + 2)).toNatClampNeg) with ⟨v, hs⟩ | hs
  · obtain ⟨A1, f1, e1, hs⟩ := hs (ouC o)
    obtain ⟨A2, g1, e2, e3, g4⟩ := hs (ouC (vp_updL o 0 v.toInt64))
    obtain ⟨f34, -, ⟨fs1, f21⟩⟩ := id f1
    obtain ⟨g34, -, ⟨fs2, g21⟩⟩ := id g1
    refine ev_aload_n (pc := 1326) dL_law_1326 rfl rfl ?_
    refine ev_aloadS_n (pc := 1327) dL_law_1327 rfl rfl ?_
    refine ev_iload (pc := 1328) dL_law_1328 rfl ?_
    refine ev_iconst (pc := 1330) (v := 1) dL_law_1330 (by decide) ?_
    refine ev_iadd (pc := 1331) dL_law_1331 ?_
    rw [nI_a1]
    refine ev_sld (pc := 1332) dL_law_1332 rfl (vp_in_nI (show j + 1 < q.1 by omega) (by omega)) ?_
    refine ev_aloadS_n (pc := 1333) dL_law_1333 rfl rfl ?_
    refine ev_iload (pc := 1334) dL_law_1334 rfl ?_
    refine ev_iconst (pc := 1336) (v := 2) dL_law_1336 (by decide) ?_
    refine ev_iadd (pc := 1337) dL_law_1337 ?_
    rw [nI_a2]
    refine ev_sld (pc := 1338) dL_law_1338 rfl (vp_in_nI (show j + 2 < q.1 by omega) (by omega)) ?_
    refine ev_aload_n (pc := 1339) dL_law_1339 rfl rfl ?_
    refine cX4 (pc := 1340) (lk_L_law_1340 _) (Nat.le_of_ble_eq_true rfl) ⟨(by show kc + 2 ≤ 601024; omega), (by show ks + 12 ≤ 7293034; omega)⟩ (w_pageAt hw f1 e1) ?_
    refine ev_istore (pc := 1343) dL_law_1343 rfl rfl ?_
    refine ev_aload_n (pc := 1345) dL_law_1345 rfl rfl ?_
    refine ev_aloadS_n (pc := 1346) dL_law_1346 rfl rfl ?_
    refine ev_iload (pc := 1347) dL_law_1347 rfl ?_
    refine ev_iconst (pc := 1349) (v := 1) dL_law_1349 (by decide) ?_
    refine ev_iadd (pc := 1350) dL_law_1350 ?_
    rw [nI_a1]
    refine ev_sld (pc := 1351) dL_law_1351 rfl (vp_in_nI (show j + 1 < q.1 by omega) (by omega)) ?_
    refine ev_aloadS_n (pc := 1352) dL_law_1352 rfl rfl ?_
    refine ev_iload (pc := 1353) dL_law_1353 rfl ?_
    refine ev_iconst (pc := 1355) (v := 2) dL_law_1355 (by decide) ?_
    refine ev_iadd (pc := 1356) dL_law_1356 ?_
    rw [nI_a2]
    refine ev_sld (pc := 1357) dL_law_1357 rfl (vp_in_nI (show j + 2 < q.1 by omega) (by omega)) ?_
    refine cV2 (pc := 1358) (lk_L_law_1358 _) (ou_0 f21) rfl rfl (Nat.le_of_ble_eq_true rfl) ⟨(by show kc + 2 + 0 ≤ 601024; omega), (by show ks + 12 + 0 ≤ 7293034; omega)⟩ e2 ?_
    refine ev_istore (pc := 1361) dL_law_1361 rfl rfl ?_
    refine ev_aload_n (pc := 1363) dL_law_1363 rfl rfl ?_
    refine cV0 (pc := 1364) (lk_L_law_1364 _) (ou_0 g21) rfl rfl (Nat.le_of_ble_eq_true rfl) ⟨(by show kc + 2 + 0 + 0 ≤ 601024; omega), (by show ks + 12 + 0 + 0 ≤ 7293034; omega)⟩ e3 ?_
    refine ev_iload (pc := 1367) dL_law_1367 rfl ?_
    refine ev_ic_eq (pc := 1369) (tgt := 1374) dL_law_1369 (by decide) (fun _ => ?_) (fun c_1369 => absurd rfl c_1369)
    refine ev_iload (pc := 1374) dL_law_1374 rfl ?_
    refine ev_if_ne (pc := 1376) (tgt := 1391) dL_law_1376 (by decide) (fun c_1376 => absurd rfl c_1376) (fun _ => ?_)
    refine ev_aload_n (pc := 1379) dL_law_1379 rfl rfl ?_
    refine ev_iconst (pc := 1380) (v := 0) dL_law_1380 (by decide) ?_
    refine ev_laldN (pc := 1381) dL_law_1381 (ou_get g34) ⟨(show _ = nI 0 from rfl), by decide, by decide⟩ pk_uLs ?_
    refine ev_iload (pc := 1382) dL_law_1382 rfl ?_
    refine ev_i2l (pc := 1384) dL_law_1384 ?_
    refine ev_lcmp (pc := 1385) dL_law_1385 ?_
    refine ev_if_eq (pc := 1386) (tgt := 1391) dL_law_1386 (by decide) (fun _ => ?_) (fun c_1386 => absurd ((lg_cmp_eq _ _).mpr rfl) c_1386)
    refine ev_goto (pc := 1391) (tgt := 1662) dL_law_1391 (by decide) ?_
    exact k A2 _ _ _ _ _ _ (gi_mono (Nat.le_succ n) g4) g1 (by show kc + 2 + 0 + 0 ≤ kc + 8; omega) (by show ks + 12 + 0 + 0 ≤ ks + 64; omega)
  · obtain ⟨A1, f1, e1, hs⟩ := hs (ouC o)
    obtain ⟨A2, g1, e2, e3, g4⟩ := hs (ouC o)
    obtain ⟨-, -, ⟨fs1, f21⟩⟩ := id f1
    obtain ⟨-, -, ⟨fs2, g21⟩⟩ := id g1
    refine ev_aload_n (pc := 1326) dL_law_1326 rfl rfl ?_
    refine ev_aloadS_n (pc := 1327) dL_law_1327 rfl rfl ?_
    refine ev_iload (pc := 1328) dL_law_1328 rfl ?_
    refine ev_iconst (pc := 1330) (v := 1) dL_law_1330 (by decide) ?_
    refine ev_iadd (pc := 1331) dL_law_1331 ?_
    rw [nI_a1]
    refine ev_sld (pc := 1332) dL_law_1332 rfl (vp_in_nI (show j + 1 < q.1 by omega) (by omega)) ?_
    refine ev_aloadS_n (pc := 1333) dL_law_1333 rfl rfl ?_
    refine ev_iload (pc := 1334) dL_law_1334 rfl ?_
    refine ev_iconst (pc := 1336) (v := 2) dL_law_1336 (by decide) ?_
    refine ev_iadd (pc := 1337) dL_law_1337 ?_
    rw [nI_a2]
    refine ev_sld (pc := 1338) dL_law_1338 rfl (vp_in_nI (show j + 2 < q.1 by omega) (by omega)) ?_
    refine ev_aload_n (pc := 1339) dL_law_1339 rfl rfl ?_
    refine cX4 (pc := 1340) (lk_L_law_1340 _) (Nat.le_of_ble_eq_true rfl) ⟨(by show kc + 2 ≤ 601024; omega), (by show ks + 12 ≤ 7293034; omega)⟩ (w_pageAt_T1 hw f1 e1) ?_
    refine ev_istore (pc := 1343) dL_law_1343 rfl rfl ?_
    refine ev_aload_n (pc := 1345) dL_law_1345 rfl rfl ?_
    refine ev_aloadS_n (pc := 1346) dL_law_1346 rfl rfl ?_
    refine ev_iload (pc := 1347) dL_law_1347 rfl ?_
    refine ev_iconst (pc := 1349) (v := 1) dL_law_1349 (by decide) ?_
    refine ev_iadd (pc := 1350) dL_law_1350 ?_
    rw [nI_a1]
    refine ev_sld (pc := 1351) dL_law_1351 rfl (vp_in_nI (show j + 1 < q.1 by omega) (by omega)) ?_
    refine ev_aloadS_n (pc := 1352) dL_law_1352 rfl rfl ?_
    refine ev_iload (pc := 1353) dL_law_1353 rfl ?_
    refine ev_iconst (pc := 1355) (v := 2) dL_law_1355 (by decide) ?_
    refine ev_iadd (pc := 1356) dL_law_1356 ?_
    rw [nI_a2]
    refine ev_sld (pc := 1357) dL_law_1357 rfl (vp_in_nI (show j + 2 < q.1 by omega) (by omega)) ?_
    refine cV2 (pc := 1358) (lk_L_law_1358 _) (ou_0 f21) rfl rfl (Nat.le_of_ble_eq_true rfl) ⟨(by show kc + 2 + 0 ≤ 601024; omega), (by show ks + 12 + 0 ≤ 7293034; omega)⟩ e2 ?_
    refine ev_istore (pc := 1361) dL_law_1361 rfl rfl ?_
    refine ev_aload_n (pc := 1363) dL_law_1363 rfl rfl ?_
    refine cV0 (pc := 1364) (lk_L_law_1364 _) (ou_0 g21) rfl rfl (Nat.le_of_ble_eq_true rfl) ⟨(by show kc + 2 + 0 + 0 ≤ 601024; omega), (by show ks + 12 + 0 + 0 ≤ 7293034; omega)⟩ e3 ?_
    refine ev_iload (pc := 1367) dL_law_1367 rfl ?_
    refine ev_ic_eq (pc := 1369) (tgt := 1374) dL_law_1369 (by decide) (fun _ => ?_) (fun c_1369 => absurd rfl c_1369)
    refine ev_iload (pc := 1374) dL_law_1374 rfl ?_
    refine ev_if_ne (pc := 1376) (tgt := 1391) dL_law_1376 (by decide) (fun _ => ?_) (fun c_1376 => absurd c_1376 (by decide))
    refine ev_goto (pc := 1391) (tgt := 1662) dL_law_1391 (by decide) ?_
    exact k A2 _ _ _ _ _ _ (gi_mono (Nat.le_succ n) g4) g1 (by show kc + 2 + 0 + 0 ≤ kc + 8; omega) (by show ks + 12 + 0 + 0 ≤ ks + 64; omega)
theorem lc_24 {n j kc ks : Nat} {q : Nat × (Nat → Int32)} {A : List mC} {o : Nat → Int64} {v5 v6 v7 : Value} (hA : GI n A) (hw : wf A) (hn : n ≤ 512) (hj : j + 2 < q.1) (hq : q.1 ≤ 1536) (hkc : kc ≤ 500000) (hks : ks ≤ 7000000) (k : LK q n j kc ks) : EvF (m_L_law q) QL 1394 [scr1, .ref 0, .ref 21, .ref 34, .int (nI j), v5, v6, v7] [] kc ks (A ++ [ouC o]) := by
  obtain ⟨h34, ⟨fs, h0⟩, -⟩ := id hw
  obtain ⟨a, hs⟩ := st_curSlot hA
  obtain ⟨A1, f1, e1, hs⟩ := hs (ouC o)
  obtain ⟨A2, g1, e2, e3, g4⟩ := hs (ouC o)
  obtain ⟨-, -, ⟨fs1, f21⟩⟩ := id f1
  refine ev_aload_n (pc := 1394) dL_law_1394 rfl rfl ?_
  refine cV0 (pc := 1395) (lk_L_law_1395 _) (ou_0 h0) rfl rfl (Nat.le_of_ble_eq_true rfl) ⟨(by show kc + 0 ≤ 601024; omega), (by show ks + 0 ≤ 7293034; omega)⟩ e1 ?_
  refine ev_aload_n (pc := 1398) dL_law_1398 rfl rfl ?_
  refine cV0 (pc := 1399) (lk_L_law_1399 _) (ou_0 f21) rfl rfl (Nat.le_of_ble_eq_true rfl) ⟨(by show kc + 0 + 0 ≤ 601024; omega), (by show ks + 0 + 0 ≤ 7293034; omega)⟩ e2 ?_
  refine ev_ic_eq (pc := 1402) (tgt := 1662) dL_law_1402 (by decide) (fun _ => ?_) (fun c_1402 => absurd rfl c_1402)
  exact k A2 o v5 v6 v7 _ _ (gi_mono (Nat.le_succ n) g4) g1 (by show kc + 0 + 0 ≤ kc + 8; omega) (by show ks + 0 + 0 ≤ ks + 64; omega)
theorem lc_25 {n j kc ks : Nat} {q : Nat × (Nat → Int32)} {A : List mC} {o : Nat → Int64} {v5 v6 v7 : Value} (hA : GI n A) (hw : wf A) (hn : n ≤ 512) (hj : j + 2 < q.1) (hq : q.1 ≤ 1536) (hkc : kc ≤ 500000) (hks : ks ≤ 7000000) (k : LK q n j kc ks) : EvF (m_L_law q) QL 1407 [scr1, .ref 0, .ref 21, .ref 34, .int (nI j), v5, v6, v7] [] kc ks (A ++ [ouC o]) := by
  obtain ⟨h34, ⟨fs, h0⟩, -⟩ := id hw
  rcases st_slotWord hA (q.2 (nI (j + 1)).toNatClampNeg) (q.2 (nI (j + 2)).toNatClampNeg) with ⟨v, hs⟩ | hs
  · obtain ⟨A1, f1, e1, hs⟩ := hs (ouC o)
    obtain ⟨A2, g1, e2, e3, g4⟩ := hs (ouC (vp_updL o 0 v))
    obtain ⟨f34, -, ⟨fs1, f21⟩⟩ := id f1
    obtain ⟨g34, -, ⟨fs2, g21⟩⟩ := id g1
    refine ev_aload_n (pc := 1407) dL_law_1407 rfl rfl ?_
    refine ev_aloadS_n (pc := 1408) dL_law_1408 rfl rfl ?_
    refine ev_iload (pc := 1409) dL_law_1409 rfl ?_
    refine ev_iconst (pc := 1411) (v := 1) dL_law_1411 (by decide) ?_
    refine ev_iadd (pc := 1412) dL_law_1412 ?_
    rw [nI_a1]
    refine ev_sld (pc := 1413) dL_law_1413 rfl (vp_in_nI (show j + 1 < q.1 by omega) (by omega)) ?_
    refine ev_aloadS_n (pc := 1414) dL_law_1414 rfl rfl ?_
    refine ev_iload (pc := 1415) dL_law_1415 rfl ?_
    refine ev_iconst (pc := 1417) (v := 2) dL_law_1417 (by decide) ?_
    refine ev_iadd (pc := 1418) dL_law_1418 ?_
    rw [nI_a2]
    refine ev_sld (pc := 1419) dL_law_1419 rfl (vp_in_nI (show j + 2 < q.1 by omega) (by omega)) ?_
    refine ev_aload_n (pc := 1420) dL_law_1420 rfl rfl ?_
    refine cX4 (pc := 1421) (lk_L_law_1421 _) (Nat.le_of_ble_eq_true rfl) ⟨(by show kc + 2 ≤ 601024; omega), (by show ks + 12 ≤ 7293034; omega)⟩ (w_slotWord hw f1 e1) ?_
    refine ev_istore (pc := 1424) dL_law_1424 rfl rfl ?_
    refine ev_aload_n (pc := 1426) dL_law_1426 rfl rfl ?_
    refine ev_aloadS_n (pc := 1427) dL_law_1427 rfl rfl ?_
    refine ev_iload (pc := 1428) dL_law_1428 rfl ?_
    refine ev_iconst (pc := 1430) (v := 1) dL_law_1430 (by decide) ?_
    refine ev_iadd (pc := 1431) dL_law_1431 ?_
    rw [nI_a1]
    refine ev_sld (pc := 1432) dL_law_1432 rfl (vp_in_nI (show j + 1 < q.1 by omega) (by omega)) ?_
    refine ev_aloadS_n (pc := 1433) dL_law_1433 rfl rfl ?_
    refine ev_iload (pc := 1434) dL_law_1434 rfl ?_
    refine ev_iconst (pc := 1436) (v := 2) dL_law_1436 (by decide) ?_
    refine ev_iadd (pc := 1437) dL_law_1437 ?_
    rw [nI_a2]
    refine ev_sld (pc := 1438) dL_law_1438 rfl (vp_in_nI (show j + 2 < q.1 by omega) (by omega)) ?_
    refine cV2 (pc := 1439) (lk_L_law_1439 _) (ou_0 f21) rfl rfl (Nat.le_of_ble_eq_true rfl) ⟨(by show kc + 2 + 0 ≤ 601024; omega), (by show ks + 12 + 0 ≤ 7293034; omega)⟩ e2 ?_
    refine ev_lstore (pc := 1442) dL_law_1442 rfl rfl ?_
    refine ev_aload_n (pc := 1444) dL_law_1444 rfl rfl ?_
    refine cV0 (pc := 1445) (lk_L_law_1445 _) (ou_0 g21) rfl rfl (Nat.le_of_ble_eq_true rfl) ⟨(by show kc + 2 + 0 + 0 ≤ 601024; omega), (by show ks + 12 + 0 + 0 ≤ 7293034; omega)⟩ e3 ?_
    refine ev_iload (pc := 1448) dL_law_1448 rfl ?_
    refine ev_ic_eq (pc := 1450) (tgt := 1455) dL_law_1450 (by decide) (fun _ => ?_) (fun c_1450 => absurd rfl c_1450)
    refine ev_iload (pc := 1455) dL_law_1455 rfl ?_
    refine ev_if_ne (pc := 1457) (tgt := 1471) dL_law_1457 (by decide) (fun c_1457 => absurd rfl c_1457) (fun _ => ?_)
    refine ev_aload_n (pc := 1460) dL_law_1460 rfl rfl ?_
    refine ev_iconst (pc := 1461) (v := 0) dL_law_1461 (by decide) ?_
    refine ev_laldN (pc := 1462) dL_law_1462 (ou_get g34) ⟨(show _ = nI 0 from rfl), by decide, by decide⟩ pk_uLs ?_
    refine ev_lload (pc := 1463) dL_law_1463 rfl ?_
    refine ev_lcmp (pc := 1465) dL_law_1465 ?_
    refine ev_if_eq (pc := 1466) (tgt := 1471) dL_law_1466 (by decide) (fun _ => ?_) (fun c_1466 => absurd ((lg_cmp_eq _ _).mpr rfl) c_1466)
    refine ev_goto (pc := 1471) (tgt := 1662) dL_law_1471 (by decide) ?_
    exact k A2 _ _ _ _ _ _ (gi_mono (Nat.le_succ n) g4) g1 (by show kc + 2 + 0 + 0 ≤ kc + 8; omega) (by show ks + 12 + 0 + 0 ≤ ks + 64; omega)
  · obtain ⟨A1, f1, e1, hs⟩ := hs (ouC o)
    obtain ⟨A2, g1, e2, e3, g4⟩ := hs (ouC o)
    obtain ⟨-, -, ⟨fs1, f21⟩⟩ := id f1
    obtain ⟨-, -, ⟨fs2, g21⟩⟩ := id g1
    refine ev_aload_n (pc := 1407) dL_law_1407 rfl rfl ?_
    refine ev_aloadS_n (pc := 1408) dL_law_1408 rfl rfl ?_
    refine ev_iload (pc := 1409) dL_law_1409 rfl ?_
    refine ev_iconst (pc := 1411) (v := 1) dL_law_1411 (by decide) ?_
    refine ev_iadd (pc := 1412) dL_law_1412 ?_
    rw [nI_a1]
    refine ev_sld (pc := 1413) dL_law_1413 rfl (vp_in_nI (show j + 1 < q.1 by omega) (by omega)) ?_
    refine ev_aloadS_n (pc := 1414) dL_law_1414 rfl rfl ?_
    refine ev_iload (pc := 1415) dL_law_1415 rfl ?_
    refine ev_iconst (pc := 1417) (v := 2) dL_law_1417 (by decide) ?_
    refine ev_iadd (pc := 1418) dL_law_1418 ?_
    rw [nI_a2]
    refine ev_sld (pc := 1419) dL_law_1419 rfl (vp_in_nI (show j + 2 < q.1 by omega) (by omega)) ?_
    refine ev_aload_n (pc := 1420) dL_law_1420 rfl rfl ?_
    refine cX4 (pc := 1421) (lk_L_law_1421 _) (Nat.le_of_ble_eq_true rfl) ⟨(by show kc + 2 ≤ 601024; omega), (by show ks + 12 ≤ 7293034; omega)⟩ (w_slotWord_T1 hw f1 e1) ?_
    refine ev_istore (pc := 1424) dL_law_1424 rfl rfl ?_
    refine ev_aload_n (pc := 1426) dL_law_1426 rfl rfl ?_
    refine ev_aloadS_n (pc := 1427) dL_law_1427 rfl rfl ?_
    refine ev_iload (pc := 1428) dL_law_1428 rfl ?_
    refine ev_iconst (pc := 1430) (v := 1) dL_law_1430 (by decide) ?_
    refine ev_iadd (pc := 1431) dL_law_1431 ?_
    rw [nI_a1]
    refine ev_sld (pc := 1432) dL_law_1432 rfl (vp_in_nI (show j + 1 < q.1 by omega) (by omega)) ?_
    refine ev_aloadS_n (pc := 1433) dL_law_1433 rfl rfl ?_
    refine ev_iload (pc := 1434) dL_law_1434 rfl ?_
    refine ev_iconst (pc := 1436) (v := 2) dL_law_1436 (by decide) ?_
    refine ev_iadd (pc := 1437) dL_law_1437 ?_
    rw [nI_a2]
    refine ev_sld (pc := 1438) dL_law_1438 rfl (vp_in_nI (show j + 2 < q.1 by omega) (by omega)) ?_
    refine cV2 (pc := 1439) (lk_L_law_1439 _) (ou_0 f21) rfl rfl (Nat.le_of_ble_eq_true rfl) ⟨(by show kc + 2 + 0 ≤ 601024; omega), (by show ks + 12 + 0 ≤ 7293034; omega)⟩ e2 ?_
    refine ev_lstore (pc := 1442) dL_law_1442 rfl rfl ?_
    refine ev_aload_n (pc := 1444) dL_law_1444 rfl rfl ?_
    refine cV0 (pc := 1445) (lk_L_law_1445 _) (ou_0 g21) rfl rfl (Nat.le_of_ble_eq_true rfl) ⟨(by show kc + 2 + 0 + 0 ≤ 601024; omega), (by show ks + 12 + 0 + 0 ≤ 7293034; omega)⟩ e3 ?_
    refine ev_iload (pc := 1448) dL_law_1448 rfl ?_
    refine ev_ic_eq (pc := 1450) (tgt := 1455) dL_law_1450 (by decide) (fun _ => ?_) (fun c_1450 => absurd rfl c_1450)
    refine ev_iload (pc := 1455) dL_law_1455 rfl ?_
    refine ev_if_ne (pc := 1457) (tgt := 1471) dL_law_1457 (by decide) (fun _ => ?_) (fun c_1457 => absurd c_1457 (by decide))
    refine ev_goto (pc := 1471) (tgt := 1662) dL_law_1471 (by decide) ?_
    exact k A2 _ _ _ _ _ _ (gi_mono (Nat.le_succ n) g4) g1 (by show kc + 2 + 0 + 0 ≤ kc + 8; omega) (by show ks + 12 + 0 + 0 ≤ ks + 64; omega)
theorem lc_26 {n j kc ks : Nat} {q : Nat × (Nat → Int32)} {A : List mC} {o : Nat → Int64} {v5 v6 v7 : Value} (hA : GI n A) (hw : wf A) (hn : n ≤ 512) (hj : j + 2 < q.1) (hq : q.1 ≤ 1536) (hkc : kc ≤ 500000) (hks : ks ≤ 7000000) (k : LK q n j kc ks) : EvF (m_L_law q) QL 1474 [scr1, .ref 0, .ref 21, .ref 34, .int (nI j), v5, v6, v7] [] kc ks (A ++ [ouC o]) := by
  obtain ⟨h34, ⟨fs, h0⟩, -⟩ := id hw
  rcases st_isWhole hA (q.2 (nI (j + 1)).toNatClampNeg) with ⟨v, hv, hs⟩ | hs
  · obtain ⟨A1, f1, e1, hs⟩ := hs (ouC o)
    obtain ⟨A2, g1, e2, e3, g4⟩ := hs (ouC (vp_updL o 0 v.toInt64))
    obtain ⟨f34, -, ⟨fs1, f21⟩⟩ := id f1
    obtain ⟨g34, -, ⟨fs2, g21⟩⟩ := id g1
    have hv0 := hv
    rcases hv with rfl | rfl
    · refine ev_aload_n (pc := 1474) dL_law_1474 rfl rfl ?_
      refine ev_aloadS_n (pc := 1475) dL_law_1475 rfl rfl ?_
      refine ev_iload (pc := 1476) dL_law_1476 rfl ?_
      refine ev_iconst (pc := 1478) (v := 1) dL_law_1478 (by decide) ?_
      refine ev_iadd (pc := 1479) dL_law_1479 ?_
      rw [nI_a1]
      refine ev_sld (pc := 1480) dL_law_1480 rfl (vp_in_nI (show j + 1 < q.1 by omega) (by omega)) ?_
      refine ev_aload_n (pc := 1481) dL_law_1481 rfl rfl ?_
      refine cX3 (pc := 1482) (lk_L_law_1482 _) (Nat.le_of_ble_eq_true rfl) ⟨(by show kc + 1 ≤ 601024; omega), (by show ks + 6 ≤ 7293034; omega)⟩ (w_isWhole hw f1 hv0 e1) ?_
      refine ev_istore (pc := 1485) dL_law_1485 rfl rfl ?_
      refine ev_aload_n (pc := 1487) dL_law_1487 rfl rfl ?_
      refine ev_aloadS_n (pc := 1488) dL_law_1488 rfl rfl ?_
      refine ev_iload (pc := 1489) dL_law_1489 rfl ?_
      refine ev_iconst (pc := 1491) (v := 1) dL_law_1491 (by decide) ?_
      refine ev_iadd (pc := 1492) dL_law_1492 ?_
      rw [nI_a1]
      refine ev_sld (pc := 1493) dL_law_1493 rfl (vp_in_nI (show j + 1 < q.1 by omega) (by omega)) ?_
      refine cV1 (pc := 1494) (lk_L_law_1494 _) (ou_0 f21) rfl rfl (Nat.le_of_ble_eq_true rfl) ⟨(by show kc + 1 + 0 ≤ 601024; omega), (by show ks + 6 + 0 ≤ 7293034; omega)⟩ e2 ?_
      refine ev_istore (pc := 1497) dL_law_1497 rfl rfl ?_
      refine ev_aload_n (pc := 1499) dL_law_1499 rfl rfl ?_
      refine cV0 (pc := 1500) (lk_L_law_1500 _) (ou_0 g21) rfl rfl (Nat.le_of_ble_eq_true rfl) ⟨(by show kc + 1 + 0 + 0 ≤ 601024; omega), (by show ks + 6 + 0 + 0 ≤ 7293034; omega)⟩ e3 ?_
      refine ev_iload (pc := 1503) dL_law_1503 rfl ?_
      refine ev_ic_eq (pc := 1505) (tgt := 1510) dL_law_1505 (by decide) (fun _ => ?_) (fun c_1505 => absurd rfl c_1505)
      refine ev_iload (pc := 1510) dL_law_1510 rfl ?_
      refine ev_if_ne (pc := 1512) (tgt := 1534) dL_law_1512 (by decide) (fun c_1512 => absurd rfl c_1512) (fun _ => ?_)
      refine ev_aload_n (pc := 1515) dL_law_1515 rfl rfl ?_
      refine ev_iconst (pc := 1516) (v := 0) dL_law_1516 (by decide) ?_
      refine ev_laldN (pc := 1517) dL_law_1517 (ou_get g34) ⟨(show _ = nI 0 from rfl), by decide, by decide⟩ pk_uLs ?_
      refine ev_iload (pc := 1518) dL_law_1518 rfl ?_
      refine ev_if_eq (pc := 1520) (tgt := 1527) dL_law_1520 (by decide) (fun _ => ?_) (fun c_1520 => absurd rfl c_1520)
      refine ev_lconst (pc := 1527) (v := 0) dL_law_1527 (by decide) ?_
      refine ev_lcmp (pc := 1528) dL_law_1528 ?_
      refine ev_if_eq (pc := 1529) (tgt := 1534) dL_law_1529 (by decide) (fun _ => ?_) (fun c_1529 => absurd ((lg_cmp_eq _ _).mpr rfl) c_1529)
      refine ev_goto (pc := 1534) (tgt := 1662) dL_law_1534 (by decide) ?_
      exact k A2 _ _ _ _ _ _ (gi_mono (Nat.le_succ n) g4) g1 (by show kc + 1 + 0 + 0 ≤ kc + 8; omega) (by show ks + 6 + 0 + 0 ≤ ks + 64; omega)
    · refine ev_aload_n (pc := 1474) dL_law_1474 rfl rfl ?_
      refine ev_aloadS_n (pc := 1475) dL_law_1475 rfl rfl ?_
      refine ev_iload (pc := 1476) dL_law_1476 rfl ?_
      refine ev_iconst (pc := 1478) (v := 1) dL_law_1478 (by decide) ?_
      refine ev_iadd (pc := 1479) dL_law_1479 ?_
      rw [nI_a1]
      refine ev_sld (pc := 1480) dL_law_1480 rfl (vp_in_nI (show j + 1 < q.1 by omega) (by omega)) ?_
      refine ev_aload_n (pc := 1481) dL_law_1481 rfl rfl ?_
      refine cX3 (pc := 1482) (lk_L_law_1482 _) (Nat.le_of_ble_eq_true rfl) ⟨(by show kc + 1 ≤ 601024; omega), (by show ks + 6 ≤ 7293034; omega)⟩ (w_isWhole hw f1 hv0 e1) ?_
      refine ev_istore (pc := 1485) dL_law_1485 rfl rfl ?_
      refine ev_aload_n (pc := 1487) dL_law_1487 rfl rfl ?_
      refine ev_aloadS_n (pc := 1488) dL_law_1488 rfl rfl ?_
      refine ev_iload (pc := 1489) dL_law_1489 rfl ?_
      refine ev_iconst (pc := 1491) (v := 1) dL_law_1491 (by decide) ?_
      refine ev_iadd (pc := 1492) dL_law_1492 ?_
      rw [nI_a1]
      refine ev_sld (pc := 1493) dL_law_1493 rfl (vp_in_nI (show j + 1 < q.1 by omega) (by omega)) ?_
      refine cV1 (pc := 1494) (lk_L_law_1494 _) (ou_0 f21) rfl rfl (Nat.le_of_ble_eq_true rfl) ⟨(by show kc + 1 + 0 ≤ 601024; omega), (by show ks + 6 + 0 ≤ 7293034; omega)⟩ e2 ?_
      refine ev_istore (pc := 1497) dL_law_1497 rfl rfl ?_
      refine ev_aload_n (pc := 1499) dL_law_1499 rfl rfl ?_
      refine cV0 (pc := 1500) (lk_L_law_1500 _) (ou_0 g21) rfl rfl (Nat.le_of_ble_eq_true rfl) ⟨(by show kc + 1 + 0 + 0 ≤ 601024; omega), (by show ks + 6 + 0 + 0 ≤ 7293034; omega)⟩ e3 ?_
      refine ev_iload (pc := 1503) dL_law_1503 rfl ?_
      refine ev_ic_eq (pc := 1505) (tgt := 1510) dL_law_1505 (by decide) (fun _ => ?_) (fun c_1505 => absurd rfl c_1505)
      refine ev_iload (pc := 1510) dL_law_1510 rfl ?_
      refine ev_if_ne (pc := 1512) (tgt := 1534) dL_law_1512 (by decide) (fun c_1512 => absurd rfl c_1512) (fun _ => ?_)
      refine ev_aload_n (pc := 1515) dL_law_1515 rfl rfl ?_
      refine ev_iconst (pc := 1516) (v := 0) dL_law_1516 (by decide) ?_
      refine ev_laldN (pc := 1517) dL_law_1517 (ou_get g34) ⟨(show _ = nI 0 from rfl), by decide, by decide⟩ pk_uLs ?_
      refine ev_iload (pc := 1518) dL_law_1518 rfl ?_
      refine ev_if_eq (pc := 1520) (tgt := 1527) dL_law_1520 (by decide) (fun c_1520 => absurd c_1520 (by decide)) (fun _ => ?_)
      refine ev_lconst (pc := 1523) (v := 1) dL_law_1523 (by decide) ?_
      refine ev_goto (pc := 1524) (tgt := 1528) dL_law_1524 (by decide) ?_
      refine ev_lcmp (pc := 1528) dL_law_1528 ?_
      refine ev_if_eq (pc := 1529) (tgt := 1534) dL_law_1529 (by decide) (fun _ => ?_) (fun c_1529 => absurd ((lg_cmp_eq _ _).mpr rfl) c_1529)
      refine ev_goto (pc := 1534) (tgt := 1662) dL_law_1534 (by decide) ?_
      exact k A2 _ _ _ _ _ _ (gi_mono (Nat.le_succ n) g4) g1 (by show kc + 1 + 0 + 0 ≤ kc + 8; omega) (by show ks + 6 + 0 + 0 ≤ ks + 64; omega)
  · obtain ⟨A1, f1, e1, hs⟩ := hs (ouC o)
    obtain ⟨A2, g1, e2, e3, g4⟩ := hs (ouC o)
    obtain ⟨-, -, ⟨fs1, f21⟩⟩ := id f1
    obtain ⟨-, -, ⟨fs2, g21⟩⟩ := id g1
    refine ev_aload_n (pc := 1474) dL_law_1474 rfl rfl ?_
    refine ev_aloadS_n (pc := 1475) dL_law_1475 rfl rfl ?_
    refine ev_iload (pc := 1476) dL_law_1476 rfl ?_
    refine ev_iconst (pc := 1478) (v := 1) dL_law_1478 (by decide) ?_
    refine ev_iadd (pc := 1479) dL_law_1479 ?_
    rw [nI_a1]
    refine ev_sld (pc := 1480) dL_law_1480 rfl (vp_in_nI (show j + 1 < q.1 by omega) (by omega)) ?_
    refine ev_aload_n (pc := 1481) dL_law_1481 rfl rfl ?_
    refine cX3 (pc := 1482) (lk_L_law_1482 _) (Nat.le_of_ble_eq_true rfl) ⟨(by show kc + 1 ≤ 601024; omega), (by show ks + 6 ≤ 7293034; omega)⟩ (w_isWhole_T1 hw f1 e1) ?_
    refine ev_istore (pc := 1485) dL_law_1485 rfl rfl ?_
    refine ev_aload_n (pc := 1487) dL_law_1487 rfl rfl ?_
    refine ev_aloadS_n (pc := 1488) dL_law_1488 rfl rfl ?_
    refine ev_iload (pc := 1489) dL_law_1489 rfl ?_
    refine ev_iconst (pc := 1491) (v := 1) dL_law_1491 (by decide) ?_
    refine ev_iadd (pc := 1492) dL_law_1492 ?_
    rw [nI_a1]
    refine ev_sld (pc := 1493) dL_law_1493 rfl (vp_in_nI (show j + 1 < q.1 by omega) (by omega)) ?_
    refine cV1 (pc := 1494) (lk_L_law_1494 _) (ou_0 f21) rfl rfl (Nat.le_of_ble_eq_true rfl) ⟨(by show kc + 1 + 0 ≤ 601024; omega), (by show ks + 6 + 0 ≤ 7293034; omega)⟩ e2 ?_
    refine ev_istore (pc := 1497) dL_law_1497 rfl rfl ?_
    refine ev_aload_n (pc := 1499) dL_law_1499 rfl rfl ?_
    refine cV0 (pc := 1500) (lk_L_law_1500 _) (ou_0 g21) rfl rfl (Nat.le_of_ble_eq_true rfl) ⟨(by show kc + 1 + 0 + 0 ≤ 601024; omega), (by show ks + 6 + 0 + 0 ≤ 7293034; omega)⟩ e3 ?_
    refine ev_iload (pc := 1503) dL_law_1503 rfl ?_
    refine ev_ic_eq (pc := 1505) (tgt := 1510) dL_law_1505 (by decide) (fun _ => ?_) (fun c_1505 => absurd rfl c_1505)
    refine ev_iload (pc := 1510) dL_law_1510 rfl ?_
    refine ev_if_ne (pc := 1512) (tgt := 1534) dL_law_1512 (by decide) (fun _ => ?_) (fun c_1512 => absurd c_1512 (by decide))
    refine ev_goto (pc := 1534) (tgt := 1662) dL_law_1534 (by decide) ?_
    exact k A2 _ _ _ _ _ _ (gi_mono (Nat.le_succ n) g4) g1 (by show kc + 1 + 0 + 0 ≤ kc + 8; omega) (by show ks + 6 + 0 + 0 ≤ ks + 64; omega)
theorem lc_27 {n j kc ks : Nat} {q : Nat × (Nat → Int32)} {A : List mC} {o : Nat → Int64} {v5 v6 v7 : Value} (hA : GI n A) (hw : wf A) (hn : n ≤ 512) (hj : j + 2 < q.1) (hq : q.1 ≤ 1536) (hkc : kc ≤ 500000) (hks : ks ≤ 7000000) (k : LK q n j kc ks) : EvF (m_L_law q) QL 1537 [scr1, .ref 0, .ref 21, .ref 34, .int (nI j), v5, v6, v7] [] kc ks (A ++ [ouC o]) := by
  obtain ⟨h34, ⟨fs, h0⟩, -⟩ := id hw
  rcases st_tear hA (by omega) (q.2 (nI (j + 1)).toNatClampNeg) with ⟨v, hs⟩ | hs | hs
  · obtain ⟨A1, f1, e1, hs⟩ := hs (ouC o)
    obtain ⟨A2, g1, e2, e3, g4⟩ := hs (ouC (vp_updL o 0 v.toInt64))
    obtain ⟨f34, -, ⟨fs1, f21⟩⟩ := id f1
    obtain ⟨g34, -, ⟨fs2, g21⟩⟩ := id g1
    refine ev_aload_n (pc := 1537) dL_law_1537 rfl rfl ?_
    refine ev_aloadS_n (pc := 1538) dL_law_1538 rfl rfl ?_
    refine ev_iload (pc := 1539) dL_law_1539 rfl ?_
    refine ev_iconst (pc := 1541) (v := 1) dL_law_1541 (by decide) ?_
    refine ev_iadd (pc := 1542) dL_law_1542 ?_
    rw [nI_a1]
    refine ev_sld (pc := 1543) dL_law_1543 rfl (vp_in_nI (show j + 1 < q.1 by omega) (by omega)) ?_
    refine ev_aload_n (pc := 1544) dL_law_1544 rfl rfl ?_
    refine cX3 (pc := 1545) (lk_L_law_1545 _) (Nat.le_of_ble_eq_true rfl) ⟨(by show kc + 2 ≤ 601024; omega), (by show ks + 12 ≤ 7293034; omega)⟩ (w_tear hw f1 e1) ?_
    refine ev_istore (pc := 1548) dL_law_1548 rfl rfl ?_
    refine ev_aload_n (pc := 1550) dL_law_1550 rfl rfl ?_
    refine ev_aloadS_n (pc := 1551) dL_law_1551 rfl rfl ?_
    refine ev_iload (pc := 1552) dL_law_1552 rfl ?_
    refine ev_iconst (pc := 1554) (v := 1) dL_law_1554 (by decide) ?_
    refine ev_iadd (pc := 1555) dL_law_1555 ?_
    rw [nI_a1]
    refine ev_sld (pc := 1556) dL_law_1556 rfl (vp_in_nI (show j + 1 < q.1 by omega) (by omega)) ?_
    refine cV1 (pc := 1557) (lk_L_law_1557 _) (ou_0 f21) rfl rfl (Nat.le_of_ble_eq_true rfl) ⟨(by show kc + 2 + 0 ≤ 601024; omega), (by show ks + 12 + 0 ≤ 7293034; omega)⟩ e2 ?_
    refine ev_istore (pc := 1560) dL_law_1560 rfl rfl ?_
    refine ev_aload_n (pc := 1562) dL_law_1562 rfl rfl ?_
    refine cV0 (pc := 1563) (lk_L_law_1563 _) (ou_0 g21) rfl rfl (Nat.le_of_ble_eq_true rfl) ⟨(by show kc + 2 + 0 + 0 ≤ 601024; omega), (by show ks + 12 + 0 + 0 ≤ 7293034; omega)⟩ e3 ?_
    refine ev_iload (pc := 1566) dL_law_1566 rfl ?_
    refine ev_ic_eq (pc := 1568) (tgt := 1573) dL_law_1568 (by decide) (fun _ => ?_) (fun c_1568 => absurd rfl c_1568)
    refine ev_iload (pc := 1573) dL_law_1573 rfl ?_
    refine ev_if_ne (pc := 1575) (tgt := 1590) dL_law_1575 (by decide) (fun c_1575 => absurd rfl c_1575) (fun _ => ?_)
    refine ev_aload_n (pc := 1578) dL_law_1578 rfl rfl ?_
    refine ev_iconst (pc := 1579) (v := 0) dL_law_1579 (by decide) ?_
    refine ev_laldN (pc := 1580) dL_law_1580 (ou_get g34) ⟨(show _ = nI 0 from rfl), by decide, by decide⟩ pk_uLs ?_
    refine ev_iload (pc := 1581) dL_law_1581 rfl ?_
    refine ev_i2l (pc := 1583) dL_law_1583 ?_
    refine ev_lcmp (pc := 1584) dL_law_1584 ?_
    refine ev_if_eq (pc := 1585) (tgt := 1590) dL_law_1585 (by decide) (fun _ => ?_) (fun c_1585 => absurd ((lg_cmp_eq _ _).mpr rfl) c_1585)
    refine ev_goto (pc := 1590) (tgt := 1662) dL_law_1590 (by decide) ?_
    exact k A2 _ _ _ _ _ _ (gi_mono (Nat.le_succ n) g4) g1 (by show kc + 2 + 0 + 0 ≤ kc + 8; omega) (by show ks + 12 + 0 + 0 ≤ ks + 64; omega)
  · obtain ⟨A1, f1, e1, hs⟩ := hs (ouC o)
    obtain ⟨A2, g1, e2, e3, g4⟩ := hs (ouC o)
    obtain ⟨-, -, ⟨fs1, f21⟩⟩ := id f1
    obtain ⟨-, -, ⟨fs2, g21⟩⟩ := id g1
    refine ev_aload_n (pc := 1537) dL_law_1537 rfl rfl ?_
    refine ev_aloadS_n (pc := 1538) dL_law_1538 rfl rfl ?_
    refine ev_iload (pc := 1539) dL_law_1539 rfl ?_
    refine ev_iconst (pc := 1541) (v := 1) dL_law_1541 (by decide) ?_
    refine ev_iadd (pc := 1542) dL_law_1542 ?_
    rw [nI_a1]
    refine ev_sld (pc := 1543) dL_law_1543 rfl (vp_in_nI (show j + 1 < q.1 by omega) (by omega)) ?_
    refine ev_aload_n (pc := 1544) dL_law_1544 rfl rfl ?_
    refine cX3 (pc := 1545) (lk_L_law_1545 _) (Nat.le_of_ble_eq_true rfl) ⟨(by show kc + 2 ≤ 601024; omega), (by show ks + 12 ≤ 7293034; omega)⟩ (w_tear_T1 hw f1 e1) ?_
    refine ev_istore (pc := 1548) dL_law_1548 rfl rfl ?_
    refine ev_aload_n (pc := 1550) dL_law_1550 rfl rfl ?_
    refine ev_aloadS_n (pc := 1551) dL_law_1551 rfl rfl ?_
    refine ev_iload (pc := 1552) dL_law_1552 rfl ?_
    refine ev_iconst (pc := 1554) (v := 1) dL_law_1554 (by decide) ?_
    refine ev_iadd (pc := 1555) dL_law_1555 ?_
    rw [nI_a1]
    refine ev_sld (pc := 1556) dL_law_1556 rfl (vp_in_nI (show j + 1 < q.1 by omega) (by omega)) ?_
    refine cV1 (pc := 1557) (lk_L_law_1557 _) (ou_0 f21) rfl rfl (Nat.le_of_ble_eq_true rfl) ⟨(by show kc + 2 + 0 ≤ 601024; omega), (by show ks + 12 + 0 ≤ 7293034; omega)⟩ e2 ?_
    refine ev_istore (pc := 1560) dL_law_1560 rfl rfl ?_
    refine ev_aload_n (pc := 1562) dL_law_1562 rfl rfl ?_
    refine cV0 (pc := 1563) (lk_L_law_1563 _) (ou_0 g21) rfl rfl (Nat.le_of_ble_eq_true rfl) ⟨(by show kc + 2 + 0 + 0 ≤ 601024; omega), (by show ks + 12 + 0 + 0 ≤ 7293034; omega)⟩ e3 ?_
    refine ev_iload (pc := 1566) dL_law_1566 rfl ?_
    refine ev_ic_eq (pc := 1568) (tgt := 1573) dL_law_1568 (by decide) (fun _ => ?_) (fun c_1568 => absurd rfl c_1568)
    refine ev_iload (pc := 1573) dL_law_1573 rfl ?_
    refine ev_if_ne (pc := 1575) (tgt := 1590) dL_law_1575 (by decide) (fun _ => ?_) (fun c_1575 => absurd c_1575 (by decide))
    refine ev_goto (pc := 1590) (tgt := 1662) dL_law_1590 (by decide) ?_
    exact k A2 _ _ _ _ _ _ (gi_mono (Nat.le_succ n) g4) g1 (by show kc + 2 + 0 + 0 ≤ kc + 8; omega) (by show ks + 12 + 0 + 0 ≤ ks + 64; omega)
  · obtain ⟨A1, f1, e1, hs⟩ := hs (ouC o)
    obtain ⟨A2, g1, e2, e3, g4⟩ := hs (ouC o)
    obtain ⟨-, -, ⟨fs1, f21⟩⟩ := id f1
    obtain ⟨-, -, ⟨fs2, g21⟩⟩ := id g1
    refine ev_aload_n (pc := 1537) dL_law_1537 rfl rfl ?_
    refine ev_aloadS_n (pc := 1538) dL_law_1538 rfl rfl ?_
    refine ev_iload (pc := 1539) dL_law_1539 rfl ?_
    refine ev_iconst (pc := 1541) (v := 1) dL_law_1541 (by decide) ?_
    refine ev_iadd (pc := 1542) dL_law_1542 ?_
    rw [nI_a1]
    refine ev_sld (pc := 1543) dL_law_1543 rfl (vp_in_nI (show j + 1 < q.1 by omega) (by omega)) ?_
    refine ev_aload_n (pc := 1544) dL_law_1544 rfl rfl ?_
    refine cX3 (pc := 1545) (lk_L_law_1545 _) (Nat.le_of_ble_eq_true rfl) ⟨(by show kc + 2 ≤ 601024; omega), (by show ks + 12 ≤ 7293034; omega)⟩ (w_tear_T2 hw f1 e1) ?_
    refine ev_istore (pc := 1548) dL_law_1548 rfl rfl ?_
    refine ev_aload_n (pc := 1550) dL_law_1550 rfl rfl ?_
    refine ev_aloadS_n (pc := 1551) dL_law_1551 rfl rfl ?_
    refine ev_iload (pc := 1552) dL_law_1552 rfl ?_
    refine ev_iconst (pc := 1554) (v := 1) dL_law_1554 (by decide) ?_
    refine ev_iadd (pc := 1555) dL_law_1555 ?_
    rw [nI_a1]
    refine ev_sld (pc := 1556) dL_law_1556 rfl (vp_in_nI (show j + 1 < q.1 by omega) (by omega)) ?_
    refine cV1 (pc := 1557) (lk_L_law_1557 _) (ou_0 f21) rfl rfl (Nat.le_of_ble_eq_true rfl) ⟨(by show kc + 2 + 0 ≤ 601024; omega), (by show ks + 12 + 0 ≤ 7293034; omega)⟩ e2 ?_
    refine ev_istore (pc := 1560) dL_law_1560 rfl rfl ?_
    refine ev_aload_n (pc := 1562) dL_law_1562 rfl rfl ?_
    refine cV0 (pc := 1563) (lk_L_law_1563 _) (ou_0 g21) rfl rfl (Nat.le_of_ble_eq_true rfl) ⟨(by show kc + 2 + 0 + 0 ≤ 601024; omega), (by show ks + 12 + 0 + 0 ≤ 7293034; omega)⟩ e3 ?_
    refine ev_iload (pc := 1566) dL_law_1566 rfl ?_
    refine ev_ic_eq (pc := 1568) (tgt := 1573) dL_law_1568 (by decide) (fun _ => ?_) (fun c_1568 => absurd rfl c_1568)
    refine ev_iload (pc := 1573) dL_law_1573 rfl ?_
    refine ev_if_ne (pc := 1575) (tgt := 1590) dL_law_1575 (by decide) (fun _ => ?_) (fun c_1575 => absurd c_1575 (by decide))
    refine ev_goto (pc := 1590) (tgt := 1662) dL_law_1590 (by decide) ?_
    exact k A2 _ _ _ _ _ _ (gi_mono (Nat.le_succ n) g4) g1 (by show kc + 2 + 0 + 0 ≤ kc + 8; omega) (by show ks + 12 + 0 + 0 ≤ ks + 64; omega)
theorem lc_28 {n j kc ks : Nat} {q : Nat × (Nat → Int32)} {A : List mC} {o : Nat → Int64} {v5 v6 v7 : Value} (hA : GI n A) (hw : wf A) (hn : n ≤ 512) (hj : j + 2 < q.1) (hq : q.1 ≤ 1536) (hkc : kc ≤ 500000) (hks : ks ≤ 7000000) (k : LK q n j kc ks) : EvF (m_L_law q) QL 1593 [scr1, .ref 0, .ref 21, .ref 34, .int (nI j), v5, v6, v7] [] kc ks (A ++ [ouC o]) := by
  obtain ⟨h34, ⟨fs, h0⟩, -⟩ := id hw
  obtain ⟨a, hs⟩ := st_crash hA (by omega)
  obtain ⟨A1, f1, e1, hs⟩ := hs (ouC o)
  obtain ⟨A2, g1, e2, e3, g4⟩ := hs (ouC o)
  obtain ⟨-, -, ⟨fs1, f21⟩⟩ := id f1
  refine ev_aload_n (pc := 1593) dL_law_1593 rfl rfl ?_
  refine cV0 (pc := 1594) (lk_L_law_1594 _) (ou_0 h0) rfl rfl (Nat.le_of_ble_eq_true rfl) ⟨(by show kc + 0 ≤ 601024; omega), (by show ks + 0 ≤ 7293034; omega)⟩ e1 ?_
  refine ev_aload_n (pc := 1597) dL_law_1597 rfl rfl ?_
  refine cV0 (pc := 1598) (lk_L_law_1598 _) (ou_0 f21) rfl rfl (Nat.le_of_ble_eq_true rfl) ⟨(by show kc + 0 + 0 ≤ 601024; omega), (by show ks + 0 + 0 ≤ 7293034; omega)⟩ e2 ?_
  refine ev_ic_eq (pc := 1601) (tgt := 1662) dL_law_1601 (by decide) (fun _ => ?_) (fun c_1601 => absurd rfl c_1601)
  exact k A2 o v5 v6 v7 _ _ (gi_mono (Nat.le_succ n) g4) g1 (by show kc + 0 + 0 ≤ kc + 8; omega) (by show ks + 0 + 0 ≤ ks + 64; omega)
theorem lc_29 {n j kc ks : Nat} {q : Nat × (Nat → Int32)} {A : List mC} {o : Nat → Int64} {v5 v6 v7 : Value} (hA : GI n A) (hw : wf A) (hn : n ≤ 512) (hj : j + 2 < q.1) (hq : q.1 ≤ 1536) (hkc : kc ≤ 500000) (hks : ks ≤ 7000000) (k : LK q n j kc ks) : EvF (m_L_law q) QL 1606 [scr1, .ref 0, .ref 21, .ref 34, .int (nI j), v5, v6, v7] [] kc ks (A ++ [ouC o]) := by
  obtain ⟨h34, ⟨fs, h0⟩, -⟩ := id hw
  rcases st_cic hA (by omega) (q.2 (nI (j + 1)).toNatClampNeg) with ⟨v, hs⟩ | hs | hs
  · obtain ⟨A1, f1, e1, hs⟩ := hs (ouC o)
    obtain ⟨A2, g1, e2, e3, g4⟩ := hs (ouC (vp_updL o 0 v.toInt64))
    obtain ⟨f34, -, ⟨fs1, f21⟩⟩ := id f1
    obtain ⟨g34, -, ⟨fs2, g21⟩⟩ := id g1
    refine ev_aload_n (pc := 1606) dL_law_1606 rfl rfl ?_
    refine ev_aloadS_n (pc := 1607) dL_law_1607 rfl rfl ?_
    refine ev_iload (pc := 1608) dL_law_1608 rfl ?_
    refine ev_iconst (pc := 1610) (v := 1) dL_law_1610 (by decide) ?_
    refine ev_iadd (pc := 1611) dL_law_1611 ?_
    rw [nI_a1]
    refine ev_sld (pc := 1612) dL_law_1612 rfl (vp_in_nI (show j + 1 < q.1 by omega) (by omega)) ?_
    refine ev_aload_n (pc := 1613) dL_law_1613 rfl rfl ?_
    refine cX3 (pc := 1614) (lk_L_law_1614 _) (Nat.le_of_ble_eq_true rfl) ⟨(by show kc + 3 ≤ 601024; omega), (by show ks + 18 ≤ 7293034; omega)⟩ (w_crashInCommit hw f1 e1) ?_
    refine ev_istore (pc := 1617) dL_law_1617 rfl rfl ?_
    refine ev_aload_n (pc := 1619) dL_law_1619 rfl rfl ?_
    refine ev_aloadS_n (pc := 1620) dL_law_1620 rfl rfl ?_
    refine ev_iload (pc := 1621) dL_law_1621 rfl ?_
    refine ev_iconst (pc := 1623) (v := 1) dL_law_1623 (by decide) ?_
    refine ev_iadd (pc := 1624) dL_law_1624 ?_
    rw [nI_a1]
    refine ev_sld (pc := 1625) dL_law_1625 rfl (vp_in_nI (show j + 1 < q.1 by omega) (by omega)) ?_
    refine cV1 (pc := 1626) (lk_L_law_1626 _) (ou_0 f21) rfl rfl (Nat.le_of_ble_eq_true rfl) ⟨(by show kc + 3 + 0 ≤ 601024; omega), (by show ks + 18 + 0 ≤ 7293034; omega)⟩ e2 ?_
    refine ev_istore (pc := 1629) dL_law_1629 rfl rfl ?_
    refine ev_aload_n (pc := 1631) dL_law_1631 rfl rfl ?_
    refine cV0 (pc := 1632) (lk_L_law_1632 _) (ou_0 g21) rfl rfl (Nat.le_of_ble_eq_true rfl) ⟨(by show kc + 3 + 0 + 0 ≤ 601024; omega), (by show ks + 18 + 0 + 0 ≤ 7293034; omega)⟩ e3 ?_
    refine ev_iload (pc := 1635) dL_law_1635 rfl ?_
    refine ev_ic_eq (pc := 1637) (tgt := 1642) dL_law_1637 (by decide) (fun _ => ?_) (fun c_1637 => absurd rfl c_1637)
    refine ev_iload (pc := 1642) dL_law_1642 rfl ?_
    refine ev_if_ne (pc := 1644) (tgt := 1659) dL_law_1644 (by decide) (fun c_1644 => absurd rfl c_1644) (fun _ => ?_)
    refine ev_aload_n (pc := 1647) dL_law_1647 rfl rfl ?_
    refine ev_iconst (pc := 1648) (v := 0) dL_law_1648 (by decide) ?_
    refine ev_laldN (pc := 1649) dL_law_1649 (ou_get g34) ⟨(show _ = nI 0 from rfl), by decide, by decide⟩ pk_uLs ?_
    refine ev_iload (pc := 1650) dL_law_1650 rfl ?_
    refine ev_i2l (pc := 1652) dL_law_1652 ?_
    refine ev_lcmp (pc := 1653) dL_law_1653 ?_
    refine ev_if_eq (pc := 1654) (tgt := 1659) dL_law_1654 (by decide) (fun _ => ?_) (fun c_1654 => absurd ((lg_cmp_eq _ _).mpr rfl) c_1654)
    refine ev_goto (pc := 1659) (tgt := 1662) dL_law_1659 (by decide) ?_
    exact k A2 _ _ _ _ _ _ g4 g1 (by show kc + 3 + 0 + 0 ≤ kc + 8; omega) (by show ks + 18 + 0 + 0 ≤ ks + 64; omega)
  · obtain ⟨A1, f1, e1, hs⟩ := hs (ouC o)
    obtain ⟨A2, g1, e2, e3, g4⟩ := hs (ouC o)
    obtain ⟨-, -, ⟨fs1, f21⟩⟩ := id f1
    obtain ⟨-, -, ⟨fs2, g21⟩⟩ := id g1
    refine ev_aload_n (pc := 1606) dL_law_1606 rfl rfl ?_
    refine ev_aloadS_n (pc := 1607) dL_law_1607 rfl rfl ?_
    refine ev_iload (pc := 1608) dL_law_1608 rfl ?_
    refine ev_iconst (pc := 1610) (v := 1) dL_law_1610 (by decide) ?_
    refine ev_iadd (pc := 1611) dL_law_1611 ?_
    rw [nI_a1]
    refine ev_sld (pc := 1612) dL_law_1612 rfl (vp_in_nI (show j + 1 < q.1 by omega) (by omega)) ?_
    refine ev_aload_n (pc := 1613) dL_law_1613 rfl rfl ?_
    refine cX3 (pc := 1614) (lk_L_law_1614 _) (Nat.le_of_ble_eq_true rfl) ⟨(by show kc + 3 ≤ 601024; omega), (by show ks + 18 ≤ 7293034; omega)⟩ (w_crashInCommit_T1 hw f1 e1) ?_
    refine ev_istore (pc := 1617) dL_law_1617 rfl rfl ?_
    refine ev_aload_n (pc := 1619) dL_law_1619 rfl rfl ?_
    refine ev_aloadS_n (pc := 1620) dL_law_1620 rfl rfl ?_
    refine ev_iload (pc := 1621) dL_law_1621 rfl ?_
    refine ev_iconst (pc := 1623) (v := 1) dL_law_1623 (by decide) ?_
    refine ev_iadd (pc := 1624) dL_law_1624 ?_
    rw [nI_a1]
    refine ev_sld (pc := 1625) dL_law_1625 rfl (vp_in_nI (show j + 1 < q.1 by omega) (by omega)) ?_
    refine cV1 (pc := 1626) (lk_L_law_1626 _) (ou_0 f21) rfl rfl (Nat.le_of_ble_eq_true rfl) ⟨(by show kc + 3 + 0 ≤ 601024; omega), (by show ks + 18 + 0 ≤ 7293034; omega)⟩ e2 ?_
    refine ev_istore (pc := 1629) dL_law_1629 rfl rfl ?_
    refine ev_aload_n (pc := 1631) dL_law_1631 rfl rfl ?_
    refine cV0 (pc := 1632) (lk_L_law_1632 _) (ou_0 g21) rfl rfl (Nat.le_of_ble_eq_true rfl) ⟨(by show kc + 3 + 0 + 0 ≤ 601024; omega), (by show ks + 18 + 0 + 0 ≤ 7293034; omega)⟩ e3 ?_
    refine ev_iload (pc := 1635) dL_law_1635 rfl ?_
    refine ev_ic_eq (pc := 1637) (tgt := 1642) dL_law_1637 (by decide) (fun _ => ?_) (fun c_1637 => absurd rfl c_1637)
    refine ev_iload (pc := 1642) dL_law_1642 rfl ?_
    refine ev_if_ne (pc := 1644) (tgt := 1659) dL_law_1644 (by decide) (fun _ => ?_) (fun c_1644 => absurd c_1644 (by decide))
    refine ev_goto (pc := 1659) (tgt := 1662) dL_law_1659 (by decide) ?_
    exact k A2 _ _ _ _ _ _ g4 g1 (by show kc + 3 + 0 + 0 ≤ kc + 8; omega) (by show ks + 18 + 0 + 0 ≤ ks + 64; omega)
  · obtain ⟨A1, f1, e1, hs⟩ := hs (ouC o)
    obtain ⟨A2, g1, e2, e3, g4⟩ := hs (ouC o)
    obtain ⟨-, -, ⟨fs1, f21⟩⟩ := id f1
    obtain ⟨-, -, ⟨fs2, g21⟩⟩ := id g1
    refine ev_aload_n (pc := 1606) dL_law_1606 rfl rfl ?_
    refine ev_aloadS_n (pc := 1607) dL_law_1607 rfl rfl ?_
    refine ev_iload (pc := 1608) dL_law_1608 rfl ?_
    refine ev_iconst (pc := 1610) (v := 1) dL_law_1610 (by decide) ?_
    refine ev_iadd (pc := 1611) dL_law_1611 ?_
    rw [nI_a1]
    refine ev_sld (pc := 1612) dL_law_1612 rfl (vp_in_nI (show j + 1 < q.1 by omega) (by omega)) ?_
    refine ev_aload_n (pc := 1613) dL_law_1613 rfl rfl ?_
    refine cX3 (pc := 1614) (lk_L_law_1614 _) (Nat.le_of_ble_eq_true rfl) ⟨(by show kc + 3 ≤ 601024; omega), (by show ks + 18 ≤ 7293034; omega)⟩ (w_crashInCommit_T2 hw f1 e1) ?_
    refine ev_istore (pc := 1617) dL_law_1617 rfl rfl ?_
    refine ev_aload_n (pc := 1619) dL_law_1619 rfl rfl ?_
    refine ev_aloadS_n (pc := 1620) dL_law_1620 rfl rfl ?_
    refine ev_iload (pc := 1621) dL_law_1621 rfl ?_
    refine ev_iconst (pc := 1623) (v := 1) dL_law_1623 (by decide) ?_
    refine ev_iadd (pc := 1624) dL_law_1624 ?_
    rw [nI_a1]
    refine ev_sld (pc := 1625) dL_law_1625 rfl (vp_in_nI (show j + 1 < q.1 by omega) (by omega)) ?_
    refine cV1 (pc := 1626) (lk_L_law_1626 _) (ou_0 f21) rfl rfl (Nat.le_of_ble_eq_true rfl) ⟨(by show kc + 3 + 0 ≤ 601024; omega), (by show ks + 18 + 0 ≤ 7293034; omega)⟩ e2 ?_
    refine ev_istore (pc := 1629) dL_law_1629 rfl rfl ?_
    refine ev_aload_n (pc := 1631) dL_law_1631 rfl rfl ?_
    refine cV0 (pc := 1632) (lk_L_law_1632 _) (ou_0 g21) rfl rfl (Nat.le_of_ble_eq_true rfl) ⟨(by show kc + 3 + 0 + 0 ≤ 601024; omega), (by show ks + 18 + 0 + 0 ≤ 7293034; omega)⟩ e3 ?_
    refine ev_iload (pc := 1635) dL_law_1635 rfl ?_
    refine ev_ic_eq (pc := 1637) (tgt := 1642) dL_law_1637 (by decide) (fun _ => ?_) (fun c_1637 => absurd rfl c_1637)
    refine ev_iload (pc := 1642) dL_law_1642 rfl ?_
    refine ev_if_ne (pc := 1644) (tgt := 1659) dL_law_1644 (by decide) (fun _ => ?_) (fun c_1644 => absurd c_1644 (by decide))
    refine ev_goto (pc := 1659) (tgt := 1662) dL_law_1659 (by decide) ?_
    exact k A2 _ _ _ _ _ _ g4 g1 (by show kc + 3 + 0 + 0 ≤ kc + 8; omega) (by show ks + 18 + 0 + 0 ≤ ks + 64; omega)
