/-! BOTH: pages, readers, slots asked -/
theorem nI_subN (a b : Nat) : nI (a + b) - nI a = nI b := by
  have h : nI (a + b) = nI b + nI a := by rw [nI_add, Nat.add_comm]
  rw [h, Int32.add_sub_cancel]
theorem cntR_split {S A B : Nat → Prop} : ∀ {n a b : Nat}, cntR A n a → cntR B n b → (∀ q, q < n → (S q ↔ A q ∨ B q)) → (∀ q, q < n → ¬ (A q ∧ B q)) → cntR S n (a + b)
  | 0, a, b, h1, h2, _, _ => by
    have e1 : a = 0 := h1
    have e2 : b = 0 := h2
    subst e1
    subst e2
    rfl
  | n + 1, a, b, h1, h2, hs, hd => by
    have hs' : ∀ q, q < n → (S q ↔ A q ∨ B q) := fun q hq => hs q (by omega)
    have hd' : ∀ q, q < n → ¬ (A q ∧ B q) := fun q hq => hd q (by omega)
    rcases h1 with ⟨ha, j, h1, rfl⟩ | ⟨ha, h1⟩
    · rcases h2 with ⟨hb, -⟩ | ⟨hb, h2⟩
      · exact absurd ⟨ha, hb⟩ (hd n (Nat.lt_succ_self n))
      · exact Or.inl ⟨(hs n (Nat.lt_succ_self n)).mpr (Or.inl ha), j + b, cntR_split h1 h2 hs' hd', by omega⟩
    · rcases h2 with ⟨hb, j, h2, rfl⟩ | ⟨hb, h2⟩
      · exact Or.inl ⟨(hs n (Nat.lt_succ_self n)).mpr (Or.inr hb), a + j, cntR_split h1 h2 hs' hd', by omega⟩
      · exact Or.inr ⟨fun h => ((hs n (Nat.lt_succ_self n)).mp h).elim ha hb, cntR_split h1 h2 hs' hd'⟩
theorem slot_rng (i : Int32) : (i < 0 ∨ (2 : Int32) ≤ i) ∨ ∃ n, n < 2 ∧ i = nI n := by
  by_cases h0 : i < 0
  · exact Or.inl (Or.inl h0)
  · by_cases h1 : (2 : Int32) ≤ i
    · exact Or.inl (Or.inr h1)
    · obtain ⟨n, hn, rfl⟩ := nI_of h0
      exact Or.inr ⟨n, (nI_ltI hn (b := 2) (by decide)).mp (Int32.not_le.mp h1), rfl⟩
theorem four_rng (i : Int32) : (i < 0 ∨ (4 : Int32) ≤ i) ∨ ∃ n, n < 4 ∧ i = nI n := by
  by_cases h0 : i < 0
  · exact Or.inl (Or.inl h0)
  · by_cases h1 : (4 : Int32) ≤ i
    · exact Or.inl (Or.inr h1)
    · obtain ⟨n, hn, rfl⟩ := nI_of h0
      exact Or.inr ⟨n, (nI_ltI hn (b := 4) (by decide)).mp (Int32.not_le.mp h1), rfl⟩
section AIP
variable {N : Nat} {K W : Nat → Prop} {T : Nat → Nd} {c : RS3} {b : Option RS3} {so rd : Nat → Option RS3} {s : Nat} {sw : Nat → Int64}
/-- a page in use stands in a good tree -/
theorem ai_page (h : AI N K W T c b so rd s sw) {q : Nat} (hq : K q ∨ W q) : ∃ d, d ≤ 5 ∧ rt T (fun q => K q ∨ W q) d q := by
  have fin : ∀ (x : RS3), (∃ d, rt T (fun q => K q ∨ W q) d x.2.1 ∧ d ≤ 5) → Rch T x.2.1 q → ∃ d, d ≤ 5 ∧ rt T (fun q => K q ∨ W q) d q := fun x ⟨d, h1, h2⟩ hr => by
    obtain ⟨-, d', h3, h4⟩ := bfs_U d [x.2.1] (fun p hp => by rw [List.mem_singleton.mp hp]; exact h1) q ((okR_mem h1 q).mpr hr)
    exact ⟨d', by omega, h4⟩
  obtain ⟨hK, ⟨o1, o2, o3⟩, h7, hb, hs, hsl⟩ := h
  have st : ∀ y : RS3, oR T K y → ∃ d, rt T (fun q => K q ∨ W q) d y.2.1 ∧ d ≤ 5 := fun y hy => by
    obtain ⟨d, a1, a2, -⟩ := oR_use (U := fun q => K q ∨ W q) hy (fun q hq => Or.inl hq)
    exact ⟨d, a1, a2⟩
  rcases hq with hq | hq
  · obtain ⟨r, hr, hR⟩ := (hK q).mp hq
    rcases mem_rts.mp hr with rfl | ⟨t, x, ht, hx, rfl⟩ | ⟨j, x, hj, hx, rfl⟩
    · exact fin c (st c o1) hR
    · exact fin x (st x (o2 t x ht hx)) hR
    · exact fin x (st x (o3 j x hj hx)) hR
  · cases hb0 : b with
    | none => exact absurd hq (hb.1 hb0 q)
    | some x =>
      obtain ⟨⟨d, g, a3, a4, a5⟩, -⟩ := hb.2 x hb0
      exact fin x ⟨d, g.1, rt_d5 g.1 (Srt_100 a3 a4)⟩ ((in_Rch (sb_dpt (rt_sb g.1).1) q).mp (g.2.2.1 q hq))
theorem pg_cases (h : AI N K W T c b so rd s sw) (i : Int32) : (∃ q, q < 720 ∧ i = nI q ∧ (K q ∨ W q)) ∨ (nUs K W i ∧ nUm T c b so rd i) := by
  by_cases hq : ∃ q, q < 720 ∧ i = nI q ∧ (K q ∨ W q)
  · exact Or.inl hq
  · exact Or.inr ⟨fun q h8 hi hu => hq ⟨q, h.2.2.1 q hu, hi, hu⟩, fun q h7 hi hu => hq ⟨q, h7, hi, (ai_use h q).mp hu⟩⟩
theorem en_cases (T : Nat → Nd) (q : Nat) (a : Int32) (h5 : nlen (T q) ≤ 5) : (a < 0 ∨ nI (nlen (T q)) ≤ a) ∨ ∃ e, e < nlen (T q) ∧ a = nI e := by
  by_cases h0 : a < 0
  · exact Or.inl (Or.inl h0)
  · by_cases h1 : nI (nlen (T q)) ≤ a
    · exact Or.inl (Or.inr h1)
    · obtain ⟨n, hn, rfl⟩ := nI_of h0
      exact Or.inr ⟨n, (nI_ltI hn (by omega)).mp (Int32.not_le.mp h1), rfl⟩
theorem ai_key (h : AI N K W T c b so rd s sw) {q e : Nat} (hq : K q ∨ W q) (he : e < nlen (T q)) : ∃ k, kyR T (fun q => K q ∨ W q) q e k := by
  obtain ⟨d, hd, hr⟩ := ai_page h hq
  cases d with
  | zero =>
    obtain ⟨-, l, hl, -⟩ := hr
    rw [hl] at he
    exact ⟨_, Or.inl ⟨l, _, hl, List.getElem?_eq_getElem he, rfl⟩⟩
  | succ d =>
    obtain ⟨-, l, hl, -, -, hk⟩ := hr
    rw [hl] at he
    exact ⟨_, Or.inr ⟨l, _, d, hl, List.getElem?_eq_getElem he, hk _ (List.getElem_mem he), by omega, rfl⟩⟩
theorem ai_cnt (h : AI N K W T c b so rd s sw) {n : Nat} (hn : cntR (fun q => K q ∨ W q) 800 n) : cntR (mUse T c b so rd) 720 n := cntR_cg (fun q _ => (ai_use h q).symm) (cntR_dn (m := 80) (fun q h7 hu => by have := h.2.2.1 q hu; omega) hn)
theorem shared_eq {T : Nat → Nd} {U : Nat → Prop} {d1 d2 x y : Nat} {mk met : Nat → Int32} (h1 : rt T U d1 x) (h2 : rt T U d2 y) (h7 : ∀ q, U q → q < 720) (hM : MS met (fun q => Rch T x q)) : cmk (mkF (zr mk 800) (bfs T d1 [x])) (bfs T d2 [y]) = wsm T (mkW met) d2 y := by
  rw [cmk_sum, ← bfs_sum1]
  refine smN_cg (fun q hq => ?_)
  have hU := (bfs_U d2 [y] (fun p hp => by rw [List.mem_singleton.mp hp]; exact h2) q hq).1
  have hq7 := h7 q hU
  have hm := hM q hq7
  unfold mkW
  by_cases hx : q ∈ bfs T d1 [x]
  · have hr := (okR_mem h1 q).mp hx
    have e1 : mkF (zr mk 800) (bfs T d1 [x]) q = 1 := if_pos hx
    rw [e1, if_neg (by decide), if_neg (hm.mpr hr)]
  · have hr : ¬ Rch T x q := fun h => hx ((okR_mem h1 q).mpr h)
    have e1 : mkF (zr mk 800) (bfs T d1 [x]) q = 0 := by
      unfold mkF
      rw [if_neg hx]
      exact if_pos (by omega)
    rw [e1, if_pos rfl, if_pos (Classical.not_not.mp (fun h => hr (hm.mp h)))]
end AIP
section Q2
variable {N : Nat} {A : List mC}
theorem st_shared (h : GI N A) (i j : Int32) : (∃ a, SV (GI N) m_X3_sharedPages m_X4_sharedPages [.ref 0, .int i, .int j] [.ref 21, .int i, .int j] A (.inl (some (.int a))) (.int a) 0) ∨ SV (GI N) m_X3_sharedPages m_X4_sharedPages [.ref 0, .int i, .int j] [.ref 21, .int i, .int j] A (.inr xIB) (.int 0) 1 := by
  obtain ⟨K, W, T, c, b, so, rd, s, sw, cu, ba, r0, r1, r2, r3, bt, cnt, inn, lk, wd, kp, wr, mk, ls, pth, tk, th, dp, many, minn, item, val, mwr, met, rst, opd, ope, way, mtk, hA, hC, hS, hM, hmw, hop, rfl⟩ := h
  cases hv : vwF c b rd i with
  | none => exact Or.inr (fun o => ⟨(gA (nI s) cu ba r0 r1 r2 r3 sw bt cnt inn lk wd kp wr mk ls pth tk (nI c.1) (nI c.2.1) (bbC b) (nI s) th dp many minn item val mwr met rst sw opd ope way mtk), wf_gA, evC (s_sharedT1 hS hv), fun o' => ⟨(gA (nI s) cu ba r0 r1 r2 r3 sw bt cnt inn lk wd kp wr mk ls pth tk (nI c.1) (nI c.2.1) (bbC b) (nI s) 1 dp many minn item val mwr met rst sw opd ope way mtk), wf_gA, evM (s_mSharedT hop (ai_bd hA) (Or.inl hv)), evM s_thrown, ⟨K, W, T, c, b, so, rd, s, sw, cu, ba, r0, r1, r2, r3, bt, cnt, inn, lk, wd, kp, wr, mk, ls, pth, tk, 1, dp, many, minn, item, val, mwr, met, rst, opd, ope, way, mtk, hA, hC, hS, hM, hmw, hop, rfl⟩⟩⟩)
  | some x =>
    cases hv2 : vwF c b rd j with
    | none => exact Or.inr (fun o => ⟨(gA (nI s) cu ba r0 r1 r2 r3 sw bt cnt inn lk wd kp wr mk ls pth tk (nI c.1) (nI c.2.1) (bbC b) (nI s) th dp many minn item val mwr met rst sw opd ope way mtk), wf_gA, evC (s_sharedT2 hS hv hv2), fun o' => ⟨(gA (nI s) cu ba r0 r1 r2 r3 sw bt cnt inn lk wd kp wr mk ls pth tk (nI c.1) (nI c.2.1) (bbC b) (nI s) 1 dp many minn item val mwr met rst sw opd ope way mtk), wf_gA, evM (s_mSharedT hop (ai_bd hA) (Or.inr ⟨⟨x, hv⟩, hv2⟩)), evM s_thrown, ⟨K, W, T, c, b, so, rd, s, sw, cu, ba, r0, r1, r2, r3, bt, cnt, inn, lk, wd, kp, wr, mk, ls, pth, tk, 1, dp, many, minn, item, val, mwr, met, rst, opd, ope, way, mtk, hA, hC, hS, hM, hmw, hop, rfl⟩⟩⟩)
    | some y =>
      obtain ⟨d, a1, a2, a3, a4, a5, a6, a7, a8⟩ := ai_view hA hv
      obtain ⟨d', b1, b2, b3, b4, b5, b6, b7, b8⟩ := ai_view hA hv2
      refine Or.inl ⟨nI (cmk (mkF (zr mk 800) (bfs T d [x.2.1])) (bfs T d' [y.2.1])), fun o => ?_⟩
      obtain ⟨u1, u2, e1⟩ := s_shared (sl := (nI s)) (cu := cu) (ba := ba) (r0 := r0) (r1 := r1) (r2 := r2) (r3 := r3) (sw := sw) (bt := bt) (cnt := cnt) (inn := inn) (lk := lk) (wd := wd) (kp := kp) (wr := wr) (mk := mk) (ls := ls) (pth := pth) (tk := tk) (tl := (mCl (nI c.1) (nI c.2.1) (bbC b) (nI s) th dp many minn item val mwr met rst sw opd ope way mtk [o])) hS hC.1 hv hv2 a1 (by omega) b1 (by omega)
      refine ⟨(gA (nI s) cu ba r0 r1 r2 r3 sw bt cnt inn lk wd kp wr u1 u2 pth tk (nI c.1) (nI c.2.1) (bbC b) (nI s) th dp many minn item val mwr met rst sw opd ope way mtk), wf_gA, evC e1, fun o' => ?_⟩
      obtain ⟨v1, v2, v3, e2⟩ := s_mSharedP (cc := (cT (nI s) cu ba r0 r1 r2 r3 sw bt cnt inn lk wd kp wr u1 u2 pth tk)) (ep := (nI c.1)) (ro := (nI c.2.1)) (bb := (bbC b)) (sl := (nI s)) (th := th) (dp := dp) (many := many) (inn := minn) (item := item) (val := val) (wr := mwr) (met := met) (rst := rst) (wds := sw) (opd := opd) (ope := ope) (way := way) (tk := mtk) (tl := [o']) hM (ai_cl hA) hop (ai_bd hA) rfl rfl hv hv2 (rt_U a1) b1 (by omega)
      rw [← shared_eq (mk := mk) a1 b1 hA.2.2.1 v3] at e2
      exact ⟨(gA (nI s) cu ba r0 r1 r2 r3 sw bt cnt inn lk wd kp wr u1 u2 pth tk (nI c.1) (nI c.2.1) (bbC b) (nI s) 0 dp many minn item val mwr v1 v2 sw opd ope way mtk), wf_gA, evM e2, evM s_thrown, ⟨K, W, T, c, b, so, rd, s, sw, cu, ba, r0, r1, r2, r3, bt, cnt, inn, lk, wd, kp, wr, u1, u2, pth, tk, 0, dp, many, minn, item, val, mwr, v1, v2, opd, ope, way, mtk, hA, hC, hS, hM, hmw, hop, rfl⟩⟩
theorem st_inUse (h : GI N A) : ∃ a, SV (GI N) m_X3_pagesInUse m_X4_pagesInUse [.ref 0] [.ref 21] A (.inl (some (.int a))) (.int a) 0 := by
  obtain ⟨K, W, T, c, b, so, rd, s, sw, cu, ba, r0, r1, r2, r3, bt, cnt, inn, lk, wd, kp, wr, mk, ls, pth, tk, th, dp, many, minn, item, val, mwr, met, rst, opd, ope, way, mtk, hA, hC, hS, hM, hmw, hop, rfl⟩ := h
  obtain ⟨n, hn⟩ := cntR_ex (fun q => K q ∨ W q) 800
  refine ⟨nI n, fun o => ⟨(gA (nI s) cu ba r0 r1 r2 r3 sw bt cnt inn lk wd kp wr mk ls pth tk (nI c.1) (nI c.2.1) (bbC b) (nI s) th dp many minn item val mwr met rst sw opd ope way mtk), wf_gA, evC (s_inUse hC.2.1 hC.2.2 hn), fun o' => ?_⟩⟩
  obtain ⟨v1, v2, e2⟩ := s_mPages (cc := (cT (nI s) cu ba r0 r1 r2 r3 sw bt cnt inn lk wd kp wr mk ls pth tk)) (ep := (nI c.1)) (ro := (nI c.2.1)) (bb := (bbC b)) (sl := (nI s)) (th := th) (dp := dp) (many := many) (inn := minn) (item := item) (val := val) (wr := mwr) (met := met) (rst := rst) (wds := sw) (opd := opd) (ope := ope) (way := way) (tk := mtk) (tl := [o']) (ai_mm hA hM hop) (ai_cnt hA hn)
  exact ⟨(gA (nI s) cu ba r0 r1 r2 r3 sw bt cnt inn lk wd kp wr mk ls pth tk (nI c.1) (nI c.2.1) (bbC b) (nI s) 0 dp many minn item val mwr v1 v2 sw opd ope way mtk), wf_gA, evM e2, evM s_thrown, ⟨K, W, T, c, b, so, rd, s, sw, cu, ba, r0, r1, r2, r3, bt, cnt, inn, lk, wd, kp, wr, mk, ls, pth, tk, 0, dp, many, minn, item, val, mwr, v1, v2, opd, ope, way, mtk, hA, hC, hS, hM, hmw, hop, rfl⟩⟩
theorem st_leastFree (h : GI N A) : ∃ a, SV (GI N) m_X3_leastFree m_X4_leastFree [.ref 0] [.ref 21] A (.inl (some (.int a))) (.int a) 0 := by
  obtain ⟨K, W, T, c, b, so, rd, s, sw, cu, ba, r0, r1, r2, r3, bt, cnt, inn, lk, wd, kp, wr, mk, ls, pth, tk, th, dp, many, minn, item, val, mwr, met, rst, opd, ope, way, mtk, hA, hC, hS, hM, hmw, hop, rfl⟩ := h
  obtain ⟨n, hn⟩ := ai_free hA
  refine ⟨nI n, fun o => ⟨(gA (nI s) cu ba r0 r1 r2 r3 sw bt cnt inn lk wd kp wr mk ls pth tk (nI c.1) (nI c.2.1) (bbC b) (nI s) th dp many minn item val mwr met rst sw opd ope way mtk), wf_gA, evC (s_leastFree hC.2.1 hC.2.2 hn), fun o' => ?_⟩⟩
  obtain ⟨v1, v2, e2⟩ := s_mLeast (cc := (cT (nI s) cu ba r0 r1 r2 r3 sw bt cnt inn lk wd kp wr mk ls pth tk)) (ep := (nI c.1)) (ro := (nI c.2.1)) (bb := (bbC b)) (sl := (nI s)) (th := th) (dp := dp) (many := many) (inn := minn) (item := item) (val := val) (wr := mwr) (met := met) (rst := rst) (wds := sw) (opd := opd) (ope := ope) (way := way) (tk := mtk) (tl := [o']) (ai_mm hA hM hop) hn.1 (fun h => hn.2.1 ((ai_use hA n).mp h)) (fun j hj => (ai_use hA j).mpr (hn.2.2 j hj))
  exact ⟨(gA (nI s) cu ba r0 r1 r2 r3 sw bt cnt inn lk wd kp wr mk ls pth tk (nI c.1) (nI c.2.1) (bbC b) (nI s) 0 dp many minn item val mwr v1 v2 sw opd ope way mtk), wf_gA, evM e2, evM s_thrown, ⟨K, W, T, c, b, so, rd, s, sw, cu, ba, r0, r1, r2, r3, bt, cnt, inn, lk, wd, kp, wr, mk, ls, pth, tk, 0, dp, many, minn, item, val, mwr, v1, v2, opd, ope, way, mtk, hA, hC, hS, hM, hmw, hop, rfl⟩⟩
theorem st_isFree (h : GI N A) (i : Int32) : (∃ a, (a = 0 ∨ a = 1) ∧ SV (GI N) m_X3_isFree m_X4_isFree [.ref 0, .int i] [.ref 21, .int i] A (.inl (some (.int a))) (.int a) 0) ∨ SV (GI N) m_X3_isFree m_X4_isFree [.ref 0, .int i] [.ref 21, .int i] A (.inr xIB) (.int 0) 1 := by
  obtain ⟨K, W, T, c, b, so, rd, s, sw, cu, ba, r0, r1, r2, r3, bt, cnt, inn, lk, wd, kp, wr, mk, ls, pth, tk, th, dp, many, minn, item, val, mwr, met, rst, opd, ope, way, mtk, hA, hC, hS, hM, hmw, hop, rfl⟩ := h
  by_cases h0 : i < 0
  · exact Or.inr (fun o => ⟨(gA (nI s) cu ba r0 r1 r2 r3 sw bt cnt inn lk wd kp wr mk ls pth tk (nI c.1) (nI c.2.1) (bbC b) (nI s) th dp many minn item val mwr met rst sw opd ope way mtk), wf_gA, evC (s_isFreeT h0), fun o' => ⟨(gA (nI s) cu ba r0 r1 r2 r3 sw bt cnt inn lk wd kp wr mk ls pth tk (nI c.1) (nI c.2.1) (bbC b) (nI s) 1 dp many minn item val mwr met rst sw opd ope way mtk), wf_gA, evM (s_mIsFreeT h0), evM s_thrown, ⟨K, W, T, c, b, so, rd, s, sw, cu, ba, r0, r1, r2, r3, bt, cnt, inn, lk, wd, kp, wr, mk, ls, pth, tk, 1, dp, many, minn, item, val, mwr, met, rst, opd, ope, way, mtk, hA, hC, hS, hM, hmw, hop, rfl⟩⟩⟩)
  · rcases pg_cases hA i with ⟨q, hq7, rfl, hu⟩ | ⟨hn1, hn2⟩
    · refine Or.inl ⟨0, Or.inl rfl, fun o => ⟨(gA (nI s) cu ba r0 r1 r2 r3 sw bt cnt inn lk wd kp wr mk ls pth tk (nI c.1) (nI c.2.1) (bbC b) (nI s) th dp many minn item val mwr met rst sw opd ope way mtk), wf_gA, evC (s_isFree h0 (Or.inl rfl) (s_vac0 hC.2.1 hC.2.2 (by omega) hu)), fun o' => ?_⟩⟩
      obtain ⟨v1, v2, e2⟩ := s_mIsFree0 (cc := (cT (nI s) cu ba r0 r1 r2 r3 sw bt cnt inn lk wd kp wr mk ls pth tk)) (ep := (nI c.1)) (ro := (nI c.2.1)) (bb := (bbC b)) (sl := (nI s)) (th := th) (dp := dp) (many := many) (inn := minn) (item := item) (val := val) (wr := mwr) (met := met) (rst := rst) (wds := sw) (opd := opd) (ope := ope) (way := way) (tk := mtk) (tl := [o']) (ai_mm hA hM hop) hq7 ((ai_use hA q).mpr hu)
      exact ⟨(gA (nI s) cu ba r0 r1 r2 r3 sw bt cnt inn lk wd kp wr mk ls pth tk (nI c.1) (nI c.2.1) (bbC b) (nI s) 0 dp many minn item val mwr v1 v2 sw opd ope way mtk), wf_gA, evM e2, evM s_thrown, ⟨K, W, T, c, b, so, rd, s, sw, cu, ba, r0, r1, r2, r3, bt, cnt, inn, lk, wd, kp, wr, mk, ls, pth, tk, 0, dp, many, minn, item, val, mwr, v1, v2, opd, ope, way, mtk, hA, hC, hS, hM, hmw, hop, rfl⟩⟩
    · refine Or.inl ⟨1, Or.inr rfl, fun o => ?_⟩
      have eV : EvS m_X0_isVacant [.ref 1, .int i] (cW (nI s) cu ba r0 r1 r2 r3 sw bt cnt inn lk wd kp wr mk ls pth tk (mCl (nI c.1) (nI c.2.1) (bbC b) (nI s) th dp many minn item val mwr met rst sw opd ope way mtk [o])) (.inl (some (.int 1))) (cW (nI s) cu ba r0 r1 r2 r3 sw bt cnt inn lk wd kp wr mk ls pth tk (mCl (nI c.1) (nI c.2.1) (bbC b) (nI s) th dp many minn item val mwr met rst sw opd ope way mtk [o])) := by
        by_cases h8 : (800 : Int32) ≤ i
        · exact s_vacO (Or.inr h8)
        · obtain ⟨q, hq, rfl⟩ := nI_of h0
          have hq8 : q < 800 := (nI_ltI hq (b := 800) (by decide)).mp (Int32.not_le.mp h8)
          exact s_vac1 hC.2.1 hC.2.2 hq8 (hn1 q hq8 rfl)
      refine ⟨(gA (nI s) cu ba r0 r1 r2 r3 sw bt cnt inn lk wd kp wr mk ls pth tk (nI c.1) (nI c.2.1) (bbC b) (nI s) th dp many minn item val mwr met rst sw opd ope way mtk), wf_gA, evC (s_isFree h0 (Or.inr rfl) eV), fun o' => ?_⟩
      obtain ⟨v1, v2, e2⟩ := s_mIsFree1 (cc := (cT (nI s) cu ba r0 r1 r2 r3 sw bt cnt inn lk wd kp wr mk ls pth tk)) (ep := (nI c.1)) (ro := (nI c.2.1)) (bb := (bbC b)) (sl := (nI s)) (th := th) (dp := dp) (many := many) (inn := minn) (item := item) (val := val) (wr := mwr) (met := met) (rst := rst) (wds := sw) (opd := opd) (ope := ope) (way := way) (tk := mtk) (tl := [o']) (ai_mm hA hM hop) h0 hn2
      exact ⟨(gA (nI s) cu ba r0 r1 r2 r3 sw bt cnt inn lk wd kp wr mk ls pth tk (nI c.1) (nI c.2.1) (bbC b) (nI s) 0 dp many minn item val mwr v1 v2 sw opd ope way mtk), wf_gA, evM e2, evM s_thrown, ⟨K, W, T, c, b, so, rd, s, sw, cu, ba, r0, r1, r2, r3, bt, cnt, inn, lk, wd, kp, wr, mk, ls, pth, tk, 0, dp, many, minn, item, val, mwr, v1, v2, opd, ope, way, mtk, hA, hC, hS, hM, hmw, hop, rfl⟩⟩
theorem st_entries (h : GI N A) (i : Int32) : (∃ a, SV (GI N) m_X3_entries m_X4_entries [.ref 0, .int i] [.ref 21, .int i] A (.inl (some (.int a))) (.int a) 0) ∨ SV (GI N) m_X3_entries m_X4_entries [.ref 0, .int i] [.ref 21, .int i] A (.inr xIB) (.int 0) 1 := by
  obtain ⟨K, W, T, c, b, so, rd, s, sw, cu, ba, r0, r1, r2, r3, bt, cnt, inn, lk, wd, kp, wr, mk, ls, pth, tk, th, dp, many, minn, item, val, mwr, met, rst, opd, ope, way, mtk, hA, hC, hS, hM, hmw, hop, rfl⟩ := h
  rcases pg_cases hA i with ⟨q, hq7, rfl, hu⟩ | ⟨hn1, hn2⟩
  · refine Or.inl ⟨nI (nlen (T q)), fun o => ⟨(gA (nI s) cu ba r0 r1 r2 r3 sw bt cnt inn lk wd kp wr mk ls pth tk (nI c.1) (nI c.2.1) (bbC b) (nI s) th dp many minn item val mwr met rst sw opd ope way mtk), wf_gA, evC (s_entries hC hu), fun o' => ?_⟩⟩
    obtain ⟨v1, v2, e2⟩ := s_mEntries (cc := (cT (nI s) cu ba r0 r1 r2 r3 sw bt cnt inn lk wd kp wr mk ls pth tk)) (ep := (nI c.1)) (ro := (nI c.2.1)) (bb := (bbC b)) (sl := (nI s)) (th := th) (dp := dp) (many := many) (inn := minn) (item := item) (val := val) (wr := mwr) (met := met) (rst := rst) (wds := sw) (opd := opd) (ope := ope) (way := way) (tk := mtk) (tl := [o']) (ai_mm hA hM hop) hu ((ai_use hA q).mpr hu)
    exact ⟨(gA (nI s) cu ba r0 r1 r2 r3 sw bt cnt inn lk wd kp wr mk ls pth tk (nI c.1) (nI c.2.1) (bbC b) (nI s) 0 dp many minn item val mwr v1 v2 sw opd ope way mtk), wf_gA, evM e2, evM s_thrown, ⟨K, W, T, c, b, so, rd, s, sw, cu, ba, r0, r1, r2, r3, bt, cnt, inn, lk, wd, kp, wr, mk, ls, pth, tk, 0, dp, many, minn, item, val, mwr, v1, v2, opd, ope, way, mtk, hA, hC, hS, hM, hmw, hop, rfl⟩⟩
  · refine Or.inr (fun o => ⟨(gA (nI s) cu ba r0 r1 r2 r3 sw bt cnt inn lk wd kp wr mk ls pth tk (nI c.1) (nI c.2.1) (bbC b) (nI s) th dp many minn item val mwr met rst sw opd ope way mtk), wf_gA, evC (s_entriesT hC hn1), fun o' => ?_⟩)
    obtain ⟨v1, v2, e2⟩ := s_mEntriesT (cc := (cT (nI s) cu ba r0 r1 r2 r3 sw bt cnt inn lk wd kp wr mk ls pth tk)) (ep := (nI c.1)) (ro := (nI c.2.1)) (bb := (bbC b)) (sl := (nI s)) (th := th) (dp := dp) (many := many) (inn := minn) (item := item) (val := val) (wr := mwr) (met := met) (rst := rst) (wds := sw) (opd := opd) (ope := ope) (way := way) (tk := mtk) (tl := [o']) (ai_mm hA hM hop) hn2
    exact ⟨(gA (nI s) cu ba r0 r1 r2 r3 sw bt cnt inn lk wd kp wr mk ls pth tk (nI c.1) (nI c.2.1) (bbC b) (nI s) 1 dp many minn item val mwr v1 v2 sw opd ope way mtk), wf_gA, evM e2, evM s_thrown, ⟨K, W, T, c, b, so, rd, s, sw, cu, ba, r0, r1, r2, r3, bt, cnt, inn, lk, wd, kp, wr, mk, ls, pth, tk, 1, dp, many, minn, item, val, mwr, v1, v2, opd, ope, way, mtk, hA, hC, hS, hM, hmw, hop, rfl⟩⟩
theorem st_keyAt (h : GI N A) (i a : Int32) : (∃ v, SV (GI N) m_X3_keyAt m_X4_keyAt [.ref 0, .int i, .int a] [.ref 21, .int i, .int a] A (.inl (some (.int v))) (.int v) 0) ∨ SV (GI N) m_X3_keyAt m_X4_keyAt [.ref 0, .int i, .int a] [.ref 21, .int i, .int a] A (.inr xIB) (.int 0) 1 := by
  obtain ⟨K, W, T, c, b, so, rd, s, sw, cu, ba, r0, r1, r2, r3, bt, cnt, inn, lk, wd, kp, wr, mk, ls, pth, tk, th, dp, many, minn, item, val, mwr, met, rst, opd, ope, way, mtk, hA, hC, hS, hM, hmw, hop, rfl⟩ := h
  rcases pg_cases hA i with ⟨q, hq7, rfl, hu⟩ | ⟨hn1, hn2⟩
  · have hu2 := (ai_use hA q).mpr hu
    rcases en_cases T q a (hC.1.cnt hu).2.2 with ha | ⟨e, he, rfl⟩
    · refine Or.inr (fun o => ⟨(gA (nI s) cu ba r0 r1 r2 r3 sw bt cnt inn lk wd kp wr mk ls pth tk (nI c.1) (nI c.2.1) (bbC b) (nI s) th dp many minn item val mwr met rst sw opd ope way mtk), wf_gA, evC (s_keyAtT2 hC hu ha), fun o' => ?_⟩)
      obtain ⟨v1, v2, e2⟩ := s_mKeyAtT (cc := (cT (nI s) cu ba r0 r1 r2 r3 sw bt cnt inn lk wd kp wr mk ls pth tk)) (ep := (nI c.1)) (ro := (nI c.2.1)) (bb := (bbC b)) (sl := (nI s)) (th := th) (dp := dp) (many := many) (inn := minn) (item := item) (val := val) (wr := mwr) (met := met) (rst := rst) (wds := sw) (opd := opd) (ope := ope) (way := way) (tk := mtk) (tl := [o']) (ai_mm hA hM hop) (Or.inr ⟨q, rfl, hu, hu2, ha⟩)
      exact ⟨(gA (nI s) cu ba r0 r1 r2 r3 sw bt cnt inn lk wd kp wr mk ls pth tk (nI c.1) (nI c.2.1) (bbC b) (nI s) 1 dp many minn item val mwr v1 v2 sw opd ope way mtk), wf_gA, evM e2, evM s_thrown, ⟨K, W, T, c, b, so, rd, s, sw, cu, ba, r0, r1, r2, r3, bt, cnt, inn, lk, wd, kp, wr, mk, ls, pth, tk, 1, dp, many, minn, item, val, mwr, v1, v2, opd, ope, way, mtk, hA, hC, hS, hM, hmw, hop, rfl⟩⟩
    · obtain ⟨k, hk⟩ := ai_key hA hu he
      refine Or.inl ⟨nI k, fun o => ⟨(gA (nI s) cu ba r0 r1 r2 r3 sw bt cnt inn lk wd kp wr mk ls pth tk (nI c.1) (nI c.2.1) (bbC b) (nI s) th dp many minn item val mwr met rst sw opd ope way mtk), wf_gA, evC (s_keyAt hC hu hk), fun o' => ?_⟩⟩
      obtain ⟨v1, v2, e2⟩ := s_mKeyAt (cc := (cT (nI s) cu ba r0 r1 r2 r3 sw bt cnt inn lk wd kp wr mk ls pth tk)) (ep := (nI c.1)) (ro := (nI c.2.1)) (bb := (bbC b)) (sl := (nI s)) (th := th) (dp := dp) (many := many) (inn := minn) (item := item) (val := val) (wr := mwr) (met := met) (rst := rst) (wds := sw) (opd := opd) (ope := ope) (way := way) (tk := mtk) (tl := [o']) (ai_mm hA hM hop) hu hu2 he hk
      exact ⟨(gA (nI s) cu ba r0 r1 r2 r3 sw bt cnt inn lk wd kp wr mk ls pth tk (nI c.1) (nI c.2.1) (bbC b) (nI s) 0 dp many minn item val mwr v1 v2 sw opd ope way mtk), wf_gA, evM e2, evM s_thrown, ⟨K, W, T, c, b, so, rd, s, sw, cu, ba, r0, r1, r2, r3, bt, cnt, inn, lk, wd, kp, wr, mk, ls, pth, tk, 0, dp, many, minn, item, val, mwr, v1, v2, opd, ope, way, mtk, hA, hC, hS, hM, hmw, hop, rfl⟩⟩
  · refine Or.inr (fun o => ⟨(gA (nI s) cu ba r0 r1 r2 r3 sw bt cnt inn lk wd kp wr mk ls pth tk (nI c.1) (nI c.2.1) (bbC b) (nI s) th dp many minn item val mwr met rst sw opd ope way mtk), wf_gA, evC (s_keyAtT1 hC hn1), fun o' => ?_⟩)
    obtain ⟨v1, v2, e2⟩ := s_mKeyAtT (cc := (cT (nI s) cu ba r0 r1 r2 r3 sw bt cnt inn lk wd kp wr mk ls pth tk)) (ep := (nI c.1)) (ro := (nI c.2.1)) (bb := (bbC b)) (sl := (nI s)) (th := th) (dp := dp) (many := many) (inn := minn) (item := item) (val := val) (wr := mwr) (met := met) (rst := rst) (wds := sw) (opd := opd) (ope := ope) (way := way) (tk := mtk) (tl := [o']) (ai_mm hA hM hop) (a := a) (Or.inl hn2)
    exact ⟨(gA (nI s) cu ba r0 r1 r2 r3 sw bt cnt inn lk wd kp wr mk ls pth tk (nI c.1) (nI c.2.1) (bbC b) (nI s) 1 dp many minn item val mwr v1 v2 sw opd ope way mtk), wf_gA, evM e2, evM s_thrown, ⟨K, W, T, c, b, so, rd, s, sw, cu, ba, r0, r1, r2, r3, bt, cnt, inn, lk, wd, kp, wr, mk, ls, pth, tk, 1, dp, many, minn, item, val, mwr, v1, v2, opd, ope, way, mtk, hA, hC, hS, hM, hmw, hop, rfl⟩⟩
theorem st_pageAt (h : GI N A) (i a : Int32) : (∃ v, SV (GI N) m_X3_pageAt m_X4_pageAt [.ref 0, .int i, .int a] [.ref 21, .int i, .int a] A (.inl (some (.int v))) (.int v) 0) ∨ SV (GI N) m_X3_pageAt m_X4_pageAt [.ref 0, .int i, .int a] [.ref 21, .int i, .int a] A (.inr xIB) (.int 0) 1 := by
  obtain ⟨K, W, T, c, b, so, rd, s, sw, cu, ba, r0, r1, r2, r3, bt, cnt, inn, lk, wd, kp, wr, mk, ls, pth, tk, th, dp, many, minn, item, val, mwr, met, rst, opd, ope, way, mtk, hA, hC, hS, hM, hmw, hop, rfl⟩ := h
  rcases pg_cases hA i with ⟨q, hq7, rfl, hu⟩ | ⟨hn1, hn2⟩
  · have hu2 := (ai_use hA q).mpr hu
    rcases en_cases T q a (hC.1.cnt hu).2.2 with ha | ⟨e, he, rfl⟩
    · refine Or.inr (fun o => ⟨(gA (nI s) cu ba r0 r1 r2 r3 sw bt cnt inn lk wd kp wr mk ls pth tk (nI c.1) (nI c.2.1) (bbC b) (nI s) th dp many minn item val mwr met rst sw opd ope way mtk), wf_gA, evC (s_pageAtT2 hC hu ha), fun o' => ?_⟩)
      obtain ⟨v1, v2, e2⟩ := s_mPageAtT (cc := (cT (nI s) cu ba r0 r1 r2 r3 sw bt cnt inn lk wd kp wr mk ls pth tk)) (ep := (nI c.1)) (ro := (nI c.2.1)) (bb := (bbC b)) (sl := (nI s)) (th := th) (dp := dp) (many := many) (inn := minn) (item := item) (val := val) (wr := mwr) (met := met) (rst := rst) (wds := sw) (opd := opd) (ope := ope) (way := way) (tk := mtk) (tl := [o']) (ai_mm hA hM hop) (Or.inr ⟨q, rfl, hu, hu2, ha⟩)
      exact ⟨(gA (nI s) cu ba r0 r1 r2 r3 sw bt cnt inn lk wd kp wr mk ls pth tk (nI c.1) (nI c.2.1) (bbC b) (nI s) 1 dp many minn item val mwr v1 v2 sw opd ope way mtk), wf_gA, evM e2, evM s_thrown, ⟨K, W, T, c, b, so, rd, s, sw, cu, ba, r0, r1, r2, r3, bt, cnt, inn, lk, wd, kp, wr, mk, ls, pth, tk, 1, dp, many, minn, item, val, mwr, v1, v2, opd, ope, way, mtk, hA, hC, hS, hM, hmw, hop, rfl⟩⟩
    · cases hT : T q with
      | inl l =>
        refine Or.inl ⟨-1, fun o => ⟨(gA (nI s) cu ba r0 r1 r2 r3 sw bt cnt inn lk wd kp wr mk ls pth tk (nI c.1) (nI c.2.1) (bbC b) (nI s) th dp many minn item val mwr met rst sw opd ope way mtk), wf_gA, evC (s_pageAtL hC hu hT he), fun o' => ?_⟩⟩
        obtain ⟨v1, v2, e2⟩ := s_mPageAtL (cc := (cT (nI s) cu ba r0 r1 r2 r3 sw bt cnt inn lk wd kp wr mk ls pth tk)) (ep := (nI c.1)) (ro := (nI c.2.1)) (bb := (bbC b)) (sl := (nI s)) (th := th) (dp := dp) (many := many) (inn := minn) (item := item) (val := val) (wr := mwr) (met := met) (rst := rst) (wds := sw) (opd := opd) (ope := ope) (way := way) (tk := mtk) (tl := [o']) (ai_mm hA hM hop) hu hu2 hT he
        exact ⟨(gA (nI s) cu ba r0 r1 r2 r3 sw bt cnt inn lk wd kp wr mk ls pth tk (nI c.1) (nI c.2.1) (bbC b) (nI s) 0 dp many minn item val mwr v1 v2 sw opd ope way mtk), wf_gA, evM e2, evM s_thrown, ⟨K, W, T, c, b, so, rd, s, sw, cu, ba, r0, r1, r2, r3, bt, cnt, inn, lk, wd, kp, wr, mk, ls, pth, tk, 0, dp, many, minn, item, val, mwr, v1, v2, opd, ope, way, mtk, hA, hC, hS, hM, hmw, hop, rfl⟩⟩
      | inr l =>
        have he2 : e < l.length := by rw [hT] at he; exact he
        have hx : l[e]? = some l[e] := List.getElem?_eq_getElem he2
        refine Or.inl ⟨nI l[e], fun o => ⟨(gA (nI s) cu ba r0 r1 r2 r3 sw bt cnt inn lk wd kp wr mk ls pth tk (nI c.1) (nI c.2.1) (bbC b) (nI s) th dp many minn item val mwr met rst sw opd ope way mtk), wf_gA, evC (s_pageAtI hC hu hT hx), fun o' => ?_⟩⟩
        obtain ⟨v1, v2, e2⟩ := s_mPageAtI (cc := (cT (nI s) cu ba r0 r1 r2 r3 sw bt cnt inn lk wd kp wr mk ls pth tk)) (ep := (nI c.1)) (ro := (nI c.2.1)) (bb := (bbC b)) (sl := (nI s)) (th := th) (dp := dp) (many := many) (inn := minn) (item := item) (val := val) (wr := mwr) (met := met) (rst := rst) (wds := sw) (opd := opd) (ope := ope) (way := way) (tk := mtk) (tl := [o']) (ai_mm hA hM hop) hu hu2 hT hx
        exact ⟨(gA (nI s) cu ba r0 r1 r2 r3 sw bt cnt inn lk wd kp wr mk ls pth tk (nI c.1) (nI c.2.1) (bbC b) (nI s) 0 dp many minn item val mwr v1 v2 sw opd ope way mtk), wf_gA, evM e2, evM s_thrown, ⟨K, W, T, c, b, so, rd, s, sw, cu, ba, r0, r1, r2, r3, bt, cnt, inn, lk, wd, kp, wr, mk, ls, pth, tk, 0, dp, many, minn, item, val, mwr, v1, v2, opd, ope, way, mtk, hA, hC, hS, hM, hmw, hop, rfl⟩⟩
  · refine Or.inr (fun o => ⟨(gA (nI s) cu ba r0 r1 r2 r3 sw bt cnt inn lk wd kp wr mk ls pth tk (nI c.1) (nI c.2.1) (bbC b) (nI s) th dp many minn item val mwr met rst sw opd ope way mtk), wf_gA, evC (s_pageAtT1 hC hn1), fun o' => ?_⟩)
    obtain ⟨v1, v2, e2⟩ := s_mPageAtT (cc := (cT (nI s) cu ba r0 r1 r2 r3 sw bt cnt inn lk wd kp wr mk ls pth tk)) (ep := (nI c.1)) (ro := (nI c.2.1)) (bb := (bbC b)) (sl := (nI s)) (th := th) (dp := dp) (many := many) (inn := minn) (item := item) (val := val) (wr := mwr) (met := met) (rst := rst) (wds := sw) (opd := opd) (ope := ope) (way := way) (tk := mtk) (tl := [o']) (ai_mm hA hM hop) (a := a) (Or.inl hn2)
    exact ⟨(gA (nI s) cu ba r0 r1 r2 r3 sw bt cnt inn lk wd kp wr mk ls pth tk (nI c.1) (nI c.2.1) (bbC b) (nI s) 1 dp many minn item val mwr v1 v2 sw opd ope way mtk), wf_gA, evM e2, evM s_thrown, ⟨K, W, T, c, b, so, rd, s, sw, cu, ba, r0, r1, r2, r3, bt, cnt, inn, lk, wd, kp, wr, mk, ls, pth, tk, 1, dp, many, minn, item, val, mwr, v1, v2, opd, ope, way, mtk, hA, hC, hS, hM, hmw, hop, rfl⟩⟩
theorem st_readers (h : GI N A) : ∃ a, SV (GI N) m_X3_readers m_X4_readers [.ref 0] [.ref 21] A (.inl (some (.int a))) (.int a) 0 := by
  obtain ⟨K, W, T, c, b, so, rd, s, sw, cu, ba, r0, r1, r2, r3, bt, cnt, inn, lk, wd, kp, wr, mk, ls, pth, tk, th, dp, many, minn, item, val, mwr, met, rst, opd, ope, way, mtk, hA, hC, hS, hM, hmw, hop, rfl⟩ := h
  exact ⟨_, fun o => ⟨(gA (nI s) cu ba r0 r1 r2 r3 sw bt cnt inn lk wd kp wr mk ls pth tk (nI c.1) (nI c.2.1) (bbC b) (nI s) th dp many minn item val mwr met rst sw opd ope way mtk), wf_gA, evC (s_readers hS.2.2), fun o' => ⟨(gA (nI s) cu ba r0 r1 r2 r3 sw bt cnt inn lk wd kp wr mk ls pth tk (nI c.1) (nI c.2.1) (bbC b) (nI s) 0 dp many minn item val mwr met rst sw opd ope way mtk), wf_gA, evM (s_mReaders hop (ai_bd hA).2.2), evM s_thrown, ⟨K, W, T, c, b, so, rd, s, sw, cu, ba, r0, r1, r2, r3, bt, cnt, inn, lk, wd, kp, wr, mk, ls, pth, tk, 0, dp, many, minn, item, val, mwr, met, rst, opd, ope, way, mtk, hA, hC, hS, hM, hmw, hop, rfl⟩⟩⟩⟩
theorem rd_cases (rd : Nat → Option RS3) (i : Int32) : (∃ j x, j < 4 ∧ i = nI j ∧ rd j = some x) ∨ ∀ j, j < 4 → i = nI j → rd j = none := by
  by_cases h : ∃ j x, j < 4 ∧ i = nI j ∧ rd j = some x
  · exact Or.inl h
  · refine Or.inr (fun j hj hi => ?_)
    cases hx : rd j with
    | none => rfl
    | some x => exact absurd ⟨j, x, hj, hi, hx⟩ h
theorem st_heldBy (h : GI N A) (i : Int32) : (∃ a, SV (GI N) m_X3_heldBy m_X4_heldBy [.ref 0, .int i] [.ref 21, .int i] A (.inl (some (.int a))) (.int a) 0) ∨ SV (GI N) m_X3_heldBy m_X4_heldBy [.ref 0, .int i] [.ref 21, .int i] A (.inr xIB) (.int 0) 1 := by
  obtain ⟨K, W, T, c, b, so, rd, s, sw, cu, ba, r0, r1, r2, r3, bt, cnt, inn, lk, wd, kp, wr, mk, ls, pth, tk, th, dp, many, minn, item, val, mwr, met, rst, opd, ope, way, mtk, hA, hC, hS, hM, hmw, hop, rfl⟩ := h
  obtain ⟨⟨oc, hcu⟩, hba, hRD⟩ := id hS
  rcases rd_cases rd i with ⟨j, x, hj, rfl, hx⟩ | hno
  · obtain ⟨n1, h1⟩ := cntR_ex (fun q => K q ∨ W q) 800
    obtain ⟨n2, h2⟩ := cntR_ex (mUse T c b so (setR rd j none)) 720
    obtain ⟨n, hn⟩ := cntR_ex (fun q => K q ∧ ¬ RS T (rts c so (rdW rd (nI j))) q) 800
    have hle : ∀ q, RS T (rts c so (setR rd j none)) q → K q := fun q ⟨r, hr, hR⟩ => (hA.1 q).mpr ⟨r, by
      rw [← rts_set hj] at hr
      exact rts_W hr, hR⟩
    have hn7 : cntR (fun q => K q ∧ ¬ RS T (rts c so (setR rd j none)) q) 720 n := by
      rw [rts_set hj] at hn
      exact cntR_dn (m := 80) (fun q h7 hu => by have := hA.2.2.1 q (Or.inl hu.1); omega) hn
    have hsum : cntR (mUse T c b so rd) 720 (n2 + n) := by
      have hbt : ∀ q, RS T (oRt b) q → (K q ∨ W q) ∧ (K q → RS T (rts c so (setR rd j none)) q) := fun q hq => by
        refine ⟨(ai_use hA q).mp (Or.inr hq), fun hk => ?_⟩
        cases hb : b with
        | none => rw [hb] at hq; exact absurd hq (RS_nil q)
        | some y =>
          rw [hb] at hq
          obtain ⟨⟨d, g, -⟩, -⟩ := hA.2.2.2.1.2 y hb
          obtain ⟨r, hr, hR⟩ := hq
          rw [List.mem_singleton.mp hr] at hR
          rcases g.2.2.2.1 q ((in_Rch (sb_dpt (rt_sb g.1).1) q).mpr hR) with hw | ⟨-, hO⟩
          · exact absurd hw (g.2.2.2.2 q hk)
          · exact ⟨c.2.1, List.mem_cons_self, hO⟩
      refine cntR_split h2 hn7 (fun q _ => ?_) (fun q _ h => ?_)
      · rw [ai_use hA]
        constructor
        · intro hu
          by_cases hr : RS T (rts c so (setR rd j none)) q
          · exact Or.inl (Or.inl hr)
          · rcases hu with hk | hw
            · exact Or.inr ⟨hk, hr⟩
            · exact Or.inl (Or.inr (((ai_use hA q).mpr (Or.inr hw)).resolve_left (fun h => absurd hw (ai_D hA q ((hA.1 q).mpr h)))))
        · rintro ((h | h) | h)
          · exact Or.inl (hle q h)
          · exact (hbt q h).1
          · exact Or.inl h.1
      · rcases h.1 with h1 | h1
        · exact h.2.2 h1
        · exact h.2.2 ((hbt q h1).2 h.2.1)
    have e12 : n1 = n2 + n := cntR_un (ai_cnt hA h1) hsum
    have eq1 : nI n1 - nI n2 = nI n := by rw [e12]; exact nI_subN n2 n
    refine Or.inl ⟨nI n, fun o => ?_⟩
    obtain ⟨u1, u2, e1⟩ := s_heldBy (sl := (nI s)) (cu := cu) (ba := ba) (r0 := r0) (r1 := r1) (r2 := r2) (r3 := r3) (sw := sw) (bt := bt) (cnt := cnt) (inn := inn) (lk := lk) (wd := wd) (kp := kp) (wr := wr) (mk := mk) (ls := ls) (pth := pth) (tk := tk) (tl := (mCl (nI c.1) (nI c.2.1) (bbC b) (nI s) th dp many minn item val mwr met rst sw opd ope way mtk [o])) (oc := oc) hC.1 hC.2.1 hRD hA.2.2.2.2.2.1 hj hx (fun r hr => ai_ok hA (U := fun q => K q ∨ W q) (fun q h => Or.inl h) r (rts_W hr)) hn
    rw [← hcu] at e1
    refine ⟨(gA (nI s) cu ba r0 r1 r2 r3 sw bt cnt inn lk wd kp wr u1 u2 pth tk (nI c.1) (nI c.2.1) (bbC b) (nI s) th dp many minn item val mwr met rst sw opd ope way mtk), wf_gA, evC e1, fun o' => ?_⟩
    obtain ⟨v1, v2, e2⟩ := s_mHeldBy (cc := (cT (nI s) cu ba r0 r1 r2 r3 sw bt cnt inn lk wd kp wr u1 u2 pth tk)) (ep := (nI c.1)) (ro := (nI c.2.1)) (bb := (bbC b)) (sl := (nI s)) (th := th) (dp := dp) (many := many) (inn := minn) (item := item) (val := val) (wr := mwr) (met := met) (rst := rst) (wds := sw) (opd := opd) (ope := ope) (way := way) (tk := mtk) (tl := [o']) (ai_mm hA hM hop) hj hx ((ai_bd hA).2.2 j x hj hx) (ai_cnt hA h1) h2
    rw [eq1] at e2
    exact ⟨(gA (nI s) cu ba r0 r1 r2 r3 sw bt cnt inn lk wd kp wr u1 u2 pth tk (nI c.1) (nI c.2.1) (bbC b) (nI s) 0 dp many minn item val mwr v1 v2 sw opd ope way mtk), wf_gA, evM e2, evM s_thrown, ⟨K, W, T, c, b, so, rd, s, sw, cu, ba, r0, r1, r2, r3, bt, cnt, inn, lk, wd, kp, wr, u1, u2, pth, tk, 0, dp, many, minn, item, val, mwr, v1, v2, opd, ope, way, mtk, hA, hC, hS, hM, hmw, hop, rfl⟩⟩
  · exact Or.inr (fun o => ⟨(gA (nI s) cu ba r0 r1 r2 r3 sw bt cnt inn lk wd kp wr mk ls pth tk (nI c.1) (nI c.2.1) (bbC b) (nI s) th dp many minn item val mwr met rst sw opd ope way mtk), wf_gA, evC (s_heldByT hRD hno), fun o' => ⟨(gA (nI s) cu ba r0 r1 r2 r3 sw bt cnt inn lk wd kp wr mk ls pth tk (nI c.1) (nI c.2.1) (bbC b) (nI s) 1 dp many minn item val mwr met rst sw opd ope way mtk), wf_gA, evM (s_mHeldByT hop hno), evM s_thrown, ⟨K, W, T, c, b, so, rd, s, sw, cu, ba, r0, r1, r2, r3, bt, cnt, inn, lk, wd, kp, wr, mk, ls, pth, tk, 1, dp, many, minn, item, val, mwr, met, rst, opd, ope, way, mtk, hA, hC, hS, hM, hmw, hop, rfl⟩⟩⟩)
theorem st_curSlot (h : GI N A) : ∃ a, SV (GI N) m_X3_currentSlot m_X4_currentSlot [.ref 0] [.ref 21] A (.inl (some (.int a))) (.int a) 0 := by
  obtain ⟨K, W, T, c, b, so, rd, s, sw, cu, ba, r0, r1, r2, r3, bt, cnt, inn, lk, wd, kp, wr, mk, ls, pth, tk, th, dp, many, minn, item, val, mwr, met, rst, opd, ope, way, mtk, hA, hC, hS, hM, hmw, hop, rfl⟩ := h
  exact ⟨nI s, fun o => ⟨(gA (nI s) cu ba r0 r1 r2 r3 sw bt cnt inn lk wd kp wr mk ls pth tk (nI c.1) (nI c.2.1) (bbC b) (nI s) th dp many minn item val mwr met rst sw opd ope way mtk), wf_gA, evC s_curSlot, fun o' => ⟨(gA (nI s) cu ba r0 r1 r2 r3 sw bt cnt inn lk wd kp wr mk ls pth tk (nI c.1) (nI c.2.1) (bbC b) (nI s) 0 dp many minn item val mwr met rst sw opd ope way mtk), wf_gA, evM s_mCurSlot, evM s_thrown, ⟨K, W, T, c, b, so, rd, s, sw, cu, ba, r0, r1, r2, r3, bt, cnt, inn, lk, wd, kp, wr, mk, ls, pth, tk, 0, dp, many, minn, item, val, mwr, met, rst, opd, ope, way, mtk, hA, hC, hS, hM, hmw, hop, rfl⟩⟩⟩⟩
theorem st_slotWord (h : GI N A) (i a : Int32) : (∃ v, SV (GI N) m_X3_slotWord m_X4_slotWord [.ref 0, .int i, .int a] [.ref 21, .int i, .int a] A (.inl (some (.long v))) (.long v) 0) ∨ SV (GI N) m_X3_slotWord m_X4_slotWord [.ref 0, .int i, .int a] [.ref 21, .int i, .int a] A (.inr xIB) (.long 0) 1 := by
  obtain ⟨K, W, T, c, b, so, rd, s, sw, cu, ba, r0, r1, r2, r3, bt, cnt, inn, lk, wd, kp, wr, mk, ls, pth, tk, th, dp, many, minn, item, val, mwr, met, rst, opd, ope, way, mtk, hA, hC, hS, hM, hmw, hop, rfl⟩ := h
  rcases slot_rng i with hi | ⟨t, ht, rfl⟩
  · exact Or.inr (fun o => ⟨(gA (nI s) cu ba r0 r1 r2 r3 sw bt cnt inn lk wd kp wr mk ls pth tk (nI c.1) (nI c.2.1) (bbC b) (nI s) th dp many minn item val mwr met rst sw opd ope way mtk), wf_gA, evC (s_slotWordT1 hi), fun o' => ⟨(gA (nI s) cu ba r0 r1 r2 r3 sw bt cnt inn lk wd kp wr mk ls pth tk (nI c.1) (nI c.2.1) (bbC b) (nI s) 1 dp many minn item val mwr met rst sw opd ope way mtk), wf_gA, evM (s_mSlotWordT (Or.inl hi)), evM s_thrown, ⟨K, W, T, c, b, so, rd, s, sw, cu, ba, r0, r1, r2, r3, bt, cnt, inn, lk, wd, kp, wr, mk, ls, pth, tk, 1, dp, many, minn, item, val, mwr, met, rst, opd, ope, way, mtk, hA, hC, hS, hM, hmw, hop, rfl⟩⟩⟩)
  · rcases four_rng a with ha | ⟨j, hj, rfl⟩
    · exact Or.inr (fun o => ⟨(gA (nI s) cu ba r0 r1 r2 r3 sw bt cnt inn lk wd kp wr mk ls pth tk (nI c.1) (nI c.2.1) (bbC b) (nI s) th dp many minn item val mwr met rst sw opd ope way mtk), wf_gA, evC (s_slotWordT2 ht ha), fun o' => ⟨(gA (nI s) cu ba r0 r1 r2 r3 sw bt cnt inn lk wd kp wr mk ls pth tk (nI c.1) (nI c.2.1) (bbC b) (nI s) 1 dp many minn item val mwr met rst sw opd ope way mtk), wf_gA, evM (s_mSlotWordT (Or.inr ⟨⟨t, ht, rfl⟩, ha⟩)), evM s_thrown, ⟨K, W, T, c, b, so, rd, s, sw, cu, ba, r0, r1, r2, r3, bt, cnt, inn, lk, wd, kp, wr, mk, ls, pth, tk, 1, dp, many, minn, item, val, mwr, met, rst, opd, ope, way, mtk, hA, hC, hS, hM, hmw, hop, rfl⟩⟩⟩)
    · exact Or.inl ⟨sw (4 * t + j), fun o => ⟨(gA (nI s) cu ba r0 r1 r2 r3 sw bt cnt inn lk wd kp wr mk ls pth tk (nI c.1) (nI c.2.1) (bbC b) (nI s) th dp many minn item val mwr met rst sw opd ope way mtk), wf_gA, evC (s_slotWord ht hj), fun o' => ⟨(gA (nI s) cu ba r0 r1 r2 r3 sw bt cnt inn lk wd kp wr mk ls pth tk (nI c.1) (nI c.2.1) (bbC b) (nI s) 0 dp many minn item val mwr met rst sw opd ope way mtk), wf_gA, evM (s_mSlotWord ht hj), evM s_thrown, ⟨K, W, T, c, b, so, rd, s, sw, cu, ba, r0, r1, r2, r3, bt, cnt, inn, lk, wd, kp, wr, mk, ls, pth, tk, 0, dp, many, minn, item, val, mwr, met, rst, opd, ope, way, mtk, hA, hC, hS, hM, hmw, hop, rfl⟩⟩⟩⟩
theorem st_isWhole (h : GI N A) (i : Int32) : (∃ a, (a = 0 ∨ a = 1) ∧ SV (GI N) m_X3_isWhole m_X4_isWhole [.ref 0, .int i] [.ref 21, .int i] A (.inl (some (.int a))) (.int a) 0) ∨ SV (GI N) m_X3_isWhole m_X4_isWhole [.ref 0, .int i] [.ref 21, .int i] A (.inr xIB) (.int 0) 1 := by
  obtain ⟨K, W, T, c, b, so, rd, s, sw, cu, ba, r0, r1, r2, r3, bt, cnt, inn, lk, wd, kp, wr, mk, ls, pth, tk, th, dp, many, minn, item, val, mwr, met, rst, opd, ope, way, mtk, hA, hC, hS, hM, hmw, hop, rfl⟩ := h
  rcases slot_rng i with hi | ⟨t, ht, rfl⟩
  · exact Or.inr (fun o => ⟨(gA (nI s) cu ba r0 r1 r2 r3 sw bt cnt inn lk wd kp wr mk ls pth tk (nI c.1) (nI c.2.1) (bbC b) (nI s) th dp many minn item val mwr met rst sw opd ope way mtk), wf_gA, evC (s_isWholeT hi), fun o' => ⟨(gA (nI s) cu ba r0 r1 r2 r3 sw bt cnt inn lk wd kp wr mk ls pth tk (nI c.1) (nI c.2.1) (bbC b) (nI s) 1 dp many minn item val mwr met rst sw opd ope way mtk), wf_gA, evM (s_mIsWholeT hi), evM s_thrown, ⟨K, W, T, c, b, so, rd, s, sw, cu, ba, r0, r1, r2, r3, bt, cnt, inn, lk, wd, kp, wr, mk, ls, pth, tk, 1, dp, many, minn, item, val, mwr, met, rst, opd, ope, way, mtk, hA, hC, hS, hM, hmw, hop, rfl⟩⟩⟩)
  · by_cases hw : whl sw t
    · exact Or.inl ⟨1, Or.inr rfl, fun o => ⟨(gA (nI s) cu ba r0 r1 r2 r3 sw bt cnt inn lk wd kp wr mk ls pth tk (nI c.1) (nI c.2.1) (bbC b) (nI s) th dp many minn item val mwr met rst sw opd ope way mtk), wf_gA, evC (s_isWhole1 ht hw), fun o' => ⟨(gA (nI s) cu ba r0 r1 r2 r3 sw bt cnt inn lk wd kp wr mk ls pth tk (nI c.1) (nI c.2.1) (bbC b) (nI s) 0 dp many minn item val mwr met rst sw opd ope way mtk), wf_gA, evM (s_mIsWhole1 ht hw), evM s_thrown, ⟨K, W, T, c, b, so, rd, s, sw, cu, ba, r0, r1, r2, r3, bt, cnt, inn, lk, wd, kp, wr, mk, ls, pth, tk, 0, dp, many, minn, item, val, mwr, met, rst, opd, ope, way, mtk, hA, hC, hS, hM, hmw, hop, rfl⟩⟩⟩⟩
    · exact Or.inl ⟨0, Or.inl rfl, fun o => ⟨(gA (nI s) cu ba r0 r1 r2 r3 sw bt cnt inn lk wd kp wr mk ls pth tk (nI c.1) (nI c.2.1) (bbC b) (nI s) th dp many minn item val mwr met rst sw opd ope way mtk), wf_gA, evC (s_isWhole0 ht hw), fun o' => ⟨(gA (nI s) cu ba r0 r1 r2 r3 sw bt cnt inn lk wd kp wr mk ls pth tk (nI c.1) (nI c.2.1) (bbC b) (nI s) 0 dp many minn item val mwr met rst sw opd ope way mtk), wf_gA, evM (s_mIsWhole0 ht hw), evM s_thrown, ⟨K, W, T, c, b, so, rd, s, sw, cu, ba, r0, r1, r2, r3, bt, cnt, inn, lk, wd, kp, wr, mk, ls, pth, tk, 0, dp, many, minn, item, val, mwr, met, rst, opd, ope, way, mtk, hA, hC, hS, hM, hmw, hop, rfl⟩⟩⟩⟩
theorem st_hasBatch (h : GI N A) : ∃ a, SV (GI N) m_X3_hasBatch m_X4_hasBatch [.ref 0] [.ref 21] A (.inl (some (.int a))) (.int a) 0 := by
  obtain ⟨K, W, T, c, b, so, rd, s, sw, cu, ba, r0, r1, r2, r3, bt, cnt, inn, lk, wd, kp, wr, mk, ls, pth, tk, th, dp, many, minn, item, val, mwr, met, rst, opd, ope, way, mtk, hA, hC, hS, hM, hmw, hop, rfl⟩ := h
  cases b with
  | none =>
    obtain ⟨be, br, bk, bo⟩ := ba
    have hbo : bo = 0 := hS.2.1
    subst hbo
    exact ⟨0, fun o => ⟨(gA (nI s) cu (be, br, bk, 0) r0 r1 r2 r3 sw bt cnt inn lk wd kp wr mk ls pth tk (nI c.1) (nI c.2.1) (bbC none) (nI s) th dp many minn item val mwr met rst sw opd ope way mtk), wf_gA, evC (s_hasBatch (ba := cu) (Or.inl rfl)), fun o' => ⟨(gA (nI s) cu (be, br, bk, 0) r0 r1 r2 r3 sw bt cnt inn lk wd kp wr mk ls pth tk (nI c.1) (nI c.2.1) (bbC none) (nI s) 0 dp many minn item val mwr met rst sw opd ope way mtk), wf_gA, evM (s_mHas0 (bb := 0)), evM s_thrown, ⟨K, W, T, c, none, so, rd, s, sw, cu, (be, br, bk, 0), r0, r1, r2, r3, bt, cnt, inn, lk, wd, kp, wr, mk, ls, pth, tk, 0, dp, many, minn, item, val, mwr, met, rst, opd, ope, way, mtk, hA, hC, hS, hM, hmw, hop, rfl⟩⟩⟩⟩
  | some x =>
    have hbx := hS.2.1
    have hb2 : ba = (nI x.1, nI x.2.1, nI x.2.2, 1) := hbx
    subst hb2
    exact ⟨1, fun o => ⟨(gA (nI s) cu (nI x.1, nI x.2.1, nI x.2.2, 1) r0 r1 r2 r3 sw bt cnt inn lk wd kp wr mk ls pth tk (nI c.1) (nI c.2.1) (bbC (some x)) (nI s) th dp many minn item val mwr met rst sw opd ope way mtk), wf_gA, evC (s_hasBatch (ba := cu) (Or.inr rfl)), fun o' => ⟨(gA (nI s) cu (nI x.1, nI x.2.1, nI x.2.2, 1) r0 r1 r2 r3 sw bt cnt inn lk wd kp wr mk ls pth tk (nI c.1) (nI c.2.1) (bbC (some x)) (nI s) 0 dp many minn item val mwr met rst sw opd ope way mtk), wf_gA, evM (s_mHas1 (bb := 0) ((ai_bd hA).2.1 x rfl)), evM s_thrown, ⟨K, W, T, c, (some x), so, rd, s, sw, cu, (nI x.1, nI x.2.1, nI x.2.2, 1), r0, r1, r2, r3, bt, cnt, inn, lk, wd, kp, wr, mk, ls, pth, tk, 0, dp, many, minn, item, val, mwr, met, rst, opd, ope, way, mtk, hA, hC, hS, hM, hmw, hop, rfl⟩⟩⟩⟩
end Q2
