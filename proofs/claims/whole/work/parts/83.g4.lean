/-! BOTH: batches -/
theorem GT_K {K K' O O' W : Nat → Prop} {T : Nat → Nd} {d r : Nat} (h : GT K O W T d r) (h1 : ∀ q, K q → O q → K' q ∧ O' q) (h2 : ∀ q, K' q → K q) : GT K' O' W T d r := by
  obtain ⟨a1, a2, a3, a4, a5⟩ := h
  have h4 : ∀ q, inP T d r q → W q ∨ (K' q ∧ O' q) := fun q hq => (a4 q hq).imp id (fun h => h1 q h.1 h.2)
  exact ⟨rt_fr a1 (fun q hq => ⟨(h4 q hq).elim Or.inr (fun h => Or.inl h.1), rfl⟩), a2, a3, h4, fun q hq => a5 q (h2 q hq)⟩
theorem bG_oR {K W : Nat → Prop} {T : Nat → Nd} {c x : RS3} (h : bG K W T c x) : oR T (fun q => K q ∨ W q) x := by
  obtain ⟨⟨d, g, a1, a2, a3⟩, -⟩ := h
  exact ⟨d, g.1, g.2.1, a1, a2, a3⟩
theorem oR_ok {U : Nat → Prop} {T : Nat → Nd} {x : RS3} (h : oR T U x) : okR T U x.2.1 := by
  obtain ⟨d, a1, a2, a3, a4, a5, a6, a7, -⟩ := oR_use h (fun q hq => hq)
  exact ⟨d, by omega, a1, by omega⟩
theorem oR_Rch {U : Nat → Prop} {T : Nat → Nd} {x : RS3} (h : oR T U x) {q : Nat} (hq : Rch T x.2.1 q) : U q := by
  obtain ⟨d, h1, -⟩ := h
  exact sb_in (rt_sb h1).1 ((in_Rch (sb_dpt (rt_sb h1).1) q).mpr hq)
/-- what the model must find of a tree that is committed -/
theorem bG_keys {K W : Nat → Prop} {T : Nat → Nd} {c x : RS3} (h : bG K W T c x) : ∃ d, rt T (fun q => K q ∨ W q) d x.2.1 ∧ wsm T one1 d x.2.1 ≤ 700 ∧ wsm T (lfW T 100) d x.2.1 = x.2.2 ∧ x.2.2 ≤ 100 := by
  obtain ⟨⟨d, g, a1, a2, a3⟩, -⟩ := h
  have hl := Srt_100 a1 a2
  have hp := rt_pages g.1 hl
  exact ⟨d, g.1, by omega, by rw [wsm_keys 100 (sb_dpt (rt_sb g.1).1), cnL_100 a2, a3], by omega⟩
section Q3
variable {N : Nat} {A : List mC}
theorem st_beginBatch (h : GI N A) : (∃ a, SV (GI (N + 1)) m_X3_beginBatch m_X4_beginBatch [.ref 0] [.ref 21] A (.inl (some (.int a))) (.int a) 0) ∨ SV (GI (N + 1)) m_X3_beginBatch m_X4_beginBatch [.ref 0] [.ref 21] A (.inr xIS) (.int 0) 1 := by
  obtain ⟨K, W, T, c, b, so, rd, s, sw, cu, ba, r0, r1, r2, r3, bt, cnt, inn, lk, wd, kp, wr, mk, ls, pth, tk, th, dp, many, minn, item, val, mwr, met, rst, opd, ope, way, mtk, hA, hC, hS, hM, hmw, hop, rfl⟩ := h
  have hA1 := ai_mono (Nat.le_succ N) hA
  obtain ⟨⟨oc, hcu⟩, hba, hRD⟩ := id hS
  cases b with
  | some x =>
    have hb2 : ba = (nI x.1, nI x.2.1, nI x.2.2, 1) := hba
    subst hb2
    exact Or.inr (fun o => ⟨(gA (nI s) cu (nI x.1, nI x.2.1, nI x.2.2, 1) r0 r1 r2 r3 sw bt cnt inn lk wd kp wr mk ls pth tk (nI c.1) (nI c.2.1) (bbC (some x)) (nI s) th dp many minn item val mwr met rst sw opd ope way mtk), wf_gA, evC (s_beginBatchT (ba := cu)), fun o' => ⟨(gA (nI s) cu (nI x.1, nI x.2.1, nI x.2.2, 1) r0 r1 r2 r3 sw bt cnt inn lk wd kp wr mk ls pth tk (nI c.1) (nI c.2.1) (bbC (some x)) (nI s) 1 dp many minn item val mwr met rst sw opd ope way mtk), wf_gA, evM (s_mBeginT (bb := 0) ((ai_bd hA).2.1 x rfl)), evM s_thrown, ⟨K, W, T, c, (some x), so, rd, s, sw, cu, (nI x.1, nI x.2.1, nI x.2.2, 1), r0, r1, r2, r3, bt, cnt, inn, lk, wd, kp, wr, mk, ls, pth, tk, 1, dp, many, minn, item, val, mwr, met, rst, opd, ope, way, mtk, hA1, hC, hS, hM, hmw, hop, rfl⟩⟩⟩)
  | none =>
    obtain ⟨be, br, bk, bo⟩ := ba
    have hbo : bo = 0 := hba
    subst hbo
    subst hcu
    refine Or.inl ⟨nI (c.1 + 1), fun o => ⟨(gA (nI s) (nI c.1, nI c.2.1, nI c.2.2, oc) (nI (c.1 + 1), nI c.2.1, nI c.2.2, 1) r0 r1 r2 r3 sw bt cnt inn lk wd kp wr mk ls pth tk (nI c.1) (nI c.2.1) (bbC none) (nI s) th dp many minn item val mwr met rst sw opd ope way mtk), wf_gA, evC (s_beginBatch (cu := r0) (ba := r0)), fun o' => ?_⟩⟩
    have e2 := s_mBegin (cc := (cT (nI s) (nI c.1, nI c.2.1, nI c.2.2, oc) (nI (c.1 + 1), nI c.2.1, nI c.2.2, 1) r0 r1 r2 r3 sw bt cnt inn lk wd kp wr mk ls pth tk)) (ep := (nI c.1)) (ro := (nI c.2.1)) (bb := (-1)) (sl := (nI s)) (th := th) (dp := dp) (many := many) (inn := minn) (item := item) (val := val) (wr := mwr) (met := met) (rst := rst) (wds := sw) (opd := opd) (ope := ope) (way := way) (tk := mtk) (tl := [o'])
    rw [nI_a1] at e2
    refine ⟨(gA (nI s) (nI c.1, nI c.2.1, nI c.2.2, oc) (nI (c.1 + 1), nI c.2.1, nI c.2.2, 1) r0 r1 r2 r3 sw bt cnt inn lk wd kp wr mk ls pth tk (nI c.1) (nI c.2.1) (bbC (some (c.1 + 1, c.2.1, c.2.2))) (nI s) 0 dp many minn item val (zr mwr 720) met rst sw opd ope way mtk), wf_gA, evM e2, evM s_thrown, ⟨K, W, T, c, (some (c.1 + 1, c.2.1, c.2.2)), so, rd, s, sw, (nI c.1, nI c.2.1, nI c.2.2, oc), (nI (c.1 + 1), nI c.2.1, nI c.2.2, 1), r0, r1, r2, r3, bt, cnt, inn, lk, wd, kp, wr, mk, ls, pth, tk, 0, dp, many, minn, item, val, (zr mwr 720), met, rst, opd, ope, way, mtk, ?_, hC, ⟨⟨oc, rfl⟩, rfl, hRD⟩, hM, ?_, hop, rfl⟩⟩
    · obtain ⟨g1, g2, g3, g4, g5, g6⟩ := hA1
      refine ⟨g1, g2, g3, ⟨(fun h => by cases h), fun x hx => ?_⟩, g5, g6⟩
      cases hx
      obtain ⟨d, a1, a2, a3, a4, a5⟩ := g2.1
      have hno := g4.1 rfl
      exact ⟨⟨d, ⟨rt_fr a1 (fun q hq => ⟨Or.inl (sb_in (rt_sb a1).1 hq), rfl⟩), a2, fun q hq => absurd hq (hno q), fun q hq => Or.inr ⟨sb_in (rt_sb a1).1 hq, (in_Rch (sb_dpt (rt_sb a1).1) q).mp hq⟩, fun q _ => hno q⟩, a3, a4, a5⟩, rfl⟩
    · intro x _ q hq
      have h7 := hA.2.2.1 q hq
      have e0 : zr mwr 720 q = 0 := if_pos h7
      rw [e0]
      exact ⟨fun h => absurd rfl h, fun h => absurd h (hA.2.2.2.1.1 rfl q)⟩
/-- the batch's tree changed -/
theorem ai_batch {K W W' : Nat → Prop} {T T' : Nat → Nd} {c x : RS3} {so rd : Nat → Option RS3} {s : Nat} {sw : Nat → Int64} {d' r' k' : Nat} (hA : AI N K W T c (some x) so rd s sw) (hT : ∀ q, K q → T' q = T q) (h7 : ∀ q, K q ∨ W' q → q < 720) (hg : GT K (fun q => Rch T c.2.1 q) W' T' d' r') (h1 : Srt (kyl T' d' r')) (h2 : k100 (kyl T' d' r')) (h3 : k' = (kyl T' d' r').length) : AI N K W' T' c (some (x.1, r', k')) so rd s sw := by
  obtain ⟨hK, ⟨o1, o2, o3⟩, -, hb, hs, hsl⟩ := hA
  have mv : ∀ y : RS3, oR T K y → oR T' K y := fun y hy => oR_mono hy (fun q hq => ⟨oR_Rch hy hq, hT q (oR_Rch hy hq)⟩)
  refine ⟨fun q => K_frame hK hT q, ⟨mv c o1, fun t y ht hy => mv y (o2 t y ht hy), fun j y hj hy => mv y (o3 j y hj hy)⟩, h7, ⟨(fun h => by cases h), fun y hy => ?_⟩, hs, hsl⟩
  cases hy
  exact ⟨⟨d', GT_K hg (fun q hk ho => ⟨hk, (Rch_fr (fun q hq => hT q (oR_Rch o1 hq)) q).mpr ho⟩) (fun q hq => hq), h1, h2, h3⟩, (hb.2 x rfl).2⟩
theorem nI_if (k : Nat) (nw : Bool) : (if nw then nI k + 1 else nI k) = nI (k + if nw then 1 else 0) := by
  cases nw with
  | true => exact nI_a1 k
  | false => rfl
theorem st_put (h : GI N A) (k v : Int32) : (∃ a, (a = 0 ∨ a = 1) ∧ SV (GI N) m_X3_put m_X4_put [.ref 0, .int k, .int v] [.ref 21, .int k, .int v] A (.inl (some (.int a))) (.int a) 0) ∨ SV (GI N) m_X3_put m_X4_put [.ref 0, .int k, .int v] [.ref 21, .int k, .int v] A (.inr xIA) (.int 0) 1 ∨ SV (GI N) m_X3_put m_X4_put [.ref 0, .int k, .int v] [.ref 21, .int k, .int v] A (.inr xIS) (.int 0) 2 := by
  obtain ⟨K, W, T, c, b, so, rd, s, sw, cu, ba, r0, r1, r2, r3, bt, cnt, inn, lk, wd, kp, wr, mk, ls, pth, tk, th, dp, many, minn, item, val, mwr, met, rst, opd, ope, way, mtk, hA, hC, hS, hM, hmw, hop, rfl⟩ := h
  rcases key_rng k with hk | ⟨n, hn, rfl⟩
  · exact Or.inr (Or.inl (fun o => ⟨(gA (nI s) cu ba r0 r1 r2 r3 sw bt cnt inn lk wd kp wr mk ls pth tk (nI c.1) (nI c.2.1) (bbC b) (nI s) th dp many minn item val mwr met rst sw opd ope way mtk), wf_gA, evC (s_putT1 hk), fun o' => ⟨(gA (nI s) cu ba r0 r1 r2 r3 sw bt cnt inn lk wd kp wr mk ls pth tk (nI c.1) (nI c.2.1) (bbC b) (nI s) 1 dp many minn item val mwr met rst sw opd ope way mtk), wf_gA, evM (s_mPutT1 (key_out hk)), evM s_thrown, ⟨K, W, T, c, b, so, rd, s, sw, cu, ba, r0, r1, r2, r3, bt, cnt, inn, lk, wd, kp, wr, mk, ls, pth, tk, 1, dp, many, minn, item, val, mwr, met, rst, opd, ope, way, mtk, hA, hC, hS, hM, hmw, hop, rfl⟩⟩⟩))
  · cases b with
    | none =>
      obtain ⟨be, br, bk, bo⟩ := ba
      have hbo : bo = 0 := hS.2.1
      subst hbo
      exact Or.inr (Or.inr (fun o => ⟨(gA (nI s) cu (be, br, bk, 0) r0 r1 r2 r3 sw bt cnt inn lk wd kp wr mk ls pth tk (nI c.1) (nI c.2.1) (bbC none) (nI s) th dp many minn item val mwr met rst sw opd ope way mtk), wf_gA, evC (s_putT2 (ba := r0) hn), fun o' => ⟨(gA (nI s) cu (be, br, bk, 0) r0 r1 r2 r3 sw bt cnt inn lk wd kp wr mk ls pth tk (nI c.1) (nI c.2.1) (bbC none) (nI s) 2 dp many minn item val mwr met rst sw opd ope way mtk), wf_gA, evM (s_mPutT2 (bb := 0) hn), evM s_thrown, ⟨K, W, T, c, none, so, rd, s, sw, cu, (be, br, bk, 0), r0, r1, r2, r3, bt, cnt, inn, lk, wd, kp, wr, mk, ls, pth, tk, 2, dp, many, minn, item, val, mwr, met, rst, opd, ope, way, mtk, hA, hC, hS, hM, hmw, hop, rfl⟩⟩⟩))
    | some x =>
      obtain ⟨hcu, hba, hRD⟩ := id hS
      have hb2 : ba = (nI x.1, nI x.2.1, nI x.2.2, 1) := hba
      subst hb2
      obtain ⟨⟨d, g, a1, a2, a3⟩, hx1⟩ := hA.2.2.2.1.2 x rfl
      obtain ⟨T', W', r', nw, d', p1, p2, p3, p4, p5, p6⟩ := put_ex v hn g a1 a2 (ai_cov hA)
      have hMB : MBt K W T (rts c so rd) many minn item val mwr := ⟨hM, hmw x rfl, hA.1, ai_D hA⟩
      refine Or.inl ⟨if nw then 1 else 0, by cases nw <;> simp, fun o => ?_⟩
      obtain ⟨u1, u2, u3, u4, u5, u6, u7, u8, q1, e1⟩ := s_put (sl := (nI s)) (cu := cu) (ba := r0) (r0 := r0) (r1 := r1) (r2 := r2) (r3 := r3) (sw := sw) (bt := bt) (cnt := cnt) (inn := inn) (lk := lk) (wd := wd) (kp := kp) (wr := wr) (mk := mk) (ls := ls) (pth := pth) (tk := tk) (tl := (mCl (nI c.1) (nI c.2.1) (nI x.2.1) (nI s) th dp many minn item val mwr met rst sw opd ope way mtk [o])) (be := nI x.1) (bk := nI x.2.2) (v := v) hC hn p1
      rw [nI_if] at e1
      refine ⟨(gA (nI s) cu (nI x.1, nI r', nI (x.2.2 + if nw then 1 else 0), 1) r0 r1 r2 r3 sw u6 u1 u2 u3 u4 kp u5 mk ls u7 u8 (nI c.1) (nI c.2.1) (nI x.2.1) (nI s) th dp many minn item val mwr met rst sw opd ope way mtk), wf_gA, evC e1, fun o' => ?_⟩
      obtain ⟨v1, v2, v3, v4, v5, v6, v7, v8, v9, v10, q2, e2⟩ := s_mPut (cc := (cT (nI s) cu (nI x.1, nI r', nI (x.2.2 + if nw then 1 else 0), 1) r0 r1 r2 r3 sw u6 u1 u2 u3 u4 kp u5 mk ls u7 u8)) (ep := (nI c.1)) (ro := (nI c.2.1)) (bb := (nI x.2.1)) (sl := (nI s)) (th := th) (dp := dp) (many := many) (inn := minn) (item := item) (val := val) (wr := mwr) (met := met) (rst := rst) (wds := sw) (opd := opd) (ope := ope) (way := way) (tk := mtk) (tl := [o']) rfl hop hA.2.2.2.2.2.1 hMB p1
      exact ⟨(gA (nI s) cu (nI x.1, nI r', nI (x.2.2 + if nw then 1 else 0), 1) r0 r1 r2 r3 sw u6 u1 u2 u3 u4 kp u5 mk ls u7 u8 (nI c.1) (nI c.2.1) (bbC (some (x.1, r', x.2.2 + if nw then 1 else 0))) (nI s) 0 v10 v3 v4 v5 v6 v7 v1 v2 sw opd ope v8 v9), wf_gA, evM e2, evM s_thrown, ⟨K, W', T', c, (some (x.1, r', x.2.2 + if nw then 1 else 0)), so, rd, s, sw, cu, (nI x.1, nI r', nI (x.2.2 + if nw then 1 else 0), 1), r0, r1, r2, r3, u6, u1, u2, u3, u4, kp, u5, mk, ls, u7, u8, 0, v10, v3, v4, v5, v6, v7, v1, v2, opd, ope, v8, v9, ai_batch hA p6 (fun q hq => (q2.1 q hq).1) p2 p3 p4 (by rw [p5, a3]), q1, ⟨hcu, rfl, hRD⟩, q2.1, fun _ _ => q2.2.1, hop, rfl⟩⟩
theorem st_delete (h : GI N A) (k : Int32) : (∃ a, SV (GI N) m_X3_delete m_X4_delete [.ref 0, .int k] [.ref 21, .int k] A (.inl (some (.int a))) (.int a) 0) ∨ SV (GI N) m_X3_delete m_X4_delete [.ref 0, .int k] [.ref 21, .int k] A (.inr xIA) (.int 0) 1 ∨ SV (GI N) m_X3_delete m_X4_delete [.ref 0, .int k] [.ref 21, .int k] A (.inr xIS) (.int 0) 2 ∨ SV (GI N) m_X3_delete m_X4_delete [.ref 0, .int k] [.ref 21, .int k] A (.inr nX) (.int 0) 3 := by
  obtain ⟨K, W, T, c, b, so, rd, s, sw, cu, ba, r0, r1, r2, r3, bt, cnt, inn, lk, wd, kp, wr, mk, ls, pth, tk, th, dp, many, minn, item, val, mwr, met, rst, opd, ope, way, mtk, hA, hC, hS, hM, hmw, hop, rfl⟩ := h
  rcases key_rng k with hk | ⟨n, hn, rfl⟩
  · exact Or.inr (Or.inl (fun o => ⟨(gA (nI s) cu ba r0 r1 r2 r3 sw bt cnt inn lk wd kp wr mk ls pth tk (nI c.1) (nI c.2.1) (bbC b) (nI s) th dp many minn item val mwr met rst sw opd ope way mtk), wf_gA, evC (s_deleteT1 hk), fun o' => ⟨(gA (nI s) cu ba r0 r1 r2 r3 sw bt cnt inn lk wd kp wr mk ls pth tk (nI c.1) (nI c.2.1) (bbC b) (nI s) 1 dp many minn item val mwr met rst sw opd ope way mtk), wf_gA, evM (s_mDelT1 (key_out hk)), evM s_thrown, ⟨K, W, T, c, b, so, rd, s, sw, cu, ba, r0, r1, r2, r3, bt, cnt, inn, lk, wd, kp, wr, mk, ls, pth, tk, 1, dp, many, minn, item, val, mwr, met, rst, opd, ope, way, mtk, hA, hC, hS, hM, hmw, hop, rfl⟩⟩⟩))
  · cases b with
    | none =>
      obtain ⟨be, br, bk, bo⟩ := ba
      have hbo : bo = 0 := hS.2.1
      subst hbo
      exact Or.inr (Or.inr (Or.inl (fun o => ⟨(gA (nI s) cu (be, br, bk, 0) r0 r1 r2 r3 sw bt cnt inn lk wd kp wr mk ls pth tk (nI c.1) (nI c.2.1) (bbC none) (nI s) th dp many minn item val mwr met rst sw opd ope way mtk), wf_gA, evC (s_deleteT2 (ba := r0) hn), fun o' => ⟨(gA (nI s) cu (be, br, bk, 0) r0 r1 r2 r3 sw bt cnt inn lk wd kp wr mk ls pth tk (nI c.1) (nI c.2.1) (bbC none) (nI s) 2 dp many minn item val mwr met rst sw opd ope way mtk), wf_gA, evM (s_mDelT2 (bb := 0) hn), evM s_thrown, ⟨K, W, T, c, none, so, rd, s, sw, cu, (be, br, bk, 0), r0, r1, r2, r3, bt, cnt, inn, lk, wd, kp, wr, mk, ls, pth, tk, 2, dp, many, minn, item, val, mwr, met, rst, opd, ope, way, mtk, hA, hC, hS, hM, hmw, hop, rfl⟩⟩⟩)))
    | some x =>
      obtain ⟨hcu, hba, hRD⟩ := id hS
      have hb2 : ba = (nI x.1, nI x.2.1, nI x.2.2, 1) := hba
      subst hb2
      obtain ⟨⟨d, g, a1, a2, a3⟩, hx1⟩ := hA.2.2.2.1.2 x rfl
      have hd5 := rt_d5 g.1 (Srt_100 a1 a2)
      obtain ⟨P, l, A0, B0, f1, f2, f3, f4, f5⟩ := fd_ex hn g.1 a1 a2
      have hu := (fdR_U f1).1
      have hMB : MBt K W T (rts c so rd) many minn item val mwr := ⟨hM, hmw x rfl, hA.1, ai_D hA⟩
      by_cases hh : hld l (plc l (nI n)) (nI n)
      · obtain ⟨v, hx, T', W', r', d', p1, p2, p3, p4, p5, p6⟩ := del_ex hn g a1 a2 (ai_cov hA) f2 hh
        have hx0 : 0 < x.2.2 := by omega
        refine Or.inl ⟨v, fun o => ?_⟩
        obtain ⟨u1, u2, u3, u4, u5, u6, u7, u8, q1, e1⟩ := s_delete (sl := (nI s)) (cu := cu) (ba := r0) (r0 := r0) (r1 := r1) (r2 := r2) (r3 := r3) (sw := sw) (bt := bt) (cnt := cnt) (inn := inn) (lk := lk) (wd := wd) (kp := kp) (wr := wr) (mk := mk) (ls := ls) (pth := pth) (tk := tk) (tl := (mCl (nI c.1) (nI c.2.1) (nI x.2.1) (nI s) th dp many minn item val mwr met rst sw opd ope way mtk [o])) (be := nI x.1) (bk := nI x.2.2) hn hC (by omega) g.1 f2 hu hx p1
        rw [nI_s1 hx0] at e1
        refine ⟨(gA (nI s) cu (nI x.1, nI r', nI (x.2.2 - 1), 1) r0 r1 r2 r3 sw u6 u1 u2 u3 u4 kp u5 mk ls u7 u8 (nI c.1) (nI c.2.1) (nI x.2.1) (nI s) th dp many minn item val mwr met rst sw opd ope way mtk), wf_gA, evC e1, fun o' => ?_⟩
        obtain ⟨v1, v2, v3, v4, v5, v6, v7, v8, v9, v10, q2, e2⟩ := s_mDel (cc := (cT (nI s) cu (nI x.1, nI r', nI (x.2.2 - 1), 1) r0 r1 r2 r3 sw u6 u1 u2 u3 u4 kp u5 mk ls u7 u8)) (ep := (nI c.1)) (ro := (nI c.2.1)) (bb := (nI x.2.1)) (sl := (nI s)) (th := th) (dp := dp) (many := many) (inn := minn) (item := item) (val := val) (wr := mwr) (met := met) (rst := rst) (wds := sw) (opd := opd) (ope := ope) (way := way) (tk := mtk) (tl := [o']) rfl hop hA.2.2.2.2.2.1 hMB p1
        exact ⟨(gA (nI s) cu (nI x.1, nI r', nI (x.2.2 - 1), 1) r0 r1 r2 r3 sw u6 u1 u2 u3 u4 kp u5 mk ls u7 u8 (nI c.1) (nI c.2.1) (bbC (some (x.1, r', x.2.2 - 1))) (nI s) 0 v10 v3 v4 v5 v6 v7 v1 v2 sw opd ope v8 v9), wf_gA, evM e2, evM s_thrown, ⟨K, W', T', c, (some (x.1, r', x.2.2 - 1)), so, rd, s, sw, cu, (nI x.1, nI r', nI (x.2.2 - 1), 1), r0, r1, r2, r3, u6, u1, u2, u3, u4, kp, u5, mk, ls, u7, u8, 0, v10, v3, v4, v5, v6, v7, v1, v2, opd, ope, v8, v9, ai_batch hA p6 (fun q hq => (q2.1 q hq).1) p2 p3 p4 (by omega), q1, ⟨hcu, rfl, hRD⟩, q2.1, fun _ _ => q2.2.1, hop, rfl⟩⟩
      · refine Or.inr (Or.inr (Or.inr (fun o => ⟨(gA (nI s) cu (nI x.1, nI x.2.1, nI x.2.2, 1) r0 r1 r2 r3 sw bt cnt inn lk wd kp wr mk ls pth tk (nI c.1) (nI c.2.1) (bbC (some x)) (nI s) th dp many minn item val mwr met rst sw opd ope way mtk), wf_gA, evC (s_deleteT3 (ba := r0) hn hC.1 (by omega) g.1 f2 hu hh), fun o' => ?_⟩)))
        obtain ⟨y1, k1, e2⟩ := s_mDelT3 (cc := (cT (nI s) cu (nI x.1, nI x.2.1, nI x.2.2, 1) r0 r1 r2 r3 sw bt cnt inn lk wd kp wr mk ls pth tk)) (ep := (nI c.1)) (ro := (nI c.2.1)) (bb := (nI x.2.1)) (sl := (nI s)) (th := th) (dp := dp) (many := many) (inn := minn) (item := item) (val := val) (wr := mwr) (met := met) (rst := rst) (wds := sw) (opd := opd) (ope := ope) (way := way) (tk := mtk) (tl := [o']) hM hn (by omega) f1 f2 hh
        exact ⟨(gA (nI s) cu (nI x.1, nI x.2.1, nI x.2.2, 1) r0 r1 r2 r3 sw bt cnt inn lk wd kp wr mk ls pth tk (nI c.1) (nI c.2.1) (bbC (some x)) (nI s) 3 (nI d) many minn item val mwr met rst sw opd ope y1 k1), wf_gA, evM e2, evM s_thrown, ⟨K, W, T, c, (some x), so, rd, s, sw, cu, (nI x.1, nI x.2.1, nI x.2.2, 1), r0, r1, r2, r3, bt, cnt, inn, lk, wd, kp, wr, mk, ls, pth, tk, 3, (nI d), many, minn, item, val, mwr, met, rst, opd, ope, y1, k1, hA, hC, hS, hM, hmw, hop, rfl⟩⟩
end Q3
