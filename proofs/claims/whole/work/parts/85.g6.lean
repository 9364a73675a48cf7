/-! BOTH: commits, readers, crashes -/
theorem rs_U {U : Nat → Prop} {T : Nat → Nd} {c : RS3} {so rd : Nat → Option RS3} (o1 : oR T U c) (o2 : ∀ t x, t < 2 → so t = some x → oR T U x) (o3 : ∀ j x, j < 4 → rd j = some x → oR T U x) : ∀ q, RS T (rts c so rd) q → U q := fun q ⟨r, hr, hR⟩ => by
  rcases mem_rts.mp hr with rfl | ⟨t, x, ht, hx, rfl⟩ | ⟨j, x, hj, hx, rfl⟩
  · exact oR_Rch o1 hR
  · exact oR_Rch (o2 t x ht hx) hR
  · exact oR_Rch (o3 j x hj hx) hR
theorem rs_ok {U : Nat → Prop} {T : Nat → Nd} {c : RS3} {so rd : Nat → Option RS3} (o1 : oR T U c) (o2 : ∀ t x, t < 2 → so t = some x → oR T U x) (o3 : ∀ j x, j < 4 → rd j = some x → oR T U x) : ∀ r ∈ rts c so rd, okR T U r := fun r hr => by
  rcases mem_rts.mp hr with rfl | ⟨t, x, ht, hx, rfl⟩ | ⟨j, x, hj, hx, rfl⟩
  · exact oR_ok o1
  · exact oR_ok (o2 t x ht hx)
  · exact oR_ok (o3 j x hj hx)
theorem rs_oR {U : Nat → Prop} {T : Nat → Nd} {c : RS3} {so rd : Nat → Option RS3} (o1 : oR T U c) (o2 : ∀ t x, t < 2 → so t = some x → oR T U x) (o3 : ∀ j x, j < 4 → rd j = some x → oR T U x) : oR T (RS T (rts c so rd)) c ∧ (∀ t x, t < 2 → so t = some x → oR T (RS T (rts c so rd)) x) ∧ ∀ j x, j < 4 → rd j = some x → oR T (RS T (rts c so rd)) x :=
  ⟨oR_mono o1 (fun q hq => ⟨⟨c.2.1, mem_rts.mpr (Or.inl rfl), hq⟩, rfl⟩), fun t x ht hx => oR_mono (o2 t x ht hx) (fun q hq => ⟨⟨x.2.1, mem_rts.mpr (Or.inr (Or.inl ⟨t, x, ht, hx, rfl⟩)), hq⟩, rfl⟩), fun j x hj hx => oR_mono (o3 j x hj hx) (fun q hq => ⟨⟨x.2.1, mem_rts.mpr (Or.inr (Or.inr ⟨j, x, hj, hx, rfl⟩)), hq⟩, rfl⟩)⟩
theorem ai_fresh {M : Nat} {U : Nat → Prop} {T : Nat → Nd} {c : RS3} {so rd : Nat → Option RS3} {s : Nat} {sw : Nat → Int64} (o1 : oR T U c) (o2 : ∀ t x, t < 2 → so t = some x → oR T U x) (o3 : ∀ j x, j < 4 → rd j = some x → oR T U x) (h7 : ∀ q, U q → q < 720) (hs : s < 2) (hsl : slI M c so s sw) : AI M (RS T (rts c so rd)) (fun _ => False) T c none so rd s sw :=
  ⟨fun q => Iff.rfl, rs_oR o1 o2 o3, fun q hq => h7 q (rs_U o1 o2 o3 q (hq.resolve_right id)), ⟨fun _ q h => h, fun x hx => by cases hx⟩, hs, hsl⟩
section AIU
variable {N : Nat} {K W : Nat → Prop} {T : Nat → Nd} {c : RS3} {b : Option RS3} {so rd : Nat → Option RS3} {s : Nat} {sw : Nat → Int64}
theorem ai_oU (h : AI N K W T c b so rd s sw) : oR T (fun q => K q ∨ W q) c ∧ (∀ t x, t < 2 → so t = some x → oR T (fun q => K q ∨ W q) x) ∧ ∀ j x, j < 4 → rd j = some x → oR T (fun q => K q ∨ W q) x := by
  obtain ⟨-, ⟨o1, o2, o3⟩, -⟩ := h
  have mv : ∀ y : RS3, oR T K y → oR T (fun q => K q ∨ W q) y := fun y hy => oR_mono hy (fun q hq => ⟨Or.inl (oR_Rch hy hq), rfl⟩)
  exact ⟨mv c o1, fun t x ht hx => mv x (o2 t x ht hx), fun j x hj hx => mv x (o3 j x hj hx)⟩
theorem oR_7 {U : Nat → Prop} {T : Nat → Nd} {x : RS3} (h : oR T U x) (h7 : ∀ q, U q → q < 720) : x.2.1 < 720 ∧ x.2.2 ≤ 100 := by
  obtain ⟨d, a1, a2, a3, a4, a5, a6, a7, a8⟩ := oR_use h (fun q hq => hq)
  exact ⟨h7 _ (rt_U a1), a8⟩
theorem ai_s7 (h : AI N K W T c b so rd s sw) : ∀ t x, t < 2 → so t = some x → x.2.1 < 720 ∧ x.2.2 ≤ 100 := fun t x ht hx => oR_7 ((ai_oU h).2.1 t x ht hx) h.2.2.1
/-- the batch given up -/
theorem ai_nob (h : AI N K W T c b so rd s sw) : AI N K (fun _ => False) T c none so rd s sw := by
  obtain ⟨h1, h2, h3, h4, h5, h6⟩ := h
  exact ⟨h1, h2, fun q hq => h3 q (Or.inl (hq.resolve_right id)), ⟨fun _ q h => h, fun x hx => by cases hx⟩, h5, h6⟩
/-- what is kept and the batch's, the states being fewer -/
theorem ai_bt {rd' so' : Nat → Option RS3} (h : AI N K W T c b so rd s sw) (q : Nat) : mUse T c b so' rd' q ↔ RS T (rts c so' rd') q ∨ W q := by
  unfold mUse
  cases hb : b with
  | none =>
    constructor
    · rintro (h1 | h1)
      · exact Or.inl h1
      · exact absurd h1 (RS_nil q)
    · rintro (h1 | h1)
      · exact Or.inl h1
      · exact absurd h1 (h.2.2.2.1.1 hb q)
  | some x =>
    obtain ⟨⟨d, g, -⟩, -⟩ := h.2.2.2.1.2 x hb
    have hR := in_Rch (sb_dpt (rt_sb g.1).1) q
    constructor
    · rintro (h1 | ⟨r, hr, h1⟩)
      · exact Or.inl h1
      · rw [List.mem_singleton.mp hr] at h1
        rcases g.2.2.2.1 q (hR.mpr h1) with hw | ⟨-, hO⟩
        · exact Or.inr hw
        · exact Or.inl ⟨c.2.1, List.mem_cons_self, hO⟩
    · rintro (h1 | h1)
      · exact Or.inl h1
      · exact Or.inr ⟨x.2.1, List.mem_singleton.mpr rfl, hR.mp (g.2.2.1 q h1)⟩
/-- fewer states, the batch as it was -/
theorem ai_less {M : Nat} {rd' so' : Nat → Option RS3} {sw' : Nat → Int64} (h : AI N K W T c b so rd s sw) (h2 : ∀ t x, t < 2 → so' t = some x → so t = some x) (h3 : ∀ j x, j < 4 → rd' j = some x → rd j = some x) (hsl : slI M c so' s sw') : AI M (RS T (rts c so' rd')) W T c b so' rd' s sw' := by
  obtain ⟨h1, ⟨o1, o2, o3⟩, h7, hb, hs, -⟩ := h
  have o2' : ∀ t x, t < 2 → so' t = some x → oR T K x := fun t x ht hx => o2 t x ht (h2 t x ht hx)
  have o3' : ∀ j x, j < 4 → rd' j = some x → oR T K x := fun j x hj hx => o3 j x hj (h3 j x hj hx)
  have hle := rs_U o1 o2' o3'
  refine ⟨fun q => Iff.rfl, rs_oR o1 o2' o3', fun q hq => h7 q (hq.imp (hle q) id), ⟨hb.1, fun x hx => ?_⟩, hs, hsl⟩
  obtain ⟨⟨d, g, a1, a2, a3⟩, hx1⟩ := hb.2 x hx
  exact ⟨⟨d, GT_K g (fun q _ ho => ⟨⟨c.2.1, mem_rts.mpr (Or.inl rfl), ho⟩, ho⟩) hle, a1, a2, a3⟩, hx1⟩
theorem ai_cnt2 {rd' so' : Nat → Option RS3} (h : AI N K W T c b so rd s sw) (hle : ∀ q, RS T (rts c so' rd') q → K q) {n : Nat} (hn : cntR (fun q => RS T (rts c so' rd') q ∨ W q) 800 n) : cntR (mUse T c b so' rd') 720 n := cntR_cg (fun q _ => (ai_bt h q).symm) (cntR_dn (m := 80) (fun q h7 hu => by have := h.2.2.1 q (hu.imp (hle q) id); omega) hn)
end AIU
section Q4
variable {N : Nat} {A : List mC}
theorem st_commit (h : GI N A) (hN : N ≤ 600) : (∃ a, SV (GI (N + 1)) m_X3_commit m_X4_commit [.ref 0] [.ref 21] A (.inl (some (.int a))) (.int a) 0) ∨ SV (GI (N + 1)) m_X3_commit m_X4_commit [.ref 0] [.ref 21] A (.inr xIS) (.int 0) 1 := by
  obtain ⟨K, W, T, c, b, so, rd, s, sw, cu, ba, r0, r1, r2, r3, bt, cnt, inn, lk, wd, kp, wr, mk, ls, pth, tk, th, dp, many, minn, item, val, mwr, met, rst, opd, ope, way, mtk, hA, hC, hS, hM, hmw, hop, rfl⟩ := h
  have hA1 := ai_mono (Nat.le_succ N) hA
  obtain ⟨⟨oc, hcu⟩, hba, hRD⟩ := id hS
  cases b with
  | none =>
    obtain ⟨be, br, bk, bo⟩ := ba
    have hbo : bo = 0 := hba
    subst hbo
    exact Or.inr (fun o => ⟨(gA (nI s) cu (be, br, bk, 0) r0 r1 r2 r3 sw bt cnt inn lk wd kp wr mk ls pth tk (nI c.1) (nI c.2.1) (bbC none) (nI s) th dp many minn item val mwr met rst sw opd ope way mtk), wf_gA, evC (s_commitT (ba := r0)), fun o' => ⟨(gA (nI s) cu (be, br, bk, 0) r0 r1 r2 r3 sw bt cnt inn lk wd kp wr mk ls pth tk (nI c.1) (nI c.2.1) (bbC none) (nI s) 1 dp many minn item val mwr met rst sw opd ope way mtk), wf_gA, evM (s_mCommitT (bb := 0)), evM s_thrown, ⟨K, W, T, c, none, so, rd, s, sw, cu, (be, br, bk, 0), r0, r1, r2, r3, bt, cnt, inn, lk, wd, kp, wr, mk, ls, pth, tk, 1, dp, many, minn, item, val, mwr, met, rst, opd, ope, way, mtk, hA1, hC, hS, hM, hmw, hop, rfl⟩⟩⟩)
  | some x =>
    have hb2 : ba = (nI x.1, nI x.2.1, nI x.2.2, 1) := hba
    subst hb2
    have hs2 := hA.2.2.2.2.1
    have hbx := hA.2.2.2.1.2 x rfl
    have oX := bG_oR hbx
    obtain ⟨o1, o2, o3⟩ := ai_oU hA
    obtain ⟨x7, xk⟩ := oR_7 oX hA.2.2.1
    obtain ⟨d, d1, d2, d3, d4⟩ := bG_keys hbx
    have hsl := sl_full hA.2.2.2.2.2 hs2 hN hbx.2 x7 xk
    have o2' : ∀ t z, t < 2 → setR so (1 - s) (some x) t = some z → oR T (fun q => K q ∨ W q) z := fun t z ht hz => by
      unfold setR at hz
      by_cases h : t = 1 - s
      · rw [if_pos h] at hz
        cases hz
        exact oX
      · rw [if_neg h] at hz
        exact o2 t z ht hz
    have hle := rs_U oX o2' o3
    refine Or.inl ⟨nI x.1, fun o => ?_⟩
    obtain ⟨u1, u2, u3, q1, e1⟩ := s_commit (sl := (nI s)) (cu := cu) (ba := r0) (r0 := r0) (r1 := r1) (r2 := r2) (r3 := r3) (sw := sw) (bt := bt) (cnt := cnt) (inn := inn) (lk := lk) (wd := wd) (kp := kp) (wr := wr) (mk := mk) (ls := ls) (pth := pth) (tk := tk) (tl := (mCl (nI c.1) (nI c.2.1) (nI x.2.1) (nI s) th dp many minn item val mwr met rst sw opd ope way mtk [o])) hC.1 hs2 (x := x) hRD hsl.1 (rs_ok oX o2' o3)
    refine ⟨(gA (nI (1 - s)) (nI x.1, nI x.2.1, nI x.2.2, u3) (nI x.1, nI x.2.1, nI x.2.2, 0) r0 r1 r2 r3 (wrS sw (1 - s) x 4) bt cnt inn lk wd u1 (zr wr 800) mk u2 pth tk (nI c.1) (nI c.2.1) (nI x.2.1) (nI s) th dp many minn item val mwr met rst sw opd ope way mtk), wf_gA, evC e1, fun o' => ?_⟩
    obtain ⟨v1, e2⟩ := s_mCommit (cc := (cT (nI (1 - s)) (nI x.1, nI x.2.1, nI x.2.2, u3) (nI x.1, nI x.2.1, nI x.2.2, 0) r0 r1 r2 r3 (wrS sw (1 - s) x 4) bt cnt inn lk wd u1 (zr wr 800) mk u2 pth tk)) (ep := (nI c.1)) (ro := (nI c.2.1)) (bb := (nI x.2.1)) (sl := (nI s)) (th := th) (dp := dp) (many := many) (inn := minn) (item := item) (val := val) (wr := mwr) (met := met) (rst := rst) (wds := sw) (opd := opd) (ope := ope) (way := way) (tk := mtk) (tl := [o']) hM hs2 d1 x7 d2 d3 hbx.2 hsl.1 (if_pos rfl)
    exact ⟨(gA (nI (1 - s)) (nI x.1, nI x.2.1, nI x.2.2, u3) (nI x.1, nI x.2.1, nI x.2.2, 0) r0 r1 r2 r3 (wrS sw (1 - s) x 4) bt cnt inn lk wd u1 (zr wr 800) mk u2 pth tk (nI x.1) (nI x.2.1) (bbC none) (nI (1 - s)) 0 dp many minn item val mwr met v1 (wrS sw (1 - s) x 4) opd ope way mtk), wf_gA, evM e2, evM s_thrown, ⟨(RS T (rts x (setR so (1 - s) (some x)) rd)), (fun _ => False), T, x, none, (setR so (1 - s) (some x)), rd, (1 - s), (wrS sw (1 - s) x 4), (nI x.1, nI x.2.1, nI x.2.2, u3), (nI x.1, nI x.2.1, nI x.2.2, 0), r0, r1, r2, r3, bt, cnt, inn, lk, wd, u1, (zr wr 800), mk, u2, pth, tk, 0, dp, many, minn, item, val, mwr, met, v1, opd, ope, way, mtk, ai_fresh oX o2' o3 hA.2.2.1 (by omega) hsl, ⟨Rp_mono hC.1 (fun q hq => hle q (hq.resolve_right id)), q1, kS_zr⟩, ⟨⟨u3, rfl⟩, rfl, hRD⟩, Rm_mono hM (fun q hq => hle q (hq.resolve_right id)), fun _ h => (by cases h), hop, rfl⟩⟩
theorem st_abandon (h : GI N A) : (∃ a, SV (GI N) m_X3_abandon m_X4_abandon [.ref 0] [.ref 21] A (.inl (some (.int a))) (.int a) 0) ∨ SV (GI N) m_X3_abandon m_X4_abandon [.ref 0] [.ref 21] A (.inr xIS) (.int 0) 1 := by
  obtain ⟨K, W, T, c, b, so, rd, s, sw, cu, ba, r0, r1, r2, r3, bt, cnt, inn, lk, wd, kp, wr, mk, ls, pth, tk, th, dp, many, minn, item, val, mwr, met, rst, opd, ope, way, mtk, hA, hC, hS, hM, hmw, hop, rfl⟩ := h
  obtain ⟨⟨oc, hcu⟩, hba, hRD⟩ := id hS
  cases b with
  | none =>
    obtain ⟨be, br, bk, bo⟩ := ba
    have hbo : bo = 0 := hba
    subst hbo
    exact Or.inr (fun o => ⟨(gA (nI s) cu (be, br, bk, 0) r0 r1 r2 r3 sw bt cnt inn lk wd kp wr mk ls pth tk (nI c.1) (nI c.2.1) (bbC none) (nI s) th dp many minn item val mwr met rst sw opd ope way mtk), wf_gA, evC (s_abandonT (ba := r0)), fun o' => ⟨(gA (nI s) cu (be, br, bk, 0) r0 r1 r2 r3 sw bt cnt inn lk wd kp wr mk ls pth tk (nI c.1) (nI c.2.1) (bbC none) (nI s) 1 dp many minn item val mwr met rst sw opd ope way mtk), wf_gA, evM (s_mAbandonT (bb := 0)), evM s_thrown, ⟨K, W, T, c, none, so, rd, s, sw, cu, (be, br, bk, 0), r0, r1, r2, r3, bt, cnt, inn, lk, wd, kp, wr, mk, ls, pth, tk, 1, dp, many, minn, item, val, mwr, met, rst, opd, ope, way, mtk, hA, hC, hS, hM, hmw, hop, rfl⟩⟩⟩)
  | some x =>
    have hb2 : ba = (nI x.1, nI x.2.1, nI x.2.2, 1) := hba
    subst hb2
    subst hcu
    obtain ⟨n1, h1⟩ := cntR_ex (fun q => K q ∨ W q) 800
    obtain ⟨n2, h2⟩ := cntR_ex (RS T (rts c so rd)) 800
    have h2' : cntR (mUse T c none so rd) 720 n2 := cntR_cg (fun q _ => ⟨Or.inl, fun h => h.resolve_right (RS_nil q)⟩) (cntR_dn (m := 80) (fun q h7 hu => by have := hA.2.2.1 q (Or.inl ((hA.1 q).mpr hu)); omega) h2)
    refine Or.inl ⟨nI n1 - nI n2, fun o => ?_⟩
    obtain ⟨u1, u2, q1, e1⟩ := s_abandon (sl := (nI s)) (cu := r0) (ba := r0) (r0 := r0) (r1 := r1) (r2 := r2) (r3 := r3) (sw := sw) (bt := bt) (cnt := cnt) (inn := inn) (lk := lk) (wd := wd) (kp := kp) (wr := wr) (mk := mk) (ls := ls) (pth := pth) (tk := tk) (tl := (mCl (nI c.1) (nI c.2.1) (nI x.2.1) (nI s) th dp many minn item val mwr met rst sw opd ope way mtk [o])) hC (o := oc) (be := nI x.1) (br := nI x.2.1) (bk := nI x.2.2) hRD hA.2.2.2.2.2.1 (ai_ok hA (fun q h => Or.inl h)) h1 h2
    refine ⟨(gA (nI s) (nI c.1, nI c.2.1, nI c.2.2, oc) (nI x.1, nI x.2.1, nI x.2.2, 0) r0 r1 r2 r3 sw bt cnt inn lk wd u1 (zr wr 800) mk u2 pth tk (nI c.1) (nI c.2.1) (nI x.2.1) (nI s) th dp many minn item val mwr met rst sw opd ope way mtk), wf_gA, evC e1, fun o' => ?_⟩
    obtain ⟨v1, v2, e2⟩ := s_mAbandon (cc := (cT (nI s) (nI c.1, nI c.2.1, nI c.2.2, oc) (nI x.1, nI x.2.1, nI x.2.2, 0) r0 r1 r2 r3 sw bt cnt inn lk wd u1 (zr wr 800) mk u2 pth tk)) (ep := (nI c.1)) (ro := (nI c.2.1)) (bb := (nI x.2.1)) (sl := (nI s)) (th := th) (dp := dp) (many := many) (inn := minn) (item := item) (val := val) (wr := mwr) (met := met) (rst := rst) (wds := sw) (opd := opd) (ope := ope) (way := way) (tk := mtk) (tl := [o']) (ai_mm hA hM hop) (ai_cnt hA h1) h2'
    exact ⟨(gA (nI s) (nI c.1, nI c.2.1, nI c.2.2, oc) (nI x.1, nI x.2.1, nI x.2.2, 0) r0 r1 r2 r3 sw bt cnt inn lk wd u1 (zr wr 800) mk u2 pth tk (nI c.1) (nI c.2.1) (bbC none) (nI s) 0 dp many minn item val mwr v1 v2 sw opd ope way mtk), wf_gA, evM e2, evM s_thrown, ⟨K, (fun _ => False), T, c, none, so, rd, s, sw, (nI c.1, nI c.2.1, nI c.2.2, oc), (nI x.1, nI x.2.1, nI x.2.2, 0), r0, r1, r2, r3, bt, cnt, inn, lk, wd, u1, (zr wr 800), mk, u2, pth, tk, 0, dp, many, minn, item, val, mwr, v1, v2, opd, ope, way, mtk, ai_nob hA, ⟨Rp_mono hC.1 (fun q hq => Or.inl (hq.resolve_right id)), fun q hq => (q1 q hq).trans (hA.1 q).symm, kS_zr⟩, ⟨⟨oc, rfl⟩, rfl, hRD⟩, Rm_mono hM (fun q hq => Or.inl (hq.resolve_right id)), fun _ h => (by cases h), hop, rfl⟩⟩
/-- one state more, the current one -/
theorem ai_open {K W : Nat → Prop} {T : Nat → Nd} {c : RS3} {b : Option RS3} {so rd : Nat → Option RS3} {s : Nat} {sw : Nat → Int64} (h : AI N K W T c b so rd s sw) {j : Nat} (hn : rd j = none) : AI N K W T c b so (setR rd j (some c)) s sw := by
  obtain ⟨h1, ⟨o1, o2, o3⟩, h7, hb, hs, hsl⟩ := h
  refine ⟨fun q => (h1 q).trans ⟨?_, ?_⟩, ⟨o1, o2, fun i x hi hx => ?_⟩, h7, hb, hs, hsl⟩
  · rintro ⟨r, hr, hR⟩
    rcases mem_rts.mp hr with h | h | ⟨i, x, hi, hx, rfl⟩
    · exact ⟨r, mem_rts.mpr (Or.inl h), hR⟩
    · exact ⟨r, mem_rts.mpr (Or.inr (Or.inl h)), hR⟩
    · refine ⟨x.2.1, mem_rts.mpr (Or.inr (Or.inr ⟨i, x, hi, ?_, rfl⟩)), hR⟩
      unfold setR
      rw [if_neg (fun h => by rw [h, hn] at hx; cases hx)]
      exact hx
  · rintro ⟨r, hr, hR⟩
    rcases mem_rts.mp hr with h | h | ⟨i, x, hi, hx, rfl⟩
    · exact ⟨r, mem_rts.mpr (Or.inl h), hR⟩
    · exact ⟨r, mem_rts.mpr (Or.inr (Or.inl h)), hR⟩
    · unfold setR at hx
      by_cases hij : i = j
      · rw [if_pos hij] at hx
        cases hx
        exact ⟨c.2.1, mem_rts.mpr (Or.inl rfl), hR⟩
      · rw [if_neg hij] at hx
        exact ⟨x.2.1, mem_rts.mpr (Or.inr (Or.inr ⟨i, x, hi, hx, rfl⟩)), hR⟩
  · unfold setR at hx
    by_cases hij : i = j
    · rw [if_pos hij] at hx
      cases hx
      exact o1
    · rw [if_neg hij] at hx
      exact o3 i x hi hx
theorem st_open_0 {K W : Nat → Prop} {T : Nat → Nd} {c : RS3} {b : Option RS3} {so rd : Nat → Option RS3} {s : Nat} {sw : Nat → Int64} {oc : Int32} {ba r0 r1 r2 r3 : Q4} {bt th dp : Int32} {cnt inn lk wd kp wr mk ls pth tk many minn item val mwr met rst opd ope way mtk : Nat → Int32} (hA : AI N K W T c b so rd s sw) (hC : CR K W T cnt inn lk wd kp wr) (hba : rdC ba b) (hRD : RD r0 r1 r2 r3 rd) (hM : Rm many minn item val T (fun q => K q ∨ W q)) (hmw : ∀ x, b = some x → ∀ q, (K q ∨ W q) → (mwr q ≠ 0 ↔ W q)) (hop : opC opd ope rd) (h0 : rd 0 = none) (hlt : ∀ i, i < 0 → ∃ x, rd i = some x) : SV (GI N) m_X3_openReader m_X4_openReader [.ref 0] [.ref 21] (gA (nI s) (nI c.1, nI c.2.1, nI c.2.2, oc) ba r0 r1 r2 r3 sw bt cnt inn lk wd kp wr mk ls pth tk (nI c.1) (nI c.2.1) (bbC b) (nI s) th dp many minn item val mwr met rst sw opd ope way mtk) (.inl (some (.int (nI 0)))) (.int (nI 0)) 0 := by
  intro o
  obtain ⟨q1, e1⟩ := s_open_0 (sl := (nI s)) (cu := r0) (ba := ba) (r0 := r0) (r1 := r1) (r2 := r2) (r3 := r3) (sw := sw) (bt := bt) (cnt := cnt) (inn := inn) (lk := lk) (wd := wd) (kp := kp) (wr := wr) (mk := mk) (ls := ls) (pth := pth) (tk := tk) (tl := (mCl (nI c.1) (nI c.2.1) (bbC b) (nI s) th dp many minn item val mwr met rst sw opd ope way mtk [o])) (c := c) (oc := oc) hRD h0 hlt
  refine ⟨(gA (nI s) (nI c.1, nI c.2.1, nI c.2.2, oc) ba (nI c.1, nI c.2.1, nI c.2.2, 1) r1 r2 r3 sw bt cnt inn lk wd kp wr mk ls pth tk (nI c.1) (nI c.2.1) (bbC b) (nI s) th dp many minn item val mwr met rst sw opd ope way mtk), wf_gA, evC e1, fun o' => ?_⟩
  obtain ⟨q2, e2⟩ := s_mOpen (cc := (cT (nI s) (nI c.1, nI c.2.1, nI c.2.2, oc) ba (nI c.1, nI c.2.1, nI c.2.2, 1) r1 r2 r3 sw bt cnt inn lk wd kp wr mk ls pth tk)) (ep := (nI c.1)) (ro := (nI c.2.1)) (bb := (bbC b)) (sl := (nI s)) (th := th) (dp := dp) (many := many) (inn := minn) (item := item) (val := val) (wr := mwr) (met := met) (rst := rst) (wds := sw) (opd := opd) (ope := ope) (way := way) (tk := mtk) (tl := [o']) hop (ai_bd hA).2.2 (c := c) rfl rfl (n := 0) (by decide) hlt h0
  exact ⟨(gA (nI s) (nI c.1, nI c.2.1, nI c.2.2, oc) ba (nI c.1, nI c.2.1, nI c.2.2, 1) r1 r2 r3 sw bt cnt inn lk wd kp wr mk ls pth tk (nI c.1) (nI c.2.1) (bbC b) (nI s) 0 dp many minn item val mwr met rst sw (upd opd 0 (nI c.2.1)) (upd ope 0 (nI c.1)) way mtk), wf_gA, evM e2, evM s_thrown, ⟨K, W, T, c, b, so, (setR rd 0 (some c)), s, sw, (nI c.1, nI c.2.1, nI c.2.2, oc), ba, (nI c.1, nI c.2.1, nI c.2.2, 1), r1, r2, r3, bt, cnt, inn, lk, wd, kp, wr, mk, ls, pth, tk, 0, dp, many, minn, item, val, mwr, met, rst, (upd opd 0 (nI c.2.1)), (upd ope 0 (nI c.1)), way, mtk, ai_open hA h0, hC, ⟨⟨oc, rfl⟩, hba, q1⟩, hM, hmw, q2, rfl⟩⟩
theorem st_open_1 {K W : Nat → Prop} {T : Nat → Nd} {c : RS3} {b : Option RS3} {so rd : Nat → Option RS3} {s : Nat} {sw : Nat → Int64} {oc : Int32} {ba r0 r1 r2 r3 : Q4} {bt th dp : Int32} {cnt inn lk wd kp wr mk ls pth tk many minn item val mwr met rst opd ope way mtk : Nat → Int32} (hA : AI N K W T c b so rd s sw) (hC : CR K W T cnt inn lk wd kp wr) (hba : rdC ba b) (hRD : RD r0 r1 r2 r3 rd) (hM : Rm many minn item val T (fun q => K q ∨ W q)) (hmw : ∀ x, b = some x → ∀ q, (K q ∨ W q) → (mwr q ≠ 0 ↔ W q)) (hop : opC opd ope rd) (h0 : rd 1 = none) (hlt : ∀ i, i < 1 → ∃ x, rd i = some x) : SV (GI N) m_X3_openReader m_X4_openReader [.ref 0] [.ref 21] (gA (nI s) (nI c.1, nI c.2.1, nI c.2.2, oc) ba r0 r1 r2 r3 sw bt cnt inn lk wd kp wr mk ls pth tk (nI c.1) (nI c.2.1) (bbC b) (nI s) th dp many minn item val mwr met rst sw opd ope way mtk) (.inl (some (.int (nI 1)))) (.int (nI 1)) 0 := by
  intro o
  obtain ⟨q1, e1⟩ := s_open_1 (sl := (nI s)) (cu := r0) (ba := ba) (r0 := r0) (r1 := r1) (r2 := r2) (r3 := r3) (sw := sw) (bt := bt) (cnt := cnt) (inn := inn) (lk := lk) (wd := wd) (kp := kp) (wr := wr) (mk := mk) (ls := ls) (pth := pth) (tk := tk) (tl := (mCl (nI c.1) (nI c.2.1) (bbC b) (nI s) th dp many minn item val mwr met rst sw opd ope way mtk [o])) (c := c) (oc := oc) hRD h0 hlt
  refine ⟨(gA (nI s) (nI c.1, nI c.2.1, nI c.2.2, oc) ba r0 (nI c.1, nI c.2.1, nI c.2.2, 1) r2 r3 sw bt cnt inn lk wd kp wr mk ls pth tk (nI c.1) (nI c.2.1) (bbC b) (nI s) th dp many minn item val mwr met rst sw opd ope way mtk), wf_gA, evC e1, fun o' => ?_⟩
  obtain ⟨q2, e2⟩ := s_mOpen (cc := (cT (nI s) (nI c.1, nI c.2.1, nI c.2.2, oc) ba r0 (nI c.1, nI c.2.1, nI c.2.2, 1) r2 r3 sw bt cnt inn lk wd kp wr mk ls pth tk)) (ep := (nI c.1)) (ro := (nI c.2.1)) (bb := (bbC b)) (sl := (nI s)) (th := th) (dp := dp) (many := many) (inn := minn) (item := item) (val := val) (wr := mwr) (met := met) (rst := rst) (wds := sw) (opd := opd) (ope := ope) (way := way) (tk := mtk) (tl := [o']) hop (ai_bd hA).2.2 (c := c) rfl rfl (n := 1) (by decide) hlt h0
  exact ⟨(gA (nI s) (nI c.1, nI c.2.1, nI c.2.2, oc) ba r0 (nI c.1, nI c.2.1, nI c.2.2, 1) r2 r3 sw bt cnt inn lk wd kp wr mk ls pth tk (nI c.1) (nI c.2.1) (bbC b) (nI s) 0 dp many minn item val mwr met rst sw (upd opd 1 (nI c.2.1)) (upd ope 1 (nI c.1)) way mtk), wf_gA, evM e2, evM s_thrown, ⟨K, W, T, c, b, so, (setR rd 1 (some c)), s, sw, (nI c.1, nI c.2.1, nI c.2.2, oc), ba, r0, (nI c.1, nI c.2.1, nI c.2.2, 1), r2, r3, bt, cnt, inn, lk, wd, kp, wr, mk, ls, pth, tk, 0, dp, many, minn, item, val, mwr, met, rst, (upd opd 1 (nI c.2.1)), (upd ope 1 (nI c.1)), way, mtk, ai_open hA h0, hC, ⟨⟨oc, rfl⟩, hba, q1⟩, hM, hmw, q2, rfl⟩⟩
theorem st_open_2 {K W : Nat → Prop} {T : Nat → Nd} {c : RS3} {b : Option RS3} {so rd : Nat → Option RS3} {s : Nat} {sw : Nat → Int64} {oc : Int32} {ba r0 r1 r2 r3 : Q4} {bt th dp : Int32} {cnt inn lk wd kp wr mk ls pth tk many minn item val mwr met rst opd ope way mtk : Nat → Int32} (hA : AI N K W T c b so rd s sw) (hC : CR K W T cnt inn lk wd kp wr) (hba : rdC ba b) (hRD : RD r0 r1 r2 r3 rd) (hM : Rm many minn item val T (fun q => K q ∨ W q)) (hmw : ∀ x, b = some x → ∀ q, (K q ∨ W q) → (mwr q ≠ 0 ↔ W q)) (hop : opC opd ope rd) (h0 : rd 2 = none) (hlt : ∀ i, i < 2 → ∃ x, rd i = some x) : SV (GI N) m_X3_openReader m_X4_openReader [.ref 0] [.ref 21] (gA (nI s) (nI c.1, nI c.2.1, nI c.2.2, oc) ba r0 r1 r2 r3 sw bt cnt inn lk wd kp wr mk ls pth tk (nI c.1) (nI c.2.1) (bbC b) (nI s) th dp many minn item val mwr met rst sw opd ope way mtk) (.inl (some (.int (nI 2)))) (.int (nI 2)) 0 := by
  intro o
  obtain ⟨q1, e1⟩ := s_open_2 (sl := (nI s)) (cu := r0) (ba := ba) (r0 := r0) (r1 := r1) (r2 := r2) (r3 := r3) (sw := sw) (bt := bt) (cnt := cnt) (inn := inn) (lk := lk) (wd := wd) (kp := kp) (wr := wr) (mk := mk) (ls := ls) (pth := pth) (tk := tk) (tl := (mCl (nI c.1) (nI c.2.1) (bbC b) (nI s) th dp many minn item val mwr met rst sw opd ope way mtk [o])) (c := c) (oc := oc) hRD h0 hlt
  refine ⟨(gA (nI s) (nI c.1, nI c.2.1, nI c.2.2, oc) ba r0 r1 (nI c.1, nI c.2.1, nI c.2.2, 1) r3 sw bt cnt inn lk wd kp wr mk ls pth tk (nI c.1) (nI c.2.1) (bbC b) (nI s) th dp many minn item val mwr met rst sw opd ope way mtk), wf_gA, evC e1, fun o' => ?_⟩
  obtain ⟨q2, e2⟩ := s_mOpen (cc := (cT (nI s) (nI c.1, nI c.2.1, nI c.2.2, oc) ba r0 r1 (nI c.1, nI c.2.1, nI c.2.2, 1) r3 sw bt cnt inn lk wd kp wr mk ls pth tk)) (ep := (nI c.1)) (ro := (nI c.2.1)) (bb := (bbC b)) (sl := (nI s)) (th := th) (dp := dp) (many := many) (inn := minn) (item := item) (val := val) (wr := mwr) (met := met) (rst := rst) (wds := sw) (opd := opd) (ope := ope) (way := way) (tk := mtk) (tl := [o']) hop (ai_bd hA).2.2 (c := c) rfl rfl (n := 2) (by decide) hlt h0
  exact ⟨(gA (nI s) (nI c.1, nI c.2.1, nI c.2.2, oc) ba r0 r1 (nI c.1, nI c.2.1, nI c.2.2, 1) r3 sw bt cnt inn lk wd kp wr mk ls pth tk (nI c.1) (nI c.2.1) (bbC b) (nI s) 0 dp many minn item val mwr met rst sw (upd opd 2 (nI c.2.1)) (upd ope 2 (nI c.1)) way mtk), wf_gA, evM e2, evM s_thrown, ⟨K, W, T, c, b, so, (setR rd 2 (some c)), s, sw, (nI c.1, nI c.2.1, nI c.2.2, oc), ba, r0, r1, (nI c.1, nI c.2.1, nI c.2.2, 1), r3, bt, cnt, inn, lk, wd, kp, wr, mk, ls, pth, tk, 0, dp, many, minn, item, val, mwr, met, rst, (upd opd 2 (nI c.2.1)), (upd ope 2 (nI c.1)), way, mtk, ai_open hA h0, hC, ⟨⟨oc, rfl⟩, hba, q1⟩, hM, hmw, q2, rfl⟩⟩
theorem st_open_3 {K W : Nat → Prop} {T : Nat → Nd} {c : RS3} {b : Option RS3} {so rd : Nat → Option RS3} {s : Nat} {sw : Nat → Int64} {oc : Int32} {ba r0 r1 r2 r3 : Q4} {bt th dp : Int32} {cnt inn lk wd kp wr mk ls pth tk many minn item val mwr met rst opd ope way mtk : Nat → Int32} (hA : AI N K W T c b so rd s sw) (hC : CR K W T cnt inn lk wd kp wr) (hba : rdC ba b) (hRD : RD r0 r1 r2 r3 rd) (hM : Rm many minn item val T (fun q => K q ∨ W q)) (hmw : ∀ x, b = some x → ∀ q, (K q ∨ W q) → (mwr q ≠ 0 ↔ W q)) (hop : opC opd ope rd) (h0 : rd 3 = none) (hlt : ∀ i, i < 3 → ∃ x, rd i = some x) : SV (GI N) m_X3_openReader m_X4_openReader [.ref 0] [.ref 21] (gA (nI s) (nI c.1, nI c.2.1, nI c.2.2, oc) ba r0 r1 r2 r3 sw bt cnt inn lk wd kp wr mk ls pth tk (nI c.1) (nI c.2.1) (bbC b) (nI s) th dp many minn item val mwr met rst sw opd ope way mtk) (.inl (some (.int (nI 3)))) (.int (nI 3)) 0 := by
  intro o
  obtain ⟨q1, e1⟩ := s_open_3 (sl := (nI s)) (cu := r0) (ba := ba) (r0 := r0) (r1 := r1) (r2 := r2) (r3 := r3) (sw := sw) (bt := bt) (cnt := cnt) (inn := inn) (lk := lk) (wd := wd) (kp := kp) (wr := wr) (mk := mk) (ls := ls) (pth := pth) (tk := tk) (tl := (mCl (nI c.1) (nI c.2.1) (bbC b) (nI s) th dp many minn item val mwr met rst sw opd ope way mtk [o])) (c := c) (oc := oc) hRD h0 hlt
  refine ⟨(gA (nI s) (nI c.1, nI c.2.1, nI c.2.2, oc) ba r0 r1 r2 (nI c.1, nI c.2.1, nI c.2.2, 1) sw bt cnt inn lk wd kp wr mk ls pth tk (nI c.1) (nI c.2.1) (bbC b) (nI s) th dp many minn item val mwr met rst sw opd ope way mtk), wf_gA, evC e1, fun o' => ?_⟩
  obtain ⟨q2, e2⟩ := s_mOpen (cc := (cT (nI s) (nI c.1, nI c.2.1, nI c.2.2, oc) ba r0 r1 r2 (nI c.1, nI c.2.1, nI c.2.2, 1) sw bt cnt inn lk wd kp wr mk ls pth tk)) (ep := (nI c.1)) (ro := (nI c.2.1)) (bb := (bbC b)) (sl := (nI s)) (th := th) (dp := dp) (many := many) (inn := minn) (item := item) (val := val) (wr := mwr) (met := met) (rst := rst) (wds := sw) (opd := opd) (ope := ope) (way := way) (tk := mtk) (tl := [o']) hop (ai_bd hA).2.2 (c := c) rfl rfl (n := 3) (by decide) hlt h0
  exact ⟨(gA (nI s) (nI c.1, nI c.2.1, nI c.2.2, oc) ba r0 r1 r2 (nI c.1, nI c.2.1, nI c.2.2, 1) sw bt cnt inn lk wd kp wr mk ls pth tk (nI c.1) (nI c.2.1) (bbC b) (nI s) 0 dp many minn item val mwr met rst sw (upd opd 3 (nI c.2.1)) (upd ope 3 (nI c.1)) way mtk), wf_gA, evM e2, evM s_thrown, ⟨K, W, T, c, b, so, (setR rd 3 (some c)), s, sw, (nI c.1, nI c.2.1, nI c.2.2, oc), ba, r0, r1, r2, (nI c.1, nI c.2.1, nI c.2.2, 1), bt, cnt, inn, lk, wd, kp, wr, mk, ls, pth, tk, 0, dp, many, minn, item, val, mwr, met, rst, (upd opd 3 (nI c.2.1)), (upd ope 3 (nI c.1)), way, mtk, ai_open hA h0, hC, ⟨⟨oc, rfl⟩, hba, q1⟩, hM, hmw, q2, rfl⟩⟩
theorem st_openReader (h : GI N A) : (∃ a, SV (GI N) m_X3_openReader m_X4_openReader [.ref 0] [.ref 21] A (.inl (some (.int a))) (.int a) 0) ∨ SV (GI N) m_X3_openReader m_X4_openReader [.ref 0] [.ref 21] A (.inr xIS) (.int 0) 1 := by
  obtain ⟨K, W, T, c, b, so, rd, s, sw, cu, ba, r0, r1, r2, r3, bt, cnt, inn, lk, wd, kp, wr, mk, ls, pth, tk, th, dp, many, minn, item, val, mwr, met, rst, opd, ope, way, mtk, hA, hC, hS, hM, hmw, hop, rfl⟩ := h
  obtain ⟨⟨oc, hcu⟩, hba, hRD⟩ := id hS
  subst hcu
  have ex : ∀ j, rd j ≠ none → ∃ x, rd j = some x := fun j hj => by
    cases h : rd j with
    | none => exact absurd h hj
    | some x => exact ⟨x, rfl⟩
  by_cases h0 : rd 0 = none
  · exact Or.inl ⟨nI 0, st_open_0 hA hC hba hRD hM hmw hop h0 (fun i hi => by omega)⟩
  · by_cases h1 : rd 1 = none
    · exact Or.inl ⟨nI 1, st_open_1 hA hC hba hRD hM hmw hop h1 (fun i hi => by
        have : i = 0 := by omega
        subst this
        exact ex 0 h0)⟩
    · by_cases h2 : rd 2 = none
      · exact Or.inl ⟨nI 2, st_open_2 hA hC hba hRD hM hmw hop h2 (fun i hi => by
          have : i = 0 ∨ i = 1 := by omega
          rcases this with rfl | rfl
          · exact ex 0 h0
          · exact ex 1 h1)⟩
      · by_cases h3 : rd 3 = none
        · exact Or.inl ⟨nI 3, st_open_3 hA hC hba hRD hM hmw hop h3 (fun i hi => by
            have : i = 0 ∨ i = 1 ∨ i = 2 := by omega
            rcases this with rfl | rfl | rfl
            · exact ex 0 h0
            · exact ex 1 h1
            · exact ex 2 h2)⟩
        · have hall : ∀ i, i < 4 → ∃ x, rd i = some x := fun i hi => by
            rcases lt4 hi with rfl | rfl | rfl | rfl
            · exact ex 0 h0
            · exact ex 1 h1
            · exact ex 2 h2
            · exact ex 3 h3
          exact Or.inr (fun o => ⟨(gA (nI s) (nI c.1, nI c.2.1, nI c.2.2, oc) ba r0 r1 r2 r3 sw bt cnt inn lk wd kp wr mk ls pth tk (nI c.1) (nI c.2.1) (bbC b) (nI s) th dp many minn item val mwr met rst sw opd ope way mtk), wf_gA, evC (s_openT hRD hall), fun o' => ⟨(gA (nI s) (nI c.1, nI c.2.1, nI c.2.2, oc) ba r0 r1 r2 r3 sw bt cnt inn lk wd kp wr mk ls pth tk (nI c.1) (nI c.2.1) (bbC b) (nI s) 1 dp many minn item val mwr met rst sw opd ope way mtk), wf_gA, evM (s_mOpenT hop (ai_bd hA).2.2 hall), evM s_thrown, ⟨K, W, T, c, b, so, rd, s, sw, (nI c.1, nI c.2.1, nI c.2.2, oc), ba, r0, r1, r2, r3, bt, cnt, inn, lk, wd, kp, wr, mk, ls, pth, tk, 1, dp, many, minn, item, val, mwr, met, rst, opd, ope, way, mtk, hA, hC, ⟨⟨oc, rfl⟩, hba, hRD⟩, hM, hmw, hop, rfl⟩⟩⟩)
theorem setR_no {rd : Nat → Option RS3} {j i : Nat} {x : RS3} (h : setR rd j none i = some x) : rd i = some x := by
  unfold setR at h
  by_cases hij : i = j
  · rw [if_pos hij] at h; cases h
  · rw [if_neg hij] at h; exact h
theorem st_close_0 {K W : Nat → Prop} {T : Nat → Nd} {c x : RS3} {b : Option RS3} {so rd : Nat → Option RS3} {s : Nat} {sw : Nat → Int64} {oc : Int32} {ba r0 r1 r2 r3 : Q4} {bt th dp : Int32} {cnt inn lk wd kp wr mk ls pth tk many minn item val mwr met rst opd ope way mtk : Nat → Int32} (hA : AI N K W T c b so rd s sw) (hC : CR K W T cnt inn lk wd kp wr) (hba : rdC ba b) (hRD : RD r0 r1 r2 r3 rd) (hM : Rm many minn item val T (fun q => K q ∨ W q)) (hmw : ∀ x, b = some x → ∀ q, (K q ∨ W q) → (mwr q ≠ 0 ↔ W q)) (hop : opC opd ope rd) (h0 : rd 0 = some x) : ∃ a, SV (GI N) m_X3_closeReader m_X4_closeReader [.ref 0, .int (nI 0)] [.ref 21, .int (nI 0)] (gA (nI s) (nI c.1, nI c.2.1, nI c.2.2, oc) ba r0 r1 r2 r3 sw bt cnt inn lk wd kp wr mk ls pth tk (nI c.1) (nI c.2.1) (bbC b) (nI s) th dp many minn item val mwr met rst sw opd ope way mtk) (.inl (some (.int a))) (.int a) 0 := by
  have hA' := ai_less (rd' := setR rd 0 none) (so' := so) (sw' := sw) hA (fun t x _ h => h) (fun i x _ h => setR_no h) hA.2.2.2.2.2
  have hle : ∀ q, RS T (rts c so (setR rd 0 none)) q → K q := rs_U hA.2.1.1 hA.2.1.2.1 (fun i x hi h => hA.2.1.2.2 i x hi (setR_no h))
  obtain ⟨n1, h1⟩ := cntR_ex (fun q => K q ∨ W q) 800
  obtain ⟨n2, h2⟩ := cntR_ex (fun q => RS T (rts c so (setR rd 0 none)) q ∨ W q) 800
  refine ⟨nI n1 - nI n2, fun o => ?_⟩
  obtain ⟨p0, p1, p2, p3, u1, u2, g1, g2, e1⟩ := s_close_0 (sl := (nI s)) (cu := r0) (ba := ba) (r0 := r0) (r1 := r1) (r2 := r2) (r3 := r3) (sw := sw) (bt := bt) (cnt := cnt) (inn := inn) (lk := lk) (wd := wd) (kp := kp) (wr := wr) (mk := mk) (ls := ls) (pth := pth) (tk := tk) (tl := (mCl (nI c.1) (nI c.2.1) (bbC b) (nI s) th dp many minn item val mwr met rst sw opd ope way mtk [o])) hC (c := c) (oc := oc) hRD h0 hA.2.2.2.2.2.1 (fun r hr => ai_ok hA (U := fun q => K q ∨ W q) (fun q h => Or.inl h) r (by rw [← rts_set (by decide)] at hr; exact rts_W hr)) h1 h2
  refine ⟨(gA (nI s) (nI c.1, nI c.2.1, nI c.2.2, oc) ba p0 p1 p2 p3 sw bt cnt inn lk wd u1 wr mk u2 pth tk (nI c.1) (nI c.2.1) (bbC b) (nI s) th dp many minn item val mwr met rst sw opd ope way mtk), wf_gA, evC e1, fun o' => ?_⟩
  obtain ⟨v1, v2, g3, e2⟩ := s_mClose (cc := (cT (nI s) (nI c.1, nI c.2.1, nI c.2.2, oc) ba p0 p1 p2 p3 sw bt cnt inn lk wd u1 wr mk u2 pth tk)) (ep := (nI c.1)) (ro := (nI c.2.1)) (bb := (bbC b)) (sl := (nI s)) (th := th) (dp := dp) (many := many) (inn := minn) (item := item) (val := val) (wr := mwr) (met := met) (rst := rst) (wds := sw) (opd := opd) (ope := ope) (way := way) (tk := mtk) (tl := [o']) (ai_mm hA hM hop) (j := 0) (by decide) h0 ((ai_bd hA).2.2 0 x (by decide) h0) (ai_cnt hA h1) (ai_cnt2 hA hle h2)
  exact ⟨(gA (nI s) (nI c.1, nI c.2.1, nI c.2.2, oc) ba p0 p1 p2 p3 sw bt cnt inn lk wd u1 wr mk u2 pth tk (nI c.1) (nI c.2.1) (bbC b) (nI s) 0 dp many minn item val mwr v1 v2 sw (upd opd 0 (-1)) ope way mtk), wf_gA, evM e2, evM s_thrown, ⟨(RS T (rts c so (setR rd 0 none))), W, T, c, b, so, (setR rd 0 none), s, sw, (nI c.1, nI c.2.1, nI c.2.2, oc), ba, p0, p1, p2, p3, bt, cnt, inn, lk, wd, u1, wr, mk, u2, pth, tk, 0, dp, many, minn, item, val, mwr, v1, v2, (upd opd 0 (-1)), ope, way, mtk, hA', ⟨Rp_mono hC.1 (fun q hq => hq.imp (hle q) id), g2, hC.2.2⟩, ⟨⟨oc, rfl⟩, hba, g1⟩, Rm_mono hM (fun q hq => hq.imp (hle q) id), fun y hy q hq => hmw y hy q (hq.imp (hle q) id), g3, rfl⟩⟩
theorem st_close_1 {K W : Nat → Prop} {T : Nat → Nd} {c x : RS3} {b : Option RS3} {so rd : Nat → Option RS3} {s : Nat} {sw : Nat → Int64} {oc : Int32} {ba r0 r1 r2 r3 : Q4} {bt th dp : Int32} {cnt inn lk wd kp wr mk ls pth tk many minn item val mwr met rst opd ope way mtk : Nat → Int32} (hA : AI N K W T c b so rd s sw) (hC : CR K W T cnt inn lk wd kp wr) (hba : rdC ba b) (hRD : RD r0 r1 r2 r3 rd) (hM : Rm many minn item val T (fun q => K q ∨ W q)) (hmw : ∀ x, b = some x → ∀ q, (K q ∨ W q) → (mwr q ≠ 0 ↔ W q)) (hop : opC opd ope rd) (h0 : rd 1 = some x) : ∃ a, SV (GI N) m_X3_closeReader m_X4_closeReader [.ref 0, .int (nI 1)] [.ref 21, .int (nI 1)] (gA (nI s) (nI c.1, nI c.2.1, nI c.2.2, oc) ba r0 r1 r2 r3 sw bt cnt inn lk wd kp wr mk ls pth tk (nI c.1) (nI c.2.1) (bbC b) (nI s) th dp many minn item val mwr met rst sw opd ope way mtk) (.inl (some (.int a))) (.int a) 0 := by
  have hA' := ai_less (rd' := setR rd 1 none) (so' := so) (sw' := sw) hA (fun t x _ h => h) (fun i x _ h => setR_no h) hA.2.2.2.2.2
  have hle : ∀ q, RS T (rts c so (setR rd 1 none)) q → K q := rs_U hA.2.1.1 hA.2.1.2.1 (fun i x hi h => hA.2.1.2.2 i x hi (setR_no h))
  obtain ⟨n1, h1⟩ := cntR_ex (fun q => K q ∨ W q) 800
  obtain ⟨n2, h2⟩ := cntR_ex (fun q => RS T (rts c so (setR rd 1 none)) q ∨ W q) 800
  refine ⟨nI n1 - nI n2, fun o => ?_⟩
  obtain ⟨p0, p1, p2, p3, u1, u2, g1, g2, e1⟩ := s_close_1 (sl := (nI s)) (cu := r0) (ba := ba) (r0 := r0) (r1 := r1) (r2 := r2) (r3 := r3) (sw := sw) (bt := bt) (cnt := cnt) (inn := inn) (lk := lk) (wd := wd) (kp := kp) (wr := wr) (mk := mk) (ls := ls) (pth := pth) (tk := tk) (tl := (mCl (nI c.1) (nI c.2.1) (bbC b) (nI s) th dp many minn item val mwr met rst sw opd ope way mtk [o])) hC (c := c) (oc := oc) hRD h0 hA.2.2.2.2.2.1 (fun r hr => ai_ok hA (U := fun q => K q ∨ W q) (fun q h => Or.inl h) r (by rw [← rts_set (by decide)] at hr; exact rts_W hr)) h1 h2
  refine ⟨(gA (nI s) (nI c.1, nI c.2.1, nI c.2.2, oc) ba p0 p1 p2 p3 sw bt cnt inn lk wd u1 wr mk u2 pth tk (nI c.1) (nI c.2.1) (bbC b) (nI s) th dp many minn item val mwr met rst sw opd ope way mtk), wf_gA, evC e1, fun o' => ?_⟩
  obtain ⟨v1, v2, g3, e2⟩ := s_mClose (cc := (cT (nI s) (nI c.1, nI c.2.1, nI c.2.2, oc) ba p0 p1 p2 p3 sw bt cnt inn lk wd u1 wr mk u2 pth tk)) (ep := (nI c.1)) (ro := (nI c.2.1)) (bb := (bbC b)) (sl := (nI s)) (th := th) (dp := dp) (many := many) (inn := minn) (item := item) (val := val) (wr := mwr) (met := met) (rst := rst) (wds := sw) (opd := opd) (ope := ope) (way := way) (tk := mtk) (tl := [o']) (ai_mm hA hM hop) (j := 1) (by decide) h0 ((ai_bd hA).2.2 1 x (by decide) h0) (ai_cnt hA h1) (ai_cnt2 hA hle h2)
  exact ⟨(gA (nI s) (nI c.1, nI c.2.1, nI c.2.2, oc) ba p0 p1 p2 p3 sw bt cnt inn lk wd u1 wr mk u2 pth tk (nI c.1) (nI c.2.1) (bbC b) (nI s) 0 dp many minn item val mwr v1 v2 sw (upd opd 1 (-1)) ope way mtk), wf_gA, evM e2, evM s_thrown, ⟨(RS T (rts c so (setR rd 1 none))), W, T, c, b, so, (setR rd 1 none), s, sw, (nI c.1, nI c.2.1, nI c.2.2, oc), ba, p0, p1, p2, p3, bt, cnt, inn, lk, wd, u1, wr, mk, u2, pth, tk, 0, dp, many, minn, item, val, mwr, v1, v2, (upd opd 1 (-1)), ope, way, mtk, hA', ⟨Rp_mono hC.1 (fun q hq => hq.imp (hle q) id), g2, hC.2.2⟩, ⟨⟨oc, rfl⟩, hba, g1⟩, Rm_mono hM (fun q hq => hq.imp (hle q) id), fun y hy q hq => hmw y hy q (hq.imp (hle q) id), g3, rfl⟩⟩
theorem st_close_2 {K W : Nat → Prop} {T : Nat → Nd} {c x : RS3} {b : Option RS3} {so rd : Nat → Option RS3} {s : Nat} {sw : Nat → Int64} {oc : Int32} {ba r0 r1 r2 r3 : Q4} {bt th dp : Int32} {cnt inn lk wd kp wr mk ls pth tk many minn item val mwr met rst opd ope way mtk : Nat → Int32} (hA : AI N K W T c b so rd s sw) (hC : CR K W T cnt inn lk wd kp wr) (hba : rdC ba b) (hRD : RD r0 r1 r2 r3 rd) (hM : Rm many minn item val T (fun q => K q ∨ W q)) (hmw : ∀ x, b = some x → ∀ q, (K q ∨ W q) → (mwr q ≠ 0 ↔ W q)) (hop : opC opd ope rd) (h0 : rd 2 = some x) : ∃ a, SV (GI N) m_X3_closeReader m_X4_closeReader [.ref 0, .int (nI 2)] [.ref 21, .int (nI 2)] (gA (nI s) (nI c.1, nI c.2.1, nI c.2.2, oc) ba r0 r1 r2 r3 sw bt cnt inn lk wd kp wr mk ls pth tk (nI c.1) (nI c.2.1) (bbC b) (nI s) th dp many minn item val mwr met rst sw opd ope way mtk) (.inl (some (.int a))) (.int a) 0 := by
  have hA' := ai_less (rd' := setR rd 2 none) (so' := so) (sw' := sw) hA (fun t x _ h => h) (fun i x _ h => setR_no h) hA.2.2.2.2.2
  have hle : ∀ q, RS T (rts c so (setR rd 2 none)) q → K q := rs_U hA.2.1.1 hA.2.1.2.1 (fun i x hi h => hA.2.1.2.2 i x hi (setR_no h))
  obtain ⟨n1, h1⟩ := cntR_ex (fun q => K q ∨ W q) 800
  obtain ⟨n2, h2⟩ := cntR_ex (fun q => RS T (rts c so (setR rd 2 none)) q ∨ W q) 800
  refine ⟨nI n1 - nI n2, fun o => ?_⟩
  obtain ⟨p0, p1, p2, p3, u1, u2, g1, g2, e1⟩ := s_close_2 (sl := (nI s)) (cu := r0) (ba := ba) (r0 := r0) (r1 := r1) (r2 := r2) (r3 := r3) (sw := sw) (bt := bt) (cnt := cnt) (inn := inn) (lk := lk) (wd := wd) (kp := kp) (wr := wr) (mk := mk) (ls := ls) (pth := pth) (tk := tk) (tl := (mCl (nI c.1) (nI c.2.1) (bbC b) (nI s) th dp many minn item val mwr met rst sw opd ope way mtk [o])) hC (c := c) (oc := oc) hRD h0 hA.2.2.2.2.2.1 (fun r hr => ai_ok hA (U := fun q => K q ∨ W q) (fun q h => Or.inl h) r (by rw [← rts_set (by decide)] at hr; exact rts_W hr)) h1 h2
  refine ⟨(gA (nI s) (nI c.1, nI c.2.1, nI c.2.2, oc) ba p0 p1 p2 p3 sw bt cnt inn lk wd u1 wr mk u2 pth tk (nI c.1) (nI c.2.1) (bbC b) (nI s) th dp many minn item val mwr met rst sw opd ope way mtk), wf_gA, evC e1, fun o' => ?_⟩
  obtain ⟨v1, v2, g3, e2⟩ := s_mClose (cc := (cT (nI s) (nI c.1, nI c.2.1, nI c.2.2, oc) ba p0 p1 p2 p3 sw bt cnt inn lk wd u1 wr mk u2 pth tk)) (ep := (nI c.1)) (ro := (nI c.2.1)) (bb := (bbC b)) (sl := (nI s)) (th := th) (dp := dp) (many := many) (inn := minn) (item := item) (val := val) (wr := mwr) (met := met) (rst := rst) (wds := sw) (opd := opd) (ope := ope) (way := way) (tk := mtk) (tl := [o']) (ai_mm hA hM hop) (j := 2) (by decide) h0 ((ai_bd hA).2.2 2 x (by decide) h0) (ai_cnt hA h1) (ai_cnt2 hA hle h2)
  exact ⟨(gA (nI s) (nI c.1, nI c.2.1, nI c.2.2, oc) ba p0 p1 p2 p3 sw bt cnt inn lk wd u1 wr mk u2 pth tk (nI c.1) (nI c.2.1) (bbC b) (nI s) 0 dp many minn item val mwr v1 v2 sw (upd opd 2 (-1)) ope way mtk), wf_gA, evM e2, evM s_thrown, ⟨(RS T (rts c so (setR rd 2 none))), W, T, c, b, so, (setR rd 2 none), s, sw, (nI c.1, nI c.2.1, nI c.2.2, oc), ba, p0, p1, p2, p3, bt, cnt, inn, lk, wd, u1, wr, mk, u2, pth, tk, 0, dp, many, minn, item, val, mwr, v1, v2, (upd opd 2 (-1)), ope, way, mtk, hA', ⟨Rp_mono hC.1 (fun q hq => hq.imp (hle q) id), g2, hC.2.2⟩, ⟨⟨oc, rfl⟩, hba, g1⟩, Rm_mono hM (fun q hq => hq.imp (hle q) id), fun y hy q hq => hmw y hy q (hq.imp (hle q) id), g3, rfl⟩⟩
theorem st_close_3 {K W : Nat → Prop} {T : Nat → Nd} {c x : RS3} {b : Option RS3} {so rd : Nat → Option RS3} {s : Nat} {sw : Nat → Int64} {oc : Int32} {ba r0 r1 r2 r3 : Q4} {bt th dp : Int32} {cnt inn lk wd kp wr mk ls pth tk many minn item val mwr met rst opd ope way mtk : Nat → Int32} (hA : AI N K W T c b so rd s sw) (hC : CR K W T cnt inn lk wd kp wr) (hba : rdC ba b) (hRD : RD r0 r1 r2 r3 rd) (hM : Rm many minn item val T (fun q => K q ∨ W q)) (hmw : ∀ x, b = some x → ∀ q, (K q ∨ W q) → (mwr q ≠ 0 ↔ W q)) (hop : opC opd ope rd) (h0 : rd 3 = some x) : ∃ a, SV (GI N) m_X3_closeReader m_X4_closeReader [.ref 0, .int (nI 3)] [.ref 21, .int (nI 3)] (gA (nI s) (nI c.1, nI c.2.1, nI c.2.2, oc) ba r0 r1 r2 r3 sw bt cnt inn lk wd kp wr mk ls pth tk (nI c.1) (nI c.2.1) (bbC b) (nI s) th dp many minn item val mwr met rst sw opd ope way mtk) (.inl (some (.int a))) (.int a) 0 := by
  have hA' := ai_less (rd' := setR rd 3 none) (so' := so) (sw' := sw) hA (fun t x _ h => h) (fun i x _ h => setR_no h) hA.2.2.2.2.2
  have hle : ∀ q, RS T (rts c so (setR rd 3 none)) q → K q := rs_U hA.2.1.1 hA.2.1.2.1 (fun i x hi h => hA.2.1.2.2 i x hi (setR_no h))
  obtain ⟨n1, h1⟩ := cntR_ex (fun q => K q ∨ W q) 800
  obtain ⟨n2, h2⟩ := cntR_ex (fun q => RS T (rts c so (setR rd 3 none)) q ∨ W q) 800
  refine ⟨nI n1 - nI n2, fun o => ?_⟩
  obtain ⟨p0, p1, p2, p3, u1, u2, g1, g2, e1⟩ := s_close_3 (sl := (nI s)) (cu := r0) (ba := ba) (r0 := r0) (r1 := r1) (r2 := r2) (r3 := r3) (sw := sw) (bt := bt) (cnt := cnt) (inn := inn) (lk := lk) (wd := wd) (kp := kp) (wr := wr) (mk := mk) (ls := ls) (pth := pth) (tk := tk) (tl := (mCl (nI c.1) (nI c.2.1) (bbC b) (nI s) th dp many minn item val mwr met rst sw opd ope way mtk [o])) hC (c := c) (oc := oc) hRD h0 hA.2.2.2.2.2.1 (fun r hr => ai_ok hA (U := fun q => K q ∨ W q) (fun q h => Or.inl h) r (by rw [← rts_set (by decide)] at hr; exact rts_W hr)) h1 h2
  refine ⟨(gA (nI s) (nI c.1, nI c.2.1, nI c.2.2, oc) ba p0 p1 p2 p3 sw bt cnt inn lk wd u1 wr mk u2 pth tk (nI c.1) (nI c.2.1) (bbC b) (nI s) th dp many minn item val mwr met rst sw opd ope way mtk), wf_gA, evC e1, fun o' => ?_⟩
  obtain ⟨v1, v2, g3, e2⟩ := s_mClose (cc := (cT (nI s) (nI c.1, nI c.2.1, nI c.2.2, oc) ba p0 p1 p2 p3 sw bt cnt inn lk wd u1 wr mk u2 pth tk)) (ep := (nI c.1)) (ro := (nI c.2.1)) (bb := (bbC b)) (sl := (nI s)) (th := th) (dp := dp) (many := many) (inn := minn) (item := item) (val := val) (wr := mwr) (met := met) (rst := rst) (wds := sw) (opd := opd) (ope := ope) (way := way) (tk := mtk) (tl := [o']) (ai_mm hA hM hop) (j := 3) (by decide) h0 ((ai_bd hA).2.2 3 x (by decide) h0) (ai_cnt hA h1) (ai_cnt2 hA hle h2)
  exact ⟨(gA (nI s) (nI c.1, nI c.2.1, nI c.2.2, oc) ba p0 p1 p2 p3 sw bt cnt inn lk wd u1 wr mk u2 pth tk (nI c.1) (nI c.2.1) (bbC b) (nI s) 0 dp many minn item val mwr v1 v2 sw (upd opd 3 (-1)) ope way mtk), wf_gA, evM e2, evM s_thrown, ⟨(RS T (rts c so (setR rd 3 none))), W, T, c, b, so, (setR rd 3 none), s, sw, (nI c.1, nI c.2.1, nI c.2.2, oc), ba, p0, p1, p2, p3, bt, cnt, inn, lk, wd, u1, wr, mk, u2, pth, tk, 0, dp, many, minn, item, val, mwr, v1, v2, (upd opd 3 (-1)), ope, way, mtk, hA', ⟨Rp_mono hC.1 (fun q hq => hq.imp (hle q) id), g2, hC.2.2⟩, ⟨⟨oc, rfl⟩, hba, g1⟩, Rm_mono hM (fun q hq => hq.imp (hle q) id), fun y hy q hq => hmw y hy q (hq.imp (hle q) id), g3, rfl⟩⟩
theorem st_closeReader (h : GI N A) (i : Int32) : (∃ a, SV (GI N) m_X3_closeReader m_X4_closeReader [.ref 0, .int i] [.ref 21, .int i] A (.inl (some (.int a))) (.int a) 0) ∨ SV (GI N) m_X3_closeReader m_X4_closeReader [.ref 0, .int i] [.ref 21, .int i] A (.inr xIB) (.int 0) 1 := by
  obtain ⟨K, W, T, c, b, so, rd, s, sw, cu, ba, r0, r1, r2, r3, bt, cnt, inn, lk, wd, kp, wr, mk, ls, pth, tk, th, dp, many, minn, item, val, mwr, met, rst, opd, ope, way, mtk, hA, hC, hS, hM, hmw, hop, rfl⟩ := h
  obtain ⟨⟨oc, hcu⟩, hba, hRD⟩ := id hS
  subst hcu
  rcases rd_cases rd i with ⟨j, x, hj, rfl, hx⟩ | hno
  · rcases lt4 hj with rfl | rfl | rfl | rfl
    · exact Or.inl (st_close_0 hA hC hba hRD hM hmw hop hx)
    · exact Or.inl (st_close_1 hA hC hba hRD hM hmw hop hx)
    · exact Or.inl (st_close_2 hA hC hba hRD hM hmw hop hx)
    · exact Or.inl (st_close_3 hA hC hba hRD hM hmw hop hx)
  · exact Or.inr (fun o => ⟨(gA (nI s) (nI c.1, nI c.2.1, nI c.2.2, oc) ba r0 r1 r2 r3 sw bt cnt inn lk wd kp wr mk ls pth tk (nI c.1) (nI c.2.1) (bbC b) (nI s) th dp many minn item val mwr met rst sw opd ope way mtk), wf_gA, evC (s_closeT hRD hno), fun o' => ⟨(gA (nI s) (nI c.1, nI c.2.1, nI c.2.2, oc) ba r0 r1 r2 r3 sw bt cnt inn lk wd kp wr mk ls pth tk (nI c.1) (nI c.2.1) (bbC b) (nI s) 1 dp many minn item val mwr met rst sw opd ope way mtk), wf_gA, evM (s_mCloseT hop hno), evM s_thrown, ⟨K, W, T, c, b, so, rd, s, sw, (nI c.1, nI c.2.1, nI c.2.2, oc), ba, r0, r1, r2, r3, bt, cnt, inn, lk, wd, kp, wr, mk, ls, pth, tk, 1, dp, many, minn, item, val, mwr, met, rst, opd, ope, way, mtk, hA, hC, ⟨⟨oc, rfl⟩, hba, hRD⟩, hM, hmw, hop, rfl⟩⟩⟩)
theorem st_tear (h : GI N A) (hN : N ≤ 600) (i : Int32) : (∃ a, SV (GI N) m_X3_tear m_X4_tear [.ref 0, .int i] [.ref 21, .int i] A (.inl (some (.int a))) (.int a) 0) ∨ SV (GI N) m_X3_tear m_X4_tear [.ref 0, .int i] [.ref 21, .int i] A (.inr xIB) (.int 0) 1 ∨ SV (GI N) m_X3_tear m_X4_tear [.ref 0, .int i] [.ref 21, .int i] A (.inr xIS) (.int 0) 2 := by
  obtain ⟨K, W, T, c, b, so, rd, s, sw, cu, ba, r0, r1, r2, r3, bt, cnt, inn, lk, wd, kp, wr, mk, ls, pth, tk, th, dp, many, minn, item, val, mwr, met, rst, opd, ope, way, mtk, hA, hC, hS, hM, hmw, hop, rfl⟩ := h
  obtain ⟨⟨oc, hcu⟩, hba, hRD⟩ := id hS
  rcases slot_rng i with hi | ⟨t, ht, rfl⟩
  · exact Or.inr (Or.inl (fun o => ⟨(gA (nI s) cu ba r0 r1 r2 r3 sw bt cnt inn lk wd kp wr mk ls pth tk (nI c.1) (nI c.2.1) (bbC b) (nI s) th dp many minn item val mwr met rst sw opd ope way mtk), wf_gA, evC (s_tearT1 hi), fun o' => ⟨(gA (nI s) cu ba r0 r1 r2 r3 sw bt cnt inn lk wd kp wr mk ls pth tk (nI c.1) (nI c.2.1) (bbC b) (nI s) 1 dp many minn item val mwr met rst sw opd ope way mtk), wf_gA, evM (s_mTearT1 hi), evM s_thrown, ⟨K, W, T, c, b, so, rd, s, sw, cu, ba, r0, r1, r2, r3, bt, cnt, inn, lk, wd, kp, wr, mk, ls, pth, tk, 1, dp, many, minn, item, val, mwr, met, rst, opd, ope, way, mtk, hA, hC, hS, hM, hmw, hop, rfl⟩⟩⟩))
  · by_cases hw : whl sw (1 - t)
    · subst hcu
      have hsl := sl_tear hA.2.2.2.2.2 hN ht hw
      have hA' := ai_less (rd' := rd) (so' := setR so t none) (sw' := vp_updL sw (4 * t + 3) (-1)) hA (fun u x _ h => setR_no h) (fun i x _ h => h) hsl
      have hle : ∀ q, RS T (rts c (setR so t none) rd) q → K q := rs_U hA.2.1.1 (fun u x hu h => hA.2.1.2.1 u x hu (setR_no h)) hA.2.1.2.2
      obtain ⟨n1, h1⟩ := cntR_ex (fun q => K q ∨ W q) 800
      obtain ⟨n2, h2⟩ := cntR_ex (fun q => RS T (rts c (setR so t none) rd) q ∨ W q) 800
      have hmm := ai_mm hA hM hop
      have hmm' : mmR (fun q => K q ∨ W q) T c b (setR so t none) rd (nI c.2.1) (bbC b) many minn item val (vp_updL sw (4 * t + 3) (-1)) opd ope := ⟨hmm.1, hmm.2.1, hmm.2.2.1, hsl.1, rfl, rfl, fun r hr => Or.inl (hle r ⟨r, hr, Rch_self⟩), hmm.2.2.2.2.2.2.2⟩
      refine Or.inl ⟨nI n1 - nI n2, fun o => ?_⟩
      obtain ⟨u1, u2, g2, e1⟩ := s_tear (sl := (nI s)) (cu := r0) (ba := ba) (r0 := r0) (r1 := r1) (r2 := r2) (r3 := r3) (sw := sw) (bt := bt) (cnt := cnt) (inn := inn) (lk := lk) (wd := wd) (kp := kp) (wr := wr) (mk := mk) (ls := ls) (pth := pth) (tk := tk) (tl := (mCl (nI c.1) (nI c.2.1) (bbC b) (nI s) th dp many minn item val mwr met rst sw opd ope way mtk [o])) hC (c := c) (oc := oc) ht hw hRD hsl.1 (rs_ok (ai_oU hA).1 (fun u x hu h => (ai_oU hA).2.1 u x hu (setR_no h)) (ai_oU hA).2.2) h1 h2
      refine ⟨(gA (nI s) (nI c.1, nI c.2.1, nI c.2.2, oc) ba r0 r1 r2 r3 (vp_updL sw (4 * t + 3) (-1)) bt cnt inn lk wd u1 wr mk u2 pth tk (nI c.1) (nI c.2.1) (bbC b) (nI s) th dp many minn item val mwr met rst sw opd ope way mtk), wf_gA, evC e1, fun o' => ?_⟩
      obtain ⟨v1, v2, e2⟩ := s_mTear (cc := (cT (nI s) (nI c.1, nI c.2.1, nI c.2.2, oc) ba r0 r1 r2 r3 (vp_updL sw (4 * t + 3) (-1)) bt cnt inn lk wd u1 wr mk u2 pth tk)) (ep := (nI c.1)) (ro := (nI c.2.1)) (bb := (bbC b)) (sl := (nI s)) (th := th) (dp := dp) (many := many) (inn := minn) (item := item) (val := val) (wr := mwr) (met := met) (rst := rst) (wds := sw) (opd := opd) (ope := ope) (way := way) (tk := mtk) (tl := [o']) hmm ht hw hmm' (ai_cnt hA h1) (ai_cnt2 hA hle h2)
      exact ⟨(gA (nI s) (nI c.1, nI c.2.1, nI c.2.2, oc) ba r0 r1 r2 r3 (vp_updL sw (4 * t + 3) (-1)) bt cnt inn lk wd u1 wr mk u2 pth tk (nI c.1) (nI c.2.1) (bbC b) (nI s) 0 dp many minn item val mwr v1 v2 (vp_updL sw (4 * t + 3) (-1)) opd ope way mtk), wf_gA, evM e2, evM s_thrown, ⟨(RS T (rts c (setR so t none) rd)), W, T, c, b, (setR so t none), rd, s, (vp_updL sw (4 * t + 3) (-1)), (nI c.1, nI c.2.1, nI c.2.2, oc), ba, r0, r1, r2, r3, bt, cnt, inn, lk, wd, u1, wr, mk, u2, pth, tk, 0, dp, many, minn, item, val, mwr, v1, v2, opd, ope, way, mtk, hA', ⟨Rp_mono hC.1 (fun q hq => hq.imp (hle q) id), g2, hC.2.2⟩, ⟨⟨oc, rfl⟩, hba, hRD⟩, Rm_mono hM (fun q hq => hq.imp (hle q) id), fun y hy q hq => hmw y hy q (hq.imp (hle q) id), hop, rfl⟩⟩
    · exact Or.inr (Or.inr (fun o => ⟨(gA (nI s) cu ba r0 r1 r2 r3 sw bt cnt inn lk wd kp wr mk ls pth tk (nI c.1) (nI c.2.1) (bbC b) (nI s) th dp many minn item val mwr met rst sw opd ope way mtk), wf_gA, evC (s_tearT2 ht hw), fun o' => ⟨(gA (nI s) cu ba r0 r1 r2 r3 sw bt cnt inn lk wd kp wr mk ls pth tk (nI c.1) (nI c.2.1) (bbC b) (nI s) 2 dp many minn item val mwr met rst sw opd ope way mtk), wf_gA, evM (s_mTearT2 ht hw), evM s_thrown, ⟨K, W, T, c, b, so, rd, s, sw, cu, ba, r0, r1, r2, r3, bt, cnt, inn, lk, wd, kp, wr, mk, ls, pth, tk, 2, dp, many, minn, item, val, mwr, met, rst, opd, ope, way, mtk, hA, hC, hS, hM, hmw, hop, rfl⟩⟩⟩))
theorem st_crash (h : GI N A) (hN : N ≤ 600) : ∃ a, SV (GI N) m_X3_crash m_X4_crash [.ref 0] [.ref 21] A (.inl (some (.int a))) (.int a) 0 := by
  obtain ⟨K, W, T, c, b, so, rd, s, sw, cu, ba, r0, r1, r2, r3, bt, cnt, inn, lk, wd, kp, wr, mk, ls, pth, tk, th, dp, many, minn, item, val, mwr, met, rst, opd, ope, way, mtk, hA, hC, hS, hM, hmw, hop, rfl⟩ := h
  obtain ⟨be, br, bk, bo⟩ := ba
  obtain ⟨o1, o2, o3⟩ := ai_oU hA
  have hJ := sl_J hA.2.2.2.2.2 hA.2.2.2.2.1 (ai_s7 hA)
  obtain ⟨s', hs', hl⟩ := lat_ex so
  obtain ⟨x, hx⟩ := lat_some hl hJ.2.1
  have hb : ∀ s x, s < 2 → so s = some x → x.1 < 2147483648 := fun t y ht hy => by have := hJ.2.2.2.1 t y ht hy; omega
  have oX := o2 s' x hs' hx
  have oN : ∀ j y, j < 4 → noR j = some y → oR T (fun q => K q ∨ W q) y := fun j y _ h => by cases h
  have hle := rs_U oX o2 oN
  refine ⟨nI x.1, fun o => ?_⟩
  obtain ⟨p0, p1, p2, p3, u1, u2, g1, g2, e1⟩ := s_crash (sl := (nI s)) (cu := cu) (ba := r0) (r0 := r0) (r1 := r1) (r2 := r2) (r3 := r3) (sw := sw) (bt := bt) (cnt := cnt) (inn := inn) (lk := lk) (wd := wd) (kp := kp) (wr := wr) (mk := mk) (ls := ls) (pth := pth) (tk := tk) (tl := (mCl (nI c.1) (nI c.2.1) (bbC b) (nI s) th dp many minn item val mwr met rst sw opd ope way mtk [o])) hC.1 (be := be) (br := br) (bk := bk) (bo := bo) hJ.1 hb hs' hl hx (rs_ok oX o2 oN)
  refine ⟨(gA (nI s') (nI x.1, nI x.2.1, nI x.2.2, cu.2.2.2) (be, br, bk, 0) p0 p1 p2 p3 sw bt cnt inn lk wd u1 (zr wr 800) mk u2 pth tk (nI c.1) (nI c.2.1) (bbC b) (nI s) th dp many minn item val mwr met rst sw opd ope way mtk), wf_gA, evC e1, fun o' => ?_⟩
  obtain ⟨v1, g3, e2⟩ := s_mCrash (cc := (cT (nI s') (nI x.1, nI x.2.1, nI x.2.2, cu.2.2.2) (be, br, bk, 0) p0 p1 p2 p3 sw bt cnt inn lk wd u1 (zr wr 800) mk u2 pth tk)) (ep := (nI c.1)) (ro := (nI c.2.1)) (bb := (bbC b)) (sl := (nI s)) (th := th) (dp := dp) (many := many) (inn := minn) (item := item) (val := val) (wr := mwr) (met := met) (rst := rst) (wds := sw) (opd := opd) (ope := ope) (way := way) (tk := mtk) (tl := [o']) hJ.1 hb hs' hl hx
  exact ⟨(gA (nI s') (nI x.1, nI x.2.1, nI x.2.2, cu.2.2.2) (be, br, bk, 0) p0 p1 p2 p3 sw bt cnt inn lk wd u1 (zr wr 800) mk u2 pth tk (nI x.1) (nI x.2.1) (bbC none) (nI s') 0 dp many minn item val mwr met rst sw v1 ope way mtk), wf_gA, evM e2, evM s_thrown, ⟨(RS T (rts x so noR)), (fun _ => False), T, x, none, so, noR, s', sw, (nI x.1, nI x.2.1, nI x.2.2, cu.2.2.2), (be, br, bk, 0), p0, p1, p2, p3, bt, cnt, inn, lk, wd, u1, (zr wr 800), mk, u2, pth, tk, 0, dp, many, minn, item, val, mwr, met, rst, v1, ope, way, mtk, ai_fresh oX o2 oN hA.2.2.1 hs' (sl_J' hJ hs' hl hx), ⟨Rp_mono hC.1 (fun q hq => hle q (hq.resolve_right id)), g2, kS_zr⟩, ⟨⟨cu.2.2.2, rfl⟩, rfl, g1⟩, Rm_mono hM (fun q hq => hle q (hq.resolve_right id)), fun _ h => (by cases h), g3, rfl⟩⟩
theorem five_rng (i : Int32) : (i < 0 ∨ (4 : Int32) < i) ∨ ∃ n, n ≤ 4 ∧ i = nI n := by
  by_cases h0 : i < 0
  · exact Or.inl (Or.inl h0)
  · by_cases h1 : (4 : Int32) < i
    · exact Or.inl (Or.inr h1)
    · obtain ⟨n, hn, rfl⟩ := nI_of h0
      exact Or.inr ⟨n, (nI_leI hn (b := 4) (by decide)).mp (Int32.not_lt.mp h1), rfl⟩
theorem st_cic (h : GI N A) (hN : N ≤ 600) (i : Int32) : (∃ a, SV (GI (N + 1)) m_X3_crashInCommit m_X4_crashInCommit [.ref 0, .int i] [.ref 21, .int i] A (.inl (some (.int a))) (.int a) 0) ∨ SV (GI (N + 1)) m_X3_crashInCommit m_X4_crashInCommit [.ref 0, .int i] [.ref 21, .int i] A (.inr xIA) (.int 0) 1 ∨ SV (GI (N + 1)) m_X3_crashInCommit m_X4_crashInCommit [.ref 0, .int i] [.ref 21, .int i] A (.inr xIS) (.int 0) 2 := by
  obtain ⟨K, W, T, c, b, so, rd, s, sw, cu, ba, r0, r1, r2, r3, bt, cnt, inn, lk, wd, kp, wr, mk, ls, pth, tk, th, dp, many, minn, item, val, mwr, met, rst, opd, ope, way, mtk, hA, hC, hS, hM, hmw, hop, rfl⟩ := h
  have hA1 := ai_mono (Nat.le_succ N) hA
  have hs2 := hA.2.2.2.2.1
  rcases five_rng i with hi | ⟨n, hn, rfl⟩
  · exact Or.inr (Or.inl (fun o => ⟨(gA (nI s) cu ba r0 r1 r2 r3 sw bt cnt inn lk wd kp wr mk ls pth tk (nI c.1) (nI c.2.1) (bbC b) (nI s) th dp many minn item val mwr met rst sw opd ope way mtk), wf_gA, evC (s_cicT1 hi), fun o' => ⟨(gA (nI s) cu ba r0 r1 r2 r3 sw bt cnt inn lk wd kp wr mk ls pth tk (nI c.1) (nI c.2.1) (bbC b) (nI s) 1 dp many minn item val mwr met rst sw opd ope way mtk), wf_gA, evM (s_mCicT1 hi), evM s_thrown, ⟨K, W, T, c, b, so, rd, s, sw, cu, ba, r0, r1, r2, r3, bt, cnt, inn, lk, wd, kp, wr, mk, ls, pth, tk, 1, dp, many, minn, item, val, mwr, met, rst, opd, ope, way, mtk, hA1, hC, hS, hM, hmw, hop, rfl⟩⟩⟩))
  · obtain ⟨hcu, hba, hRD⟩ := id hS
    cases b with
    | none =>
      obtain ⟨be, br, bk, bo⟩ := ba
      have hbo : bo = 0 := hba
      subst hbo
      exact Or.inr (Or.inr (fun o => ⟨(gA (nI s) cu (be, br, bk, 0) r0 r1 r2 r3 sw bt cnt inn lk wd kp wr mk ls pth tk (nI c.1) (nI c.2.1) (bbC none) (nI s) th dp many minn item val mwr met rst sw opd ope way mtk), wf_gA, evC (s_cicT2 (ba := r0) hn), fun o' => ⟨(gA (nI s) cu (be, br, bk, 0) r0 r1 r2 r3 sw bt cnt inn lk wd kp wr mk ls pth tk (nI c.1) (nI c.2.1) (bbC none) (nI s) 2 dp many minn item val mwr met rst sw opd ope way mtk), wf_gA, evM (s_mCicT2 (bb := 0) hn), evM s_thrown, ⟨K, W, T, c, none, so, rd, s, sw, cu, (be, br, bk, 0), r0, r1, r2, r3, bt, cnt, inn, lk, wd, kp, wr, mk, ls, pth, tk, 2, dp, many, minn, item, val, mwr, met, rst, opd, ope, way, mtk, hA1, hC, hS, hM, hmw, hop, rfl⟩⟩⟩))
    | some y =>
      have hb2 : ba = (nI y.1, nI y.2.1, nI y.2.2, 1) := hba
      subst hb2
      have hbx := hA.2.2.2.1.2 y rfl
      have oY := bG_oR hbx
      obtain ⟨y7, yk⟩ := oR_7 oY hA.2.2.1
      by_cases hbad : (0 < n ∧ n < 4) ∧ ¬ whl sw s
      · exact Or.inr (Or.inr (fun o => ⟨(gA (nI s) cu (nI y.1, nI y.2.1, nI y.2.2, 1) r0 r1 r2 r3 sw bt cnt inn lk wd kp wr mk ls pth tk (nI c.1) (nI c.2.1) (bbC (some y)) (nI s) th dp many minn item val mwr met rst sw opd ope way mtk), wf_gA, evC (s_cicT3 (sl := 0) (ba := r0) hs2 hbad.1 hbad.2), fun o' => ⟨(gA (nI s) cu (nI y.1, nI y.2.1, nI y.2.2, 1) r0 r1 r2 r3 sw bt cnt inn lk wd kp wr mk ls pth tk (nI c.1) (nI c.2.1) (bbC (some y)) (nI s) 2 dp many minn item val mwr met rst sw opd ope way mtk), wf_gA, evM (s_mCicT3 (bb := 0) (sl := 0) hs2 y7 hbad.1 hbad.2), evM s_thrown, ⟨K, W, T, c, (some y), so, rd, s, sw, cu, (nI y.1, nI y.2.1, nI y.2.2, 1), r0, r1, r2, r3, bt, cnt, inn, lk, wd, kp, wr, mk, ls, pth, tk, 2, dp, many, minn, item, val, mwr, met, rst, opd, ope, way, mtk, hA1, hC, hS, hM, hmw, hop, rfl⟩⟩⟩))
      · have hw : 0 < n ∧ n < 4 → whl sw s := fun h => Classical.not_not.mp (fun h2 => hbad ⟨h, h2⟩)
        obtain ⟨d, d1, d2, d3, d4⟩ := bG_keys hbx
        obtain ⟨o1, o2, o3⟩ := ai_oU hA
        have hsO : ∃ so', slJ (N + 1) (wrS sw (1 - s) y n) so' ∧ ∀ t z, t < 2 → so' t = some z → oR T (fun q => K q ∨ W q) z := by
          have : n = 0 ∨ (0 < n ∧ n < 4) ∨ n = 4 := by omega
          rcases this with rfl | hp | rfl
          · rw [wrS_0]
            exact ⟨so, sl_J hA1.2.2.2.2.2 hs2 (ai_s7 hA), o2⟩
          · exact ⟨setR so (1 - s) none, sl_part hA.2.2.2.2.2 hs2 hN hp (hw hp) hbx.2 y7 yk (ai_s7 hA), fun t z ht hz => o2 t z ht (setR_no hz)⟩
          · have o2' : ∀ t z, t < 2 → setR so (1 - s) (some y) t = some z → oR T (fun q => K q ∨ W q) z := fun t z ht hz => by
              unfold setR at hz
              by_cases h : t = 1 - s
              · rw [if_pos h] at hz
                cases hz
                exact oY
              · rw [if_neg h] at hz
                exact o2 t z ht hz
            exact ⟨setR so (1 - s) (some y), sl_J (sl_full hA.2.2.2.2.2 hs2 hN hbx.2 y7 yk) (by omega) (fun t z ht hz => oR_7 (o2' t z ht hz) hA.2.2.1), o2'⟩
        obtain ⟨so', hJ, o2'⟩ := hsO
        obtain ⟨s', hs', hl⟩ := lat_ex so'
        obtain ⟨x, hx⟩ := lat_some hl hJ.2.1
        have hb : ∀ s x, s < 2 → so' s = some x → x.1 < 2147483648 := fun t z ht hz => by have := hJ.2.2.2.1 t z ht hz; omega
        have oX := o2' s' x hs' hx
        have oN : ∀ j z, j < 4 → noR j = some z → oR T (fun q => K q ∨ W q) z := fun j z _ h => by cases h
        have hle := rs_U oX o2' oN
        refine Or.inl ⟨nI x.1, fun o => ?_⟩
        obtain ⟨p0, p1, p2, p3, u1, u2, g1, g2, e1⟩ := s_cic (sl := (nI s)) (cu := cu) (ba := r0) (r0 := r0) (r1 := r1) (r2 := r2) (r3 := r3) (sw := sw) (bt := bt) (cnt := cnt) (inn := inn) (lk := lk) (wd := wd) (kp := kp) (wr := wr) (mk := mk) (ls := ls) (pth := pth) (tk := tk) (tl := (mCl (nI c.1) (nI c.2.1) (nI y.2.1) (nI s) th dp many minn item val mwr met rst sw opd ope way mtk [o])) hC.1 (y := y) hs2 hn hw hJ.1 hb hs' hl hx (rs_ok oX o2' oN)
        refine ⟨(gA (nI s') (nI x.1, nI x.2.1, nI x.2.2, cu.2.2.2) (nI y.1, nI y.2.1, nI y.2.2, 0) p0 p1 p2 p3 (wrS sw (1 - s) y n) bt cnt inn lk wd u1 (zr wr 800) mk u2 pth tk (nI c.1) (nI c.2.1) (nI y.2.1) (nI s) th dp many minn item val mwr met rst sw opd ope way mtk), wf_gA, evC e1, fun o' => ?_⟩
        obtain ⟨v1, v2, g3, e2⟩ := s_mCic (cc := (cT (nI s') (nI x.1, nI x.2.1, nI x.2.2, cu.2.2.2) (nI y.1, nI y.2.1, nI y.2.2, 0) p0 p1 p2 p3 (wrS sw (1 - s) y n) bt cnt inn lk wd u1 (zr wr 800) mk u2 pth tk)) (ep := (nI c.1)) (ro := (nI c.2.1)) (bb := (nI y.2.1)) (sl := (nI s)) (th := th) (dp := dp) (many := many) (inn := minn) (item := item) (val := val) (wr := mwr) (met := met) (rst := rst) (wds := sw) (opd := opd) (ope := ope) (way := way) (tk := mtk) (tl := [o']) hM hs2 hn hw d1 y7 d2 d3 hbx.2 hJ.1 hb hs' hl hx
        exact ⟨(gA (nI s') (nI x.1, nI x.2.1, nI x.2.2, cu.2.2.2) (nI y.1, nI y.2.1, nI y.2.2, 0) p0 p1 p2 p3 (wrS sw (1 - s) y n) bt cnt inn lk wd u1 (zr wr 800) mk u2 pth tk (nI x.1) (nI x.2.1) (bbC none) (nI s') 0 dp many minn item val mwr met v2 (wrS sw (1 - s) y n) v1 ope way mtk), wf_gA, evM e2, evM s_thrown, ⟨(RS T (rts x so' noR)), (fun _ => False), T, x, none, so', noR, s', (wrS sw (1 - s) y n), (nI x.1, nI x.2.1, nI x.2.2, cu.2.2.2), (nI y.1, nI y.2.1, nI y.2.2, 0), p0, p1, p2, p3, bt, cnt, inn, lk, wd, u1, (zr wr 800), mk, u2, pth, tk, 0, dp, many, minn, item, val, mwr, met, v2, v1, ope, way, mtk, ai_fresh oX o2' oN hA.2.2.1 hs' (sl_J' hJ hs' hl hx), ⟨Rp_mono hC.1 (fun q hq => hle q (hq.resolve_right id)), g2, kS_zr⟩, ⟨⟨cu.2.2.2, rfl⟩, rfl, g1⟩, Rm_mono hM (fun q hq => hle q (hq.resolve_right id)), fun _ h => (by cases h), g3, rfl⟩⟩
end Q4
