/-! THE STORE'S CALLS that change it -/
theorem cntR_sub {S S' : Nat → Prop} : ∀ {n k j : Nat}, cntR S n k → cntR S' n j → (∀ q, S' q → S q) → j ≤ k
  | 0, k, j, h1, h2, _ => by
    have e1 : k = 0 := h1
    have e2 : j = 0 := h2
    omega
  | n + 1, k, j, h1, h2, hs => by
    rcases h1 with ⟨ha, i, h1, rfl⟩ | ⟨ha, h1⟩
    · rcases h2 with ⟨hb, i', h2, rfl⟩ | ⟨hb, h2⟩
      · have := cntR_sub h1 h2 hs
        omega
      · have := cntR_sub h1 h2 hs
        omega
    · rcases h2 with ⟨hb, -⟩ | ⟨hb, h2⟩
      · exact absurd (hs _ hb) ha
      · exact cntR_sub h1 h2 hs
def begS (σ : SS) : SS := (gK σ, gW σ, gT σ, gC σ, some ((gC σ).1 + 1, (gC σ).2.1, (gC σ).2.2), gO σ, gR σ, gS σ, gD σ)
def comS (σ : SS) (x : RS3) : SS := (RS (gT σ) (rts x (setR (gO σ) (1 - gS σ) (some x)) (gR σ)), fun _ => False, gT σ, x, none, setR (gO σ) (1 - gS σ) (some x), gR σ, 1 - gS σ, wrS (gD σ) (1 - gS σ) x 4)
def abaS (σ : SS) : SS := (gK σ, fun _ => False, gT σ, gC σ, none, gO σ, gR σ, gS σ, gD σ)
def opeS (σ : SS) (j : Nat) : SS := (gK σ, gW σ, gT σ, gC σ, gB σ, gO σ, setR (gR σ) j (some (gC σ)), gS σ, gD σ)
def cloS (σ : SS) (j : Nat) : SS := (RS (gT σ) (rts (gC σ) (gO σ) (setR (gR σ) j none)), gW σ, gT σ, gC σ, gB σ, gO σ, setR (gR σ) j none, gS σ, gD σ)
def teaS (σ : SS) (t : Nat) : SS := (RS (gT σ) (rts (gC σ) (setR (gO σ) t none) (gR σ)), gW σ, gT σ, gC σ, gB σ, setR (gO σ) t none, gR σ, gS σ, vp_updL (gD σ) (4 * t + 3) (-1))
def craS (σ : SS) (so : Nat → Option RS3) (sw : Nat → Int64) (s : Nat) (x : RS3) : SS := (RS (gT σ) (rts x so noR), fun _ => False, gT σ, x, none, so, noR, s, sw)
/-- the batch alone changes -/
def sameB (σ σ' : SS) (x' : RS3) : Prop := gC σ' = gC σ ∧ gB σ' = some x' ∧ gO σ' = gO σ ∧ gR σ' = gR σ ∧ gS σ' = gS σ ∧ gD σ' = gD σ ∧ gK σ' = gK σ ∧ ∀ q, gK σ q → gT σ' q = gT σ q
/-- no page from 720 on is taken -/
def w72 (W : Nat → Prop) : Prop := ∀ q, W q → q < 720
theorem w72_add {W : Nat → Prop} {n : Nat} (h : w72 W) (hn : n < 720) : w72 (addS W n) := fun q hq => hq.elim (fun e => by rw [e]; exact hn) (h q)
theorem w72_rm {W : Nat → Prop} {n : Nat} (h : w72 W) : w72 (rmS W n) := fun q hq => h q hq.2
theorem wn_720 {K : Nat → Prop} {T T' : Nat → Nd} {W W' : Nat → Prop} {r p p' : Nat} (h : wnR K T W r p p' T' W') (hw : w72 W) : w72 W' := by
  obtain ⟨-, h⟩ := h
  rcases h with ⟨-, -, -, rfl⟩ | ⟨-, hf, -, rfl⟩
  · exact hw
  · exact w72_add hw hf.1.1
theorem dn_720 {K : Nat → Prop} {r : Nat} {key : Int32} : ∀ {d : Nat} {T T' : Nat → Nd} {W W' : Nat → Prop} {p lf : Nat} {P : List (Nat × Nat)}, dnR K r key d T W p T' W' P lf → w72 W → w72 W'
  | 0, T, T', W, W', p, lf, P, h, hw => by
    obtain ⟨-, rfl, -⟩ := h
    exact hw
  | d + 1, T, T', W, W', p, lf, P, h, hw => by
    obtain ⟨-, l, c, c', T1, W1, P', -, -, -, -, -, h1, -, h2⟩ := h
    exact dn_720 h2 (wn_720 h1 hw)
theorem up_720 {K : Nat → Prop} {r : Nat} : ∀ {rp : List (Nat × Nat)} {cur : Nat} {T T' : Nat → Nd} {W W' : Nat → Prop} {r' : Nat}, upR K r rp cur T W T' W' r' → w72 W → w72 W'
  | [], cur, T, T', W, W', r', h, hw => by
    obtain ⟨-, ⟨-, -, rfl, -⟩ | ⟨-, -, -, -, n, m, h1, h2, -, rfl, -⟩⟩ := h
    · exact hw
    · exact w72_add (w72_add hw h1.1.1) h2.1.1
  | (q, e) :: rp, cur, T, T', W, W', r', h, hw => by
    obtain ⟨-, ⟨-, -, rfl, -⟩ | ⟨-, -, -, n, l, h1, -, -, -, -, -, h2⟩⟩ := h
    · exact hw
    · exact up_720 h2 (w72_add hw h1.1.1)
theorem md_720 {K : Nat → Prop} {r : Nat} {T T' : Nat → Nd} {W W' : Nat → Prop} {q e : Nat} (h : mdR K r T W q e T' W') (hw : w72 W) : w72 W' := by
  obtain ⟨l, cur, b, -, -, -, -, -, -, -, -, -, -, -, -, -, -, h⟩ := h
  rcases h with ⟨-, b', T1, h1, -⟩ | ⟨-, f, g, f', T1, W1, -, -, h1, -, -, -, -, rfl, -⟩
  · exact wn_720 h1 hw
  · exact w72_rm (wn_720 h1 hw)
theorem dl_720 {K : Nat → Prop} {r : Nat} : ∀ {rp : List (Nat × Nat)} {cur : Nat} {T T' : Nat → Nd} {W W' : Nat → Prop}, dlR K r rp cur T W T' W' → w72 W → w72 W'
  | [], cur, T, T', W, W', h, hw => by
    obtain ⟨-, rfl⟩ := h
    exact hw
  | (q, e) :: rp, cur, T, T', W, W', h, hw => by
    obtain ⟨-, ⟨-, -, T1, W1, h1, h2⟩ | ⟨-, h2⟩⟩ := h
    · exact dl_720 h2 (md_720 h1 hw)
    · exact dl_720 h2 hw
theorem sh_720 {K : Nat → Prop} {T : Nat → Nd} {W W' : Nat → Prop} {r r' : Nat} (h : shR K T W r W' r') (hw : w72 W) : w72 W' := by
  obtain ⟨-, ⟨c, -, rfl, -⟩ | ⟨-, rfl, -⟩⟩ := h
  · exact w72_rm hw
  · exact hw
theorem put_720 {K : Nat → Prop} {T T' : Nat → Nd} {W W' : Nat → Prop} {r r' k : Nat} {v : Int32} {nw : Bool} (h : putR K T W r k v T' W' r' nw) (hw : w72 W) : w72 W' := by
  obtain ⟨d, r1, T1, W1, T2, W2, P, lf, l, -, -, h1, h2, -, -, h3⟩ := h
  have h4 := dn_720 h2 (wn_720 h1 hw)
  rcases h3 with ⟨-, x, -, -, -, rfl, -⟩ | ⟨-, -, h3⟩
  · exact h4
  · exact up_720 h3 h4
theorem del_720 {K : Nat → Prop} {T T' : Nat → Nd} {W W' : Nat → Prop} {r r' k : Nat} {v : Int32} (h : delR K T W r k v T' W' r') (hw : w72 W) : w72 W' := by
  obtain ⟨d, r1, T1, W1, T2, W2, W3, P, lf, l, -, -, h1, h2, -, -, -, h3, h4⟩ := h
  exact sh_720 h4 (dl_720 h3 (dn_720 h2 (wn_720 h1 hw)))
section MUT
variable {N : Nat} {σ : SS} {tl : List mC} {w : mW}
theorem m_begin (h : CG N σ tl w) (hb : gB σ = none) : ∃ w', CG (N + 1) (begS σ) tl w' ∧ EvS m_L_begin [.ref 0] w (.inl (some (.int (nI ((gC σ).1 + 1))))) w' := by
  have h0 := cg_0 h
  obtain ⟨K, W, T, c, b, so, rd, s, sw⟩ := σ
  obtain ⟨cu, ba, r0, r1, r2, r3, bt, cnt, inn, lk, wd, kp, wr, mk, ls, pth, tk, hA, hC, hS, rfl⟩ := h
  have hb : b = none := hb
  subst hb
  have hA : AI N K W T c none so rd s sw := hA
  have hA1 := ai_mono (Nat.le_succ N) hA
  obtain ⟨⟨oc, hcu⟩, hba, hRD⟩ := hS
  obtain ⟨be, br, bk, bo⟩ := ba
  have hbo : bo = 0 := hba
  subst hbo
  have hcu : cu = (nI c.1, nI c.2.1, nI c.2.2, oc) := hcu
  subst hcu
  refine ⟨_, ⟨(nI c.1, nI c.2.1, nI c.2.2, oc), (nI (c.1 + 1), nI c.2.1, nI c.2.2, 1), r0, r1, r2, r3, bt, cnt, inn, lk, wd, kp, wr, mk, ls, pth, tk, ?_, hC, ⟨⟨oc, rfl⟩, rfl, hRD⟩, rfl⟩, w_begin h0 (s_beginBatch (cu := r0) (ba := r0))⟩
  obtain ⟨g1, g2, g3, g4, g5, g6⟩ := hA1
  refine ⟨g1, g2, g3, ⟨(fun h => by cases h), fun x hx => ?_⟩, g5, g6⟩
  cases hx
  obtain ⟨d, a1, a2, a3, a4, a5⟩ := g2.1
  have hno := g4.1 rfl
  exact ⟨⟨d, ⟨rt_fr a1 (fun q hq => ⟨Or.inl (sb_in (rt_sb a1).1 hq), rfl⟩), a2, fun q hq => absurd hq (hno q), fun q hq => Or.inr ⟨sb_in (rt_sb a1).1 hq, (in_Rch (sb_dpt (rt_sb a1).1) q).mp hq⟩, fun q _ => hno q⟩, a3, a4, a5⟩, rfl⟩
theorem m_beginT (h : CG N σ tl w) {x : RS3} (hb : gB σ = some x) : EvS m_L_begin [.ref 0] w (.inl (some (.int (-1000001)))) w := by
  have h0 := cg_0 h
  obtain ⟨cu, ba, r0, r1, r2, r3, bt, cnt, inn, lk, wd, kp, wr, mk, ls, pth, tk, hA, hC, hS, rfl⟩ := h
  have hbo := hS.2.1
  rw [hb] at hbo
  have hbo : ba = (nI x.1, nI x.2.1, nI x.2.2, 1) := hbo
  subst hbo
  exact w_begin_T1 h0 (s_beginBatchT (ba := cu))
theorem m_putT1 (h : CG N σ tl w) {k v : Int32} (hk : k < 0 ∨ (100 : Int32) ≤ k) : EvS m_L_put [.ref 0, .int k, .int v] w (.inl (some (.int (-1000001)))) w := by
  have h0 := cg_0 h
  obtain ⟨cu, ba, r0, r1, r2, r3, bt, cnt, inn, lk, wd, kp, wr, mk, ls, pth, tk, hA, hC, hS, rfl⟩ := h
  exact w_put_T1 h0 (s_putT1 hk)
theorem m_deleteT1 (h : CG N σ tl w) {k : Int32} (hk : k < 0 ∨ (100 : Int32) ≤ k) : EvS m_L_delete [.ref 0, .int k] w (.inl (some (.int (-1000001)))) w := by
  have h0 := cg_0 h
  obtain ⟨cu, ba, r0, r1, r2, r3, bt, cnt, inn, lk, wd, kp, wr, mk, ls, pth, tk, hA, hC, hS, rfl⟩ := h
  exact w_delete_T1 h0 (s_deleteT1 hk)
theorem m_put (h : CG N σ tl w) {x : RS3} (hb : gB σ = some x) {k : Nat} (hk : k < 100) (v : Int32) : ∃ (σ' : SS) (w' : mW) (x' : RS3) (nw : Bool), CG N σ' tl w' ∧ EvS m_L_put [.ref 0, .int (nI k), .int v] w (.inl (some (.int (if nw then 1 else 0)))) w' ∧ sameB σ σ' x' ∧ x'.1 = x.1 ∧ ∀ L, cN (gT σ) x.2.1 L → (nw = true ↔ ¬ ∃ y ∈ L, y.1 = k) ∧ ∃ L', cN (gT σ') x'.2.1 L' ∧ Srt L' ∧ ∀ y, y ∈ L' ↔ (y = (k, v) ∨ (y ∈ L ∧ y.1 ≠ k)) := by
  have h0 := cg_0 h
  obtain ⟨K, W, T, c, b, so, rd, s, sw⟩ := σ
  obtain ⟨cu, ba, r0, r1, r2, r3, bt, cnt, inn, lk, wd, kp, wr, mk, ls, pth, tk, hA, hC, hS, rfl⟩ := h
  have hb : b = some x := hb
  subst hb
  have hA : AI N K W T c (some x) so rd s sw := hA
  obtain ⟨hcu, hba, hRD⟩ := hS
  have hb2 : ba = (nI x.1, nI x.2.1, nI x.2.2, 1) := hba
  subst hb2
  obtain ⟨⟨d, g, a1, a2, a3⟩, hx1⟩ := hA.2.2.2.1.2 x rfl
  obtain ⟨T', W', r', nw, d', p1, p2, p3, p4, p5, p6, p7, p8⟩ := put_ex v hk g a1 a2 (ai_cov hA)
  obtain ⟨u1, u2, u3, u4, u5, u6, u7, u8, q1, e1⟩ := s_put (sl := (nI s)) (cu := cu) (ba := r0) (r0 := r0) (r1 := r1) (r2 := r2) (r3 := r3) (sw := sw) (bt := bt) (cnt := cnt) (inn := inn) (lk := lk) (wd := wd) (kp := kp) (wr := wr) (mk := mk) (ls := ls) (pth := pth) (tk := tk) (tl := tl) (be := nI x.1) (bk := nI x.2.2) (v := v) hC hk p1
  rw [nI_if] at e1
  have hU : ∀ q, K q ∨ W' q → q < 720 := fun q hq => hq.elim (fun h => hA.2.2.1 q (Or.inl h)) (fun h => put_720 p1 (fun q hq => hA.2.2.1 q (Or.inr hq)) q h)
  refine ⟨(K, W', T', c, some (x.1, r', x.2.2 + if nw then 1 else 0), so, rd, s, sw), _, (x.1, r', x.2.2 + if nw then 1 else 0), nw, ⟨cu, (nI x.1, nI r', nI (x.2.2 + if nw then 1 else 0), 1), r0, r1, r2, r3, u6, u1, u2, u3, u4, kp, u5, mk, ls, u7, u8, ai_batch hA p6 hU p2 p3 p4 (by rw [p5, a3]), q1, ⟨hcu, rfl, hRD⟩, rfl⟩, w_put h0 (by cases nw <;> simp) e1, ⟨rfl, rfl, rfl, rfl, rfl, rfl, rfl, p6⟩, rfl, fun L hL => ?_⟩
  have eL := cN_at g.1 hL
  rw [eL] at p7 p8
  exact ⟨p7, kyl T' d' r', cN_of p2.1, p3, p8⟩
theorem m_delete (h : CG N σ tl w) {x : RS3} (hb : gB σ = some x) {k : Nat} (hk : k < 100) {L : List (Nat × Int32)} (hL : cN (gT σ) x.2.1 L) {v : Int32} (hkv : (k, v) ∈ L) : ∃ (σ' : SS) (w' : mW) (x' : RS3), CG N σ' tl w' ∧ EvS m_L_delete [.ref 0, .int (nI k)] w (.inl (some (.int v))) w' ∧ sameB σ σ' x' ∧ x'.1 = x.1 ∧ ∃ L', cN (gT σ') x'.2.1 L' ∧ Srt L' ∧ ∀ y, y ∈ L' ↔ (y ∈ L ∧ y.1 ≠ k) := by
  have h0 := cg_0 h
  obtain ⟨K, W, T, c, b, so, rd, s, sw⟩ := σ
  obtain ⟨cu, ba, r0, r1, r2, r3, bt, cnt, inn, lk, wd, kp, wr, mk, ls, pth, tk, hA, hC, hS, rfl⟩ := h
  have hb : b = some x := hb
  subst hb
  have hA : AI N K W T c (some x) so rd s sw := hA
  obtain ⟨hcu, hba, hRD⟩ := hS
  have hb2 : ba = (nI x.1, nI x.2.1, nI x.2.2, 1) := hba
  subst hb2
  obtain ⟨⟨d, g, a1, a2, a3⟩, hx1⟩ := hA.2.2.2.1.2 x rfl
  have hd5 := rt_d5 g.1 (Srt_100 a1 a2)
  obtain ⟨P, l, A0, B0, f1, f2, f3, f4, f5⟩ := fd_ex hk g.1 a1 a2
  have hu := (fdR_U f1).1
  have eL := cN_at g.1 hL
  have hh : hld l (plc l (nI k)) (nI k) := by
    rw [← eL, f3] at hkv
    have a1' := a1
    have a2' := a2
    rw [f3] at a1' a2'
    exact (hld_iff hk (srt_leaf a1') (k100_leaf a2')).mpr ((key_in f4 f5).mp ⟨_, hkv, rfl⟩)
  obtain ⟨v', hx, T', W', r', d', p1, p2, p3, p4, p5, p6, p7, p8⟩ := del_ex hk g a1 a2 (ai_cov hA) f2 hh
  have hvv : v' = v := by
    rw [← eL] at hkv
    exact Srt_fun a1 p7 hkv
  subst hvv
  have hx0 : 0 < x.2.2 := by omega
  obtain ⟨u1, u2, u3, u4, u5, u6, u7, u8, q1, e1⟩ := s_delete (sl := (nI s)) (cu := cu) (ba := r0) (r0 := r0) (r1 := r1) (r2 := r2) (r3 := r3) (sw := sw) (bt := bt) (cnt := cnt) (inn := inn) (lk := lk) (wd := wd) (kp := kp) (wr := wr) (mk := mk) (ls := ls) (pth := pth) (tk := tk) (tl := tl) (be := nI x.1) (bk := nI x.2.2) hk hC (by omega) g.1 f2 hu hx p1
  rw [nI_s1 hx0] at e1
  have hU : ∀ q, K q ∨ W' q → q < 720 := fun q hq => hq.elim (fun h => hA.2.2.1 q (Or.inl h)) (fun h => del_720 p1 (fun q hq => hA.2.2.1 q (Or.inr hq)) q h)
  rw [eL] at p8
  have hk9 : x.2.2 - 1 = (kyl T' d' r').length := by omega
  exact ⟨(K, W', T', c, some (x.1, r', x.2.2 - 1), so, rd, s, sw), _, (x.1, r', x.2.2 - 1), ⟨cu, (nI x.1, nI r', nI (x.2.2 - 1), 1), r0, r1, r2, r3, u6, u1, u2, u3, u4, kp, u5, mk, ls, u7, u8, ai_batch hA p6 hU p2 p3 p4 hk9, q1, ⟨hcu, rfl, hRD⟩, rfl⟩, w_delete h0 e1, ⟨rfl, rfl, rfl, rfl, rfl, rfl, rfl, p6⟩, rfl, kyl T' d' r', cN_of p2.1, p3, p8⟩
theorem m_deleteT3 (h : CG N σ tl w) {x : RS3} (hb : gB σ = some x) {k : Nat} (hk : k < 100) {L : List (Nat × Int32)} (hL : cN (gT σ) x.2.1 L) (hno : ¬ ∃ y ∈ L, y.1 = k) : EvS m_L_delete [.ref 0, .int (nI k)] w (.inl (some (.int (-1000003)))) w := by
  have h0 := cg_0 h
  obtain ⟨K, W, T, c, b, so, rd, s, sw⟩ := σ
  obtain ⟨cu, ba, r0, r1, r2, r3, bt, cnt, inn, lk, wd, kp, wr, mk, ls, pth, tk, hA, hC, hS, rfl⟩ := h
  have hb : b = some x := hb
  subst hb
  have hA : AI N K W T c (some x) so rd s sw := hA
  obtain ⟨hcu, hba, hRD⟩ := hS
  have hb2 : ba = (nI x.1, nI x.2.1, nI x.2.2, 1) := hba
  subst hb2
  obtain ⟨⟨d, g, a1, a2, a3⟩, hx1⟩ := hA.2.2.2.1.2 x rfl
  have hd5 := rt_d5 g.1 (Srt_100 a1 a2)
  obtain ⟨P, l, A0, B0, f1, f2, f3, f4, f5⟩ := fd_ex hk g.1 a1 a2
  have eL := cN_at g.1 hL
  rw [← eL, f3] at hno
  rw [f3] at a1 a2
  exact w_delete_T3 h0 (s_deleteT3 (ba := r0) hk hC.1 (by omega) g.1 f2 (fdR_U f1).1 (fun hh => hno ((key_in f4 f5).mpr ((hld_iff hk (srt_leaf a1) (k100_leaf a2)).mp hh))))
theorem m_commit (h : CG N σ tl w) (hN : N ≤ 600) {x : RS3} (hb : gB σ = some x) : ∃ w', CG (N + 1) (comS σ x) tl w' ∧ EvS m_L_commit [.ref 0] w (.inl (some (.int (nI x.1)))) w' := by
  have h0 := cg_0 h
  obtain ⟨K, W, T, c, b, so, rd, s, sw⟩ := σ
  obtain ⟨cu, ba, r0, r1, r2, r3, bt, cnt, inn, lk, wd, kp, wr, mk, ls, pth, tk, hA, hC, hS, rfl⟩ := h
  have hb : b = some x := hb
  subst hb
  have hA : AI N K W T c (some x) so rd s sw := hA
  obtain ⟨hcu, hba, hRD⟩ := hS
  have hb2 : ba = (nI x.1, nI x.2.1, nI x.2.2, 1) := hba
  subst hb2
  have hs2 := hA.2.2.2.2.1
  have hbx := hA.2.2.2.1.2 x rfl
  have oX := bG_oR hbx
  obtain ⟨o1, o2, o3⟩ := ai_oU hA
  obtain ⟨x7, xk⟩ := oR_7 oX hA.2.2.1
  have hsl := sl_full hA.2.2.2.2.2 hs2 hN hbx.2 x7 xk
  have o2' : ∀ t z, t < 2 → setR so (1 - s) (some x) t = some z → oR T (fun q => K q ∨ W q) z := fun t z ht hz => by
    unfold setR at hz
    by_cases h : t = 1 - s
    · rw [if_pos h] at hz
      cases hz
      exact oX
    · rw [if_neg h] at hz
      exact o2 t z ht hz
  have hle := rs_U oX o2' o3
  have hs9 : 1 - s < 2 := by omega
  obtain ⟨u1, u2, u3, q1, e1⟩ := s_commit (sl := 0) (cu := cu) (ba := r0) (r0 := r0) (r1 := r1) (r2 := r2) (r3 := r3) (sw := sw) (bt := bt) (cnt := cnt) (inn := inn) (lk := lk) (wd := wd) (kp := kp) (wr := wr) (mk := mk) (ls := ls) (pth := pth) (tk := tk) (tl := tl) hC.1 hs2 (x := x) hRD hsl.1 (rs_ok oX o2' o3)
  exact ⟨_, ⟨(nI x.1, nI x.2.1, nI x.2.2, u3), (nI x.1, nI x.2.1, nI x.2.2, 0), r0, r1, r2, r3, bt, cnt, inn, lk, wd, u1, (zr wr 800), mk, u2, pth, tk, ai_fresh oX o2' o3 hA.2.2.1 hs9 hsl, ⟨Rp_mono hC.1 (fun q hq => hle q (hq.resolve_right id)), q1, kS_zr⟩, ⟨⟨u3, rfl⟩, rfl, hRD⟩, rfl⟩, w_commit h0 e1⟩
theorem m_commitT (h : CG N σ tl w) (hb : gB σ = none) : EvS m_L_commit [.ref 0] w (.inl (some (.int (-1000001)))) w := by
  have h0 := cg_0 h
  obtain ⟨cu, ba, r0, r1, r2, r3, bt, cnt, inn, lk, wd, kp, wr, mk, ls, pth, tk, hA, hC, hS, rfl⟩ := h
  obtain ⟨be, br, bk, bo⟩ := ba
  have hbo := hS.2.1
  rw [hb] at hbo
  have hbo : bo = 0 := hbo
  subst hbo
  exact w_commit_T1 h0 (s_commitT (ba := r0))
theorem m_abandonT (h : CG N σ tl w) (hb : gB σ = none) : EvS m_L_abandon [.ref 0] w (.inl (some (.int (-1000001)))) w := by
  have h0 := cg_0 h
  obtain ⟨cu, ba, r0, r1, r2, r3, bt, cnt, inn, lk, wd, kp, wr, mk, ls, pth, tk, hA, hC, hS, rfl⟩ := h
  obtain ⟨be, br, bk, bo⟩ := ba
  have hbo := hS.2.1
  rw [hb] at hbo
  have hbo : bo = 0 := hbo
  subst hbo
  exact w_abandon_T1 h0 (s_abandonT (ba := r0))
theorem m_abandon (h : CG N σ tl w) {x : RS3} (hb : gB σ = some x) {n1 n2 : Nat} (h1 : cntR (gU σ) 800 n1) (h2 : cntR (gU (abaS σ)) 800 n2) : ∃ w', CG N (abaS σ) tl w' ∧ EvS m_L_abandon [.ref 0] w (.inl (some (.int (nI n1 - nI n2)))) w' := by
  have h0 := cg_0 h
  obtain ⟨K, W, T, c, b, so, rd, s, sw⟩ := σ
  obtain ⟨cu, ba, r0, r1, r2, r3, bt, cnt, inn, lk, wd, kp, wr, mk, ls, pth, tk, hA, hC, hS, rfl⟩ := h
  have hb : b = some x := hb
  subst hb
  have hA : AI N K W T c (some x) so rd s sw := hA
  obtain ⟨⟨oc, hcu⟩, hba, hRD⟩ := hS
  have hcu : cu = (nI c.1, nI c.2.1, nI c.2.2, oc) := hcu
  subst hcu
  have hb2 : ba = (nI x.1, nI x.2.1, nI x.2.2, 1) := hba
  subst hb2
  have h2' : cntR (RS T (rts c so rd)) 800 n2 := cntR_cg (fun q _ => ⟨fun h => (hA.1 q).mp (h.resolve_right id), fun h => Or.inl ((hA.1 q).mpr h)⟩) h2
  obtain ⟨u1, u2, q1, e1⟩ := s_abandon (sl := (nI s)) (cu := r0) (ba := r0) (r0 := r0) (r1 := r1) (r2 := r2) (r3 := r3) (sw := sw) (bt := bt) (cnt := cnt) (inn := inn) (lk := lk) (wd := wd) (kp := kp) (wr := wr) (mk := mk) (ls := ls) (pth := pth) (tk := tk) (tl := tl) hC (o := oc) (be := nI x.1) (br := nI x.2.1) (bk := nI x.2.2) hRD hA.2.2.2.2.2.1 (ai_ok hA (fun q h => Or.inl h)) h1 h2'
  exact ⟨_, ⟨(nI c.1, nI c.2.1, nI c.2.2, oc), (nI x.1, nI x.2.1, nI x.2.2, 0), r0, r1, r2, r3, bt, cnt, inn, lk, wd, u1, (zr wr 800), mk, u2, pth, tk, ai_nob hA, ⟨Rp_mono hC.1 (fun q hq => Or.inl (hq.resolve_right id)), fun q hq => (q1 q hq).trans (hA.1 q).symm, kS_zr⟩, ⟨⟨oc, rfl⟩, rfl, hRD⟩, rfl⟩, w_abandon h0 e1⟩
theorem m_open_0 (h : CG N σ tl w) (hj : gR σ 0 = none) (hlt : ∀ i, i < 0 → ∃ x, gR σ i = some x) : ∃ w', CG N (opeS σ 0) tl w' ∧ EvS m_L_open [.ref 0] w (.inl (some (.int (nI 0)))) w' := by
  have h0 := cg_0 h
  obtain ⟨K, W, T, c, b, so, rd, s, sw⟩ := σ
  obtain ⟨cu, ba, r0, r1, r2, r3, bt, cnt, inn, lk, wd, kp, wr, mk, ls, pth, tk, hA, hC, hS, rfl⟩ := h
  have hA : AI N K W T c b so rd s sw := hA
  obtain ⟨⟨oc, hcu⟩, hba, hRD⟩ := hS
  have hcu : cu = (nI c.1, nI c.2.1, nI c.2.2, oc) := hcu
  subst hcu
  obtain ⟨q1, e1⟩ := s_open_0 (sl := (nI s)) (cu := r0) (ba := ba) (r0 := r0) (r1 := r1) (r2 := r2) (r3 := r3) (sw := sw) (bt := bt) (cnt := cnt) (inn := inn) (lk := lk) (wd := wd) (kp := kp) (wr := wr) (mk := mk) (ls := ls) (pth := pth) (tk := tk) (tl := tl) (c := c) (oc := oc) hRD hj hlt
  exact ⟨_, ⟨(nI c.1, nI c.2.1, nI c.2.2, oc), ba, (nI c.1, nI c.2.1, nI c.2.2, 1), r1, r2, r3, bt, cnt, inn, lk, wd, kp, wr, mk, ls, pth, tk, ai_open hA hj, hC, ⟨⟨oc, rfl⟩, hba, q1⟩, rfl⟩, w_open h0 e1⟩
theorem m_open_1 (h : CG N σ tl w) (hj : gR σ 1 = none) (hlt : ∀ i, i < 1 → ∃ x, gR σ i = some x) : ∃ w', CG N (opeS σ 1) tl w' ∧ EvS m_L_open [.ref 0] w (.inl (some (.int (nI 1)))) w' := by
  have h0 := cg_0 h
  obtain ⟨K, W, T, c, b, so, rd, s, sw⟩ := σ
  obtain ⟨cu, ba, r0, r1, r2, r3, bt, cnt, inn, lk, wd, kp, wr, mk, ls, pth, tk, hA, hC, hS, rfl⟩ := h
  have hA : AI N K W T c b so rd s sw := hA
  obtain ⟨⟨oc, hcu⟩, hba, hRD⟩ := hS
  have hcu : cu = (nI c.1, nI c.2.1, nI c.2.2, oc) := hcu
  subst hcu
  obtain ⟨q1, e1⟩ := s_open_1 (sl := (nI s)) (cu := r0) (ba := ba) (r0 := r0) (r1 := r1) (r2 := r2) (r3 := r3) (sw := sw) (bt := bt) (cnt := cnt) (inn := inn) (lk := lk) (wd := wd) (kp := kp) (wr := wr) (mk := mk) (ls := ls) (pth := pth) (tk := tk) (tl := tl) (c := c) (oc := oc) hRD hj hlt
  exact ⟨_, ⟨(nI c.1, nI c.2.1, nI c.2.2, oc), ba, r0, (nI c.1, nI c.2.1, nI c.2.2, 1), r2, r3, bt, cnt, inn, lk, wd, kp, wr, mk, ls, pth, tk, ai_open hA hj, hC, ⟨⟨oc, rfl⟩, hba, q1⟩, rfl⟩, w_open h0 e1⟩
theorem m_open_2 (h : CG N σ tl w) (hj : gR σ 2 = none) (hlt : ∀ i, i < 2 → ∃ x, gR σ i = some x) : ∃ w', CG N (opeS σ 2) tl w' ∧ EvS m_L_open [.ref 0] w (.inl (some (.int (nI 2)))) w' := by
  have h0 := cg_0 h
  obtain ⟨K, W, T, c, b, so, rd, s, sw⟩ := σ
  obtain ⟨cu, ba, r0, r1, r2, r3, bt, cnt, inn, lk, wd, kp, wr, mk, ls, pth, tk, hA, hC, hS, rfl⟩ := h
  have hA : AI N K W T c b so rd s sw := hA
  obtain ⟨⟨oc, hcu⟩, hba, hRD⟩ := hS
  have hcu : cu = (nI c.1, nI c.2.1, nI c.2.2, oc) := hcu
  subst hcu
  obtain ⟨q1, e1⟩ := s_open_2 (sl := (nI s)) (cu := r0) (ba := ba) (r0 := r0) (r1 := r1) (r2 := r2) (r3 := r3) (sw := sw) (bt := bt) (cnt := cnt) (inn := inn) (lk := lk) (wd := wd) (kp := kp) (wr := wr) (mk := mk) (ls := ls) (pth := pth) (tk := tk) (tl := tl) (c := c) (oc := oc) hRD hj hlt
  exact ⟨_, ⟨(nI c.1, nI c.2.1, nI c.2.2, oc), ba, r0, r1, (nI c.1, nI c.2.1, nI c.2.2, 1), r3, bt, cnt, inn, lk, wd, kp, wr, mk, ls, pth, tk, ai_open hA hj, hC, ⟨⟨oc, rfl⟩, hba, q1⟩, rfl⟩, w_open h0 e1⟩
theorem m_open_3 (h : CG N σ tl w) (hj : gR σ 3 = none) (hlt : ∀ i, i < 3 → ∃ x, gR σ i = some x) : ∃ w', CG N (opeS σ 3) tl w' ∧ EvS m_L_open [.ref 0] w (.inl (some (.int (nI 3)))) w' := by
  have h0 := cg_0 h
  obtain ⟨K, W, T, c, b, so, rd, s, sw⟩ := σ
  obtain ⟨cu, ba, r0, r1, r2, r3, bt, cnt, inn, lk, wd, kp, wr, mk, ls, pth, tk, hA, hC, hS, rfl⟩ := h
  have hA : AI N K W T c b so rd s sw := hA
  obtain ⟨⟨oc, hcu⟩, hba, hRD⟩ := hS
  have hcu : cu = (nI c.1, nI c.2.1, nI c.2.2, oc) := hcu
  subst hcu
  obtain ⟨q1, e1⟩ := s_open_3 (sl := (nI s)) (cu := r0) (ba := ba) (r0 := r0) (r1 := r1) (r2 := r2) (r3 := r3) (sw := sw) (bt := bt) (cnt := cnt) (inn := inn) (lk := lk) (wd := wd) (kp := kp) (wr := wr) (mk := mk) (ls := ls) (pth := pth) (tk := tk) (tl := tl) (c := c) (oc := oc) hRD hj hlt
  exact ⟨_, ⟨(nI c.1, nI c.2.1, nI c.2.2, oc), ba, r0, r1, r2, (nI c.1, nI c.2.1, nI c.2.2, 1), bt, cnt, inn, lk, wd, kp, wr, mk, ls, pth, tk, ai_open hA hj, hC, ⟨⟨oc, rfl⟩, hba, q1⟩, rfl⟩, w_open h0 e1⟩
theorem m_open (h : CG N σ tl w) {j : Nat} (hj4 : j < 4) (hj : gR σ j = none) (hlt : ∀ i, i < j → ∃ x, gR σ i = some x) : ∃ w', CG N (opeS σ j) tl w' ∧ EvS m_L_open [.ref 0] w (.inl (some (.int (nI j)))) w' := by
  rcases lt4 hj4 with rfl | rfl | rfl | rfl
  · exact m_open_0 h hj hlt
  · exact m_open_1 h hj hlt
  · exact m_open_2 h hj hlt
  · exact m_open_3 h hj hlt
theorem m_openT (h : CG N σ tl w) (hall : ∀ i, i < 4 → ∃ x, gR σ i = some x) : EvS m_L_open [.ref 0] w (.inl (some (.int (-1000001)))) w := by
  have h0 := cg_0 h
  obtain ⟨cu, ba, r0, r1, r2, r3, bt, cnt, inn, lk, wd, kp, wr, mk, ls, pth, tk, hA, hC, hS, rfl⟩ := h
  exact w_open_T1 h0 (s_openT hS.2.2 hall)
theorem m_closeT (h : CG N σ tl w) {i : Int32} (hno : ∀ j, j < 4 → i = nI j → gR σ j = none) : EvS m_L_close [.ref 0, .int i] w (.inl (some (.int (-1000001)))) w := by
  have h0 := cg_0 h
  obtain ⟨cu, ba, r0, r1, r2, r3, bt, cnt, inn, lk, wd, kp, wr, mk, ls, pth, tk, hA, hC, hS, rfl⟩ := h
  exact w_close_T1 h0 (s_closeT hS.2.2 hno)
theorem r_heldByT (h : CG N σ tl w) {i : Int32} (hno : ∀ j, j < 4 → i = nI j → gR σ j = none) : EvS m_L_heldBy [.ref 0, .int i] w (.inl (some (.int (-1000001)))) w := by
  have h0 := cg_0 h
  obtain ⟨cu, ba, r0, r1, r2, r3, bt, cnt, inn, lk, wd, kp, wr, mk, ls, pth, tk, hA, hC, hS, rfl⟩ := h
  exact w_heldBy_T1 h0 (s_heldByT hS.2.2 hno)
theorem m_close_0 (h : CG N σ tl w) {x : RS3} (hj : gR σ 0 = some x) {n1 n2 : Nat} (h1 : cntR (gU σ) 800 n1) (h2 : cntR (gU (cloS σ 0)) 800 n2) : ∃ w', CG N (cloS σ 0) tl w' ∧ EvS m_L_close [.ref 0, .int (nI 0)] w (.inl (some (.int (nI n1 - nI n2)))) w' := by
  have h0 := cg_0 h
  obtain ⟨K, W, T, c, b, so, rd, s, sw⟩ := σ
  obtain ⟨cu, ba, r0, r1, r2, r3, bt, cnt, inn, lk, wd, kp, wr, mk, ls, pth, tk, hA, hC, hS, rfl⟩ := h
  have hA : AI N K W T c b so rd s sw := hA
  have hj : rd 0 = some x := hj
  obtain ⟨⟨oc, hcu⟩, hba, hRD⟩ := hS
  have hcu : cu = (nI c.1, nI c.2.1, nI c.2.2, oc) := hcu
  subst hcu
  have hA' := ai_less (rd' := setR rd 0 none) (so' := so) (sw' := sw) hA (fun t x _ h => h) (fun i x _ h => setR_no h) hA.2.2.2.2.2
  have hle : ∀ q, RS T (rts c so (setR rd 0 none)) q → K q := rs_U hA.2.1.1 hA.2.1.2.1 (fun i x hi h => hA.2.1.2.2 i x hi (setR_no h))
  obtain ⟨p0, p1, p2, p3, u1, u2, g1, g2, e1⟩ := s_close_0 (sl := (nI s)) (cu := r0) (ba := ba) (r0 := r0) (r1 := r1) (r2 := r2) (r3 := r3) (sw := sw) (bt := bt) (cnt := cnt) (inn := inn) (lk := lk) (wd := wd) (kp := kp) (wr := wr) (mk := mk) (ls := ls) (pth := pth) (tk := tk) (tl := tl) hC (c := c) (oc := oc) hRD hj hA.2.2.2.2.2.1 (fun r hr => ai_ok hA (U := fun q => K q ∨ W q) (fun q h => Or.inl h) r (by rw [← rts_set (by decide)] at hr; exact rts_W hr)) h1 h2
  exact ⟨_, ⟨(nI c.1, nI c.2.1, nI c.2.2, oc), ba, p0, p1, p2, p3, bt, cnt, inn, lk, wd, u1, wr, mk, u2, pth, tk, hA', ⟨Rp_mono hC.1 (fun q hq => hq.imp (hle q) id), g2, hC.2.2⟩, ⟨⟨oc, rfl⟩, hba, g1⟩, rfl⟩, w_close h0 e1⟩
theorem m_close_1 (h : CG N σ tl w) {x : RS3} (hj : gR σ 1 = some x) {n1 n2 : Nat} (h1 : cntR (gU σ) 800 n1) (h2 : cntR (gU (cloS σ 1)) 800 n2) : ∃ w', CG N (cloS σ 1) tl w' ∧ EvS m_L_close [.ref 0, .int (nI 1)] w (.inl (some (.int (nI n1 - nI n2)))) w' := by
  have h0 := cg_0 h
  obtain ⟨K, W, T, c, b, so, rd, s, sw⟩ := σ
  obtain ⟨cu, ba, r0, r1, r2, r3, bt, cnt, inn, lk, wd, kp, wr, mk, ls, pth, tk, hA, hC, hS, rfl⟩ := h
  have hA : AI N K W T c b so rd s sw := hA
  have hj : rd 1 = some x := hj
  obtain ⟨⟨oc, hcu⟩, hba, hRD⟩ := hS
  have hcu : cu = (nI c.1, nI c.2.1, nI c.2.2, oc) := hcu
  subst hcu
  have hA' := ai_less (rd' := setR rd 1 none) (so' := so) (sw' := sw) hA (fun t x _ h => h) (fun i x _ h => setR_no h) hA.2.2.2.2.2
  have hle : ∀ q, RS T (rts c so (setR rd 1 none)) q → K q := rs_U hA.2.1.1 hA.2.1.2.1 (fun i x hi h => hA.2.1.2.2 i x hi (setR_no h))
  obtain ⟨p0, p1, p2, p3, u1, u2, g1, g2, e1⟩ := s_close_1 (sl := (nI s)) (cu := r0) (ba := ba) (r0 := r0) (r1 := r1) (r2 := r2) (r3 := r3) (sw := sw) (bt := bt) (cnt := cnt) (inn := inn) (lk := lk) (wd := wd) (kp := kp) (wr := wr) (mk := mk) (ls := ls) (pth := pth) (tk := tk) (tl := tl) hC (c := c) (oc := oc) hRD hj hA.2.2.2.2.2.1 (fun r hr => ai_ok hA (U := fun q => K q ∨ W q) (fun q h => Or.inl h) r (by rw [← rts_set (by decide)] at hr; exact rts_W hr)) h1 h2
  exact ⟨_, ⟨(nI c.1, nI c.2.1, nI c.2.2, oc), ba, p0, p1, p2, p3, bt, cnt, inn, lk, wd, u1, wr, mk, u2, pth, tk, hA', ⟨Rp_mono hC.1 (fun q hq => hq.imp (hle q) id), g2, hC.2.2⟩, ⟨⟨oc, rfl⟩, hba, g1⟩, rfl⟩, w_close h0 e1⟩
theorem m_close_2 (h : CG N σ tl w) {x : RS3} (hj : gR σ 2 = some x) {n1 n2 : Nat} (h1 : cntR (gU σ) 800 n1) (h2 : cntR (gU (cloS σ 2)) 800 n2) : ∃ w', CG N (cloS σ 2) tl w' ∧ EvS m_L_close [.ref 0, .int (nI 2)] w (.inl (some (.int (nI n1 - nI n2)))) w' := by
  have h0 := cg_0 h
  obtain ⟨K, W, T, c, b, so, rd, s, sw⟩ := σ
  obtain ⟨cu, ba, r0, r1, r2, r3, bt, cnt, inn, lk, wd, kp, wr, mk, ls, pth, tk, hA, hC, hS, rfl⟩ := h
  have hA : AI N K W T c b so rd s sw := hA
  have hj : rd 2 = some x := hj
  obtain ⟨⟨oc, hcu⟩, hba, hRD⟩ := hS
  have hcu : cu = (nI c.1, nI c.2.1, nI c.2.2, oc) := hcu
  subst hcu
  have hA' := ai_less (rd' := setR rd 2 none) (so' := so) (sw' := sw) hA (fun t x _ h => h) (fun i x _ h => setR_no h) hA.2.2.2.2.2
  have hle : ∀ q, RS T (rts c so (setR rd 2 none)) q → K q := rs_U hA.2.1.1 hA.2.1.2.1 (fun i x hi h => hA.2.1.2.2 i x hi (setR_no h))
  obtain ⟨p0, p1, p2, p3, u1, u2, g1, g2, e1⟩ := s_close_2 (sl := (nI s)) (cu := r0) (ba := ba) (r0 := r0) (r1 := r1) (r2 := r2) (r3 := r3) (sw := sw) (bt := bt) (cnt := cnt) (inn := inn) (lk := lk) (wd := wd) (kp := kp) (wr := wr) (mk := mk) (ls := ls) (pth := pth) (tk := tk) (tl := tl) hC (c := c) (oc := oc) hRD hj hA.2.2.2.2.2.1 (fun r hr => ai_ok hA (U := fun q => K q ∨ W q) (fun q h => Or.inl h) r (by rw [← rts_set (by decide)] at hr; exact rts_W hr)) h1 h2
  exact ⟨_, ⟨(nI c.1, nI c.2.1, nI c.2.2, oc), ba, p0, p1, p2, p3, bt, cnt, inn, lk, wd, u1, wr, mk, u2, pth, tk, hA', ⟨Rp_mono hC.1 (fun q hq => hq.imp (hle q) id), g2, hC.2.2⟩, ⟨⟨oc, rfl⟩, hba, g1⟩, rfl⟩, w_close h0 e1⟩
theorem m_close_3 (h : CG N σ tl w) {x : RS3} (hj : gR σ 3 = some x) {n1 n2 : Nat} (h1 : cntR (gU σ) 800 n1) (h2 : cntR (gU (cloS σ 3)) 800 n2) : ∃ w', CG N (cloS σ 3) tl w' ∧ EvS m_L_close [.ref 0, .int (nI 3)] w (.inl (some (.int (nI n1 - nI n2)))) w' := by
  have h0 := cg_0 h
  obtain ⟨K, W, T, c, b, so, rd, s, sw⟩ := σ
  obtain ⟨cu, ba, r0, r1, r2, r3, bt, cnt, inn, lk, wd, kp, wr, mk, ls, pth, tk, hA, hC, hS, rfl⟩ := h
  have hA : AI N K W T c b so rd s sw := hA
  have hj : rd 3 = some x := hj
  obtain ⟨⟨oc, hcu⟩, hba, hRD⟩ := hS
  have hcu : cu = (nI c.1, nI c.2.1, nI c.2.2, oc) := hcu
  subst hcu
  have hA' := ai_less (rd' := setR rd 3 none) (so' := so) (sw' := sw) hA (fun t x _ h => h) (fun i x _ h => setR_no h) hA.2.2.2.2.2
  have hle : ∀ q, RS T (rts c so (setR rd 3 none)) q → K q := rs_U hA.2.1.1 hA.2.1.2.1 (fun i x hi h => hA.2.1.2.2 i x hi (setR_no h))
  obtain ⟨p0, p1, p2, p3, u1, u2, g1, g2, e1⟩ := s_close_3 (sl := (nI s)) (cu := r0) (ba := ba) (r0 := r0) (r1 := r1) (r2 := r2) (r3 := r3) (sw := sw) (bt := bt) (cnt := cnt) (inn := inn) (lk := lk) (wd := wd) (kp := kp) (wr := wr) (mk := mk) (ls := ls) (pth := pth) (tk := tk) (tl := tl) hC (c := c) (oc := oc) hRD hj hA.2.2.2.2.2.1 (fun r hr => ai_ok hA (U := fun q => K q ∨ W q) (fun q h => Or.inl h) r (by rw [← rts_set (by decide)] at hr; exact rts_W hr)) h1 h2
  exact ⟨_, ⟨(nI c.1, nI c.2.1, nI c.2.2, oc), ba, p0, p1, p2, p3, bt, cnt, inn, lk, wd, u1, wr, mk, u2, pth, tk, hA', ⟨Rp_mono hC.1 (fun q hq => hq.imp (hle q) id), g2, hC.2.2⟩, ⟨⟨oc, rfl⟩, hba, g1⟩, rfl⟩, w_close h0 e1⟩
theorem m_close (h : CG N σ tl w) {j : Nat} (hj4 : j < 4) {x : RS3} (hj : gR σ j = some x) {n1 n2 : Nat} (h1 : cntR (gU σ) 800 n1) (h2 : cntR (gU (cloS σ j)) 800 n2) : ∃ w', CG N (cloS σ j) tl w' ∧ EvS m_L_close [.ref 0, .int (nI j)] w (.inl (some (.int (nI n1 - nI n2)))) w' := by
  rcases lt4 hj4 with rfl | rfl | rfl | rfl
  · exact m_close_0 h hj h1 h2
  · exact m_close_1 h hj h1 h2
  · exact m_close_2 h hj h1 h2
  · exact m_close_3 h hj h1 h2
/-- what a reader alone holds: as many pages as fall free with it -/
theorem r_heldBy (h : CG N σ tl w) {j : Nat} (hj4 : j < 4) {x : RS3} (hj : gR σ j = some x) {n1 n2 : Nat} (h1 : cntR (gU σ) 800 n1) (h2 : cntR (gU (cloS σ j)) 800 n2) : ∃ w', CG N σ tl w' ∧ EvS m_L_heldBy [.ref 0, .int (nI j)] w (.inl (some (.int (nI n1 - nI n2)))) w' := by
  have h0 := cg_0 h
  obtain ⟨K, W, T, c, b, so, rd, s, sw⟩ := σ
  obtain ⟨cu, ba, r0, r1, r2, r3, bt, cnt, inn, lk, wd, kp, wr, mk, ls, pth, tk, hA, hC, hS, rfl⟩ := h
  have hA : AI N K W T c b so rd s sw := hA
  have hj : rd j = some x := hj
  obtain ⟨⟨oc, hcu⟩, hba, hRD⟩ := hS
  have hcu : cu = (nI c.1, nI c.2.1, nI c.2.2, oc) := hcu
  subst hcu
  have hle : ∀ q, RS T (rts c so (setR rd j none)) q → K q := rs_U hA.2.1.1 hA.2.1.2.1 (fun i x hi h => hA.2.1.2.2 i x hi (setR_no h))
  obtain ⟨n, hn⟩ := cntR_ex (fun q => K q ∧ ¬ RS T (rts c so (rdW rd (nI j))) q) 800
  have hn' := hn
  rw [rts_set hj4] at hn'
  have hsum : cntR (fun q => K q ∨ W q) 800 (n2 + n) := cntR_split h2 hn' (fun q _ => by
    constructor
    · rintro (hk | hw)
      · by_cases hr : RS T (rts c so (setR rd j none)) q
        · exact Or.inl (Or.inl hr)
        · exact Or.inr ⟨hk, hr⟩
      · exact Or.inl (Or.inr hw)
    · rintro ((h | h) | h)
      · exact Or.inl (hle q h)
      · exact Or.inr h
      · exact Or.inl h.1) (fun q _ hh => by
    rcases hh.1 with h | h
    · exact hh.2.2 h
    · exact ai_D hA q hh.2.1 h)
  have e12 : n1 = n2 + n := cntR_un h1 hsum
  have eq1 : nI n1 - nI n2 = nI n := by rw [e12]; exact nI_subN n2 n
  obtain ⟨u1, u2, e1⟩ := s_heldBy (sl := (nI s)) (cu := r0) (ba := ba) (r0 := r0) (r1 := r1) (r2 := r2) (r3 := r3) (sw := sw) (bt := bt) (cnt := cnt) (inn := inn) (lk := lk) (wd := wd) (kp := kp) (wr := wr) (mk := mk) (ls := ls) (pth := pth) (tk := tk) (tl := tl) (c := c) (oc := oc) hC.1 hC.2.1 hRD hA.2.2.2.2.2.1 hj4 hj (fun r hr => ai_ok hA (U := fun q => K q ∨ W q) (fun q h => Or.inl h) r (rts_W hr)) hn
  rw [eq1]
  exact ⟨_, ⟨(nI c.1, nI c.2.1, nI c.2.2, oc), ba, r0, r1, r2, r3, bt, cnt, inn, lk, wd, kp, wr, u1, u2, pth, tk, hA, hC, ⟨⟨oc, rfl⟩, hba, hRD⟩, rfl⟩, w_heldBy h0 e1⟩
theorem m_tearT1 (h : CG N σ tl w) {i : Int32} (hi : i < 0 ∨ (2 : Int32) ≤ i) : EvS m_L_tear [.ref 0, .int i] w (.inl (some (.int (-1000001)))) w := by
  have h0 := cg_0 h
  obtain ⟨cu, ba, r0, r1, r2, r3, bt, cnt, inn, lk, wd, kp, wr, mk, ls, pth, tk, hA, hC, hS, rfl⟩ := h
  exact w_tear_T1 h0 (s_tearT1 hi)
theorem m_tearT2 (h : CG N σ tl w) {t : Nat} (ht : t < 2) (hw : gO σ (1 - t) = none) : EvS m_L_tear [.ref 0, .int (nI t)] w (.inl (some (.int (-1000002)))) w := by
  have h0 := cg_0 h
  obtain ⟨cu, ba, r0, r1, r2, r3, bt, cnt, inn, lk, wd, kp, wr, mk, ls, pth, tk, hA, hC, hS, rfl⟩ := h
  have hSL : SLR (gD σ) (gO σ) := hA.2.2.2.2.2.1
  exact w_tear_T2 h0 (s_tearT2 ht (SLR_no hSL (by omega) hw))
theorem m_tear (h : CG N σ tl w) (hN : N ≤ 600) {t : Nat} (ht : t < 2) {z : RS3} (hw : gO σ (1 - t) = some z) {n1 n2 : Nat} (h1 : cntR (gU σ) 800 n1) (h2 : cntR (gU (teaS σ t)) 800 n2) : ∃ w', CG N (teaS σ t) tl w' ∧ EvS m_L_tear [.ref 0, .int (nI t)] w (.inl (some (.int (nI n1 - nI n2)))) w' := by
  have h0 := cg_0 h
  obtain ⟨K, W, T, c, b, so, rd, s, sw⟩ := σ
  obtain ⟨cu, ba, r0, r1, r2, r3, bt, cnt, inn, lk, wd, kp, wr, mk, ls, pth, tk, hA, hC, hS, rfl⟩ := h
  have hA : AI N K W T c b so rd s sw := hA
  have hw : so (1 - t) = some z := hw
  obtain ⟨⟨oc, hcu⟩, hba, hRD⟩ := hS
  have hcu : cu = (nI c.1, nI c.2.1, nI c.2.2, oc) := hcu
  subst hcu
  have hwh := (SLR_at hA.2.2.2.2.2.1 (t := 1 - t) (by omega) hw).1
  have hsl := sl_tear hA.2.2.2.2.2 hN ht hwh
  have hA' := ai_less (rd' := rd) (so' := setR so t none) (sw' := vp_updL sw (4 * t + 3) (-1)) hA (fun u x _ h => setR_no h) (fun i x _ h => h) hsl
  have hle : ∀ q, RS T (rts c (setR so t none) rd) q → K q := rs_U hA.2.1.1 (fun u x hu h => hA.2.1.2.1 u x hu (setR_no h)) hA.2.1.2.2
  obtain ⟨u1, u2, g2, e1⟩ := s_tear (sl := (nI s)) (cu := r0) (ba := ba) (r0 := r0) (r1 := r1) (r2 := r2) (r3 := r3) (sw := sw) (bt := bt) (cnt := cnt) (inn := inn) (lk := lk) (wd := wd) (kp := kp) (wr := wr) (mk := mk) (ls := ls) (pth := pth) (tk := tk) (tl := tl) hC (c := c) (oc := oc) ht hwh hRD hsl.1 (rs_ok (ai_oU hA).1 (fun u x hu h => (ai_oU hA).2.1 u x hu (setR_no h)) (ai_oU hA).2.2) h1 h2
  exact ⟨_, ⟨(nI c.1, nI c.2.1, nI c.2.2, oc), ba, r0, r1, r2, r3, bt, cnt, inn, lk, wd, u1, wr, mk, u2, pth, tk, hA', ⟨Rp_mono hC.1 (fun q hq => hq.imp (hle q) id), g2, hC.2.2⟩, ⟨⟨oc, rfl⟩, hba, hRD⟩, rfl⟩, w_tear h0 e1⟩
theorem m_crash (h : CG N σ tl w) (hN : N ≤ 600) : ∃ w' s' x, s' < 2 ∧ lat (gO σ) s' ∧ gO σ s' = some x ∧ CG N (craS σ (gO σ) (gD σ) s' x) tl w' ∧ EvS m_X3_crash [.ref 0] w (.inl (some (.int (nI x.1)))) w' := by
  obtain ⟨K, W, T, c, b, so, rd, s, sw⟩ := σ
  obtain ⟨cu, ba, r0, r1, r2, r3, bt, cnt, inn, lk, wd, kp, wr, mk, ls, pth, tk, hA, hC, hS, rfl⟩ := h
  have hA : AI N K W T c b so rd s sw := hA
  obtain ⟨be, br, bk, bo⟩ := ba
  obtain ⟨o1, o2, o3⟩ := ai_oU hA
  have hJ := sl_J hA.2.2.2.2.2 hA.2.2.2.2.1 (ai_s7 hA)
  obtain ⟨s', hs', hl⟩ := lat_ex so
  obtain ⟨x, hx⟩ := lat_some hl hJ.2.1
  have hb : ∀ s x, s < 2 → so s = some x → x.1 < 2147483648 := fun t y ht hy => by have := hJ.2.2.2.1 t y ht hy; omega
  have oX := o2 s' x hs' hx
  have oN : ∀ j y, j < 4 → noR j = some y → oR T (fun q => K q ∨ W q) y := fun j y _ h => by cases h
  have hle := rs_U oX o2 oN
  obtain ⟨p0, p1, p2, p3, u1, u2, g1, g2, e1⟩ := s_crash (sl := (nI s)) (cu := cu) (ba := r0) (r0 := r0) (r1 := r1) (r2 := r2) (r3 := r3) (sw := sw) (bt := bt) (cnt := cnt) (inn := inn) (lk := lk) (wd := wd) (kp := kp) (wr := wr) (mk := mk) (ls := ls) (pth := pth) (tk := tk) (tl := tl) hC.1 (be := be) (br := br) (bk := bk) (bo := bo) hJ.1 hb hs' hl hx (rs_ok oX o2 oN)
  exact ⟨_, s', x, hs', hl, hx, ⟨(nI x.1, nI x.2.1, nI x.2.2, cu.2.2.2), (be, br, bk, 0), p0, p1, p2, p3, bt, cnt, inn, lk, wd, u1, (zr wr 800), mk, u2, pth, tk, ai_fresh oX o2 oN hA.2.2.1 hs' (sl_J' hJ hs' hl hx), ⟨Rp_mono hC.1 (fun q hq => hle q (hq.resolve_right id)), g2, kS_zr⟩, ⟨⟨cu.2.2.2, rfl⟩, rfl, g1⟩, rfl⟩, e1⟩
theorem m_cicT1 (h : CG N σ tl w) {i : Int32} (hi : i < 0 ∨ (4 : Int32) < i) : EvS m_L_crashInCommit [.ref 0, .int i] w (.inl (some (.int (-1000001)))) w := by
  have h0 := cg_0 h
  obtain ⟨cu, ba, r0, r1, r2, r3, bt, cnt, inn, lk, wd, kp, wr, mk, ls, pth, tk, hA, hC, hS, rfl⟩ := h
  exact w_crashInCommit_T1 h0 (s_cicT1 hi)
theorem m_cicT2 (h : CG N σ tl w) {n : Nat} (hn : n ≤ 4) (hb : gB σ = none) : EvS m_L_crashInCommit [.ref 0, .int (nI n)] w (.inl (some (.int (-1000002)))) w := by
  have h0 := cg_0 h
  obtain ⟨cu, ba, r0, r1, r2, r3, bt, cnt, inn, lk, wd, kp, wr, mk, ls, pth, tk, hA, hC, hS, rfl⟩ := h
  obtain ⟨be, br, bk, bo⟩ := ba
  have hbo := hS.2.1
  rw [hb] at hbo
  have hbo : bo = 0 := hbo
  subst hbo
  exact w_crashInCommit_T2 h0 (s_cicT2 (ba := r0) hn)
theorem m_cicT3 (h : CG N σ tl w) {n : Nat} (hn : 0 < n ∧ n < 4) {y : RS3} (hb : gB σ = some y) (hw : gO σ (gS σ) = none) : EvS m_L_crashInCommit [.ref 0, .int (nI n)] w (.inl (some (.int (-1000002)))) w := by
  have h0 := cg_0 h
  obtain ⟨cu, ba, r0, r1, r2, r3, bt, cnt, inn, lk, wd, kp, wr, mk, ls, pth, tk, hA, hC, hS, rfl⟩ := h
  have hbo := hS.2.1
  rw [hb] at hbo
  have hbo : ba = (nI y.1, nI y.2.1, nI y.2.2, 1) := hbo
  subst hbo
  exact w_crashInCommit_T2 h0 (s_cicT3 (sl := 0) (ba := r0) hA.2.2.2.2.1 hn (SLR_no hA.2.2.2.2.2.1 hA.2.2.2.2.1 hw))
/-- the slots when the power goes in a commit of y behind n words -/
def cicO (σ : SS) (n : Nat) (y : RS3) : Nat → Option RS3 := if n = 0 then gO σ else if n = 4 then setR (gO σ) (1 - gS σ) (some y) else setR (gO σ) (1 - gS σ) none
theorem m_cic (h : CG N σ tl w) (hN : N ≤ 600) {n : Nat} (hn : n ≤ 4) {y : RS3} (hb : gB σ = some y) (hw : 0 < n ∧ n < 4 → ∃ z, gO σ (gS σ) = some z) : ∃ w' s' x, s' < 2 ∧ lat (cicO σ n y) s' ∧ cicO σ n y s' = some x ∧ CG (N + 1) (craS σ (cicO σ n y) (wrS (gD σ) (1 - gS σ) y n) s' x) tl w' ∧ EvS m_L_crashInCommit [.ref 0, .int (nI n)] w (.inl (some (.int (nI x.1)))) w' := by
  have h0 := cg_0 h
  obtain ⟨K, W, T, c, b, so, rd, s, sw⟩ := σ
  obtain ⟨cu, ba, r0, r1, r2, r3, bt, cnt, inn, lk, wd, kp, wr, mk, ls, pth, tk, hA, hC, hS, rfl⟩ := h
  have hb : b = some y := hb
  subst hb
  have hA : AI N K W T c (some y) so rd s sw := hA
  have hw : 0 < n ∧ n < 4 → ∃ z, so s = some z := hw
  obtain ⟨hcu, hba, hRD⟩ := hS
  have hb2 : ba = (nI y.1, nI y.2.1, nI y.2.2, 1) := hba
  subst hb2
  have hA1 := ai_mono (Nat.le_succ N) hA
  have hs2 := hA.2.2.2.2.1
  have hbx := hA.2.2.2.1.2 y rfl
  have oY := bG_oR hbx
  obtain ⟨y7, yk⟩ := oR_7 oY hA.2.2.1
  have hwh : 0 < n ∧ n < 4 → whl sw s := fun hh => by
    obtain ⟨z, hz⟩ := hw hh
    exact (SLR_at hA.2.2.2.2.2.1 hs2 hz).1
  obtain ⟨o1, o2, o3⟩ := ai_oU hA
  have hsO : slJ (N + 1) (wrS sw (1 - s) y n) (cicO (K, W, T, c, some y, so, rd, s, sw) n y) ∧ ∀ t z, t < 2 → cicO (K, W, T, c, some y, so, rd, s, sw) n y t = some z → oR T (fun q => K q ∨ W q) z := by
    unfold cicO
    have : n = 0 ∨ (0 < n ∧ n < 4) ∨ n = 4 := by omega
    rcases this with rfl | hp | rfl
    · rw [if_pos rfl, wrS_0]
      exact ⟨sl_J hA1.2.2.2.2.2 hs2 (ai_s7 hA), o2⟩
    · rw [if_neg (by omega), if_neg (by omega)]
      exact ⟨sl_part hA.2.2.2.2.2 hs2 hN hp (hwh hp) hbx.2 y7 yk (ai_s7 hA), fun t z ht hz => o2 t z ht (setR_no hz)⟩
    · rw [if_neg (by decide), if_pos rfl]
      have o2' : ∀ t z, t < 2 → setR so (1 - s) (some y) t = some z → oR T (fun q => K q ∨ W q) z := fun t z ht hz => by
        unfold setR at hz
        by_cases h : t = 1 - s
        · rw [if_pos h] at hz
          cases hz
          exact oY
        · rw [if_neg h] at hz
          exact o2 t z ht hz
      exact ⟨sl_J (sl_full hA.2.2.2.2.2 hs2 hN hbx.2 y7 yk) (by omega) (fun t z ht hz => oR_7 (o2' t z ht hz) hA.2.2.1), o2'⟩
  obtain ⟨hJ, o2'⟩ := hsO
  obtain ⟨s', hs', hl⟩ := lat_ex (cicO (K, W, T, c, some y, so, rd, s, sw) n y)
  obtain ⟨x, hx⟩ := lat_some hl hJ.2.1
  have hb : ∀ t x, t < 2 → cicO (K, W, T, c, some y, so, rd, s, sw) n y t = some x → x.1 < 2147483648 := fun t z ht hz => by have := hJ.2.2.2.1 t z ht hz; omega
  have oX := o2' s' x hs' hx
  have oN : ∀ j z, j < 4 → noR j = some z → oR T (fun q => K q ∨ W q) z := fun j z _ h => by cases h
  have hle := rs_U oX o2' oN
  obtain ⟨p0, p1, p2, p3, u1, u2, g1, g2, e1⟩ := s_cic (sl := 0) (cu := cu) (ba := r0) (r0 := r0) (r1 := r1) (r2 := r2) (r3 := r3) (sw := sw) (bt := bt) (cnt := cnt) (inn := inn) (lk := lk) (wd := wd) (kp := kp) (wr := wr) (mk := mk) (ls := ls) (pth := pth) (tk := tk) (tl := tl) hC.1 (y := y) hs2 hn hwh hJ.1 hb hs' hl hx (rs_ok oX o2' oN)
  exact ⟨_, s', x, hs', hl, hx, ⟨(nI x.1, nI x.2.1, nI x.2.2, cu.2.2.2), (nI y.1, nI y.2.1, nI y.2.2, 0), p0, p1, p2, p3, bt, cnt, inn, lk, wd, u1, (zr wr 800), mk, u2, pth, tk, ai_fresh oX o2' oN hA.2.2.1 hs' (sl_J' hJ hs' hl hx), ⟨Rp_mono hC.1 (fun q hq => hle q (hq.resolve_right id)), g2, kS_zr⟩, ⟨⟨cu.2.2.2, rfl⟩, rfl, g1⟩, rfl⟩, w_crashInCommit h0 e1⟩
end MUT
