/-! THE LAW'S OWN METHODS: a call with its exceptions told by numbers -/
abbrev ouC (o : Nat → Int64) : mC := .inl (2, 1, .inr (.inl o))
theorem ou_get {A : List mC} {x : mC} (h : A.length = 34) : (A ++ [x])[34]? = some x := by
  rw [List.getElem?_append_right (by omega), h]
  rfl
theorem ou_set {A : List mC} {x y : mC} (h : A.length = 34) : (A ++ [x]).set 34 y = A ++ [y] := by
  rw [List.set_append_right _ _ (by omega), h]
  rfl
theorem ou_0 {A : List mC} {x : mC} {k : Nat} {c : mC} (h : A[k]? = some c) : (A ++ [x])[k]? = some c := by
  rw [List.getElem?_append_left (List.getElem?_eq_some_iff.mp h).1]
  exact h
theorem mxIS : xIS ∈ mX := List.mem_of_getElem? (i := 0) rfl
theorem mxIA : xIA ∈ mX := List.mem_of_getElem? (i := 1) rfl
theorem mnX : nX ∈ mX := List.mem_of_getElem? (i := 2) rfl
theorem mxIB : xIB ∈ mX := List.mem_of_getElem? (i := 3) rfl
section XC9
variable {M : mM} {Qf : mQ} {pc : Nat} {L rest : List Value} {kc ks : Nat} {w w1 : mW} {K : mM} {E : String} {q ci : Nat} {fs : List Value} {r : vw_C} {pre suf : List (Nat × Nat × Nat × Nat)} {sp ep hp ct : Nat}
theorem xV0 (hl : mLv M K pc 0) (he : w[q]? = some (.inr (ci, fs))) (hc : vwCl[ci]? = some r) (hrc : r.1 = (mMy K).cls) (hst : (rest.map fun v => v.category).sum ≤ 8) (hR : mRm M K kc ks) (hS : EvS K (.ref q :: []) w (.inr E) w1) (hsplit : mMh M = pre ++ (sp, ep, hp, ct) :: suf) (hE : E ∈ mX) (hpre : ∀ q ∈ pre, q.2.2.2 ≠ 0 ∧ ∃ F ∈ mX, E ≠ F ∧ Jvm.Cond.classLink (mMy M).cls q.2.2.2 F ∈ WA) (hx : (decide (sp ≤ pc) && decide (pc < ep)) = true) (h0 : ct ≠ 0) (hl2 : Jvm.Cond.classLink (mMy M).cls ct E ∈ WA) {len i : Nat} {L' : List Value} (hd : (∃ j : Fin 4, (j : Nat) = i ∧ len = 1 ∧ decode (mMc M) hp = .ok (.astore_n j, 1)) ∨ (len = 2 ∧ decode (mMc M) hp = .ok (.astore i, 2))) (hm : (decide (i < mMn M) && mc1 L i) = true) (hL' : L.set i hole = L') (k : EvF M Qf (hp + len) L' [] (kc + (mMR K).cells) (ks + (mMR K).slots) w1) : EvF M Qf pc L (.ref q :: rest) kc ks w := ev_catch (rV (As := []) hl rfl he hc hrc hst hR hS) hsplit hE hpre hx h0 hl2 hd hm hL' k
theorem xV1 {v1 : Value} (hl : mLv M K pc 1) (he : w[q]? = some (.inr (ci, fs))) (hc : vwCl[ci]? = some r) (hrc : r.1 = (mMy K).cls) (hst : (rest.map fun v => v.category).sum ≤ 8) (hR : mRm M K kc ks) (hS : EvS K (.ref q :: [v1]) w (.inr E) w1) (hsplit : mMh M = pre ++ (sp, ep, hp, ct) :: suf) (hE : E ∈ mX) (hpre : ∀ q ∈ pre, q.2.2.2 ≠ 0 ∧ ∃ F ∈ mX, E ≠ F ∧ Jvm.Cond.classLink (mMy M).cls q.2.2.2 F ∈ WA) (hx : (decide (sp ≤ pc) && decide (pc < ep)) = true) (h0 : ct ≠ 0) (hl2 : Jvm.Cond.classLink (mMy M).cls ct E ∈ WA) {len i : Nat} {L' : List Value} (hd : (∃ j : Fin 4, (j : Nat) = i ∧ len = 1 ∧ decode (mMc M) hp = .ok (.astore_n j, 1)) ∨ (len = 2 ∧ decode (mMc M) hp = .ok (.astore i, 2))) (hm : (decide (i < mMn M) && mc1 L i) = true) (hL' : L.set i hole = L') (k : EvF M Qf (hp + len) L' [] (kc + (mMR K).cells) (ks + (mMR K).slots) w1) : EvF M Qf pc L (v1 :: .ref q :: rest) kc ks w := ev_catch (rV (As := [v1]) hl rfl he hc hrc hst hR hS) hsplit hE hpre hx h0 hl2 hd hm hL' k
theorem xV2 {v1 v2 : Value} (hl : mLv M K pc 2) (he : w[q]? = some (.inr (ci, fs))) (hc : vwCl[ci]? = some r) (hrc : r.1 = (mMy K).cls) (hst : (rest.map fun v => v.category).sum ≤ 8) (hR : mRm M K kc ks) (hS : EvS K (.ref q :: [v1, v2]) w (.inr E) w1) (hsplit : mMh M = pre ++ (sp, ep, hp, ct) :: suf) (hE : E ∈ mX) (hpre : ∀ q ∈ pre, q.2.2.2 ≠ 0 ∧ ∃ F ∈ mX, E ≠ F ∧ Jvm.Cond.classLink (mMy M).cls q.2.2.2 F ∈ WA) (hx : (decide (sp ≤ pc) && decide (pc < ep)) = true) (h0 : ct ≠ 0) (hl2 : Jvm.Cond.classLink (mMy M).cls ct E ∈ WA) {len i : Nat} {L' : List Value} (hd : (∃ j : Fin 4, (j : Nat) = i ∧ len = 1 ∧ decode (mMc M) hp = .ok (.astore_n j, 1)) ∨ (len = 2 ∧ decode (mMc M) hp = .ok (.astore i, 2))) (hm : (decide (i < mMn M) && mc1 L i) = true) (hL' : L.set i hole = L') (k : EvF M Qf (hp + len) L' [] (kc + (mMR K).cells) (ks + (mMR K).slots) w1) : EvF M Qf pc L (v2 :: v1 :: .ref q :: rest) kc ks w := ev_catch (rV (As := [v1, v2]) hl rfl he hc hrc hst hR hS) hsplit hE hpre hx h0 hl2 hd hm hL' k
end XC9
theorem w_beginBatch {v : Int32} {A A1 : List mC} {o : Nat → Int64} (hA : wf A) (hA1 : wf A1) (e : EvS m_X3_beginBatch [.ref 0] (A ++ [ouC o]) (.inl (some (.int v))) (A1 ++ [ouC o])) : EvS m_L_beginBatch [.ref 0, .ref 34] (A ++ [ouC o]) (.inl (some (.int 0))) (A1 ++ [ouC (vp_updL o 0 v.toInt64)]) := by
  obtain ⟨h34, ⟨fs, h0⟩, -⟩ := hA
  obtain ⟨g34, -⟩ := hA1
  refine evs_of (by decide +kernel) (Nat.le_of_ble_eq_true rfl) (by decide) rfl rfl ?_
  refine ev_aload_n (pc := 0) dL_beginBatch_0 rfl rfl ?_
  refine ev_iconst (pc := 1) (v := 0) dL_beginBatch_1 (by decide) ?_
  refine ev_aload_n (pc := 2) dL_beginBatch_2 rfl rfl ?_
  refine cV0 (pc := 3) lk_L_beginBatch_3 (ou_0 h0) rfl rfl (Nat.le_of_ble_eq_true rfl) ⟨Nat.le_of_ble_eq_true rfl, Nat.le_of_ble_eq_true rfl⟩ e ?_
  refine ev_i2l (pc := 6) dL_beginBatch_6 ?_
  refine ev_lastN (pc := 7) dL_beginBatch_7 (ou_get g34) ⟨(show _ = nI 0 from rfl), by decide, by decide⟩ rfl (ou_set g34) ?_
  refine ev_goto (pc := 8) (tgt := 14) dL_beginBatch_8 (by decide) ?_
  refine ev_iconst (pc := 14) (v := 0) dL_beginBatch_14 (by decide) ?_
  exact ev_iretE (pc := 15) dL_beginBatch_15 rfl ⟨Nat.le_of_ble_eq_true rfl, Nat.le_of_ble_eq_true rfl⟩ rfl rfl
theorem w_beginBatch_T1 {A A1 : List mC} {o : Nat → Int64} (hA : wf A) (hA1 : wf A1) (e : EvS m_X3_beginBatch [.ref 0] (A ++ [ouC o]) (.inr xIS) (A1 ++ [ouC o])) : EvS m_L_beginBatch [.ref 0, .ref 34] (A ++ [ouC o]) (.inl (some (.int 1))) (A1 ++ [ouC o]) := by
  obtain ⟨h34, ⟨fs, h0⟩, -⟩ := hA
  refine evs_of (by decide +kernel) (Nat.le_of_ble_eq_true rfl) (by decide) rfl rfl ?_
  refine ev_aload_n (pc := 0) dL_beginBatch_0 rfl rfl ?_
  refine ev_iconst (pc := 1) (v := 0) dL_beginBatch_1 (by decide) ?_
  refine ev_aload_n (pc := 2) dL_beginBatch_2 rfl rfl ?_
  refine xV0 (pc := 3) (pre := []) (suf := []) lk_L_beginBatch_3 (ou_0 h0) rfl rfl (by decide) ⟨Nat.le_of_ble_eq_true rfl, Nat.le_of_ble_eq_true rfl⟩ e rfl mxIS (fun q hq => absurd hq List.not_mem_nil) rfl (by decide) (wa_m 265 (by decide +kernel) rfl) (Or.inl ⟨2, rfl, rfl, dL_beginBatch_11⟩) rfl rfl ?_
  refine ev_iconst (pc := 12) (v := 1) dL_beginBatch_12 (by decide) ?_
  exact ev_iretE (pc := 13) dL_beginBatch_13 rfl ⟨Nat.le_of_ble_eq_true rfl, Nat.le_of_ble_eq_true rfl⟩ rfl rfl
theorem w_put {p0 p1 : Int32} {v : Int32} {A A1 : List mC} {o : Nat → Int64} (hA : wf A) (hA1 : wf A1) (hv : v = 0 ∨ v = 1) (e : EvS m_X3_put [.ref 0, .int p0, .int p1] (A ++ [ouC o]) (.inl (some (.int v))) (A1 ++ [ouC o])) : EvS m_L_put [.ref 0, .int p0, .int p1, .ref 34] (A ++ [ouC o]) (.inl (some (.int 0))) (A1 ++ [ouC (vp_updL o 0 v.toInt64)]) := by
  obtain ⟨h34, ⟨fs, h0⟩, -⟩ := hA
  obtain ⟨g34, -⟩ := hA1
  rcases hv with rfl | rfl
  · refine evs_of (by decide +kernel) (Nat.le_of_ble_eq_true rfl) (by decide) rfl rfl ?_
    refine ev_aload_n (pc := 0) dL_put_0 rfl rfl ?_
    refine ev_iconst (pc := 1) (v := 0) dL_put_1 (by decide) ?_
    refine ev_aload_n (pc := 2) dL_put_2 rfl rfl ?_
    refine ev_iload_n (pc := 3) dL_put_3 rfl rfl ?_
    refine ev_iload_n (pc := 4) dL_put_4 rfl rfl ?_
    refine cV2 (pc := 5) lk_L_put_5 (ou_0 h0) rfl rfl (Nat.le_of_ble_eq_true rfl) ⟨Nat.le_of_ble_eq_true rfl, Nat.le_of_ble_eq_true rfl⟩ e ?_
    refine ev_if_eq (pc := 8) (tgt := 15) dL_put_8 (by decide) (fun _ => ?_) (fun c_8 => absurd rfl c_8)
    refine ev_lconst (pc := 15) (v := 0) dL_put_15 (by decide) ?_
    refine ev_lastN (pc := 16) dL_put_16 (ou_get g34) ⟨(show _ = nI 0 from rfl), by decide, by decide⟩ rfl (ou_set g34) ?_
    refine ev_goto (pc := 17) (tgt := 28) dL_put_17 (by decide) ?_
    refine ev_iconst (pc := 28) (v := 0) dL_put_28 (by decide) ?_
    exact ev_iretE (pc := 29) dL_put_29 rfl ⟨Nat.le_of_ble_eq_true rfl, Nat.le_of_ble_eq_true rfl⟩ rfl rfl
  · refine evs_of (by decide +kernel) (Nat.le_of_ble_eq_true rfl) (by decide) rfl rfl ?_
    refine ev_aload_n (pc := 0) dL_put_0 rfl rfl ?_
    refine ev_iconst (pc := 1) (v := 0) dL_put_1 (by decide) ?_
    refine ev_aload_n (pc := 2) dL_put_2 rfl rfl ?_
    refine ev_iload_n (pc := 3) dL_put_3 rfl rfl ?_
    refine ev_iload_n (pc := 4) dL_put_4 rfl rfl ?_
    refine cV2 (pc := 5) lk_L_put_5 (ou_0 h0) rfl rfl (Nat.le_of_ble_eq_true rfl) ⟨Nat.le_of_ble_eq_true rfl, Nat.le_of_ble_eq_true rfl⟩ e ?_
    refine ev_if_eq (pc := 8) (tgt := 15) dL_put_8 (by decide) (fun c_8 => absurd c_8 (by decide)) (fun _ => ?_)
    refine ev_lconst (pc := 11) (v := 1) dL_put_11 (by decide) ?_
    refine ev_goto (pc := 12) (tgt := 16) dL_put_12 (by decide) ?_
    refine ev_lastN (pc := 16) dL_put_16 (ou_get g34) ⟨(show _ = nI 0 from rfl), by decide, by decide⟩ rfl (ou_set g34) ?_
    refine ev_goto (pc := 17) (tgt := 28) dL_put_17 (by decide) ?_
    refine ev_iconst (pc := 28) (v := 0) dL_put_28 (by decide) ?_
    exact ev_iretE (pc := 29) dL_put_29 rfl ⟨Nat.le_of_ble_eq_true rfl, Nat.le_of_ble_eq_true rfl⟩ rfl rfl
theorem w_put_T1 {p0 p1 : Int32} {A A1 : List mC} {o : Nat → Int64} (hA : wf A) (hA1 : wf A1) (e : EvS m_X3_put [.ref 0, .int p0, .int p1] (A ++ [ouC o]) (.inr xIA) (A1 ++ [ouC o])) : EvS m_L_put [.ref 0, .int p0, .int p1, .ref 34] (A ++ [ouC o]) (.inl (some (.int 1))) (A1 ++ [ouC o]) := by
  obtain ⟨h34, ⟨fs, h0⟩, -⟩ := hA
  refine evs_of (by decide +kernel) (Nat.le_of_ble_eq_true rfl) (by decide) rfl rfl ?_
  refine ev_aload_n (pc := 0) dL_put_0 rfl rfl ?_
  refine ev_iconst (pc := 1) (v := 0) dL_put_1 (by decide) ?_
  refine ev_aload_n (pc := 2) dL_put_2 rfl rfl ?_
  refine ev_iload_n (pc := 3) dL_put_3 rfl rfl ?_
  refine ev_iload_n (pc := 4) dL_put_4 rfl rfl ?_
  refine xV2 (pc := 5) (pre := []) (suf := [(0, 17, 24, 13)]) lk_L_put_5 (ou_0 h0) rfl rfl (by decide) ⟨Nat.le_of_ble_eq_true rfl, Nat.le_of_ble_eq_true rfl⟩ e rfl mxIA (fun q hq => absurd hq List.not_mem_nil) rfl (by decide) (wa_m 346 (by decide +kernel) rfl) (Or.inr ⟨rfl, dL_put_20⟩) rfl rfl ?_
  refine ev_iconst (pc := 22) (v := 1) dL_put_22 (by decide) ?_
  exact ev_iretE (pc := 23) dL_put_23 rfl ⟨Nat.le_of_ble_eq_true rfl, Nat.le_of_ble_eq_true rfl⟩ rfl rfl
theorem w_put_T2 {p0 p1 : Int32} {A A1 : List mC} {o : Nat → Int64} (hA : wf A) (hA1 : wf A1) (e : EvS m_X3_put [.ref 0, .int p0, .int p1] (A ++ [ouC o]) (.inr xIS) (A1 ++ [ouC o])) : EvS m_L_put [.ref 0, .int p0, .int p1, .ref 34] (A ++ [ouC o]) (.inl (some (.int 2))) (A1 ++ [ouC o]) := by
  obtain ⟨h34, ⟨fs, h0⟩, -⟩ := hA
  refine evs_of (by decide +kernel) (Nat.le_of_ble_eq_true rfl) (by decide) rfl rfl ?_
  refine ev_aload_n (pc := 0) dL_put_0 rfl rfl ?_
  refine ev_iconst (pc := 1) (v := 0) dL_put_1 (by decide) ?_
  refine ev_aload_n (pc := 2) dL_put_2 rfl rfl ?_
  refine ev_iload_n (pc := 3) dL_put_3 rfl rfl ?_
  refine ev_iload_n (pc := 4) dL_put_4 rfl rfl ?_
  refine xV2 (pc := 5) (pre := [(0, 17, 20, 19)]) (suf := []) lk_L_put_5 (ou_0 h0) rfl rfl (by decide) ⟨Nat.le_of_ble_eq_true rfl, Nat.le_of_ble_eq_true rfl⟩ e rfl mxIS (fun q hq => by rw [List.mem_singleton.mp hq]; exact ⟨by decide, xIA, mxIA, by decide +kernel, wa_m 346 (by decide +kernel) rfl⟩) rfl (by decide) (wa_m 265 (by decide +kernel) rfl) (Or.inr ⟨rfl, dL_put_24⟩) rfl rfl ?_
  refine ev_iconst (pc := 26) (v := 2) dL_put_26 (by decide) ?_
  exact ev_iretE (pc := 27) dL_put_27 rfl ⟨Nat.le_of_ble_eq_true rfl, Nat.le_of_ble_eq_true rfl⟩ rfl rfl
theorem w_delete {p0 : Int32} {v : Int32} {A A1 : List mC} {o : Nat → Int64} (hA : wf A) (hA1 : wf A1) (e : EvS m_X3_delete [.ref 0, .int p0] (A ++ [ouC o]) (.inl (some (.int v))) (A1 ++ [ouC o])) : EvS m_L_delete [.ref 0, .int p0, .ref 34] (A ++ [ouC o]) (.inl (some (.int 0))) (A1 ++ [ouC (vp_updL o 0 v.toInt64)]) := by
  obtain ⟨h34, ⟨fs, h0⟩, -⟩ := hA
  obtain ⟨g34, -⟩ := hA1
  refine evs_of (by decide +kernel) (Nat.le_of_ble_eq_true rfl) (by decide) rfl rfl ?_
  refine ev_aload_n (pc := 0) dL_delete_0 rfl rfl ?_
  refine ev_iconst (pc := 1) (v := 0) dL_delete_1 (by decide) ?_
  refine ev_aload_n (pc := 2) dL_delete_2 rfl rfl ?_
  refine ev_iload_n (pc := 3) dL_delete_3 rfl rfl ?_
  refine cV1 (pc := 4) lk_L_delete_4 (ou_0 h0) rfl rfl (Nat.le_of_ble_eq_true rfl) ⟨Nat.le_of_ble_eq_true rfl, Nat.le_of_ble_eq_true rfl⟩ e ?_
  refine ev_i2l (pc := 7) dL_delete_7 ?_
  refine ev_lastN (pc := 8) dL_delete_8 (ou_get g34) ⟨(show _ = nI 0 from rfl), by decide, by decide⟩ rfl (ou_set g34) ?_
  refine ev_goto (pc := 9) (tgt := 21) dL_delete_9 (by decide) ?_
  refine ev_iconst (pc := 21) (v := 0) dL_delete_21 (by decide) ?_
  exact ev_iretE (pc := 22) dL_delete_22 rfl ⟨Nat.le_of_ble_eq_true rfl, Nat.le_of_ble_eq_true rfl⟩ rfl rfl
theorem w_delete_T1 {p0 : Int32} {A A1 : List mC} {o : Nat → Int64} (hA : wf A) (hA1 : wf A1) (e : EvS m_X3_delete [.ref 0, .int p0] (A ++ [ouC o]) (.inr xIA) (A1 ++ [ouC o])) : EvS m_L_delete [.ref 0, .int p0, .ref 34] (A ++ [ouC o]) (.inl (some (.int 1))) (A1 ++ [ouC o]) := by
  obtain ⟨h34, ⟨fs, h0⟩, -⟩ := hA
  refine evs_of (by decide +kernel) (Nat.le_of_ble_eq_true rfl) (by decide) rfl rfl ?_
  refine ev_aload_n (pc := 0) dL_delete_0 rfl rfl ?_
  refine ev_iconst (pc := 1) (v := 0) dL_delete_1 (by decide) ?_
  refine ev_aload_n (pc := 2) dL_delete_2 rfl rfl ?_
  refine ev_iload_n (pc := 3) dL_delete_3 rfl rfl ?_
  refine xV1 (pc := 4) (pre := []) (suf := [(0, 9, 15, 13), (0, 9, 18, 25)]) lk_L_delete_4 (ou_0 h0) rfl rfl (by decide) ⟨Nat.le_of_ble_eq_true rfl, Nat.le_of_ble_eq_true rfl⟩ e rfl mxIA (fun q hq => absurd hq List.not_mem_nil) rfl (by decide) (wa_m 346 (by decide +kernel) rfl) (Or.inl ⟨3, rfl, rfl, dL_delete_12⟩) rfl rfl ?_
  refine ev_iconst (pc := 13) (v := 1) dL_delete_13 (by decide) ?_
  exact ev_iretE (pc := 14) dL_delete_14 rfl ⟨Nat.le_of_ble_eq_true rfl, Nat.le_of_ble_eq_true rfl⟩ rfl rfl
theorem w_delete_T2 {p0 : Int32} {A A1 : List mC} {o : Nat → Int64} (hA : wf A) (hA1 : wf A1) (e : EvS m_X3_delete [.ref 0, .int p0] (A ++ [ouC o]) (.inr xIS) (A1 ++ [ouC o])) : EvS m_L_delete [.ref 0, .int p0, .ref 34] (A ++ [ouC o]) (.inl (some (.int 2))) (A1 ++ [ouC o]) := by
  obtain ⟨h34, ⟨fs, h0⟩, -⟩ := hA
  refine evs_of (by decide +kernel) (Nat.le_of_ble_eq_true rfl) (by decide) rfl rfl ?_
  refine ev_aload_n (pc := 0) dL_delete_0 rfl rfl ?_
  refine ev_iconst (pc := 1) (v := 0) dL_delete_1 (by decide) ?_
  refine ev_aload_n (pc := 2) dL_delete_2 rfl rfl ?_
  refine ev_iload_n (pc := 3) dL_delete_3 rfl rfl ?_
  refine xV1 (pc := 4) (pre := [(0, 9, 12, 19)]) (suf := [(0, 9, 18, 25)]) lk_L_delete_4 (ou_0 h0) rfl rfl (by decide) ⟨Nat.le_of_ble_eq_true rfl, Nat.le_of_ble_eq_true rfl⟩ e rfl mxIS (fun q hq => by rw [List.mem_singleton.mp hq]; exact ⟨by decide, xIA, mxIA, by decide +kernel, wa_m 346 (by decide +kernel) rfl⟩) rfl (by decide) (wa_m 265 (by decide +kernel) rfl) (Or.inl ⟨3, rfl, rfl, dL_delete_15⟩) rfl rfl ?_
  refine ev_iconst (pc := 16) (v := 2) dL_delete_16 (by decide) ?_
  exact ev_iretE (pc := 17) dL_delete_17 rfl ⟨Nat.le_of_ble_eq_true rfl, Nat.le_of_ble_eq_true rfl⟩ rfl rfl
theorem w_delete_T3 {p0 : Int32} {A A1 : List mC} {o : Nat → Int64} (hA : wf A) (hA1 : wf A1) (e : EvS m_X3_delete [.ref 0, .int p0] (A ++ [ouC o]) (.inr nX) (A1 ++ [ouC o])) : EvS m_L_delete [.ref 0, .int p0, .ref 34] (A ++ [ouC o]) (.inl (some (.int 3))) (A1 ++ [ouC o]) := by
  obtain ⟨h34, ⟨fs, h0⟩, -⟩ := hA
  refine evs_of (by decide +kernel) (Nat.le_of_ble_eq_true rfl) (by decide) rfl rfl ?_
  refine ev_aload_n (pc := 0) dL_delete_0 rfl rfl ?_
  refine ev_iconst (pc := 1) (v := 0) dL_delete_1 (by decide) ?_
  refine ev_aload_n (pc := 2) dL_delete_2 rfl rfl ?_
  refine ev_iload_n (pc := 3) dL_delete_3 rfl rfl ?_
  refine xV1 (pc := 4) (pre := [(0, 9, 12, 19), (0, 9, 15, 13)]) (suf := []) lk_L_delete_4 (ou_0 h0) rfl rfl (by decide) ⟨Nat.le_of_ble_eq_true rfl, Nat.le_of_ble_eq_true rfl⟩ e rfl mnX (fun q hq => by
      rcases List.mem_cons.mp hq with rfl | hq
      · exact ⟨by decide, xIA, mxIA, by decide +kernel, wa_m 346 (by decide +kernel) rfl⟩
      · rw [List.mem_singleton.mp hq]; exact ⟨by decide, xIS, mxIS, by decide +kernel, wa_m 265 (by decide +kernel) rfl⟩) rfl (by decide) (wa_m 455 (by decide +kernel) rfl) (Or.inl ⟨3, rfl, rfl, dL_delete_18⟩) rfl rfl ?_
  refine ev_iconst (pc := 19) (v := 3) dL_delete_19 (by decide) ?_
  exact ev_iretE (pc := 20) dL_delete_20 rfl ⟨Nat.le_of_ble_eq_true rfl, Nat.le_of_ble_eq_true rfl⟩ rfl rfl
theorem w_commit {v : Int32} {A A1 : List mC} {o : Nat → Int64} (hA : wf A) (hA1 : wf A1) (e : EvS m_X3_commit [.ref 0] (A ++ [ouC o]) (.inl (some (.int v))) (A1 ++ [ouC o])) : EvS m_L_commit [.ref 0, .ref 34] (A ++ [ouC o]) (.inl (some (.int 0))) (A1 ++ [ouC (vp_updL o 0 v.toInt64)]) := by
  obtain ⟨h34, ⟨fs, h0⟩, -⟩ := hA
  obtain ⟨g34, -⟩ := hA1
  refine evs_of (by decide +kernel) (Nat.le_of_ble_eq_true rfl) (by decide) rfl rfl ?_
  refine ev_aload_n (pc := 0) dL_commit_0 rfl rfl ?_
  refine ev_iconst (pc := 1) (v := 0) dL_commit_1 (by decide) ?_
  refine ev_aload_n (pc := 2) dL_commit_2 rfl rfl ?_
  refine cV0 (pc := 3) lk_L_commit_3 (ou_0 h0) rfl rfl (Nat.le_of_ble_eq_true rfl) ⟨Nat.le_of_ble_eq_true rfl, Nat.le_of_ble_eq_true rfl⟩ e ?_
  refine ev_i2l (pc := 6) dL_commit_6 ?_
  refine ev_lastN (pc := 7) dL_commit_7 (ou_get g34) ⟨(show _ = nI 0 from rfl), by decide, by decide⟩ rfl (ou_set g34) ?_
  refine ev_goto (pc := 8) (tgt := 14) dL_commit_8 (by decide) ?_
  refine ev_iconst (pc := 14) (v := 0) dL_commit_14 (by decide) ?_
  exact ev_iretE (pc := 15) dL_commit_15 rfl ⟨Nat.le_of_ble_eq_true rfl, Nat.le_of_ble_eq_true rfl⟩ rfl rfl
theorem w_commit_T1 {A A1 : List mC} {o : Nat → Int64} (hA : wf A) (hA1 : wf A1) (e : EvS m_X3_commit [.ref 0] (A ++ [ouC o]) (.inr xIS) (A1 ++ [ouC o])) : EvS m_L_commit [.ref 0, .ref 34] (A ++ [ouC o]) (.inl (some (.int 1))) (A1 ++ [ouC o]) := by
  obtain ⟨h34, ⟨fs, h0⟩, -⟩ := hA
  refine evs_of (by decide +kernel) (Nat.le_of_ble_eq_true rfl) (by decide) rfl rfl ?_
  refine ev_aload_n (pc := 0) dL_commit_0 rfl rfl ?_
  refine ev_iconst (pc := 1) (v := 0) dL_commit_1 (by decide) ?_
  refine ev_aload_n (pc := 2) dL_commit_2 rfl rfl ?_
  refine xV0 (pc := 3) (pre := []) (suf := []) lk_L_commit_3 (ou_0 h0) rfl rfl (by decide) ⟨Nat.le_of_ble_eq_true rfl, Nat.le_of_ble_eq_true rfl⟩ e rfl mxIS (fun q hq => absurd hq List.not_mem_nil) rfl (by decide) (wa_m 265 (by decide +kernel) rfl) (Or.inl ⟨2, rfl, rfl, dL_commit_11⟩) rfl rfl ?_
  refine ev_iconst (pc := 12) (v := 1) dL_commit_12 (by decide) ?_
  exact ev_iretE (pc := 13) dL_commit_13 rfl ⟨Nat.le_of_ble_eq_true rfl, Nat.le_of_ble_eq_true rfl⟩ rfl rfl
theorem w_abandon {v : Int32} {A A1 : List mC} {o : Nat → Int64} (hA : wf A) (hA1 : wf A1) (e : EvS m_X3_abandon [.ref 0] (A ++ [ouC o]) (.inl (some (.int v))) (A1 ++ [ouC o])) : EvS m_L_abandon [.ref 0, .ref 34] (A ++ [ouC o]) (.inl (some (.int 0))) (A1 ++ [ouC (vp_updL o 0 v.toInt64)]) := by
  obtain ⟨h34, ⟨fs, h0⟩, -⟩ := hA
  obtain ⟨g34, -⟩ := hA1
  refine evs_of (by decide +kernel) (Nat.le_of_ble_eq_true rfl) (by decide) rfl rfl ?_
  refine ev_aload_n (pc := 0) dL_abandon_0 rfl rfl ?_
  refine ev_iconst (pc := 1) (v := 0) dL_abandon_1 (by decide) ?_
  refine ev_aload_n (pc := 2) dL_abandon_2 rfl rfl ?_
  refine cV0 (pc := 3) lk_L_abandon_3 (ou_0 h0) rfl rfl (Nat.le_of_ble_eq_true rfl) ⟨Nat.le_of_ble_eq_true rfl, Nat.le_of_ble_eq_true rfl⟩ e ?_
  refine ev_i2l (pc := 6) dL_abandon_6 ?_
  refine ev_lastN (pc := 7) dL_abandon_7 (ou_get g34) ⟨(show _ = nI 0 from rfl), by decide, by decide⟩ rfl (ou_set g34) ?_
  refine ev_goto (pc := 8) (tgt := 14) dL_abandon_8 (by decide) ?_
  refine ev_iconst (pc := 14) (v := 0) dL_abandon_14 (by decide) ?_
  exact ev_iretE (pc := 15) dL_abandon_15 rfl ⟨Nat.le_of_ble_eq_true rfl, Nat.le_of_ble_eq_true rfl⟩ rfl rfl
theorem w_abandon_T1 {A A1 : List mC} {o : Nat → Int64} (hA : wf A) (hA1 : wf A1) (e : EvS m_X3_abandon [.ref 0] (A ++ [ouC o]) (.inr xIS) (A1 ++ [ouC o])) : EvS m_L_abandon [.ref 0, .ref 34] (A ++ [ouC o]) (.inl (some (.int 1))) (A1 ++ [ouC o]) := by
  obtain ⟨h34, ⟨fs, h0⟩, -⟩ := hA
  refine evs_of (by decide +kernel) (Nat.le_of_ble_eq_true rfl) (by decide) rfl rfl ?_
  refine ev_aload_n (pc := 0) dL_abandon_0 rfl rfl ?_
  refine ev_iconst (pc := 1) (v := 0) dL_abandon_1 (by decide) ?_
  refine ev_aload_n (pc := 2) dL_abandon_2 rfl rfl ?_
  refine xV0 (pc := 3) (pre := []) (suf := []) lk_L_abandon_3 (ou_0 h0) rfl rfl (by decide) ⟨Nat.le_of_ble_eq_true rfl, Nat.le_of_ble_eq_true rfl⟩ e rfl mxIS (fun q hq => absurd hq List.not_mem_nil) rfl (by decide) (wa_m 265 (by decide +kernel) rfl) (Or.inl ⟨2, rfl, rfl, dL_abandon_11⟩) rfl rfl ?_
  refine ev_iconst (pc := 12) (v := 1) dL_abandon_12 (by decide) ?_
  exact ev_iretE (pc := 13) dL_abandon_13 rfl ⟨Nat.le_of_ble_eq_true rfl, Nat.le_of_ble_eq_true rfl⟩ rfl rfl
theorem w_openReader {v : Int32} {A A1 : List mC} {o : Nat → Int64} (hA : wf A) (hA1 : wf A1) (e : EvS m_X3_openReader [.ref 0] (A ++ [ouC o]) (.inl (some (.int v))) (A1 ++ [ouC o])) : EvS m_L_openReader [.ref 0, .ref 34] (A ++ [ouC o]) (.inl (some (.int 0))) (A1 ++ [ouC (vp_updL o 0 v.toInt64)]) := by
  obtain ⟨h34, ⟨fs, h0⟩, -⟩ := hA
  obtain ⟨g34, -⟩ := hA1
  refine evs_of (by decide +kernel) (Nat.le_of_ble_eq_true rfl) (by decide) rfl rfl ?_
  refine ev_aload_n (pc := 0) dL_openReader_0 rfl rfl ?_
  refine ev_iconst (pc := 1) (v := 0) dL_openReader_1 (by decide) ?_
  refine ev_aload_n (pc := 2) dL_openReader_2 rfl rfl ?_
  refine cV0 (pc := 3) lk_L_openReader_3 (ou_0 h0) rfl rfl (Nat.le_of_ble_eq_true rfl) ⟨Nat.le_of_ble_eq_true rfl, Nat.le_of_ble_eq_true rfl⟩ e ?_
  refine ev_i2l (pc := 6) dL_openReader_6 ?_
  refine ev_lastN (pc := 7) dL_openReader_7 (ou_get g34) ⟨(show _ = nI 0 from rfl), by decide, by decide⟩ rfl (ou_set g34) ?_
  refine ev_goto (pc := 8) (tgt := 14) dL_openReader_8 (by decide) ?_
  refine ev_iconst (pc := 14) (v := 0) dL_openReader_14 (by decide) ?_
  exact ev_iretE (pc := 15) dL_openReader_15 rfl ⟨Nat.le_of_ble_eq_true rfl, Nat.le_of_ble_eq_true rfl⟩ rfl rfl
theorem w_openReader_T1 {A A1 : List mC} {o : Nat → Int64} (hA : wf A) (hA1 : wf A1) (e : EvS m_X3_openReader [.ref 0] (A ++ [ouC o]) (.inr xIS) (A1 ++ [ouC o])) : EvS m_L_openReader [.ref 0, .ref 34] (A ++ [ouC o]) (.inl (some (.int 1))) (A1 ++ [ouC o]) := by
  obtain ⟨h34, ⟨fs, h0⟩, -⟩ := hA
  refine evs_of (by decide +kernel) (Nat.le_of_ble_eq_true rfl) (by decide) rfl rfl ?_
  refine ev_aload_n (pc := 0) dL_openReader_0 rfl rfl ?_
  refine ev_iconst (pc := 1) (v := 0) dL_openReader_1 (by decide) ?_
  refine ev_aload_n (pc := 2) dL_openReader_2 rfl rfl ?_
  refine xV0 (pc := 3) (pre := []) (suf := []) lk_L_openReader_3 (ou_0 h0) rfl rfl (by decide) ⟨Nat.le_of_ble_eq_true rfl, Nat.le_of_ble_eq_true rfl⟩ e rfl mxIS (fun q hq => absurd hq List.not_mem_nil) rfl (by decide) (wa_m 265 (by decide +kernel) rfl) (Or.inl ⟨2, rfl, rfl, dL_openReader_11⟩) rfl rfl ?_
  refine ev_iconst (pc := 12) (v := 1) dL_openReader_12 (by decide) ?_
  exact ev_iretE (pc := 13) dL_openReader_13 rfl ⟨Nat.le_of_ble_eq_true rfl, Nat.le_of_ble_eq_true rfl⟩ rfl rfl
theorem w_closeReader {p0 : Int32} {v : Int32} {A A1 : List mC} {o : Nat → Int64} (hA : wf A) (hA1 : wf A1) (e : EvS m_X3_closeReader [.ref 0, .int p0] (A ++ [ouC o]) (.inl (some (.int v))) (A1 ++ [ouC o])) : EvS m_L_closeReader [.ref 0, .int p0, .ref 34] (A ++ [ouC o]) (.inl (some (.int 0))) (A1 ++ [ouC (vp_updL o 0 v.toInt64)]) := by
  obtain ⟨h34, ⟨fs, h0⟩, -⟩ := hA
  obtain ⟨g34, -⟩ := hA1
  refine evs_of (by decide +kernel) (Nat.le_of_ble_eq_true rfl) (by decide) rfl rfl ?_
  refine ev_aload_n (pc := 0) dL_closeReader_0 rfl rfl ?_
  refine ev_iconst (pc := 1) (v := 0) dL_closeReader_1 (by decide) ?_
  refine ev_aload_n (pc := 2) dL_closeReader_2 rfl rfl ?_
  refine ev_iload_n (pc := 3) dL_closeReader_3 rfl rfl ?_
  refine cV1 (pc := 4) lk_L_closeReader_4 (ou_0 h0) rfl rfl (Nat.le_of_ble_eq_true rfl) ⟨Nat.le_of_ble_eq_true rfl, Nat.le_of_ble_eq_true rfl⟩ e ?_
  refine ev_i2l (pc := 7) dL_closeReader_7 ?_
  refine ev_lastN (pc := 8) dL_closeReader_8 (ou_get g34) ⟨(show _ = nI 0 from rfl), by decide, by decide⟩ rfl (ou_set g34) ?_
  refine ev_goto (pc := 9) (tgt := 15) dL_closeReader_9 (by decide) ?_
  refine ev_iconst (pc := 15) (v := 0) dL_closeReader_15 (by decide) ?_
  exact ev_iretE (pc := 16) dL_closeReader_16 rfl ⟨Nat.le_of_ble_eq_true rfl, Nat.le_of_ble_eq_true rfl⟩ rfl rfl
theorem w_closeReader_T1 {p0 : Int32} {A A1 : List mC} {o : Nat → Int64} (hA : wf A) (hA1 : wf A1) (e : EvS m_X3_closeReader [.ref 0, .int p0] (A ++ [ouC o]) (.inr xIB) (A1 ++ [ouC o])) : EvS m_L_closeReader [.ref 0, .int p0, .ref 34] (A ++ [ouC o]) (.inl (some (.int 1))) (A1 ++ [ouC o]) := by
  obtain ⟨h34, ⟨fs, h0⟩, -⟩ := hA
  refine evs_of (by decide +kernel) (Nat.le_of_ble_eq_true rfl) (by decide) rfl rfl ?_
  refine ev_aload_n (pc := 0) dL_closeReader_0 rfl rfl ?_
  refine ev_iconst (pc := 1) (v := 0) dL_closeReader_1 (by decide) ?_
  refine ev_aload_n (pc := 2) dL_closeReader_2 rfl rfl ?_
  refine ev_iload_n (pc := 3) dL_closeReader_3 rfl rfl ?_
  refine xV1 (pc := 4) (pre := []) (suf := []) lk_L_closeReader_4 (ou_0 h0) rfl rfl (by decide) ⟨Nat.le_of_ble_eq_true rfl, Nat.le_of_ble_eq_true rfl⟩ e rfl mxIB (fun q hq => absurd hq List.not_mem_nil) rfl (by decide) (wa_m 551 (by decide +kernel) rfl) (Or.inl ⟨3, rfl, rfl, dL_closeReader_12⟩) rfl rfl ?_
  refine ev_iconst (pc := 13) (v := 1) dL_closeReader_13 (by decide) ?_
  exact ev_iretE (pc := 14) dL_closeReader_14 rfl ⟨Nat.le_of_ble_eq_true rfl, Nat.le_of_ble_eq_true rfl⟩ rfl rfl
theorem w_heldBy {p0 : Int32} {v : Int32} {A A1 : List mC} {o : Nat → Int64} (hA : wf A) (hA1 : wf A1) (e : EvS m_X3_heldBy [.ref 0, .int p0] (A ++ [ouC o]) (.inl (some (.int v))) (A1 ++ [ouC o])) : EvS m_L_heldBy [.ref 0, .int p0, .ref 34] (A ++ [ouC o]) (.inl (some (.int 0))) (A1 ++ [ouC (vp_updL o 0 v.toInt64)]) := by
  obtain ⟨h34, ⟨fs, h0⟩, -⟩ := hA
  obtain ⟨g34, -⟩ := hA1
  refine evs_of (by decide +kernel) (Nat.le_of_ble_eq_true rfl) (by decide) rfl rfl ?_
  refine ev_aload_n (pc := 0) dL_heldBy_0 rfl rfl ?_
  refine ev_iconst (pc := 1) (v := 0) dL_heldBy_1 (by decide) ?_
  refine ev_aload_n (pc := 2) dL_heldBy_2 rfl rfl ?_
  refine ev_iload_n (pc := 3) dL_heldBy_3 rfl rfl ?_
  refine cV1 (pc := 4) lk_L_heldBy_4 (ou_0 h0) rfl rfl (Nat.le_of_ble_eq_true rfl) ⟨Nat.le_of_ble_eq_true rfl, Nat.le_of_ble_eq_true rfl⟩ e ?_
  refine ev_i2l (pc := 7) dL_heldBy_7 ?_
  refine ev_lastN (pc := 8) dL_heldBy_8 (ou_get g34) ⟨(show _ = nI 0 from rfl), by decide, by decide⟩ rfl (ou_set g34) ?_
  refine ev_goto (pc := 9) (tgt := 15) dL_heldBy_9 (by decide) ?_
  refine ev_iconst (pc := 15) (v := 0) dL_heldBy_15 (by decide) ?_
  exact ev_iretE (pc := 16) dL_heldBy_16 rfl ⟨Nat.le_of_ble_eq_true rfl, Nat.le_of_ble_eq_true rfl⟩ rfl rfl
theorem w_heldBy_T1 {p0 : Int32} {A A1 : List mC} {o : Nat → Int64} (hA : wf A) (hA1 : wf A1) (e : EvS m_X3_heldBy [.ref 0, .int p0] (A ++ [ouC o]) (.inr xIB) (A1 ++ [ouC o])) : EvS m_L_heldBy [.ref 0, .int p0, .ref 34] (A ++ [ouC o]) (.inl (some (.int 1))) (A1 ++ [ouC o]) := by
  obtain ⟨h34, ⟨fs, h0⟩, -⟩ := hA
  refine evs_of (by decide +kernel) (Nat.le_of_ble_eq_true rfl) (by decide) rfl rfl ?_
  refine ev_aload_n (pc := 0) dL_heldBy_0 rfl rfl ?_
  refine ev_iconst (pc := 1) (v := 0) dL_heldBy_1 (by decide) ?_
  refine ev_aload_n (pc := 2) dL_heldBy_2 rfl rfl ?_
  refine ev_iload_n (pc := 3) dL_heldBy_3 rfl rfl ?_
  refine xV1 (pc := 4) (pre := []) (suf := []) lk_L_heldBy_4 (ou_0 h0) rfl rfl (by decide) ⟨Nat.le_of_ble_eq_true rfl, Nat.le_of_ble_eq_true rfl⟩ e rfl mxIB (fun q hq => absurd hq List.not_mem_nil) rfl (by decide) (wa_m 551 (by decide +kernel) rfl) (Or.inl ⟨3, rfl, rfl, dL_heldBy_12⟩) rfl rfl ?_
  refine ev_iconst (pc := 13) (v := 1) dL_heldBy_13 (by decide) ?_
  exact ev_iretE (pc := 14) dL_heldBy_14 rfl ⟨Nat.le_of_ble_eq_true rfl, Nat.le_of_ble_eq_true rfl⟩ rfl rfl
theorem w_epochOf {p0 : Int32} {v : Int32} {A A1 : List mC} {o : Nat → Int64} (hA : wf A) (hA1 : wf A1) (e : EvS m_X3_epochOf [.ref 0, .int p0] (A ++ [ouC o]) (.inl (some (.int v))) (A1 ++ [ouC o])) : EvS m_L_epochOf [.ref 0, .int p0, .ref 34] (A ++ [ouC o]) (.inl (some (.int 0))) (A1 ++ [ouC (vp_updL o 0 v.toInt64)]) := by
  obtain ⟨h34, ⟨fs, h0⟩, -⟩ := hA
  obtain ⟨g34, -⟩ := hA1
  refine evs_of (by decide +kernel) (Nat.le_of_ble_eq_true rfl) (by decide) rfl rfl ?_
  refine ev_aload_n (pc := 0) dL_epochOf_0 rfl rfl ?_
  refine ev_iconst (pc := 1) (v := 0) dL_epochOf_1 (by decide) ?_
  refine ev_aload_n (pc := 2) dL_epochOf_2 rfl rfl ?_
  refine ev_iload_n (pc := 3) dL_epochOf_3 rfl rfl ?_
  refine cV1 (pc := 4) lk_L_epochOf_4 (ou_0 h0) rfl rfl (Nat.le_of_ble_eq_true rfl) ⟨Nat.le_of_ble_eq_true rfl, Nat.le_of_ble_eq_true rfl⟩ e ?_
  refine ev_i2l (pc := 7) dL_epochOf_7 ?_
  refine ev_lastN (pc := 8) dL_epochOf_8 (ou_get g34) ⟨(show _ = nI 0 from rfl), by decide, by decide⟩ rfl (ou_set g34) ?_
  refine ev_goto (pc := 9) (tgt := 15) dL_epochOf_9 (by decide) ?_
  refine ev_iconst (pc := 15) (v := 0) dL_epochOf_15 (by decide) ?_
  exact ev_iretE (pc := 16) dL_epochOf_16 rfl ⟨Nat.le_of_ble_eq_true rfl, Nat.le_of_ble_eq_true rfl⟩ rfl rfl
theorem w_epochOf_T1 {p0 : Int32} {A A1 : List mC} {o : Nat → Int64} (hA : wf A) (hA1 : wf A1) (e : EvS m_X3_epochOf [.ref 0, .int p0] (A ++ [ouC o]) (.inr xIB) (A1 ++ [ouC o])) : EvS m_L_epochOf [.ref 0, .int p0, .ref 34] (A ++ [ouC o]) (.inl (some (.int 1))) (A1 ++ [ouC o]) := by
  obtain ⟨h34, ⟨fs, h0⟩, -⟩ := hA
  refine evs_of (by decide +kernel) (Nat.le_of_ble_eq_true rfl) (by decide) rfl rfl ?_
  refine ev_aload_n (pc := 0) dL_epochOf_0 rfl rfl ?_
  refine ev_iconst (pc := 1) (v := 0) dL_epochOf_1 (by decide) ?_
  refine ev_aload_n (pc := 2) dL_epochOf_2 rfl rfl ?_
  refine ev_iload_n (pc := 3) dL_epochOf_3 rfl rfl ?_
  refine xV1 (pc := 4) (pre := []) (suf := []) lk_L_epochOf_4 (ou_0 h0) rfl rfl (by decide) ⟨Nat.le_of_ble_eq_true rfl, Nat.le_of_ble_eq_true rfl⟩ e rfl mxIB (fun q hq => absurd hq List.not_mem_nil) rfl (by decide) (wa_m 551 (by decide +kernel) rfl) (Or.inl ⟨3, rfl, rfl, dL_epochOf_12⟩) rfl rfl ?_
  refine ev_iconst (pc := 13) (v := 1) dL_epochOf_13 (by decide) ?_
  exact ev_iretE (pc := 14) dL_epochOf_14 rfl ⟨Nat.le_of_ble_eq_true rfl, Nat.le_of_ble_eq_true rfl⟩ rfl rfl
theorem w_get {p0 p1 : Int32} {v : Int32} {A A1 : List mC} {o : Nat → Int64} (hA : wf A) (hA1 : wf A1) (e : EvS m_X3_get [.ref 0, .int p0, .int p1] (A ++ [ouC o]) (.inl (some (.int v))) (A1 ++ [ouC o])) : EvS m_L_get [.ref 0, .int p0, .int p1, .ref 34] (A ++ [ouC o]) (.inl (some (.int 0))) (A1 ++ [ouC (vp_updL o 0 v.toInt64)]) := by
  obtain ⟨h34, ⟨fs, h0⟩, -⟩ := hA
  obtain ⟨g34, -⟩ := hA1
  refine evs_of (by decide +kernel) (Nat.le_of_ble_eq_true rfl) (by decide) rfl rfl ?_
  refine ev_aload_n (pc := 0) dL_get_0 rfl rfl ?_
  refine ev_iconst (pc := 1) (v := 0) dL_get_1 (by decide) ?_
  refine ev_aload_n (pc := 2) dL_get_2 rfl rfl ?_
  refine ev_iload_n (pc := 3) dL_get_3 rfl rfl ?_
  refine ev_iload_n (pc := 4) dL_get_4 rfl rfl ?_
  refine cV2 (pc := 5) lk_L_get_5 (ou_0 h0) rfl rfl (Nat.le_of_ble_eq_true rfl) ⟨Nat.le_of_ble_eq_true rfl, Nat.le_of_ble_eq_true rfl⟩ e ?_
  refine ev_i2l (pc := 8) dL_get_8 ?_
  refine ev_lastN (pc := 9) dL_get_9 (ou_get g34) ⟨(show _ = nI 0 from rfl), by decide, by decide⟩ rfl (ou_set g34) ?_
  refine ev_goto (pc := 10) (tgt := 25) dL_get_10 (by decide) ?_
  refine ev_iconst (pc := 25) (v := 0) dL_get_25 (by decide) ?_
  exact ev_iretE (pc := 26) dL_get_26 rfl ⟨Nat.le_of_ble_eq_true rfl, Nat.le_of_ble_eq_true rfl⟩ rfl rfl
theorem w_get_T1 {p0 p1 : Int32} {A A1 : List mC} {o : Nat → Int64} (hA : wf A) (hA1 : wf A1) (e : EvS m_X3_get [.ref 0, .int p0, .int p1] (A ++ [ouC o]) (.inr xIB) (A1 ++ [ouC o])) : EvS m_L_get [.ref 0, .int p0, .int p1, .ref 34] (A ++ [ouC o]) (.inl (some (.int 1))) (A1 ++ [ouC o]) := by
  obtain ⟨h34, ⟨fs, h0⟩, -⟩ := hA
  refine evs_of (by decide +kernel) (Nat.le_of_ble_eq_true rfl) (by decide) rfl rfl ?_
  refine ev_aload_n (pc := 0) dL_get_0 rfl rfl ?_
  refine ev_iconst (pc := 1) (v := 0) dL_get_1 (by decide) ?_
  refine ev_aload_n (pc := 2) dL_get_2 rfl rfl ?_
  refine ev_iload_n (pc := 3) dL_get_3 rfl rfl ?_
  refine ev_iload_n (pc := 4) dL_get_4 rfl rfl ?_
  refine xV2 (pc := 5) (pre := []) (suf := [(0, 10, 17, 19), (0, 10, 21, 25)]) lk_L_get_5 (ou_0 h0) rfl rfl (by decide) ⟨Nat.le_of_ble_eq_true rfl, Nat.le_of_ble_eq_true rfl⟩ e rfl mxIB (fun q hq => absurd hq List.not_mem_nil) rfl (by decide) (wa_m 551 (by decide +kernel) rfl) (Or.inr ⟨rfl, dL_get_13⟩) rfl rfl ?_
  refine ev_iconst (pc := 15) (v := 1) dL_get_15 (by decide) ?_
  exact ev_iretE (pc := 16) dL_get_16 rfl ⟨Nat.le_of_ble_eq_true rfl, Nat.le_of_ble_eq_true rfl⟩ rfl rfl
theorem w_get_T2 {p0 p1 : Int32} {A A1 : List mC} {o : Nat → Int64} (hA : wf A) (hA1 : wf A1) (e : EvS m_X3_get [.ref 0, .int p0, .int p1] (A ++ [ouC o]) (.inr xIA) (A1 ++ [ouC o])) : EvS m_L_get [.ref 0, .int p0, .int p1, .ref 34] (A ++ [ouC o]) (.inl (some (.int 2))) (A1 ++ [ouC o]) := by
  obtain ⟨h34, ⟨fs, h0⟩, -⟩ := hA
  refine evs_of (by decide +kernel) (Nat.le_of_ble_eq_true rfl) (by decide) rfl rfl ?_
  refine ev_aload_n (pc := 0) dL_get_0 rfl rfl ?_
  refine ev_iconst (pc := 1) (v := 0) dL_get_1 (by decide) ?_
  refine ev_aload_n (pc := 2) dL_get_2 rfl rfl ?_
  refine ev_iload_n (pc := 3) dL_get_3 rfl rfl ?_
  refine ev_iload_n (pc := 4) dL_get_4 rfl rfl ?_
  refine xV2 (pc := 5) (pre := [(0, 10, 13, 39)]) (suf := [(0, 10, 21, 25)]) lk_L_get_5 (ou_0 h0) rfl rfl (by decide) ⟨Nat.le_of_ble_eq_true rfl, Nat.le_of_ble_eq_true rfl⟩ e rfl mxIA (fun q hq => by rw [List.mem_singleton.mp hq]; exact ⟨by decide, xIB, mxIB, by decide +kernel, wa_m 551 (by decide +kernel) rfl⟩) rfl (by decide) (wa_m 346 (by decide +kernel) rfl) (Or.inr ⟨rfl, dL_get_17⟩) rfl rfl ?_
  refine ev_iconst (pc := 19) (v := 2) dL_get_19 (by decide) ?_
  exact ev_iretE (pc := 20) dL_get_20 rfl ⟨Nat.le_of_ble_eq_true rfl, Nat.le_of_ble_eq_true rfl⟩ rfl rfl
theorem w_get_T3 {p0 p1 : Int32} {A A1 : List mC} {o : Nat → Int64} (hA : wf A) (hA1 : wf A1) (e : EvS m_X3_get [.ref 0, .int p0, .int p1] (A ++ [ouC o]) (.inr nX) (A1 ++ [ouC o])) : EvS m_L_get [.ref 0, .int p0, .int p1, .ref 34] (A ++ [ouC o]) (.inl (some (.int 3))) (A1 ++ [ouC o]) := by
  obtain ⟨h34, ⟨fs, h0⟩, -⟩ := hA
  refine evs_of (by decide +kernel) (Nat.le_of_ble_eq_true rfl) (by decide) rfl rfl ?_
  refine ev_aload_n (pc := 0) dL_get_0 rfl rfl ?_
  refine ev_iconst (pc := 1) (v := 0) dL_get_1 (by decide) ?_
  refine ev_aload_n (pc := 2) dL_get_2 rfl rfl ?_
  refine ev_iload_n (pc := 3) dL_get_3 rfl rfl ?_
  refine ev_iload_n (pc := 4) dL_get_4 rfl rfl ?_
  refine xV2 (pc := 5) (pre := [(0, 10, 13, 39), (0, 10, 17, 19)]) (suf := []) lk_L_get_5 (ou_0 h0) rfl rfl (by decide) ⟨Nat.le_of_ble_eq_true rfl, Nat.le_of_ble_eq_true rfl⟩ e rfl mnX (fun q hq => by
      rcases List.mem_cons.mp hq with rfl | hq
      · exact ⟨by decide, xIB, mxIB, by decide +kernel, wa_m 551 (by decide +kernel) rfl⟩
      · rw [List.mem_singleton.mp hq]; exact ⟨by decide, xIA, mxIA, by decide +kernel, wa_m 346 (by decide +kernel) rfl⟩) rfl (by decide) (wa_m 455 (by decide +kernel) rfl) (Or.inr ⟨rfl, dL_get_21⟩) rfl rfl ?_
  refine ev_iconst (pc := 23) (v := 3) dL_get_23 (by decide) ?_
  exact ev_iretE (pc := 24) dL_get_24 rfl ⟨Nat.le_of_ble_eq_true rfl, Nat.le_of_ble_eq_true rfl⟩ rfl rfl
theorem w_next {p0 p1 : Int32} {v : Int32} {A A1 : List mC} {o : Nat → Int64} (hA : wf A) (hA1 : wf A1) (e : EvS m_X3_next [.ref 0, .int p0, .int p1] (A ++ [ouC o]) (.inl (some (.int v))) (A1 ++ [ouC o])) : EvS m_L_next [.ref 0, .int p0, .int p1, .ref 34] (A ++ [ouC o]) (.inl (some (.int 0))) (A1 ++ [ouC (vp_updL o 0 v.toInt64)]) := by
  obtain ⟨h34, ⟨fs, h0⟩, -⟩ := hA
  obtain ⟨g34, -⟩ := hA1
  refine evs_of (by decide +kernel) (Nat.le_of_ble_eq_true rfl) (by decide) rfl rfl ?_
  refine ev_aload_n (pc := 0) dL_next_0 rfl rfl ?_
  refine ev_iconst (pc := 1) (v := 0) dL_next_1 (by decide) ?_
  refine ev_aload_n (pc := 2) dL_next_2 rfl rfl ?_
  refine ev_iload_n (pc := 3) dL_next_3 rfl rfl ?_
  refine ev_iload_n (pc := 4) dL_next_4 rfl rfl ?_
  refine cV2 (pc := 5) lk_L_next_5 (ou_0 h0) rfl rfl (Nat.le_of_ble_eq_true rfl) ⟨Nat.le_of_ble_eq_true rfl, Nat.le_of_ble_eq_true rfl⟩ e ?_
  refine ev_i2l (pc := 8) dL_next_8 ?_
  refine ev_lastN (pc := 9) dL_next_9 (ou_get g34) ⟨(show _ = nI 0 from rfl), by decide, by decide⟩ rfl (ou_set g34) ?_
  refine ev_goto (pc := 10) (tgt := 17) dL_next_10 (by decide) ?_
  refine ev_iconst (pc := 17) (v := 0) dL_next_17 (by decide) ?_
  exact ev_iretE (pc := 18) dL_next_18 rfl ⟨Nat.le_of_ble_eq_true rfl, Nat.le_of_ble_eq_true rfl⟩ rfl rfl
theorem w_next_T1 {p0 p1 : Int32} {A A1 : List mC} {o : Nat → Int64} (hA : wf A) (hA1 : wf A1) (e : EvS m_X3_next [.ref 0, .int p0, .int p1] (A ++ [ouC o]) (.inr xIB) (A1 ++ [ouC o])) : EvS m_L_next [.ref 0, .int p0, .int p1, .ref 34] (A ++ [ouC o]) (.inl (some (.int 1))) (A1 ++ [ouC o]) := by
  obtain ⟨h34, ⟨fs, h0⟩, -⟩ := hA
  refine evs_of (by decide +kernel) (Nat.le_of_ble_eq_true rfl) (by decide) rfl rfl ?_
  refine ev_aload_n (pc := 0) dL_next_0 rfl rfl ?_
  refine ev_iconst (pc := 1) (v := 0) dL_next_1 (by decide) ?_
  refine ev_aload_n (pc := 2) dL_next_2 rfl rfl ?_
  refine ev_iload_n (pc := 3) dL_next_3 rfl rfl ?_
  refine ev_iload_n (pc := 4) dL_next_4 rfl rfl ?_
  refine xV2 (pc := 5) (pre := []) (suf := []) lk_L_next_5 (ou_0 h0) rfl rfl (by decide) ⟨Nat.le_of_ble_eq_true rfl, Nat.le_of_ble_eq_true rfl⟩ e rfl mxIB (fun q hq => absurd hq List.not_mem_nil) rfl (by decide) (wa_m 551 (by decide +kernel) rfl) (Or.inr ⟨rfl, dL_next_13⟩) rfl rfl ?_
  refine ev_iconst (pc := 15) (v := 1) dL_next_15 (by decide) ?_
  exact ev_iretE (pc := 16) dL_next_16 rfl ⟨Nat.le_of_ble_eq_true rfl, Nat.le_of_ble_eq_true rfl⟩ rfl rfl
theorem w_rank {p0 p1 : Int32} {v : Int32} {A A1 : List mC} {o : Nat → Int64} (hA : wf A) (hA1 : wf A1) (e : EvS m_X3_rank [.ref 0, .int p0, .int p1] (A ++ [ouC o]) (.inl (some (.int v))) (A1 ++ [ouC o])) : EvS m_L_rank [.ref 0, .int p0, .int p1, .ref 34] (A ++ [ouC o]) (.inl (some (.int 0))) (A1 ++ [ouC (vp_updL o 0 v.toInt64)]) := by
  obtain ⟨h34, ⟨fs, h0⟩, -⟩ := hA
  obtain ⟨g34, -⟩ := hA1
  refine evs_of (by decide +kernel) (Nat.le_of_ble_eq_true rfl) (by decide) rfl rfl ?_
  refine ev_aload_n (pc := 0) dL_rank_0 rfl rfl ?_
  refine ev_iconst (pc := 1) (v := 0) dL_rank_1 (by decide) ?_
  refine ev_aload_n (pc := 2) dL_rank_2 rfl rfl ?_
  refine ev_iload_n (pc := 3) dL_rank_3 rfl rfl ?_
  refine ev_iload_n (pc := 4) dL_rank_4 rfl rfl ?_
  refine cV2 (pc := 5) lk_L_rank_5 (ou_0 h0) rfl rfl (Nat.le_of_ble_eq_true rfl) ⟨Nat.le_of_ble_eq_true rfl, Nat.le_of_ble_eq_true rfl⟩ e ?_
  refine ev_i2l (pc := 8) dL_rank_8 ?_
  refine ev_lastN (pc := 9) dL_rank_9 (ou_get g34) ⟨(show _ = nI 0 from rfl), by decide, by decide⟩ rfl (ou_set g34) ?_
  refine ev_goto (pc := 10) (tgt := 17) dL_rank_10 (by decide) ?_
  refine ev_iconst (pc := 17) (v := 0) dL_rank_17 (by decide) ?_
  exact ev_iretE (pc := 18) dL_rank_18 rfl ⟨Nat.le_of_ble_eq_true rfl, Nat.le_of_ble_eq_true rfl⟩ rfl rfl
theorem w_rank_T1 {p0 p1 : Int32} {A A1 : List mC} {o : Nat → Int64} (hA : wf A) (hA1 : wf A1) (e : EvS m_X3_rank [.ref 0, .int p0, .int p1] (A ++ [ouC o]) (.inr xIB) (A1 ++ [ouC o])) : EvS m_L_rank [.ref 0, .int p0, .int p1, .ref 34] (A ++ [ouC o]) (.inl (some (.int 1))) (A1 ++ [ouC o]) := by
  obtain ⟨h34, ⟨fs, h0⟩, -⟩ := hA
  refine evs_of (by decide +kernel) (Nat.le_of_ble_eq_true rfl) (by decide) rfl rfl ?_
  refine ev_aload_n (pc := 0) dL_rank_0 rfl rfl ?_
  refine ev_iconst (pc := 1) (v := 0) dL_rank_1 (by decide) ?_
  refine ev_aload_n (pc := 2) dL_rank_2 rfl rfl ?_
  refine ev_iload_n (pc := 3) dL_rank_3 rfl rfl ?_
  refine ev_iload_n (pc := 4) dL_rank_4 rfl rfl ?_
  refine xV2 (pc := 5) (pre := []) (suf := []) lk_L_rank_5 (ou_0 h0) rfl rfl (by decide) ⟨Nat.le_of_ble_eq_true rfl, Nat.le_of_ble_eq_true rfl⟩ e rfl mxIB (fun q hq => absurd hq List.not_mem_nil) rfl (by decide) (wa_m 551 (by decide +kernel) rfl) (Or.inr ⟨rfl, dL_rank_13⟩) rfl rfl ?_
  refine ev_iconst (pc := 15) (v := 1) dL_rank_15 (by decide) ?_
  exact ev_iretE (pc := 16) dL_rank_16 rfl ⟨Nat.le_of_ble_eq_true rfl, Nat.le_of_ble_eq_true rfl⟩ rfl rfl
theorem w_size {p0 : Int32} {v : Int32} {A A1 : List mC} {o : Nat → Int64} (hA : wf A) (hA1 : wf A1) (e : EvS m_X3_size [.ref 0, .int p0] (A ++ [ouC o]) (.inl (some (.int v))) (A1 ++ [ouC o])) : EvS m_L_size [.ref 0, .int p0, .ref 34] (A ++ [ouC o]) (.inl (some (.int 0))) (A1 ++ [ouC (vp_updL o 0 v.toInt64)]) := by
  obtain ⟨h34, ⟨fs, h0⟩, -⟩ := hA
  obtain ⟨g34, -⟩ := hA1
  refine evs_of (by decide +kernel) (Nat.le_of_ble_eq_true rfl) (by decide) rfl rfl ?_
  refine ev_aload_n (pc := 0) dL_size_0 rfl rfl ?_
  refine ev_iconst (pc := 1) (v := 0) dL_size_1 (by decide) ?_
  refine ev_aload_n (pc := 2) dL_size_2 rfl rfl ?_
  refine ev_iload_n (pc := 3) dL_size_3 rfl rfl ?_
  refine cV1 (pc := 4) lk_L_size_4 (ou_0 h0) rfl rfl (Nat.le_of_ble_eq_true rfl) ⟨Nat.le_of_ble_eq_true rfl, Nat.le_of_ble_eq_true rfl⟩ e ?_
  refine ev_i2l (pc := 7) dL_size_7 ?_
  refine ev_lastN (pc := 8) dL_size_8 (ou_get g34) ⟨(show _ = nI 0 from rfl), by decide, by decide⟩ rfl (ou_set g34) ?_
  refine ev_goto (pc := 9) (tgt := 15) dL_size_9 (by decide) ?_
  refine ev_iconst (pc := 15) (v := 0) dL_size_15 (by decide) ?_
  exact ev_iretE (pc := 16) dL_size_16 rfl ⟨Nat.le_of_ble_eq_true rfl, Nat.le_of_ble_eq_true rfl⟩ rfl rfl
theorem w_size_T1 {p0 : Int32} {A A1 : List mC} {o : Nat → Int64} (hA : wf A) (hA1 : wf A1) (e : EvS m_X3_size [.ref 0, .int p0] (A ++ [ouC o]) (.inr xIB) (A1 ++ [ouC o])) : EvS m_L_size [.ref 0, .int p0, .ref 34] (A ++ [ouC o]) (.inl (some (.int 1))) (A1 ++ [ouC o]) := by
  obtain ⟨h34, ⟨fs, h0⟩, -⟩ := hA
  refine evs_of (by decide +kernel) (Nat.le_of_ble_eq_true rfl) (by decide) rfl rfl ?_
  refine ev_aload_n (pc := 0) dL_size_0 rfl rfl ?_
  refine ev_iconst (pc := 1) (v := 0) dL_size_1 (by decide) ?_
  refine ev_aload_n (pc := 2) dL_size_2 rfl rfl ?_
  refine ev_iload_n (pc := 3) dL_size_3 rfl rfl ?_
  refine xV1 (pc := 4) (pre := []) (suf := []) lk_L_size_4 (ou_0 h0) rfl rfl (by decide) ⟨Nat.le_of_ble_eq_true rfl, Nat.le_of_ble_eq_true rfl⟩ e rfl mxIB (fun q hq => absurd hq List.not_mem_nil) rfl (by decide) (wa_m 551 (by decide +kernel) rfl) (Or.inl ⟨3, rfl, rfl, dL_size_12⟩) rfl rfl ?_
  refine ev_iconst (pc := 13) (v := 1) dL_size_13 (by decide) ?_
  exact ev_iretE (pc := 14) dL_size_14 rfl ⟨Nat.le_of_ble_eq_true rfl, Nat.le_of_ble_eq_true rfl⟩ rfl rfl
theorem w_depth {p0 : Int32} {v : Int32} {A A1 : List mC} {o : Nat → Int64} (hA : wf A) (hA1 : wf A1) (e : EvS m_X3_depth [.ref 0, .int p0] (A ++ [ouC o]) (.inl (some (.int v))) (A1 ++ [ouC o])) : EvS m_L_depth [.ref 0, .int p0, .ref 34] (A ++ [ouC o]) (.inl (some (.int 0))) (A1 ++ [ouC (vp_updL o 0 v.toInt64)]) := by
  obtain ⟨h34, ⟨fs, h0⟩, -⟩ := hA
  obtain ⟨g34, -⟩ := hA1
  refine evs_of (by decide +kernel) (Nat.le_of_ble_eq_true rfl) (by decide) rfl rfl ?_
  refine ev_aload_n (pc := 0) dL_depth_0 rfl rfl ?_
  refine ev_iconst (pc := 1) (v := 0) dL_depth_1 (by decide) ?_
  refine ev_aload_n (pc := 2) dL_depth_2 rfl rfl ?_
  refine ev_iload_n (pc := 3) dL_depth_3 rfl rfl ?_
  refine cV1 (pc := 4) lk_L_depth_4 (ou_0 h0) rfl rfl (Nat.le_of_ble_eq_true rfl) ⟨Nat.le_of_ble_eq_true rfl, Nat.le_of_ble_eq_true rfl⟩ e ?_
  refine ev_i2l (pc := 7) dL_depth_7 ?_
  refine ev_lastN (pc := 8) dL_depth_8 (ou_get g34) ⟨(show _ = nI 0 from rfl), by decide, by decide⟩ rfl (ou_set g34) ?_
  refine ev_goto (pc := 9) (tgt := 15) dL_depth_9 (by decide) ?_
  refine ev_iconst (pc := 15) (v := 0) dL_depth_15 (by decide) ?_
  exact ev_iretE (pc := 16) dL_depth_16 rfl ⟨Nat.le_of_ble_eq_true rfl, Nat.le_of_ble_eq_true rfl⟩ rfl rfl
theorem w_depth_T1 {p0 : Int32} {A A1 : List mC} {o : Nat → Int64} (hA : wf A) (hA1 : wf A1) (e : EvS m_X3_depth [.ref 0, .int p0] (A ++ [ouC o]) (.inr xIB) (A1 ++ [ouC o])) : EvS m_L_depth [.ref 0, .int p0, .ref 34] (A ++ [ouC o]) (.inl (some (.int 1))) (A1 ++ [ouC o]) := by
  obtain ⟨h34, ⟨fs, h0⟩, -⟩ := hA
  refine evs_of (by decide +kernel) (Nat.le_of_ble_eq_true rfl) (by decide) rfl rfl ?_
  refine ev_aload_n (pc := 0) dL_depth_0 rfl rfl ?_
  refine ev_iconst (pc := 1) (v := 0) dL_depth_1 (by decide) ?_
  refine ev_aload_n (pc := 2) dL_depth_2 rfl rfl ?_
  refine ev_iload_n (pc := 3) dL_depth_3 rfl rfl ?_
  refine xV1 (pc := 4) (pre := []) (suf := []) lk_L_depth_4 (ou_0 h0) rfl rfl (by decide) ⟨Nat.le_of_ble_eq_true rfl, Nat.le_of_ble_eq_true rfl⟩ e rfl mxIB (fun q hq => absurd hq List.not_mem_nil) rfl (by decide) (wa_m 551 (by decide +kernel) rfl) (Or.inl ⟨3, rfl, rfl, dL_depth_12⟩) rfl rfl ?_
  refine ev_iconst (pc := 13) (v := 1) dL_depth_13 (by decide) ?_
  exact ev_iretE (pc := 14) dL_depth_14 rfl ⟨Nat.le_of_ble_eq_true rfl, Nat.le_of_ble_eq_true rfl⟩ rfl rfl
theorem w_rootOf {p0 : Int32} {v : Int32} {A A1 : List mC} {o : Nat → Int64} (hA : wf A) (hA1 : wf A1) (e : EvS m_X3_rootOf [.ref 0, .int p0] (A ++ [ouC o]) (.inl (some (.int v))) (A1 ++ [ouC o])) : EvS m_L_rootOf [.ref 0, .int p0, .ref 34] (A ++ [ouC o]) (.inl (some (.int 0))) (A1 ++ [ouC (vp_updL o 0 v.toInt64)]) := by
  obtain ⟨h34, ⟨fs, h0⟩, -⟩ := hA
  obtain ⟨g34, -⟩ := hA1
  refine evs_of (by decide +kernel) (Nat.le_of_ble_eq_true rfl) (by decide) rfl rfl ?_
  refine ev_aload_n (pc := 0) dL_rootOf_0 rfl rfl ?_
  refine ev_iconst (pc := 1) (v := 0) dL_rootOf_1 (by decide) ?_
  refine ev_aload_n (pc := 2) dL_rootOf_2 rfl rfl ?_
  refine ev_iload_n (pc := 3) dL_rootOf_3 rfl rfl ?_
  refine cV1 (pc := 4) lk_L_rootOf_4 (ou_0 h0) rfl rfl (Nat.le_of_ble_eq_true rfl) ⟨Nat.le_of_ble_eq_true rfl, Nat.le_of_ble_eq_true rfl⟩ e ?_
  refine ev_i2l (pc := 7) dL_rootOf_7 ?_
  refine ev_lastN (pc := 8) dL_rootOf_8 (ou_get g34) ⟨(show _ = nI 0 from rfl), by decide, by decide⟩ rfl (ou_set g34) ?_
  refine ev_goto (pc := 9) (tgt := 15) dL_rootOf_9 (by decide) ?_
  refine ev_iconst (pc := 15) (v := 0) dL_rootOf_15 (by decide) ?_
  exact ev_iretE (pc := 16) dL_rootOf_16 rfl ⟨Nat.le_of_ble_eq_true rfl, Nat.le_of_ble_eq_true rfl⟩ rfl rfl
theorem w_rootOf_T1 {p0 : Int32} {A A1 : List mC} {o : Nat → Int64} (hA : wf A) (hA1 : wf A1) (e : EvS m_X3_rootOf [.ref 0, .int p0] (A ++ [ouC o]) (.inr xIB) (A1 ++ [ouC o])) : EvS m_L_rootOf [.ref 0, .int p0, .ref 34] (A ++ [ouC o]) (.inl (some (.int 1))) (A1 ++ [ouC o]) := by
  obtain ⟨h34, ⟨fs, h0⟩, -⟩ := hA
  refine evs_of (by decide +kernel) (Nat.le_of_ble_eq_true rfl) (by decide) rfl rfl ?_
  refine ev_aload_n (pc := 0) dL_rootOf_0 rfl rfl ?_
  refine ev_iconst (pc := 1) (v := 0) dL_rootOf_1 (by decide) ?_
  refine ev_aload_n (pc := 2) dL_rootOf_2 rfl rfl ?_
  refine ev_iload_n (pc := 3) dL_rootOf_3 rfl rfl ?_
  refine xV1 (pc := 4) (pre := []) (suf := []) lk_L_rootOf_4 (ou_0 h0) rfl rfl (by decide) ⟨Nat.le_of_ble_eq_true rfl, Nat.le_of_ble_eq_true rfl⟩ e rfl mxIB (fun q hq => absurd hq List.not_mem_nil) rfl (by decide) (wa_m 551 (by decide +kernel) rfl) (Or.inl ⟨3, rfl, rfl, dL_rootOf_12⟩) rfl rfl ?_
  refine ev_iconst (pc := 13) (v := 1) dL_rootOf_13 (by decide) ?_
  exact ev_iretE (pc := 14) dL_rootOf_14 rfl ⟨Nat.le_of_ble_eq_true rfl, Nat.le_of_ble_eq_true rfl⟩ rfl rfl
theorem w_sharedPages {p0 p1 : Int32} {v : Int32} {A A1 : List mC} {o : Nat → Int64} (hA : wf A) (hA1 : wf A1) (e : EvS m_X3_sharedPages [.ref 0, .int p0, .int p1] (A ++ [ouC o]) (.inl (some (.int v))) (A1 ++ [ouC o])) : EvS m_L_sharedPages [.ref 0, .int p0, .int p1, .ref 34] (A ++ [ouC o]) (.inl (some (.int 0))) (A1 ++ [ouC (vp_updL o 0 v.toInt64)]) := by
  obtain ⟨h34, ⟨fs, h0⟩, -⟩ := hA
  obtain ⟨g34, -⟩ := hA1
  refine evs_of (by decide +kernel) (Nat.le_of_ble_eq_true rfl) (by decide) rfl rfl ?_
  refine ev_aload_n (pc := 0) dL_sharedPages_0 rfl rfl ?_
  refine ev_iconst (pc := 1) (v := 0) dL_sharedPages_1 (by decide) ?_
  refine ev_aload_n (pc := 2) dL_sharedPages_2 rfl rfl ?_
  refine ev_iload_n (pc := 3) dL_sharedPages_3 rfl rfl ?_
  refine ev_iload_n (pc := 4) dL_sharedPages_4 rfl rfl ?_
  refine cV2 (pc := 5) lk_L_sharedPages_5 (ou_0 h0) rfl rfl (Nat.le_of_ble_eq_true rfl) ⟨Nat.le_of_ble_eq_true rfl, Nat.le_of_ble_eq_true rfl⟩ e ?_
  refine ev_i2l (pc := 8) dL_sharedPages_8 ?_
  refine ev_lastN (pc := 9) dL_sharedPages_9 (ou_get g34) ⟨(show _ = nI 0 from rfl), by decide, by decide⟩ rfl (ou_set g34) ?_
  refine ev_goto (pc := 10) (tgt := 17) dL_sharedPages_10 (by decide) ?_
  refine ev_iconst (pc := 17) (v := 0) dL_sharedPages_17 (by decide) ?_
  exact ev_iretE (pc := 18) dL_sharedPages_18 rfl ⟨Nat.le_of_ble_eq_true rfl, Nat.le_of_ble_eq_true rfl⟩ rfl rfl
theorem w_sharedPages_T1 {p0 p1 : Int32} {A A1 : List mC} {o : Nat → Int64} (hA : wf A) (hA1 : wf A1) (e : EvS m_X3_sharedPages [.ref 0, .int p0, .int p1] (A ++ [ouC o]) (.inr xIB) (A1 ++ [ouC o])) : EvS m_L_sharedPages [.ref 0, .int p0, .int p1, .ref 34] (A ++ [ouC o]) (.inl (some (.int 1))) (A1 ++ [ouC o]) := by
  obtain ⟨h34, ⟨fs, h0⟩, -⟩ := hA
  refine evs_of (by decide +kernel) (Nat.le_of_ble_eq_true rfl) (by decide) rfl rfl ?_
  refine ev_aload_n (pc := 0) dL_sharedPages_0 rfl rfl ?_
  refine ev_iconst (pc := 1) (v := 0) dL_sharedPages_1 (by decide) ?_
  refine ev_aload_n (pc := 2) dL_sharedPages_2 rfl rfl ?_
  refine ev_iload_n (pc := 3) dL_sharedPages_3 rfl rfl ?_
  refine ev_iload_n (pc := 4) dL_sharedPages_4 rfl rfl ?_
  refine xV2 (pc := 5) (pre := []) (suf := []) lk_L_sharedPages_5 (ou_0 h0) rfl rfl (by decide) ⟨Nat.le_of_ble_eq_true rfl, Nat.le_of_ble_eq_true rfl⟩ e rfl mxIB (fun q hq => absurd hq List.not_mem_nil) rfl (by decide) (wa_m 551 (by decide +kernel) rfl) (Or.inr ⟨rfl, dL_sharedPages_13⟩) rfl rfl ?_
  refine ev_iconst (pc := 15) (v := 1) dL_sharedPages_15 (by decide) ?_
  exact ev_iretE (pc := 16) dL_sharedPages_16 rfl ⟨Nat.le_of_ble_eq_true rfl, Nat.le_of_ble_eq_true rfl⟩ rfl rfl
theorem w_isFree {p0 : Int32} {v : Int32} {A A1 : List mC} {o : Nat → Int64} (hA : wf A) (hA1 : wf A1) (hv : v = 0 ∨ v = 1) (e : EvS m_X3_isFree [.ref 0, .int p0] (A ++ [ouC o]) (.inl (some (.int v))) (A1 ++ [ouC o])) : EvS m_L_isFree [.ref 0, .int p0, .ref 34] (A ++ [ouC o]) (.inl (some (.int 0))) (A1 ++ [ouC (vp_updL o 0 v.toInt64)]) := by
  obtain ⟨h34, ⟨fs, h0⟩, -⟩ := hA
  obtain ⟨g34, -⟩ := hA1
  rcases hv with rfl | rfl
  · refine evs_of (by decide +kernel) (Nat.le_of_ble_eq_true rfl) (by decide) rfl rfl ?_
    refine ev_aload_n (pc := 0) dL_isFree_0 rfl rfl ?_
    refine ev_iconst (pc := 1) (v := 0) dL_isFree_1 (by decide) ?_
    refine ev_aload_n (pc := 2) dL_isFree_2 rfl rfl ?_
    refine ev_iload_n (pc := 3) dL_isFree_3 rfl rfl ?_
    refine cV1 (pc := 4) lk_L_isFree_4 (ou_0 h0) rfl rfl (Nat.le_of_ble_eq_true rfl) ⟨Nat.le_of_ble_eq_true rfl, Nat.le_of_ble_eq_true rfl⟩ e ?_
    refine ev_if_eq (pc := 7) (tgt := 14) dL_isFree_7 (by decide) (fun _ => ?_) (fun c_7 => absurd rfl c_7)
    refine ev_lconst (pc := 14) (v := 0) dL_isFree_14 (by decide) ?_
    refine ev_lastN (pc := 15) dL_isFree_15 (ou_get g34) ⟨(show _ = nI 0 from rfl), by decide, by decide⟩ rfl (ou_set g34) ?_
    refine ev_goto (pc := 16) (tgt := 22) dL_isFree_16 (by decide) ?_
    refine ev_iconst (pc := 22) (v := 0) dL_isFree_22 (by decide) ?_
    exact ev_iretE (pc := 23) dL_isFree_23 rfl ⟨Nat.le_of_ble_eq_true rfl, Nat.le_of_ble_eq_true rfl⟩ rfl rfl
  · refine evs_of (by decide +kernel) (Nat.le_of_ble_eq_true rfl) (by decide) rfl rfl ?_
    refine ev_aload_n (pc := 0) dL_isFree_0 rfl rfl ?_
    refine ev_iconst (pc := 1) (v := 0) dL_isFree_1 (by decide) ?_
    refine ev_aload_n (pc := 2) dL_isFree_2 rfl rfl ?_
    refine ev_iload_n (pc := 3) dL_isFree_3 rfl rfl ?_
    refine cV1 (pc := 4) lk_L_isFree_4 (ou_0 h0) rfl rfl (Nat.le_of_ble_eq_true rfl) ⟨Nat.le_of_ble_eq_true rfl, Nat.le_of_ble_eq_true rfl⟩ e ?_
    refine ev_if_eq (pc := 7) (tgt := 14) dL_isFree_7 (by decide) (fun c_7 => absurd c_7 (by decide)) (fun _ => ?_)
    refine ev_lconst (pc := 10) (v := 1) dL_isFree_10 (by decide) ?_
    refine ev_goto (pc := 11) (tgt := 15) dL_isFree_11 (by decide) ?_
    refine ev_lastN (pc := 15) dL_isFree_15 (ou_get g34) ⟨(show _ = nI 0 from rfl), by decide, by decide⟩ rfl (ou_set g34) ?_
    refine ev_goto (pc := 16) (tgt := 22) dL_isFree_16 (by decide) ?_
    refine ev_iconst (pc := 22) (v := 0) dL_isFree_22 (by decide) ?_
    exact ev_iretE (pc := 23) dL_isFree_23 rfl ⟨Nat.le_of_ble_eq_true rfl, Nat.le_of_ble_eq_true rfl⟩ rfl rfl
theorem w_isFree_T1 {p0 : Int32} {A A1 : List mC} {o : Nat → Int64} (hA : wf A) (hA1 : wf A1) (e : EvS m_X3_isFree [.ref 0, .int p0] (A ++ [ouC o]) (.inr xIB) (A1 ++ [ouC o])) : EvS m_L_isFree [.ref 0, .int p0, .ref 34] (A ++ [ouC o]) (.inl (some (.int 1))) (A1 ++ [ouC o]) := by
  obtain ⟨h34, ⟨fs, h0⟩, -⟩ := hA
  refine evs_of (by decide +kernel) (Nat.le_of_ble_eq_true rfl) (by decide) rfl rfl ?_
  refine ev_aload_n (pc := 0) dL_isFree_0 rfl rfl ?_
  refine ev_iconst (pc := 1) (v := 0) dL_isFree_1 (by decide) ?_
  refine ev_aload_n (pc := 2) dL_isFree_2 rfl rfl ?_
  refine ev_iload_n (pc := 3) dL_isFree_3 rfl rfl ?_
  refine xV1 (pc := 4) (pre := []) (suf := []) lk_L_isFree_4 (ou_0 h0) rfl rfl (by decide) ⟨Nat.le_of_ble_eq_true rfl, Nat.le_of_ble_eq_true rfl⟩ e rfl mxIB (fun q hq => absurd hq List.not_mem_nil) rfl (by decide) (wa_m 551 (by decide +kernel) rfl) (Or.inl ⟨3, rfl, rfl, dL_isFree_19⟩) rfl rfl ?_
  refine ev_iconst (pc := 20) (v := 1) dL_isFree_20 (by decide) ?_
  exact ev_iretE (pc := 21) dL_isFree_21 rfl ⟨Nat.le_of_ble_eq_true rfl, Nat.le_of_ble_eq_true rfl⟩ rfl rfl
theorem w_entries {p0 : Int32} {v : Int32} {A A1 : List mC} {o : Nat → Int64} (hA : wf A) (hA1 : wf A1) (e : EvS m_X3_entries [.ref 0, .int p0] (A ++ [ouC o]) (.inl (some (.int v))) (A1 ++ [ouC o])) : EvS m_L_entries [.ref 0, .int p0, .ref 34] (A ++ [ouC o]) (.inl (some (.int 0))) (A1 ++ [ouC (vp_updL o 0 v.toInt64)]) := by
  obtain ⟨h34, ⟨fs, h0⟩, -⟩ := hA
  obtain ⟨g34, -⟩ := hA1
  refine evs_of (by decide +kernel) (Nat.le_of_ble_eq_true rfl) (by decide) rfl rfl ?_
  refine ev_aload_n (pc := 0) dL_entries_0 rfl rfl ?_
  refine ev_iconst (pc := 1) (v := 0) dL_entries_1 (by decide) ?_
  refine ev_aload_n (pc := 2) dL_entries_2 rfl rfl ?_
  refine ev_iload_n (pc := 3) dL_entries_3 rfl rfl ?_
  refine cV1 (pc := 4) lk_L_entries_4 (ou_0 h0) rfl rfl (Nat.le_of_ble_eq_true rfl) ⟨Nat.le_of_ble_eq_true rfl, Nat.le_of_ble_eq_true rfl⟩ e ?_
  refine ev_i2l (pc := 7) dL_entries_7 ?_
  refine ev_lastN (pc := 8) dL_entries_8 (ou_get g34) ⟨(show _ = nI 0 from rfl), by decide, by decide⟩ rfl (ou_set g34) ?_
  refine ev_goto (pc := 9) (tgt := 15) dL_entries_9 (by decide) ?_
  refine ev_iconst (pc := 15) (v := 0) dL_entries_15 (by decide) ?_
  exact ev_iretE (pc := 16) dL_entries_16 rfl ⟨Nat.le_of_ble_eq_true rfl, Nat.le_of_ble_eq_true rfl⟩ rfl rfl
theorem w_entries_T1 {p0 : Int32} {A A1 : List mC} {o : Nat → Int64} (hA : wf A) (hA1 : wf A1) (e : EvS m_X3_entries [.ref 0, .int p0] (A ++ [ouC o]) (.inr xIB) (A1 ++ [ouC o])) : EvS m_L_entries [.ref 0, .int p0, .ref 34] (A ++ [ouC o]) (.inl (some (.int 1))) (A1 ++ [ouC o]) := by
  obtain ⟨h34, ⟨fs, h0⟩, -⟩ := hA
  refine evs_of (by decide +kernel) (Nat.le_of_ble_eq_true rfl) (by decide) rfl rfl ?_
  refine ev_aload_n (pc := 0) dL_entries_0 rfl rfl ?_
  refine ev_iconst (pc := 1) (v := 0) dL_entries_1 (by decide) ?_
  refine ev_aload_n (pc := 2) dL_entries_2 rfl rfl ?_
  refine ev_iload_n (pc := 3) dL_entries_3 rfl rfl ?_
  refine xV1 (pc := 4) (pre := []) (suf := []) lk_L_entries_4 (ou_0 h0) rfl rfl (by decide) ⟨Nat.le_of_ble_eq_true rfl, Nat.le_of_ble_eq_true rfl⟩ e rfl mxIB (fun q hq => absurd hq List.not_mem_nil) rfl (by decide) (wa_m 551 (by decide +kernel) rfl) (Or.inl ⟨3, rfl, rfl, dL_entries_12⟩) rfl rfl ?_
  refine ev_iconst (pc := 13) (v := 1) dL_entries_13 (by decide) ?_
  exact ev_iretE (pc := 14) dL_entries_14 rfl ⟨Nat.le_of_ble_eq_true rfl, Nat.le_of_ble_eq_true rfl⟩ rfl rfl
theorem w_keyAt {p0 p1 : Int32} {v : Int32} {A A1 : List mC} {o : Nat → Int64} (hA : wf A) (hA1 : wf A1) (e : EvS m_X3_keyAt [.ref 0, .int p0, .int p1] (A ++ [ouC o]) (.inl (some (.int v))) (A1 ++ [ouC o])) : EvS m_L_keyAt [.ref 0, .int p0, .int p1, .ref 34] (A ++ [ouC o]) (.inl (some (.int 0))) (A1 ++ [ouC (vp_updL o 0 v.toInt64)]) := by
  obtain ⟨h34, ⟨fs, h0⟩, -⟩ := hA
  obtain ⟨g34, -⟩ := hA1
  refine evs_of (by decide +kernel) (Nat.le_of_ble_eq_true rfl) (by decide) rfl rfl ?_
  refine ev_aload_n (pc := 0) dL_keyAt_0 rfl rfl ?_
  refine ev_iconst (pc := 1) (v := 0) dL_keyAt_1 (by decide) ?_
  refine ev_aload_n (pc := 2) dL_keyAt_2 rfl rfl ?_
  refine ev_iload_n (pc := 3) dL_keyAt_3 rfl rfl ?_
  refine ev_iload_n (pc := 4) dL_keyAt_4 rfl rfl ?_
  refine cV2 (pc := 5) lk_L_keyAt_5 (ou_0 h0) rfl rfl (Nat.le_of_ble_eq_true rfl) ⟨Nat.le_of_ble_eq_true rfl, Nat.le_of_ble_eq_true rfl⟩ e ?_
  refine ev_i2l (pc := 8) dL_keyAt_8 ?_
  refine ev_lastN (pc := 9) dL_keyAt_9 (ou_get g34) ⟨(show _ = nI 0 from rfl), by decide, by decide⟩ rfl (ou_set g34) ?_
  refine ev_goto (pc := 10) (tgt := 17) dL_keyAt_10 (by decide) ?_
  refine ev_iconst (pc := 17) (v := 0) dL_keyAt_17 (by decide) ?_
  exact ev_iretE (pc := 18) dL_keyAt_18 rfl ⟨Nat.le_of_ble_eq_true rfl, Nat.le_of_ble_eq_true rfl⟩ rfl rfl
theorem w_keyAt_T1 {p0 p1 : Int32} {A A1 : List mC} {o : Nat → Int64} (hA : wf A) (hA1 : wf A1) (e : EvS m_X3_keyAt [.ref 0, .int p0, .int p1] (A ++ [ouC o]) (.inr xIB) (A1 ++ [ouC o])) : EvS m_L_keyAt [.ref 0, .int p0, .int p1, .ref 34] (A ++ [ouC o]) (.inl (some (.int 1))) (A1 ++ [ouC o]) := by
  obtain ⟨h34, ⟨fs, h0⟩, -⟩ := hA
  refine evs_of (by decide +kernel) (Nat.le_of_ble_eq_true rfl) (by decide) rfl rfl ?_
  refine ev_aload_n (pc := 0) dL_keyAt_0 rfl rfl ?_
  refine ev_iconst (pc := 1) (v := 0) dL_keyAt_1 (by decide) ?_
  refine ev_aload_n (pc := 2) dL_keyAt_2 rfl rfl ?_
  refine ev_iload_n (pc := 3) dL_keyAt_3 rfl rfl ?_
  refine ev_iload_n (pc := 4) dL_keyAt_4 rfl rfl ?_
  refine xV2 (pc := 5) (pre := []) (suf := []) lk_L_keyAt_5 (ou_0 h0) rfl rfl (by decide) ⟨Nat.le_of_ble_eq_true rfl, Nat.le_of_ble_eq_true rfl⟩ e rfl mxIB (fun q hq => absurd hq List.not_mem_nil) rfl (by decide) (wa_m 551 (by decide +kernel) rfl) (Or.inr ⟨rfl, dL_keyAt_13⟩) rfl rfl ?_
  refine ev_iconst (pc := 15) (v := 1) dL_keyAt_15 (by decide) ?_
  exact ev_iretE (pc := 16) dL_keyAt_16 rfl ⟨Nat.le_of_ble_eq_true rfl, Nat.le_of_ble_eq_true rfl⟩ rfl rfl
theorem w_pageAt {p0 p1 : Int32} {v : Int32} {A A1 : List mC} {o : Nat → Int64} (hA : wf A) (hA1 : wf A1) (e : EvS m_X3_pageAt [.ref 0, .int p0, .int p1] (A ++ [ouC o]) (.inl (some (.int v))) (A1 ++ [ouC o])) : EvS m_L_pageAt [.ref 0, .int p0, .int p1, .ref 34] (A ++ [ouC o]) (.inl (some (.int 0))) (A1 ++ [ouC (vp_updL o 0 v.toInt64)]) := by
  obtain ⟨h34, ⟨fs, h0⟩, -⟩ := hA
  obtain ⟨g34, -⟩ := hA1
  refine evs_of (by decide +kernel) (Nat.le_of_ble_eq_true rfl) (by decide) rfl rfl ?_
  refine ev_aload_n (pc := 0) dL_pageAt_0 rfl rfl ?_
  refine ev_iconst (pc := 1) (v := 0) dL_pageAt_1 (by decide) ?_
  refine ev_aload_n (pc := 2) dL_pageAt_2 rfl rfl ?_
  refine ev_iload_n (pc := 3) dL_pageAt_3 rfl rfl ?_
  refine ev_iload_n (pc := 4) dL_pageAt_4 rfl rfl ?_
  refine cV2 (pc := 5) lk_L_pageAt_5 (ou_0 h0) rfl rfl (Nat.le_of_ble_eq_true rfl) ⟨Nat.le_of_ble_eq_true rfl, Nat.le_of_ble_eq_true rfl⟩ e ?_
  refine ev_i2l (pc := 8) dL_pageAt_8 ?_
  refine ev_lastN (pc := 9) dL_pageAt_9 (ou_get g34) ⟨(show _ = nI 0 from rfl), by decide, by decide⟩ rfl (ou_set g34) ?_
  refine ev_goto (pc := 10) (tgt := 17) dL_pageAt_10 (by decide) ?_
  refine ev_iconst (pc := 17) (v := 0) dL_pageAt_17 (by decide) ?_
  exact ev_iretE (pc := 18) dL_pageAt_18 rfl ⟨Nat.le_of_ble_eq_true rfl, Nat.le_of_ble_eq_true rfl⟩ rfl rfl
theorem w_pageAt_T1 {p0 p1 : Int32} {A A1 : List mC} {o : Nat → Int64} (hA : wf A) (hA1 : wf A1) (e : EvS m_X3_pageAt [.ref 0, .int p0, .int p1] (A ++ [ouC o]) (.inr xIB) (A1 ++ [ouC o])) : EvS m_L_pageAt [.ref 0, .int p0, .int p1, .ref 34] (A ++ [ouC o]) (.inl (some (.int 1))) (A1 ++ [ouC o]) := by
  obtain ⟨h34, ⟨fs, h0⟩, -⟩ := hA
  refine evs_of (by decide +kernel) (Nat.le_of_ble_eq_true rfl) (by decide) rfl rfl ?_
  refine ev_aload_n (pc := 0) dL_pageAt_0 rfl rfl ?_
  refine ev_iconst (pc := 1) (v := 0) dL_pageAt_1 (by decide) ?_
  refine ev_aload_n (pc := 2) dL_pageAt_2 rfl rfl ?_
  refine ev_iload_n (pc := 3) dL_pageAt_3 rfl rfl ?_
  refine ev_iload_n (pc := 4) dL_pageAt_4 rfl rfl ?_
  refine xV2 (pc := 5) (pre := []) (suf := []) lk_L_pageAt_5 (ou_0 h0) rfl rfl (by decide) ⟨Nat.le_of_ble_eq_true rfl, Nat.le_of_ble_eq_true rfl⟩ e rfl mxIB (fun q hq => absurd hq List.not_mem_nil) rfl (by decide) (wa_m 551 (by decide +kernel) rfl) (Or.inr ⟨rfl, dL_pageAt_13⟩) rfl rfl ?_
  refine ev_iconst (pc := 15) (v := 1) dL_pageAt_15 (by decide) ?_
  exact ev_iretE (pc := 16) dL_pageAt_16 rfl ⟨Nat.le_of_ble_eq_true rfl, Nat.le_of_ble_eq_true rfl⟩ rfl rfl
theorem w_slotWord {p0 p1 : Int32} {v : Int64} {A A1 : List mC} {o : Nat → Int64} (hA : wf A) (hA1 : wf A1) (e : EvS m_X3_slotWord [.ref 0, .int p0, .int p1] (A ++ [ouC o]) (.inl (some (.long v))) (A1 ++ [ouC o])) : EvS m_L_slotWord [.ref 0, .int p0, .int p1, .ref 34] (A ++ [ouC o]) (.inl (some (.int 0))) (A1 ++ [ouC (vp_updL o 0 v)]) := by
  obtain ⟨h34, ⟨fs, h0⟩, -⟩ := hA
  obtain ⟨g34, -⟩ := hA1
  refine evs_of (by decide +kernel) (Nat.le_of_ble_eq_true rfl) (by decide) rfl rfl ?_
  refine ev_aload_n (pc := 0) dL_slotWord_0 rfl rfl ?_
  refine ev_iconst (pc := 1) (v := 0) dL_slotWord_1 (by decide) ?_
  refine ev_aload_n (pc := 2) dL_slotWord_2 rfl rfl ?_
  refine ev_iload_n (pc := 3) dL_slotWord_3 rfl rfl ?_
  refine ev_iload_n (pc := 4) dL_slotWord_4 rfl rfl ?_
  refine cV2 (pc := 5) lk_L_slotWord_5 (ou_0 h0) rfl rfl (Nat.le_of_ble_eq_true rfl) ⟨Nat.le_of_ble_eq_true rfl, Nat.le_of_ble_eq_true rfl⟩ e ?_
  refine ev_lastN (pc := 8) dL_slotWord_8 (ou_get g34) ⟨(show _ = nI 0 from rfl), by decide, by decide⟩ rfl (ou_set g34) ?_
  refine ev_goto (pc := 9) (tgt := 16) dL_slotWord_9 (by decide) ?_
  refine ev_iconst (pc := 16) (v := 0) dL_slotWord_16 (by decide) ?_
  exact ev_iretE (pc := 17) dL_slotWord_17 rfl ⟨Nat.le_of_ble_eq_true rfl, Nat.le_of_ble_eq_true rfl⟩ rfl rfl
theorem w_slotWord_T1 {p0 p1 : Int32} {A A1 : List mC} {o : Nat → Int64} (hA : wf A) (hA1 : wf A1) (e : EvS m_X3_slotWord [.ref 0, .int p0, .int p1] (A ++ [ouC o]) (.inr xIB) (A1 ++ [ouC o])) : EvS m_L_slotWord [.ref 0, .int p0, .int p1, .ref 34] (A ++ [ouC o]) (.inl (some (.int 1))) (A1 ++ [ouC o]) := by
  obtain ⟨h34, ⟨fs, h0⟩, -⟩ := hA
  refine evs_of (by decide +kernel) (Nat.le_of_ble_eq_true rfl) (by decide) rfl rfl ?_
  refine ev_aload_n (pc := 0) dL_slotWord_0 rfl rfl ?_
  refine ev_iconst (pc := 1) (v := 0) dL_slotWord_1 (by decide) ?_
  refine ev_aload_n (pc := 2) dL_slotWord_2 rfl rfl ?_
  refine ev_iload_n (pc := 3) dL_slotWord_3 rfl rfl ?_
  refine ev_iload_n (pc := 4) dL_slotWord_4 rfl rfl ?_
  refine xV2 (pc := 5) (pre := []) (suf := []) lk_L_slotWord_5 (ou_0 h0) rfl rfl (by decide) ⟨Nat.le_of_ble_eq_true rfl, Nat.le_of_ble_eq_true rfl⟩ e rfl mxIB (fun q hq => absurd hq List.not_mem_nil) rfl (by decide) (wa_m 551 (by decide +kernel) rfl) (Or.inr ⟨rfl, dL_slotWord_12⟩) rfl rfl ?_
  refine ev_iconst (pc := 14) (v := 1) dL_slotWord_14 (by decide) ?_
  exact ev_iretE (pc := 15) dL_slotWord_15 rfl ⟨Nat.le_of_ble_eq_true rfl, Nat.le_of_ble_eq_true rfl⟩ rfl rfl
theorem w_isWhole {p0 : Int32} {v : Int32} {A A1 : List mC} {o : Nat → Int64} (hA : wf A) (hA1 : wf A1) (hv : v = 0 ∨ v = 1) (e : EvS m_X3_isWhole [.ref 0, .int p0] (A ++ [ouC o]) (.inl (some (.int v))) (A1 ++ [ouC o])) : EvS m_L_isWhole [.ref 0, .int p0, .ref 34] (A ++ [ouC o]) (.inl (some (.int 0))) (A1 ++ [ouC (vp_updL o 0 v.toInt64)]) := by
  obtain ⟨h34, ⟨fs, h0⟩, -⟩ := hA
  obtain ⟨g34, -⟩ := hA1
  rcases hv with rfl | rfl
  · refine evs_of (by decide +kernel) (Nat.le_of_ble_eq_true rfl) (by decide) rfl rfl ?_
    refine ev_aload_n (pc := 0) dL_isWhole_0 rfl rfl ?_
    refine ev_iconst (pc := 1) (v := 0) dL_isWhole_1 (by decide) ?_
    refine ev_aload_n (pc := 2) dL_isWhole_2 rfl rfl ?_
    refine ev_iload_n (pc := 3) dL_isWhole_3 rfl rfl ?_
    refine cV1 (pc := 4) lk_L_isWhole_4 (ou_0 h0) rfl rfl (Nat.le_of_ble_eq_true rfl) ⟨Nat.le_of_ble_eq_true rfl, Nat.le_of_ble_eq_true rfl⟩ e ?_
    refine ev_if_eq (pc := 7) (tgt := 14) dL_isWhole_7 (by decide) (fun _ => ?_) (fun c_7 => absurd rfl c_7)
    refine ev_lconst (pc := 14) (v := 0) dL_isWhole_14 (by decide) ?_
    refine ev_lastN (pc := 15) dL_isWhole_15 (ou_get g34) ⟨(show _ = nI 0 from rfl), by decide, by decide⟩ rfl (ou_set g34) ?_
    refine ev_goto (pc := 16) (tgt := 22) dL_isWhole_16 (by decide) ?_
    refine ev_iconst (pc := 22) (v := 0) dL_isWhole_22 (by decide) ?_
    exact ev_iretE (pc := 23) dL_isWhole_23 rfl ⟨Nat.le_of_ble_eq_true rfl, Nat.le_of_ble_eq_true rfl⟩ rfl rfl
  · refine evs_of (by decide +kernel) (Nat.le_of_ble_eq_true rfl) (by decide) rfl rfl ?_
    refine ev_aload_n (pc := 0) dL_isWhole_0 rfl rfl ?_
    refine ev_iconst (pc := 1) (v := 0) dL_isWhole_1 (by decide) ?_
    refine ev_aload_n (pc := 2) dL_isWhole_2 rfl rfl ?_
    refine ev_iload_n (pc := 3) dL_isWhole_3 rfl rfl ?_
    refine cV1 (pc := 4) lk_L_isWhole_4 (ou_0 h0) rfl rfl (Nat.le_of_ble_eq_true rfl) ⟨Nat.le_of_ble_eq_true rfl, Nat.le_of_ble_eq_true rfl⟩ e ?_
    refine ev_if_eq (pc := 7) (tgt := 14) dL_isWhole_7 (by decide) (fun c_7 => absurd c_7 (by decide)) (fun _ => ?_)
    refine ev_lconst (pc := 10) (v := 1) dL_isWhole_10 (by decide) ?_
    refine ev_goto (pc := 11) (tgt := 15) dL_isWhole_11 (by decide) ?_
    refine ev_lastN (pc := 15) dL_isWhole_15 (ou_get g34) ⟨(show _ = nI 0 from rfl), by decide, by decide⟩ rfl (ou_set g34) ?_
    refine ev_goto (pc := 16) (tgt := 22) dL_isWhole_16 (by decide) ?_
    refine ev_iconst (pc := 22) (v := 0) dL_isWhole_22 (by decide) ?_
    exact ev_iretE (pc := 23) dL_isWhole_23 rfl ⟨Nat.le_of_ble_eq_true rfl, Nat.le_of_ble_eq_true rfl⟩ rfl rfl
theorem w_isWhole_T1 {p0 : Int32} {A A1 : List mC} {o : Nat → Int64} (hA : wf A) (hA1 : wf A1) (e : EvS m_X3_isWhole [.ref 0, .int p0] (A ++ [ouC o]) (.inr xIB) (A1 ++ [ouC o])) : EvS m_L_isWhole [.ref 0, .int p0, .ref 34] (A ++ [ouC o]) (.inl (some (.int 1))) (A1 ++ [ouC o]) := by
  obtain ⟨h34, ⟨fs, h0⟩, -⟩ := hA
  refine evs_of (by decide +kernel) (Nat.le_of_ble_eq_true rfl) (by decide) rfl rfl ?_
  refine ev_aload_n (pc := 0) dL_isWhole_0 rfl rfl ?_
  refine ev_iconst (pc := 1) (v := 0) dL_isWhole_1 (by decide) ?_
  refine ev_aload_n (pc := 2) dL_isWhole_2 rfl rfl ?_
  refine ev_iload_n (pc := 3) dL_isWhole_3 rfl rfl ?_
  refine xV1 (pc := 4) (pre := []) (suf := []) lk_L_isWhole_4 (ou_0 h0) rfl rfl (by decide) ⟨Nat.le_of_ble_eq_true rfl, Nat.le_of_ble_eq_true rfl⟩ e rfl mxIB (fun q hq => absurd hq List.not_mem_nil) rfl (by decide) (wa_m 551 (by decide +kernel) rfl) (Or.inl ⟨3, rfl, rfl, dL_isWhole_19⟩) rfl rfl ?_
  refine ev_iconst (pc := 20) (v := 1) dL_isWhole_20 (by decide) ?_
  exact ev_iretE (pc := 21) dL_isWhole_21 rfl ⟨Nat.le_of_ble_eq_true rfl, Nat.le_of_ble_eq_true rfl⟩ rfl rfl
theorem w_tear {p0 : Int32} {v : Int32} {A A1 : List mC} {o : Nat → Int64} (hA : wf A) (hA1 : wf A1) (e : EvS m_X3_tear [.ref 0, .int p0] (A ++ [ouC o]) (.inl (some (.int v))) (A1 ++ [ouC o])) : EvS m_L_tear [.ref 0, .int p0, .ref 34] (A ++ [ouC o]) (.inl (some (.int 0))) (A1 ++ [ouC (vp_updL o 0 v.toInt64)]) := by
  obtain ⟨h34, ⟨fs, h0⟩, -⟩ := hA
  obtain ⟨g34, -⟩ := hA1
  refine evs_of (by decide +kernel) (Nat.le_of_ble_eq_true rfl) (by decide) rfl rfl ?_
  refine ev_aload_n (pc := 0) dL_tear_0 rfl rfl ?_
  refine ev_iconst (pc := 1) (v := 0) dL_tear_1 (by decide) ?_
  refine ev_aload_n (pc := 2) dL_tear_2 rfl rfl ?_
  refine ev_iload_n (pc := 3) dL_tear_3 rfl rfl ?_
  refine cV1 (pc := 4) lk_L_tear_4 (ou_0 h0) rfl rfl (Nat.le_of_ble_eq_true rfl) ⟨Nat.le_of_ble_eq_true rfl, Nat.le_of_ble_eq_true rfl⟩ e ?_
  refine ev_i2l (pc := 7) dL_tear_7 ?_
  refine ev_lastN (pc := 8) dL_tear_8 (ou_get g34) ⟨(show _ = nI 0 from rfl), by decide, by decide⟩ rfl (ou_set g34) ?_
  refine ev_goto (pc := 9) (tgt := 18) dL_tear_9 (by decide) ?_
  refine ev_iconst (pc := 18) (v := 0) dL_tear_18 (by decide) ?_
  exact ev_iretE (pc := 19) dL_tear_19 rfl ⟨Nat.le_of_ble_eq_true rfl, Nat.le_of_ble_eq_true rfl⟩ rfl rfl
theorem w_tear_T1 {p0 : Int32} {A A1 : List mC} {o : Nat → Int64} (hA : wf A) (hA1 : wf A1) (e : EvS m_X3_tear [.ref 0, .int p0] (A ++ [ouC o]) (.inr xIB) (A1 ++ [ouC o])) : EvS m_L_tear [.ref 0, .int p0, .ref 34] (A ++ [ouC o]) (.inl (some (.int 1))) (A1 ++ [ouC o]) := by
  obtain ⟨h34, ⟨fs, h0⟩, -⟩ := hA
  refine evs_of (by decide +kernel) (Nat.le_of_ble_eq_true rfl) (by decide) rfl rfl ?_
  refine ev_aload_n (pc := 0) dL_tear_0 rfl rfl ?_
  refine ev_iconst (pc := 1) (v := 0) dL_tear_1 (by decide) ?_
  refine ev_aload_n (pc := 2) dL_tear_2 rfl rfl ?_
  refine ev_iload_n (pc := 3) dL_tear_3 rfl rfl ?_
  refine xV1 (pc := 4) (pre := []) (suf := [(0, 9, 15, 13)]) lk_L_tear_4 (ou_0 h0) rfl rfl (by decide) ⟨Nat.le_of_ble_eq_true rfl, Nat.le_of_ble_eq_true rfl⟩ e rfl mxIB (fun q hq => absurd hq List.not_mem_nil) rfl (by decide) (wa_m 551 (by decide +kernel) rfl) (Or.inl ⟨3, rfl, rfl, dL_tear_12⟩) rfl rfl ?_
  refine ev_iconst (pc := 13) (v := 1) dL_tear_13 (by decide) ?_
  exact ev_iretE (pc := 14) dL_tear_14 rfl ⟨Nat.le_of_ble_eq_true rfl, Nat.le_of_ble_eq_true rfl⟩ rfl rfl
theorem w_tear_T2 {p0 : Int32} {A A1 : List mC} {o : Nat → Int64} (hA : wf A) (hA1 : wf A1) (e : EvS m_X3_tear [.ref 0, .int p0] (A ++ [ouC o]) (.inr xIS) (A1 ++ [ouC o])) : EvS m_L_tear [.ref 0, .int p0, .ref 34] (A ++ [ouC o]) (.inl (some (.int 2))) (A1 ++ [ouC o]) := by
  obtain ⟨h34, ⟨fs, h0⟩, -⟩ := hA
  refine evs_of (by decide +kernel) (Nat.le_of_ble_eq_true rfl) (by decide) rfl rfl ?_
  refine ev_aload_n (pc := 0) dL_tear_0 rfl rfl ?_
  refine ev_iconst (pc := 1) (v := 0) dL_tear_1 (by decide) ?_
  refine ev_aload_n (pc := 2) dL_tear_2 rfl rfl ?_
  refine ev_iload_n (pc := 3) dL_tear_3 rfl rfl ?_
  refine xV1 (pc := 4) (pre := [(0, 9, 12, 39)]) (suf := []) lk_L_tear_4 (ou_0 h0) rfl rfl (by decide) ⟨Nat.le_of_ble_eq_true rfl, Nat.le_of_ble_eq_true rfl⟩ e rfl mxIS (fun q hq => by rw [List.mem_singleton.mp hq]; exact ⟨by decide, xIB, mxIB, by decide +kernel, wa_m 551 (by decide +kernel) rfl⟩) rfl (by decide) (wa_m 265 (by decide +kernel) rfl) (Or.inl ⟨3, rfl, rfl, dL_tear_15⟩) rfl rfl ?_
  refine ev_iconst (pc := 16) (v := 2) dL_tear_16 (by decide) ?_
  exact ev_iretE (pc := 17) dL_tear_17 rfl ⟨Nat.le_of_ble_eq_true rfl, Nat.le_of_ble_eq_true rfl⟩ rfl rfl
theorem w_crashInCommit {p0 : Int32} {v : Int32} {A A1 : List mC} {o : Nat → Int64} (hA : wf A) (hA1 : wf A1) (e : EvS m_X3_crashInCommit [.ref 0, .int p0] (A ++ [ouC o]) (.inl (some (.int v))) (A1 ++ [ouC o])) : EvS m_L_crashInCommit [.ref 0, .int p0, .ref 34] (A ++ [ouC o]) (.inl (some (.int 0))) (A1 ++ [ouC (vp_updL o 0 v.toInt64)]) := by
  obtain ⟨h34, ⟨fs, h0⟩, -⟩ := hA
  obtain ⟨g34, -⟩ := hA1
  refine evs_of (by decide +kernel) (Nat.le_of_ble_eq_true rfl) (by decide) rfl rfl ?_
  refine ev_aload_n (pc := 0) dL_crashInCommit_0 rfl rfl ?_
  refine ev_iconst (pc := 1) (v := 0) dL_crashInCommit_1 (by decide) ?_
  refine ev_aload_n (pc := 2) dL_crashInCommit_2 rfl rfl ?_
  refine ev_iload_n (pc := 3) dL_crashInCommit_3 rfl rfl ?_
  refine cV1 (pc := 4) lk_L_crashInCommit_4 (ou_0 h0) rfl rfl (Nat.le_of_ble_eq_true rfl) ⟨Nat.le_of_ble_eq_true rfl, Nat.le_of_ble_eq_true rfl⟩ e ?_
  refine ev_i2l (pc := 7) dL_crashInCommit_7 ?_
  refine ev_lastN (pc := 8) dL_crashInCommit_8 (ou_get g34) ⟨(show _ = nI 0 from rfl), by decide, by decide⟩ rfl (ou_set g34) ?_
  refine ev_goto (pc := 9) (tgt := 18) dL_crashInCommit_9 (by decide) ?_
  refine ev_iconst (pc := 18) (v := 0) dL_crashInCommit_18 (by decide) ?_
  exact ev_iretE (pc := 19) dL_crashInCommit_19 rfl ⟨Nat.le_of_ble_eq_true rfl, Nat.le_of_ble_eq_true rfl⟩ rfl rfl
theorem w_crashInCommit_T1 {p0 : Int32} {A A1 : List mC} {o : Nat → Int64} (hA : wf A) (hA1 : wf A1) (e : EvS m_X3_crashInCommit [.ref 0, .int p0] (A ++ [ouC o]) (.inr xIA) (A1 ++ [ouC o])) : EvS m_L_crashInCommit [.ref 0, .int p0, .ref 34] (A ++ [ouC o]) (.inl (some (.int 1))) (A1 ++ [ouC o]) := by
  obtain ⟨h34, ⟨fs, h0⟩, -⟩ := hA
  refine evs_of (by decide +kernel) (Nat.le_of_ble_eq_true rfl) (by decide) rfl rfl ?_
  refine ev_aload_n (pc := 0) dL_crashInCommit_0 rfl rfl ?_
  refine ev_iconst (pc := 1) (v := 0) dL_crashInCommit_1 (by decide) ?_
  refine ev_aload_n (pc := 2) dL_crashInCommit_2 rfl rfl ?_
  refine ev_iload_n (pc := 3) dL_crashInCommit_3 rfl rfl ?_
  refine xV1 (pc := 4) (pre := []) (suf := [(0, 9, 15, 13)]) lk_L_crashInCommit_4 (ou_0 h0) rfl rfl (by decide) ⟨Nat.le_of_ble_eq_true rfl, Nat.le_of_ble_eq_true rfl⟩ e rfl mxIA (fun q hq => absurd hq List.not_mem_nil) rfl (by decide) (wa_m 346 (by decide +kernel) rfl) (Or.inl ⟨3, rfl, rfl, dL_crashInCommit_12⟩) rfl rfl ?_
  refine ev_iconst (pc := 13) (v := 1) dL_crashInCommit_13 (by decide) ?_
  exact ev_iretE (pc := 14) dL_crashInCommit_14 rfl ⟨Nat.le_of_ble_eq_true rfl, Nat.le_of_ble_eq_true rfl⟩ rfl rfl
theorem w_crashInCommit_T2 {p0 : Int32} {A A1 : List mC} {o : Nat → Int64} (hA : wf A) (hA1 : wf A1) (e : EvS m_X3_crashInCommit [.ref 0, .int p0] (A ++ [ouC o]) (.inr xIS) (A1 ++ [ouC o])) : EvS m_L_crashInCommit [.ref 0, .int p0, .ref 34] (A ++ [ouC o]) (.inl (some (.int 2))) (A1 ++ [ouC o]) := by
  obtain ⟨h34, ⟨fs, h0⟩, -⟩ := hA
  refine evs_of (by decide +kernel) (Nat.le_of_ble_eq_true rfl) (by decide) rfl rfl ?_
  refine ev_aload_n (pc := 0) dL_crashInCommit_0 rfl rfl ?_
  refine ev_iconst (pc := 1) (v := 0) dL_crashInCommit_1 (by decide) ?_
  refine ev_aload_n (pc := 2) dL_crashInCommit_2 rfl rfl ?_
  refine ev_iload_n (pc := 3) dL_crashInCommit_3 rfl rfl ?_
  refine xV1 (pc := 4) (pre := [(0, 9, 12, 19)]) (suf := []) lk_L_crashInCommit_4 (ou_0 h0) rfl rfl (by decide) ⟨Nat.le_of_ble_eq_true rfl, Nat.le_of_ble_eq_true rfl⟩ e rfl mxIS (fun q hq => by rw [List.mem_singleton.mp hq]; exact ⟨by decide, xIA, mxIA, by decide +kernel, wa_m 346 (by decide +kernel) rfl⟩) rfl (by decide) (wa_m 265 (by decide +kernel) rfl) (Or.inl ⟨3, rfl, rfl, dL_crashInCommit_15⟩) rfl rfl ?_
  refine ev_iconst (pc := 16) (v := 2) dL_crashInCommit_16 (by decide) ?_
  exact ev_iretE (pc := 17) dL_crashInCommit_17 rfl ⟨Nat.le_of_ble_eq_true rfl, Nat.le_of_ble_eq_true rfl⟩ rfl rfl
