/-! THE LAW'S OWN METHODS: a call with its exceptions told by numbers -/
theorem mxIS : xIS ∈ mX := List.mem_of_getElem? (i := 0) rfl
theorem mxIA : xIA ∈ mX := List.mem_of_getElem? (i := 1) rfl
theorem mnX : nX ∈ mX := List.mem_of_getElem? (i := 2) rfl
theorem mxIB : xIB ∈ mX := List.mem_of_getElem? (i := 3) rfl
section XC9
variable {M : mM} {Qf : mQ} {pc : Nat} {L rest : List Value} {kc ks : Nat} {w w1 : mW} {K : mM} {E : String} {q ci : Nat} {fs : List Value} {r : vw_C} {pre suf : List (Nat × Nat × Nat × Nat)} {sp ep hp ct : Nat}
theorem xV0 (hl : mLv M K pc 0) (he : w[q]? = some (.inr (ci, fs))) (hc : vwCl[ci]? = some r) (hrc : r.1 = (mMy K).cls) (hst : (rest.map fun v => v.category).sum ≤ 8) (hR : mRm M K kc ks) (hS : EvS K (.ref q :: []) w (.inr E) w1) (hsplit : mMh M = pre ++ (sp, ep, hp, ct) :: suf) (hE : E ∈ mX) (hpre : ∀ q ∈ pre, q.2.2.2 ≠ 0 ∧ ∃ F ∈ mX, E ≠ F ∧ Jvm.Cond.classLink (mMy M).cls q.2.2.2 F ∈ WA) (hx : (decide (sp ≤ pc) && decide (pc < ep)) = true) (h0 : ct ≠ 0) (hl2 : Jvm.Cond.classLink (mMy M).cls ct E ∈ WA) {len i : Nat} {L' : List Value} (hd : (∃ j : Fin 4, (j : Nat) = i ∧ len = 1 ∧ decode (mMc M) hp = .ok (.astore_n j, 1)) ∨ (len = 2 ∧ decode (mMc M) hp = .ok (.astore i, 2))) (hm : (decide (i < mMn M) && mc1 L i) = true) (hL' : L.set i hole = L') (k : EvF M Qf (hp + len) L' [] (kc + (mMR K).cells) (ks + (mMR K).slots) w1) : EvF M Qf pc L (.ref q :: rest) kc ks w := ev_catch (rV (As := []) hl rfl he hc hrc hst hR hS) hsplit hE hpre hx h0 hl2 hd hm hL' k
theorem xV1 {v1 : Value} (hl : mLv M K pc 1) (he : w[q]? = some (.inr (ci, fs))) (hc : vwCl[ci]? = some r) (hrc : r.1 = (mMy K).cls) (hst : (rest.map fun v => v.category).sum ≤ 8) (hR : mRm M K kc ks) (hS : EvS K (.ref q :: [v1]) w (.inr E) w1) (hsplit : mMh M = pre ++ (sp, ep, hp, ct) :: suf) (hE : E ∈ mX) (hpre : ∀ q ∈ pre, q.2.2.2 ≠ 0 ∧ ∃ F ∈ mX, E ≠ F ∧ Jvm.Cond.classLink (mMy M).cls q.2.2.2 F ∈ WA) (hx : (decide (sp ≤ pc) && decide (pc < ep)) = true) (h0 : ct ≠ 0) (hl2 : Jvm.Cond.classLink (mMy M).cls ct E ∈ WA) {len i : Nat} {L' : List Value} (hd : (∃ j : Fin 4, (j : Nat) = i ∧ len = 1 ∧ decode (mMc M) hp = .ok (.astore_n j, 1)) ∨ (len = 2 ∧ decode (mMc M) hp = .ok (.astore i, 2))) (hm : (decide (i < mMn M) && mc1 L i) = true) (hL' : L.set i hole = L') (k : EvF M Qf (hp + len) L' [] (kc + (mMR K).cells) (ks + (mMR K).slots) w1) : EvF M Qf pc L (v1 :: .ref q :: rest) kc ks w := ev_catch (rV (As := [v1]) hl rfl he hc hrc hst hR hS) hsplit hE hpre hx h0 hl2 hd hm hL' k
theorem xV2 {v1 v2 : Value} (hl : mLv M K pc 2) (he : w[q]? = some (.inr (ci, fs))) (hc : vwCl[ci]? = some r) (hrc : r.1 = (mMy K).cls) (hst : (rest.map fun v => v.category).sum ≤ 8) (hR : mRm M K kc ks) (hS : EvS K (.ref q :: [v1, v2]) w (.inr E) w1) (hsplit : mMh M = pre ++ (sp, ep, hp, ct) :: suf) (hE : E ∈ mX) (hpre : ∀ q ∈ pre, q.2.2.2 ≠ 0 ∧ ∃ F ∈ mX, E ≠ F ∧ Jvm.Cond.classLink (mMy M).cls q.2.2.2 F ∈ WA) (hx : (decide (sp ≤ pc) && decide (pc < ep)) = true) (h0 : ct ≠ 0) (hl2 : Jvm.Cond.classLink (mMy M).cls ct E ∈ WA) {len i : Nat} {L' : List Value} (hd : (∃ j : Fin 4, (j : Nat) = i ∧ len = 1 ∧ decode (mMc M) hp = .ok (.astore_n j, 1)) ∨ (len = 2 ∧ decode (mMc M) hp = .ok (.astore i, 2))) (hm : (decide (i < mMn M) && mc1 L i) = true) (hL' : L.set i hole = L') (k : EvF M Qf (hp + len) L' [] (kc + (mMR K).cells) (ks + (mMR K).slots) w1) : EvF M Qf pc L (v2 :: v1 :: .ref q :: rest) kc ks w := ev_catch (rV (As := [v1, v2]) hl rfl he hc hrc hst hR hS) hsplit hE hpre hx h0 hl2 hd hm hL' k
end XC9
theorem w_begin {v : Int32} {w w1 : mW} (h0 : ∃ fs, w[0]? = some (.inr (3, fs))) (e : EvS m_X3_beginBatch [.ref 0] w (.inl (some (.int v))) w1) : EvS m_L_begin [.ref 0] w (.inl (some (.int v))) w1 := by
  obtain ⟨fs, h0⟩ := h0
  refine evs_of (by decide +kernel) (Nat.le_of_ble_eq_true rfl) (by decide) rfl ?_
  refine ev_aload_n (pc := 0) dL_begin_0 rfl rfl ?_
  refine cV0 (pc := 1) lk_L_begin_1 h0 rfl rfl (Nat.le_of_ble_eq_true rfl) ⟨Nat.le_of_ble_eq_true rfl, Nat.le_of_ble_eq_true rfl⟩ e ?_
  exact ev_iretE (pc := 4) dL_begin_4 rfl ⟨Nat.le_of_ble_eq_true rfl, Nat.le_of_ble_eq_true rfl⟩ rfl rfl
theorem w_begin_T1 {w w1 : mW} (h0 : ∃ fs, w[0]? = some (.inr (3, fs))) (e : EvS m_X3_beginBatch [.ref 0] w (.inr xIS) w1) : EvS m_L_begin [.ref 0] w (.inl (some (.int (-1000001)))) w1 := by
  obtain ⟨fs, h0⟩ := h0
  refine evs_of (by decide +kernel) (Nat.le_of_ble_eq_true rfl) (by decide) rfl ?_
  refine ev_aload_n (pc := 0) dL_begin_0 rfl rfl ?_
  refine xV0 (pc := 1) (pre := []) (suf := []) lk_L_begin_1 h0 rfl rfl (by decide) ⟨Nat.le_of_ble_eq_true rfl, Nat.le_of_ble_eq_true rfl⟩ e rfl mxIS (fun q hq => absurd hq List.not_mem_nil) rfl (by decide) kc_L_21 (Or.inl ⟨1, rfl, rfl, dL_begin_5⟩) rfl rfl ?_
  refine ev_ldc (pc := 6) dL_begin_6 ki_L_23 ?_
  exact ev_iretE (pc := 8) dL_begin_8 rfl ⟨Nat.le_of_ble_eq_true rfl, Nat.le_of_ble_eq_true rfl⟩ rfl rfl
theorem w_put {p0 p1 : Int32} {v : Int32} {w w1 : mW} (h0 : ∃ fs, w[0]? = some (.inr (3, fs))) (hv : v = 0 ∨ v = 1) (e : EvS m_X3_put [.ref 0, .int p0, .int p1] w (.inl (some (.int v))) w1) : EvS m_L_put [.ref 0, .int p0, .int p1] w (.inl (some (.int v))) w1 := by
  obtain ⟨fs, h0⟩ := h0
  rcases hv with rfl | rfl
  · refine evs_of (by decide +kernel) (Nat.le_of_ble_eq_true rfl) (by decide) rfl ?_
    refine ev_aload_n (pc := 0) dL_put_0 rfl rfl ?_
    refine ev_iload_n (pc := 1) dL_put_1 rfl rfl ?_
    refine ev_iload_n (pc := 2) dL_put_2 rfl rfl ?_
    refine cV2 (pc := 3) lk_L_put_3 h0 rfl rfl (Nat.le_of_ble_eq_true rfl) ⟨Nat.le_of_ble_eq_true rfl, Nat.le_of_ble_eq_true rfl⟩ e ?_
    refine ev_if_eq (pc := 6) (tgt := 13) dL_put_6 (by decide) (fun _ => ?_) (fun c_6 => absurd rfl c_6)
    refine ev_iconst (pc := 13) (v := 0) dL_put_13 (by decide) ?_
    exact ev_iretE (pc := 14) dL_put_14 rfl ⟨Nat.le_of_ble_eq_true rfl, Nat.le_of_ble_eq_true rfl⟩ rfl rfl
  · refine evs_of (by decide +kernel) (Nat.le_of_ble_eq_true rfl) (by decide) rfl ?_
    refine ev_aload_n (pc := 0) dL_put_0 rfl rfl ?_
    refine ev_iload_n (pc := 1) dL_put_1 rfl rfl ?_
    refine ev_iload_n (pc := 2) dL_put_2 rfl rfl ?_
    refine cV2 (pc := 3) lk_L_put_3 h0 rfl rfl (Nat.le_of_ble_eq_true rfl) ⟨Nat.le_of_ble_eq_true rfl, Nat.le_of_ble_eq_true rfl⟩ e ?_
    refine ev_if_eq (pc := 6) (tgt := 13) dL_put_6 (by decide) (fun c_6 => absurd c_6 (by decide)) (fun _ => ?_)
    refine ev_iconst (pc := 9) (v := 1) dL_put_9 (by decide) ?_
    refine ev_goto (pc := 10) (tgt := 14) dL_put_10 (by decide) ?_
    exact ev_iretE (pc := 14) dL_put_14 rfl ⟨Nat.le_of_ble_eq_true rfl, Nat.le_of_ble_eq_true rfl⟩ rfl rfl
theorem w_put_T1 {p0 p1 : Int32} {w w1 : mW} (h0 : ∃ fs, w[0]? = some (.inr (3, fs))) (e : EvS m_X3_put [.ref 0, .int p0, .int p1] w (.inr xIA) w1) : EvS m_L_put [.ref 0, .int p0, .int p1] w (.inl (some (.int (-1000001)))) w1 := by
  obtain ⟨fs, h0⟩ := h0
  refine evs_of (by decide +kernel) (Nat.le_of_ble_eq_true rfl) (by decide) rfl ?_
  refine ev_aload_n (pc := 0) dL_put_0 rfl rfl ?_
  refine ev_iload_n (pc := 1) dL_put_1 rfl rfl ?_
  refine ev_iload_n (pc := 2) dL_put_2 rfl rfl ?_
  refine xV2 (pc := 3) (pre := []) (suf := [(0, 14, 19, 21)]) lk_L_put_3 h0 rfl rfl (by decide) ⟨Nat.le_of_ble_eq_true rfl, Nat.le_of_ble_eq_true rfl⟩ e rfl mxIA (fun q hq => absurd hq List.not_mem_nil) rfl (by decide) kc_L_28 (Or.inl ⟨3, rfl, rfl, dL_put_15⟩) rfl rfl ?_
  refine ev_ldc (pc := 16) dL_put_16 ki_L_23 ?_
  exact ev_iretE (pc := 18) dL_put_18 rfl ⟨Nat.le_of_ble_eq_true rfl, Nat.le_of_ble_eq_true rfl⟩ rfl rfl
theorem w_put_T2 {p0 p1 : Int32} {w w1 : mW} (h0 : ∃ fs, w[0]? = some (.inr (3, fs))) (e : EvS m_X3_put [.ref 0, .int p0, .int p1] w (.inr xIS) w1) : EvS m_L_put [.ref 0, .int p0, .int p1] w (.inl (some (.int (-1000002)))) w1 := by
  obtain ⟨fs, h0⟩ := h0
  refine evs_of (by decide +kernel) (Nat.le_of_ble_eq_true rfl) (by decide) rfl ?_
  refine ev_aload_n (pc := 0) dL_put_0 rfl rfl ?_
  refine ev_iload_n (pc := 1) dL_put_1 rfl rfl ?_
  refine ev_iload_n (pc := 2) dL_put_2 rfl rfl ?_
  refine xV2 (pc := 3) (pre := [(0, 14, 15, 28)]) (suf := []) lk_L_put_3 h0 rfl rfl (by decide) ⟨Nat.le_of_ble_eq_true rfl, Nat.le_of_ble_eq_true rfl⟩ e rfl mxIS (fun q hq => by rw [List.mem_singleton.mp hq]; exact ⟨by decide, xIA, mxIA, by decide +kernel, kc_L_28⟩) rfl (by decide) kc_L_21 (Or.inl ⟨3, rfl, rfl, dL_put_19⟩) rfl rfl ?_
  refine ev_ldc (pc := 20) dL_put_20 ki_L_30 ?_
  exact ev_iretE (pc := 22) dL_put_22 rfl ⟨Nat.le_of_ble_eq_true rfl, Nat.le_of_ble_eq_true rfl⟩ rfl rfl
theorem w_delete {p0 : Int32} {v : Int32} {w w1 : mW} (h0 : ∃ fs, w[0]? = some (.inr (3, fs))) (e : EvS m_X3_delete [.ref 0, .int p0] w (.inl (some (.int v))) w1) : EvS m_L_delete [.ref 0, .int p0] w (.inl (some (.int v))) w1 := by
  obtain ⟨fs, h0⟩ := h0
  refine evs_of (by decide +kernel) (Nat.le_of_ble_eq_true rfl) (by decide) rfl ?_
  refine ev_aload_n (pc := 0) dL_delete_0 rfl rfl ?_
  refine ev_iload_n (pc := 1) dL_delete_1 rfl rfl ?_
  refine cV1 (pc := 2) lk_L_delete_2 h0 rfl rfl (Nat.le_of_ble_eq_true rfl) ⟨Nat.le_of_ble_eq_true rfl, Nat.le_of_ble_eq_true rfl⟩ e ?_
  exact ev_iretE (pc := 5) dL_delete_5 rfl ⟨Nat.le_of_ble_eq_true rfl, Nat.le_of_ble_eq_true rfl⟩ rfl rfl
theorem w_delete_T1 {p0 : Int32} {w w1 : mW} (h0 : ∃ fs, w[0]? = some (.inr (3, fs))) (e : EvS m_X3_delete [.ref 0, .int p0] w (.inr xIA) w1) : EvS m_L_delete [.ref 0, .int p0] w (.inl (some (.int (-1000001)))) w1 := by
  obtain ⟨fs, h0⟩ := h0
  refine evs_of (by decide +kernel) (Nat.le_of_ble_eq_true rfl) (by decide) rfl ?_
  refine ev_aload_n (pc := 0) dL_delete_0 rfl rfl ?_
  refine ev_iload_n (pc := 1) dL_delete_1 rfl rfl ?_
  refine xV1 (pc := 2) (pre := []) (suf := [(0, 5, 10, 21), (0, 5, 14, 35)]) lk_L_delete_2 h0 rfl rfl (by decide) ⟨Nat.le_of_ble_eq_true rfl, Nat.le_of_ble_eq_true rfl⟩ e rfl mxIA (fun q hq => absurd hq List.not_mem_nil) rfl (by decide) kc_L_28 (Or.inl ⟨2, rfl, rfl, dL_delete_6⟩) rfl rfl ?_
  refine ev_ldc (pc := 7) dL_delete_7 ki_L_23 ?_
  exact ev_iretE (pc := 9) dL_delete_9 rfl ⟨Nat.le_of_ble_eq_true rfl, Nat.le_of_ble_eq_true rfl⟩ rfl rfl
theorem w_delete_T2 {p0 : Int32} {w w1 : mW} (h0 : ∃ fs, w[0]? = some (.inr (3, fs))) (e : EvS m_X3_delete [.ref 0, .int p0] w (.inr xIS) w1) : EvS m_L_delete [.ref 0, .int p0] w (.inl (some (.int (-1000002)))) w1 := by
  obtain ⟨fs, h0⟩ := h0
  refine evs_of (by decide +kernel) (Nat.le_of_ble_eq_true rfl) (by decide) rfl ?_
  refine ev_aload_n (pc := 0) dL_delete_0 rfl rfl ?_
  refine ev_iload_n (pc := 1) dL_delete_1 rfl rfl ?_
  refine xV1 (pc := 2) (pre := [(0, 5, 6, 28)]) (suf := [(0, 5, 14, 35)]) lk_L_delete_2 h0 rfl rfl (by decide) ⟨Nat.le_of_ble_eq_true rfl, Nat.le_of_ble_eq_true rfl⟩ e rfl mxIS (fun q hq => by rw [List.mem_singleton.mp hq]; exact ⟨by decide, xIA, mxIA, by decide +kernel, kc_L_28⟩) rfl (by decide) kc_L_21 (Or.inl ⟨2, rfl, rfl, dL_delete_10⟩) rfl rfl ?_
  refine ev_ldc (pc := 11) dL_delete_11 ki_L_30 ?_
  exact ev_iretE (pc := 13) dL_delete_13 rfl ⟨Nat.le_of_ble_eq_true rfl, Nat.le_of_ble_eq_true rfl⟩ rfl rfl
theorem w_delete_T3 {p0 : Int32} {w w1 : mW} (h0 : ∃ fs, w[0]? = some (.inr (3, fs))) (e : EvS m_X3_delete [.ref 0, .int p0] w (.inr nX) w1) : EvS m_L_delete [.ref 0, .int p0] w (.inl (some (.int (-1000003)))) w1 := by
  obtain ⟨fs, h0⟩ := h0
  refine evs_of (by decide +kernel) (Nat.le_of_ble_eq_true rfl) (by decide) rfl ?_
  refine ev_aload_n (pc := 0) dL_delete_0 rfl rfl ?_
  refine ev_iload_n (pc := 1) dL_delete_1 rfl rfl ?_
  refine xV1 (pc := 2) (pre := [(0, 5, 6, 28), (0, 5, 10, 21)]) (suf := []) lk_L_delete_2 h0 rfl rfl (by decide) ⟨Nat.le_of_ble_eq_true rfl, Nat.le_of_ble_eq_true rfl⟩ e rfl mnX (fun q hq => by
      rcases List.mem_cons.mp hq with rfl | hq
      · exact ⟨by decide, xIA, mxIA, by decide +kernel, kc_L_28⟩
      · rw [List.mem_singleton.mp hq]; exact ⟨by decide, xIS, mxIS, by decide +kernel, kc_L_21⟩) rfl (by decide) kc_L_35 (Or.inl ⟨2, rfl, rfl, dL_delete_14⟩) rfl rfl ?_
  refine ev_ldc (pc := 15) dL_delete_15 ki_L_37 ?_
  exact ev_iretE (pc := 17) dL_delete_17 rfl ⟨Nat.le_of_ble_eq_true rfl, Nat.le_of_ble_eq_true rfl⟩ rfl rfl
theorem w_commit {v : Int32} {w w1 : mW} (h0 : ∃ fs, w[0]? = some (.inr (3, fs))) (e : EvS m_X3_commit [.ref 0] w (.inl (some (.int v))) w1) : EvS m_L_commit [.ref 0] w (.inl (some (.int v))) w1 := by
  obtain ⟨fs, h0⟩ := h0
  refine evs_of (by decide +kernel) (Nat.le_of_ble_eq_true rfl) (by decide) rfl ?_
  refine ev_aload_n (pc := 0) dL_commit_0 rfl rfl ?_
  refine cV0 (pc := 1) lk_L_commit_1 h0 rfl rfl (Nat.le_of_ble_eq_true rfl) ⟨Nat.le_of_ble_eq_true rfl, Nat.le_of_ble_eq_true rfl⟩ e ?_
  exact ev_iretE (pc := 4) dL_commit_4 rfl ⟨Nat.le_of_ble_eq_true rfl, Nat.le_of_ble_eq_true rfl⟩ rfl rfl
theorem w_commit_T1 {w w1 : mW} (h0 : ∃ fs, w[0]? = some (.inr (3, fs))) (e : EvS m_X3_commit [.ref 0] w (.inr xIS) w1) : EvS m_L_commit [.ref 0] w (.inl (some (.int (-1000001)))) w1 := by
  obtain ⟨fs, h0⟩ := h0
  refine evs_of (by decide +kernel) (Nat.le_of_ble_eq_true rfl) (by decide) rfl ?_
  refine ev_aload_n (pc := 0) dL_commit_0 rfl rfl ?_
  refine xV0 (pc := 1) (pre := []) (suf := []) lk_L_commit_1 h0 rfl rfl (by decide) ⟨Nat.le_of_ble_eq_true rfl, Nat.le_of_ble_eq_true rfl⟩ e rfl mxIS (fun q hq => absurd hq List.not_mem_nil) rfl (by decide) kc_L_21 (Or.inl ⟨1, rfl, rfl, dL_commit_5⟩) rfl rfl ?_
  refine ev_ldc (pc := 6) dL_commit_6 ki_L_23 ?_
  exact ev_iretE (pc := 8) dL_commit_8 rfl ⟨Nat.le_of_ble_eq_true rfl, Nat.le_of_ble_eq_true rfl⟩ rfl rfl
theorem w_abandon {v : Int32} {w w1 : mW} (h0 : ∃ fs, w[0]? = some (.inr (3, fs))) (e : EvS m_X3_abandon [.ref 0] w (.inl (some (.int v))) w1) : EvS m_L_abandon [.ref 0] w (.inl (some (.int v))) w1 := by
  obtain ⟨fs, h0⟩ := h0
  refine evs_of (by decide +kernel) (Nat.le_of_ble_eq_true rfl) (by decide) rfl ?_
  refine ev_aload_n (pc := 0) dL_abandon_0 rfl rfl ?_
  refine cV0 (pc := 1) lk_L_abandon_1 h0 rfl rfl (Nat.le_of_ble_eq_true rfl) ⟨Nat.le_of_ble_eq_true rfl, Nat.le_of_ble_eq_true rfl⟩ e ?_
  exact ev_iretE (pc := 4) dL_abandon_4 rfl ⟨Nat.le_of_ble_eq_true rfl, Nat.le_of_ble_eq_true rfl⟩ rfl rfl
theorem w_abandon_T1 {w w1 : mW} (h0 : ∃ fs, w[0]? = some (.inr (3, fs))) (e : EvS m_X3_abandon [.ref 0] w (.inr xIS) w1) : EvS m_L_abandon [.ref 0] w (.inl (some (.int (-1000001)))) w1 := by
  obtain ⟨fs, h0⟩ := h0
  refine evs_of (by decide +kernel) (Nat.le_of_ble_eq_true rfl) (by decide) rfl ?_
  refine ev_aload_n (pc := 0) dL_abandon_0 rfl rfl ?_
  refine xV0 (pc := 1) (pre := []) (suf := []) lk_L_abandon_1 h0 rfl rfl (by decide) ⟨Nat.le_of_ble_eq_true rfl, Nat.le_of_ble_eq_true rfl⟩ e rfl mxIS (fun q hq => absurd hq List.not_mem_nil) rfl (by decide) kc_L_21 (Or.inl ⟨1, rfl, rfl, dL_abandon_5⟩) rfl rfl ?_
  refine ev_ldc (pc := 6) dL_abandon_6 ki_L_23 ?_
  exact ev_iretE (pc := 8) dL_abandon_8 rfl ⟨Nat.le_of_ble_eq_true rfl, Nat.le_of_ble_eq_true rfl⟩ rfl rfl
theorem w_open {v : Int32} {w w1 : mW} (h0 : ∃ fs, w[0]? = some (.inr (3, fs))) (e : EvS m_X3_openReader [.ref 0] w (.inl (some (.int v))) w1) : EvS m_L_open [.ref 0] w (.inl (some (.int v))) w1 := by
  obtain ⟨fs, h0⟩ := h0
  refine evs_of (by decide +kernel) (Nat.le_of_ble_eq_true rfl) (by decide) rfl ?_
  refine ev_aload_n (pc := 0) dL_open_0 rfl rfl ?_
  refine cV0 (pc := 1) lk_L_open_1 h0 rfl rfl (Nat.le_of_ble_eq_true rfl) ⟨Nat.le_of_ble_eq_true rfl, Nat.le_of_ble_eq_true rfl⟩ e ?_
  exact ev_iretE (pc := 4) dL_open_4 rfl ⟨Nat.le_of_ble_eq_true rfl, Nat.le_of_ble_eq_true rfl⟩ rfl rfl
theorem w_open_T1 {w w1 : mW} (h0 : ∃ fs, w[0]? = some (.inr (3, fs))) (e : EvS m_X3_openReader [.ref 0] w (.inr xIS) w1) : EvS m_L_open [.ref 0] w (.inl (some (.int (-1000001)))) w1 := by
  obtain ⟨fs, h0⟩ := h0
  refine evs_of (by decide +kernel) (Nat.le_of_ble_eq_true rfl) (by decide) rfl ?_
  refine ev_aload_n (pc := 0) dL_open_0 rfl rfl ?_
  refine xV0 (pc := 1) (pre := []) (suf := []) lk_L_open_1 h0 rfl rfl (by decide) ⟨Nat.le_of_ble_eq_true rfl, Nat.le_of_ble_eq_true rfl⟩ e rfl mxIS (fun q hq => absurd hq List.not_mem_nil) rfl (by decide) kc_L_21 (Or.inl ⟨1, rfl, rfl, dL_open_5⟩) rfl rfl ?_
  refine ev_ldc (pc := 6) dL_open_6 ki_L_23 ?_
  exact ev_iretE (pc := 8) dL_open_8 rfl ⟨Nat.le_of_ble_eq_true rfl, Nat.le_of_ble_eq_true rfl⟩ rfl rfl
theorem w_close {p0 : Int32} {v : Int32} {w w1 : mW} (h0 : ∃ fs, w[0]? = some (.inr (3, fs))) (e : EvS m_X3_closeReader [.ref 0, .int p0] w (.inl (some (.int v))) w1) : EvS m_L_close [.ref 0, .int p0] w (.inl (some (.int v))) w1 := by
  obtain ⟨fs, h0⟩ := h0
  refine evs_of (by decide +kernel) (Nat.le_of_ble_eq_true rfl) (by decide) rfl ?_
  refine ev_aload_n (pc := 0) dL_close_0 rfl rfl ?_
  refine ev_iload_n (pc := 1) dL_close_1 rfl rfl ?_
  refine cV1 (pc := 2) lk_L_close_2 h0 rfl rfl (Nat.le_of_ble_eq_true rfl) ⟨Nat.le_of_ble_eq_true rfl, Nat.le_of_ble_eq_true rfl⟩ e ?_
  exact ev_iretE (pc := 5) dL_close_5 rfl ⟨Nat.le_of_ble_eq_true rfl, Nat.le_of_ble_eq_true rfl⟩ rfl rfl
theorem w_close_T1 {p0 : Int32} {w w1 : mW} (h0 : ∃ fs, w[0]? = some (.inr (3, fs))) (e : EvS m_X3_closeReader [.ref 0, .int p0] w (.inr xIB) w1) : EvS m_L_close [.ref 0, .int p0] w (.inl (some (.int (-1000001)))) w1 := by
  obtain ⟨fs, h0⟩ := h0
  refine evs_of (by decide +kernel) (Nat.le_of_ble_eq_true rfl) (by decide) rfl ?_
  refine ev_aload_n (pc := 0) dL_close_0 rfl rfl ?_
  refine ev_iload_n (pc := 1) dL_close_1 rfl rfl ?_
  refine xV1 (pc := 2) (pre := []) (suf := []) lk_L_close_2 h0 rfl rfl (by decide) ⟨Nat.le_of_ble_eq_true rfl, Nat.le_of_ble_eq_true rfl⟩ e rfl mxIB (fun q hq => absurd hq List.not_mem_nil) rfl (by decide) kc_L_50 (Or.inl ⟨2, rfl, rfl, dL_close_6⟩) rfl rfl ?_
  refine ev_ldc (pc := 7) dL_close_7 ki_L_23 ?_
  exact ev_iretE (pc := 9) dL_close_9 rfl ⟨Nat.le_of_ble_eq_true rfl, Nat.le_of_ble_eq_true rfl⟩ rfl rfl
theorem w_heldBy {p0 : Int32} {v : Int32} {w w1 : mW} (h0 : ∃ fs, w[0]? = some (.inr (3, fs))) (e : EvS m_X3_heldBy [.ref 0, .int p0] w (.inl (some (.int v))) w1) : EvS m_L_heldBy [.ref 0, .int p0] w (.inl (some (.int v))) w1 := by
  obtain ⟨fs, h0⟩ := h0
  refine evs_of (by decide +kernel) (Nat.le_of_ble_eq_true rfl) (by decide) rfl ?_
  refine ev_aload_n (pc := 0) dL_heldBy_0 rfl rfl ?_
  refine ev_iload_n (pc := 1) dL_heldBy_1 rfl rfl ?_
  refine cV1 (pc := 2) lk_L_heldBy_2 h0 rfl rfl (Nat.le_of_ble_eq_true rfl) ⟨Nat.le_of_ble_eq_true rfl, Nat.le_of_ble_eq_true rfl⟩ e ?_
  exact ev_iretE (pc := 5) dL_heldBy_5 rfl ⟨Nat.le_of_ble_eq_true rfl, Nat.le_of_ble_eq_true rfl⟩ rfl rfl
theorem w_heldBy_T1 {p0 : Int32} {w w1 : mW} (h0 : ∃ fs, w[0]? = some (.inr (3, fs))) (e : EvS m_X3_heldBy [.ref 0, .int p0] w (.inr xIB) w1) : EvS m_L_heldBy [.ref 0, .int p0] w (.inl (some (.int (-1000001)))) w1 := by
  obtain ⟨fs, h0⟩ := h0
  refine evs_of (by decide +kernel) (Nat.le_of_ble_eq_true rfl) (by decide) rfl ?_
  refine ev_aload_n (pc := 0) dL_heldBy_0 rfl rfl ?_
  refine ev_iload_n (pc := 1) dL_heldBy_1 rfl rfl ?_
  refine xV1 (pc := 2) (pre := []) (suf := []) lk_L_heldBy_2 h0 rfl rfl (by decide) ⟨Nat.le_of_ble_eq_true rfl, Nat.le_of_ble_eq_true rfl⟩ e rfl mxIB (fun q hq => absurd hq List.not_mem_nil) rfl (by decide) kc_L_50 (Or.inl ⟨2, rfl, rfl, dL_heldBy_6⟩) rfl rfl ?_
  refine ev_ldc (pc := 7) dL_heldBy_7 ki_L_23 ?_
  exact ev_iretE (pc := 9) dL_heldBy_9 rfl ⟨Nat.le_of_ble_eq_true rfl, Nat.le_of_ble_eq_true rfl⟩ rfl rfl
theorem w_epochOf {p0 : Int32} {v : Int32} {w w1 : mW} (h0 : ∃ fs, w[0]? = some (.inr (3, fs))) (e : EvS m_X3_epochOf [.ref 0, .int p0] w (.inl (some (.int v))) w1) : EvS m_L_epochOf [.ref 0, .int p0] w (.inl (some (.int v))) w1 := by
  obtain ⟨fs, h0⟩ := h0
  refine evs_of (by decide +kernel) (Nat.le_of_ble_eq_true rfl) (by decide) rfl ?_
  refine ev_aload_n (pc := 0) dL_epochOf_0 rfl rfl ?_
  refine ev_iload_n (pc := 1) dL_epochOf_1 rfl rfl ?_
  refine cV1 (pc := 2) lk_L_epochOf_2 h0 rfl rfl (Nat.le_of_ble_eq_true rfl) ⟨Nat.le_of_ble_eq_true rfl, Nat.le_of_ble_eq_true rfl⟩ e ?_
  exact ev_iretE (pc := 5) dL_epochOf_5 rfl ⟨Nat.le_of_ble_eq_true rfl, Nat.le_of_ble_eq_true rfl⟩ rfl rfl
theorem w_epochOf_T1 {p0 : Int32} {w w1 : mW} (h0 : ∃ fs, w[0]? = some (.inr (3, fs))) (e : EvS m_X3_epochOf [.ref 0, .int p0] w (.inr xIB) w1) : EvS m_L_epochOf [.ref 0, .int p0] w (.inl (some (.int (-1000001)))) w1 := by
  obtain ⟨fs, h0⟩ := h0
  refine evs_of (by decide +kernel) (Nat.le_of_ble_eq_true rfl) (by decide) rfl ?_
  refine ev_aload_n (pc := 0) dL_epochOf_0 rfl rfl ?_
  refine ev_iload_n (pc := 1) dL_epochOf_1 rfl rfl ?_
  refine xV1 (pc := 2) (pre := []) (suf := []) lk_L_epochOf_2 h0 rfl rfl (by decide) ⟨Nat.le_of_ble_eq_true rfl, Nat.le_of_ble_eq_true rfl⟩ e rfl mxIB (fun q hq => absurd hq List.not_mem_nil) rfl (by decide) kc_L_50 (Or.inl ⟨2, rfl, rfl, dL_epochOf_6⟩) rfl rfl ?_
  refine ev_ldc (pc := 7) dL_epochOf_7 ki_L_23 ?_
  exact ev_iretE (pc := 9) dL_epochOf_9 rfl ⟨Nat.le_of_ble_eq_true rfl, Nat.le_of_ble_eq_true rfl⟩ rfl rfl
theorem w_get {p0 p1 : Int32} {v : Int32} {w w1 : mW} (h0 : ∃ fs, w[0]? = some (.inr (3, fs))) (e : EvS m_X3_get [.ref 0, .int p0, .int p1] w (.inl (some (.int v))) w1) : EvS m_L_get [.ref 0, .int p0, .int p1] w (.inl (some (.int v))) w1 := by
  obtain ⟨fs, h0⟩ := h0
  refine evs_of (by decide +kernel) (Nat.le_of_ble_eq_true rfl) (by decide) rfl ?_
  refine ev_aload_n (pc := 0) dL_get_0 rfl rfl ?_
  refine ev_iload_n (pc := 1) dL_get_1 rfl rfl ?_
  refine ev_iload_n (pc := 2) dL_get_2 rfl rfl ?_
  refine cV2 (pc := 3) lk_L_get_3 h0 rfl rfl (Nat.le_of_ble_eq_true rfl) ⟨Nat.le_of_ble_eq_true rfl, Nat.le_of_ble_eq_true rfl⟩ e ?_
  exact ev_iretE (pc := 6) dL_get_6 rfl ⟨Nat.le_of_ble_eq_true rfl, Nat.le_of_ble_eq_true rfl⟩ rfl rfl
theorem w_get_T1 {p0 p1 : Int32} {w w1 : mW} (h0 : ∃ fs, w[0]? = some (.inr (3, fs))) (e : EvS m_X3_get [.ref 0, .int p0, .int p1] w (.inr xIB) w1) : EvS m_L_get [.ref 0, .int p0, .int p1] w (.inl (some (.int (-1000001)))) w1 := by
  obtain ⟨fs, h0⟩ := h0
  refine evs_of (by decide +kernel) (Nat.le_of_ble_eq_true rfl) (by decide) rfl ?_
  refine ev_aload_n (pc := 0) dL_get_0 rfl rfl ?_
  refine ev_iload_n (pc := 1) dL_get_1 rfl rfl ?_
  refine ev_iload_n (pc := 2) dL_get_2 rfl rfl ?_
  refine xV2 (pc := 3) (pre := []) (suf := [(0, 6, 11, 28), (0, 6, 15, 35)]) lk_L_get_3 h0 rfl rfl (by decide) ⟨Nat.le_of_ble_eq_true rfl, Nat.le_of_ble_eq_true rfl⟩ e rfl mxIB (fun q hq => absurd hq List.not_mem_nil) rfl (by decide) kc_L_50 (Or.inl ⟨3, rfl, rfl, dL_get_7⟩) rfl rfl ?_
  refine ev_ldc (pc := 8) dL_get_8 ki_L_23 ?_
  exact ev_iretE (pc := 10) dL_get_10 rfl ⟨Nat.le_of_ble_eq_true rfl, Nat.le_of_ble_eq_true rfl⟩ rfl rfl
theorem w_get_T2 {p0 p1 : Int32} {w w1 : mW} (h0 : ∃ fs, w[0]? = some (.inr (3, fs))) (e : EvS m_X3_get [.ref 0, .int p0, .int p1] w (.inr xIA) w1) : EvS m_L_get [.ref 0, .int p0, .int p1] w (.inl (some (.int (-1000002)))) w1 := by
  obtain ⟨fs, h0⟩ := h0
  refine evs_of (by decide +kernel) (Nat.le_of_ble_eq_true rfl) (by decide) rfl ?_
  refine ev_aload_n (pc := 0) dL_get_0 rfl rfl ?_
  refine ev_iload_n (pc := 1) dL_get_1 rfl rfl ?_
  refine ev_iload_n (pc := 2) dL_get_2 rfl rfl ?_
  refine xV2 (pc := 3) (pre := [(0, 6, 7, 50)]) (suf := [(0, 6, 15, 35)]) lk_L_get_3 h0 rfl rfl (by decide) ⟨Nat.le_of_ble_eq_true rfl, Nat.le_of_ble_eq_true rfl⟩ e rfl mxIA (fun q hq => by rw [List.mem_singleton.mp hq]; exact ⟨by decide, xIB, mxIB, by decide +kernel, kc_L_50⟩) rfl (by decide) kc_L_28 (Or.inl ⟨3, rfl, rfl, dL_get_11⟩) rfl rfl ?_
  refine ev_ldc (pc := 12) dL_get_12 ki_L_30 ?_
  exact ev_iretE (pc := 14) dL_get_14 rfl ⟨Nat.le_of_ble_eq_true rfl, Nat.le_of_ble_eq_true rfl⟩ rfl rfl
theorem w_get_T3 {p0 p1 : Int32} {w w1 : mW} (h0 : ∃ fs, w[0]? = some (.inr (3, fs))) (e : EvS m_X3_get [.ref 0, .int p0, .int p1] w (.inr nX) w1) : EvS m_L_get [.ref 0, .int p0, .int p1] w (.inl (some (.int (-1000003)))) w1 := by
  obtain ⟨fs, h0⟩ := h0
  refine evs_of (by decide +kernel) (Nat.le_of_ble_eq_true rfl) (by decide) rfl ?_
  refine ev_aload_n (pc := 0) dL_get_0 rfl rfl ?_
  refine ev_iload_n (pc := 1) dL_get_1 rfl rfl ?_
  refine ev_iload_n (pc := 2) dL_get_2 rfl rfl ?_
  refine xV2 (pc := 3) (pre := [(0, 6, 7, 50), (0, 6, 11, 28)]) (suf := []) lk_L_get_3 h0 rfl rfl (by decide) ⟨Nat.le_of_ble_eq_true rfl, Nat.le_of_ble_eq_true rfl⟩ e rfl mnX (fun q hq => by
      rcases List.mem_cons.mp hq with rfl | hq
      · exact ⟨by decide, xIB, mxIB, by decide +kernel, kc_L_50⟩
      · rw [List.mem_singleton.mp hq]; exact ⟨by decide, xIA, mxIA, by decide +kernel, kc_L_28⟩) rfl (by decide) kc_L_35 (Or.inl ⟨3, rfl, rfl, dL_get_15⟩) rfl rfl ?_
  refine ev_ldc (pc := 16) dL_get_16 ki_L_37 ?_
  exact ev_iretE (pc := 18) dL_get_18 rfl ⟨Nat.le_of_ble_eq_true rfl, Nat.le_of_ble_eq_true rfl⟩ rfl rfl
theorem w_next {p0 p1 : Int32} {v : Int32} {w w1 : mW} (h0 : ∃ fs, w[0]? = some (.inr (3, fs))) (e : EvS m_X3_next [.ref 0, .int p0, .int p1] w (.inl (some (.int v))) w1) : EvS m_L_next [.ref 0, .int p0, .int p1] w (.inl (some (.int v))) w1 := by
  obtain ⟨fs, h0⟩ := h0
  refine evs_of (by decide +kernel) (Nat.le_of_ble_eq_true rfl) (by decide) rfl ?_
  refine ev_aload_n (pc := 0) dL_next_0 rfl rfl ?_
  refine ev_iload_n (pc := 1) dL_next_1 rfl rfl ?_
  refine ev_iload_n (pc := 2) dL_next_2 rfl rfl ?_
  refine cV2 (pc := 3) lk_L_next_3 h0 rfl rfl (Nat.le_of_ble_eq_true rfl) ⟨Nat.le_of_ble_eq_true rfl, Nat.le_of_ble_eq_true rfl⟩ e ?_
  exact ev_iretE (pc := 6) dL_next_6 rfl ⟨Nat.le_of_ble_eq_true rfl, Nat.le_of_ble_eq_true rfl⟩ rfl rfl
theorem w_next_T1 {p0 p1 : Int32} {w w1 : mW} (h0 : ∃ fs, w[0]? = some (.inr (3, fs))) (e : EvS m_X3_next [.ref 0, .int p0, .int p1] w (.inr xIB) w1) : EvS m_L_next [.ref 0, .int p0, .int p1] w (.inl (some (.int (-1000001)))) w1 := by
  obtain ⟨fs, h0⟩ := h0
  refine evs_of (by decide +kernel) (Nat.le_of_ble_eq_true rfl) (by decide) rfl ?_
  refine ev_aload_n (pc := 0) dL_next_0 rfl rfl ?_
  refine ev_iload_n (pc := 1) dL_next_1 rfl rfl ?_
  refine ev_iload_n (pc := 2) dL_next_2 rfl rfl ?_
  refine xV2 (pc := 3) (pre := []) (suf := []) lk_L_next_3 h0 rfl rfl (by decide) ⟨Nat.le_of_ble_eq_true rfl, Nat.le_of_ble_eq_true rfl⟩ e rfl mxIB (fun q hq => absurd hq List.not_mem_nil) rfl (by decide) kc_L_50 (Or.inl ⟨3, rfl, rfl, dL_next_7⟩) rfl rfl ?_
  refine ev_ldc (pc := 8) dL_next_8 ki_L_23 ?_
  exact ev_iretE (pc := 10) dL_next_10 rfl ⟨Nat.le_of_ble_eq_true rfl, Nat.le_of_ble_eq_true rfl⟩ rfl rfl
theorem w_rank {p0 p1 : Int32} {v : Int32} {w w1 : mW} (h0 : ∃ fs, w[0]? = some (.inr (3, fs))) (e : EvS m_X3_rank [.ref 0, .int p0, .int p1] w (.inl (some (.int v))) w1) : EvS m_L_rank [.ref 0, .int p0, .int p1] w (.inl (some (.int v))) w1 := by
  obtain ⟨fs, h0⟩ := h0
  refine evs_of (by decide +kernel) (Nat.le_of_ble_eq_true rfl) (by decide) rfl ?_
  refine ev_aload_n (pc := 0) dL_rank_0 rfl rfl ?_
  refine ev_iload_n (pc := 1) dL_rank_1 rfl rfl ?_
  refine ev_iload_n (pc := 2) dL_rank_2 rfl rfl ?_
  refine cV2 (pc := 3) lk_L_rank_3 h0 rfl rfl (Nat.le_of_ble_eq_true rfl) ⟨Nat.le_of_ble_eq_true rfl, Nat.le_of_ble_eq_true rfl⟩ e ?_
  exact ev_iretE (pc := 6) dL_rank_6 rfl ⟨Nat.le_of_ble_eq_true rfl, Nat.le_of_ble_eq_true rfl⟩ rfl rfl
theorem w_rank_T1 {p0 p1 : Int32} {w w1 : mW} (h0 : ∃ fs, w[0]? = some (.inr (3, fs))) (e : EvS m_X3_rank [.ref 0, .int p0, .int p1] w (.inr xIB) w1) : EvS m_L_rank [.ref 0, .int p0, .int p1] w (.inl (some (.int (-1000001)))) w1 := by
  obtain ⟨fs, h0⟩ := h0
  refine evs_of (by decide +kernel) (Nat.le_of_ble_eq_true rfl) (by decide) rfl ?_
  refine ev_aload_n (pc := 0) dL_rank_0 rfl rfl ?_
  refine ev_iload_n (pc := 1) dL_rank_1 rfl rfl ?_
  refine ev_iload_n (pc := 2) dL_rank_2 rfl rfl ?_
  refine xV2 (pc := 3) (pre := []) (suf := []) lk_L_rank_3 h0 rfl rfl (by decide) ⟨Nat.le_of_ble_eq_true rfl, Nat.le_of_ble_eq_true rfl⟩ e rfl mxIB (fun q hq => absurd hq List.not_mem_nil) rfl (by decide) kc_L_50 (Or.inl ⟨3, rfl, rfl, dL_rank_7⟩) rfl rfl ?_
  refine ev_ldc (pc := 8) dL_rank_8 ki_L_23 ?_
  exact ev_iretE (pc := 10) dL_rank_10 rfl ⟨Nat.le_of_ble_eq_true rfl, Nat.le_of_ble_eq_true rfl⟩ rfl rfl
theorem w_size {p0 : Int32} {v : Int32} {w w1 : mW} (h0 : ∃ fs, w[0]? = some (.inr (3, fs))) (e : EvS m_X3_size [.ref 0, .int p0] w (.inl (some (.int v))) w1) : EvS m_L_size [.ref 0, .int p0] w (.inl (some (.int v))) w1 := by
  obtain ⟨fs, h0⟩ := h0
  refine evs_of (by decide +kernel) (Nat.le_of_ble_eq_true rfl) (by decide) rfl ?_
  refine ev_aload_n (pc := 0) dL_size_0 rfl rfl ?_
  refine ev_iload_n (pc := 1) dL_size_1 rfl rfl ?_
  refine cV1 (pc := 2) lk_L_size_2 h0 rfl rfl (Nat.le_of_ble_eq_true rfl) ⟨Nat.le_of_ble_eq_true rfl, Nat.le_of_ble_eq_true rfl⟩ e ?_
  exact ev_iretE (pc := 5) dL_size_5 rfl ⟨Nat.le_of_ble_eq_true rfl, Nat.le_of_ble_eq_true rfl⟩ rfl rfl
theorem w_size_T1 {p0 : Int32} {w w1 : mW} (h0 : ∃ fs, w[0]? = some (.inr (3, fs))) (e : EvS m_X3_size [.ref 0, .int p0] w (.inr xIB) w1) : EvS m_L_size [.ref 0, .int p0] w (.inl (some (.int (-1000001)))) w1 := by
  obtain ⟨fs, h0⟩ := h0
  refine evs_of (by decide +kernel) (Nat.le_of_ble_eq_true rfl) (by decide) rfl ?_
  refine ev_aload_n (pc := 0) dL_size_0 rfl rfl ?_
  refine ev_iload_n (pc := 1) dL_size_1 rfl rfl ?_
  refine xV1 (pc := 2) (pre := []) (suf := []) lk_L_size_2 h0 rfl rfl (by decide) ⟨Nat.le_of_ble_eq_true rfl, Nat.le_of_ble_eq_true rfl⟩ e rfl mxIB (fun q hq => absurd hq List.not_mem_nil) rfl (by decide) kc_L_50 (Or.inl ⟨2, rfl, rfl, dL_size_6⟩) rfl rfl ?_
  refine ev_ldc (pc := 7) dL_size_7 ki_L_23 ?_
  exact ev_iretE (pc := 9) dL_size_9 rfl ⟨Nat.le_of_ble_eq_true rfl, Nat.le_of_ble_eq_true rfl⟩ rfl rfl
theorem w_depth {p0 : Int32} {v : Int32} {w w1 : mW} (h0 : ∃ fs, w[0]? = some (.inr (3, fs))) (e : EvS m_X3_depth [.ref 0, .int p0] w (.inl (some (.int v))) w1) : EvS m_L_depth [.ref 0, .int p0] w (.inl (some (.int v))) w1 := by
  obtain ⟨fs, h0⟩ := h0
  refine evs_of (by decide +kernel) (Nat.le_of_ble_eq_true rfl) (by decide) rfl ?_
  refine ev_aload_n (pc := 0) dL_depth_0 rfl rfl ?_
  refine ev_iload_n (pc := 1) dL_depth_1 rfl rfl ?_
  refine cV1 (pc := 2) lk_L_depth_2 h0 rfl rfl (Nat.le_of_ble_eq_true rfl) ⟨Nat.le_of_ble_eq_true rfl, Nat.le_of_ble_eq_true rfl⟩ e ?_
  exact ev_iretE (pc := 5) dL_depth_5 rfl ⟨Nat.le_of_ble_eq_true rfl, Nat.le_of_ble_eq_true rfl⟩ rfl rfl
theorem w_depth_T1 {p0 : Int32} {w w1 : mW} (h0 : ∃ fs, w[0]? = some (.inr (3, fs))) (e : EvS m_X3_depth [.ref 0, .int p0] w (.inr xIB) w1) : EvS m_L_depth [.ref 0, .int p0] w (.inl (some (.int (-1000001)))) w1 := by
  obtain ⟨fs, h0⟩ := h0
  refine evs_of (by decide +kernel) (Nat.le_of_ble_eq_true rfl) (by decide) rfl ?_
  refine ev_aload_n (pc := 0) dL_depth_0 rfl rfl ?_
  refine ev_iload_n (pc := 1) dL_depth_1 rfl rfl ?_
  refine xV1 (pc := 2) (pre := []) (suf := []) lk_L_depth_2 h0 rfl rfl (by decide) ⟨Nat.le_of_ble_eq_true rfl, Nat.le_of_ble_eq_true rfl⟩ e rfl mxIB (fun q hq => absurd hq List.not_mem_nil) rfl (by decide) kc_L_50 (Or.inl ⟨2, rfl, rfl, dL_depth_6⟩) rfl rfl ?_
  refine ev_ldc (pc := 7) dL_depth_7 ki_L_23 ?_
  exact ev_iretE (pc := 9) dL_depth_9 rfl ⟨Nat.le_of_ble_eq_true rfl, Nat.le_of_ble_eq_true rfl⟩ rfl rfl
theorem w_rootOf {p0 : Int32} {v : Int32} {w w1 : mW} (h0 : ∃ fs, w[0]? = some (.inr (3, fs))) (e : EvS m_X3_rootOf [.ref 0, .int p0] w (.inl (some (.int v))) w1) : EvS m_L_rootOf [.ref 0, .int p0] w (.inl (some (.int v))) w1 := by
  obtain ⟨fs, h0⟩ := h0
  refine evs_of (by decide +kernel) (Nat.le_of_ble_eq_true rfl) (by decide) rfl ?_
  refine ev_aload_n (pc := 0) dL_rootOf_0 rfl rfl ?_
  refine ev_iload_n (pc := 1) dL_rootOf_1 rfl rfl ?_
  refine cV1 (pc := 2) lk_L_rootOf_2 h0 rfl rfl (Nat.le_of_ble_eq_true rfl) ⟨Nat.le_of_ble_eq_true rfl, Nat.le_of_ble_eq_true rfl⟩ e ?_
  exact ev_iretE (pc := 5) dL_rootOf_5 rfl ⟨Nat.le_of_ble_eq_true rfl, Nat.le_of_ble_eq_true rfl⟩ rfl rfl
theorem w_rootOf_T1 {p0 : Int32} {w w1 : mW} (h0 : ∃ fs, w[0]? = some (.inr (3, fs))) (e : EvS m_X3_rootOf [.ref 0, .int p0] w (.inr xIB) w1) : EvS m_L_rootOf [.ref 0, .int p0] w (.inl (some (.int (-1000001)))) w1 := by
  obtain ⟨fs, h0⟩ := h0
  refine evs_of (by decide +kernel) (Nat.le_of_ble_eq_true rfl) (by decide) rfl ?_
  refine ev_aload_n (pc := 0) dL_rootOf_0 rfl rfl ?_
  refine ev_iload_n (pc := 1) dL_rootOf_1 rfl rfl ?_
  refine xV1 (pc := 2) (pre := []) (suf := []) lk_L_rootOf_2 h0 rfl rfl (by decide) ⟨Nat.le_of_ble_eq_true rfl, Nat.le_of_ble_eq_true rfl⟩ e rfl mxIB (fun q hq => absurd hq List.not_mem_nil) rfl (by decide) kc_L_50 (Or.inl ⟨2, rfl, rfl, dL_rootOf_6⟩) rfl rfl ?_
  refine ev_ldc (pc := 7) dL_rootOf_7 ki_L_23 ?_
  exact ev_iretE (pc := 9) dL_rootOf_9 rfl ⟨Nat.le_of_ble_eq_true rfl, Nat.le_of_ble_eq_true rfl⟩ rfl rfl
theorem w_shared {p0 p1 : Int32} {v : Int32} {w w1 : mW} (h0 : ∃ fs, w[0]? = some (.inr (3, fs))) (e : EvS m_X3_sharedPages [.ref 0, .int p0, .int p1] w (.inl (some (.int v))) w1) : EvS m_L_shared [.ref 0, .int p0, .int p1] w (.inl (some (.int v))) w1 := by
  obtain ⟨fs, h0⟩ := h0
  refine evs_of (by decide +kernel) (Nat.le_of_ble_eq_true rfl) (by decide) rfl ?_
  refine ev_aload_n (pc := 0) dL_shared_0 rfl rfl ?_
  refine ev_iload_n (pc := 1) dL_shared_1 rfl rfl ?_
  refine ev_iload_n (pc := 2) dL_shared_2 rfl rfl ?_
  refine cV2 (pc := 3) lk_L_shared_3 h0 rfl rfl (Nat.le_of_ble_eq_true rfl) ⟨Nat.le_of_ble_eq_true rfl, Nat.le_of_ble_eq_true rfl⟩ e ?_
  exact ev_iretE (pc := 6) dL_shared_6 rfl ⟨Nat.le_of_ble_eq_true rfl, Nat.le_of_ble_eq_true rfl⟩ rfl rfl
theorem w_shared_T1 {p0 p1 : Int32} {w w1 : mW} (h0 : ∃ fs, w[0]? = some (.inr (3, fs))) (e : EvS m_X3_sharedPages [.ref 0, .int p0, .int p1] w (.inr xIB) w1) : EvS m_L_shared [.ref 0, .int p0, .int p1] w (.inl (some (.int (-1000001)))) w1 := by
  obtain ⟨fs, h0⟩ := h0
  refine evs_of (by decide +kernel) (Nat.le_of_ble_eq_true rfl) (by decide) rfl ?_
  refine ev_aload_n (pc := 0) dL_shared_0 rfl rfl ?_
  refine ev_iload_n (pc := 1) dL_shared_1 rfl rfl ?_
  refine ev_iload_n (pc := 2) dL_shared_2 rfl rfl ?_
  refine xV2 (pc := 3) (pre := []) (suf := []) lk_L_shared_3 h0 rfl rfl (by decide) ⟨Nat.le_of_ble_eq_true rfl, Nat.le_of_ble_eq_true rfl⟩ e rfl mxIB (fun q hq => absurd hq List.not_mem_nil) rfl (by decide) kc_L_50 (Or.inl ⟨3, rfl, rfl, dL_shared_7⟩) rfl rfl ?_
  refine ev_ldc (pc := 8) dL_shared_8 ki_L_23 ?_
  exact ev_iretE (pc := 10) dL_shared_10 rfl ⟨Nat.le_of_ble_eq_true rfl, Nat.le_of_ble_eq_true rfl⟩ rfl rfl
theorem w_isFree {p0 : Int32} {v : Int32} {w w1 : mW} (h0 : ∃ fs, w[0]? = some (.inr (3, fs))) (hv : v = 0 ∨ v = 1) (e : EvS m_X3_isFree [.ref 0, .int p0] w (.inl (some (.int v))) w1) : EvS m_L_isFree [.ref 0, .int p0] w (.inl (some (.int v))) w1 := by
  obtain ⟨fs, h0⟩ := h0
  rcases hv with rfl | rfl
  · refine evs_of (by decide +kernel) (Nat.le_of_ble_eq_true rfl) (by decide) rfl ?_
    refine ev_aload_n (pc := 0) dL_isFree_0 rfl rfl ?_
    refine ev_iload_n (pc := 1) dL_isFree_1 rfl rfl ?_
    refine cV1 (pc := 2) lk_L_isFree_2 h0 rfl rfl (Nat.le_of_ble_eq_true rfl) ⟨Nat.le_of_ble_eq_true rfl, Nat.le_of_ble_eq_true rfl⟩ e ?_
    refine ev_if_eq (pc := 5) (tgt := 12) dL_isFree_5 (by decide) (fun _ => ?_) (fun c_5 => absurd rfl c_5)
    refine ev_iconst (pc := 12) (v := 0) dL_isFree_12 (by decide) ?_
    exact ev_iretE (pc := 13) dL_isFree_13 rfl ⟨Nat.le_of_ble_eq_true rfl, Nat.le_of_ble_eq_true rfl⟩ rfl rfl
  · refine evs_of (by decide +kernel) (Nat.le_of_ble_eq_true rfl) (by decide) rfl ?_
    refine ev_aload_n (pc := 0) dL_isFree_0 rfl rfl ?_
    refine ev_iload_n (pc := 1) dL_isFree_1 rfl rfl ?_
    refine cV1 (pc := 2) lk_L_isFree_2 h0 rfl rfl (Nat.le_of_ble_eq_true rfl) ⟨Nat.le_of_ble_eq_true rfl, Nat.le_of_ble_eq_true rfl⟩ e ?_
    refine ev_if_eq (pc := 5) (tgt := 12) dL_isFree_5 (by decide) (fun c_5 => absurd c_5 (by decide)) (fun _ => ?_)
    refine ev_iconst (pc := 8) (v := 1) dL_isFree_8 (by decide) ?_
    refine ev_goto (pc := 9) (tgt := 13) dL_isFree_9 (by decide) ?_
    exact ev_iretE (pc := 13) dL_isFree_13 rfl ⟨Nat.le_of_ble_eq_true rfl, Nat.le_of_ble_eq_true rfl⟩ rfl rfl
theorem w_isFree_T1 {p0 : Int32} {w w1 : mW} (h0 : ∃ fs, w[0]? = some (.inr (3, fs))) (e : EvS m_X3_isFree [.ref 0, .int p0] w (.inr xIB) w1) : EvS m_L_isFree [.ref 0, .int p0] w (.inl (some (.int (-1000001)))) w1 := by
  obtain ⟨fs, h0⟩ := h0
  refine evs_of (by decide +kernel) (Nat.le_of_ble_eq_true rfl) (by decide) rfl ?_
  refine ev_aload_n (pc := 0) dL_isFree_0 rfl rfl ?_
  refine ev_iload_n (pc := 1) dL_isFree_1 rfl rfl ?_
  refine xV1 (pc := 2) (pre := []) (suf := []) lk_L_isFree_2 h0 rfl rfl (by decide) ⟨Nat.le_of_ble_eq_true rfl, Nat.le_of_ble_eq_true rfl⟩ e rfl mxIB (fun q hq => absurd hq List.not_mem_nil) rfl (by decide) kc_L_50 (Or.inl ⟨2, rfl, rfl, dL_isFree_14⟩) rfl rfl ?_
  refine ev_ldc (pc := 15) dL_isFree_15 ki_L_23 ?_
  exact ev_iretE (pc := 17) dL_isFree_17 rfl ⟨Nat.le_of_ble_eq_true rfl, Nat.le_of_ble_eq_true rfl⟩ rfl rfl
theorem w_entries {p0 : Int32} {v : Int32} {w w1 : mW} (h0 : ∃ fs, w[0]? = some (.inr (3, fs))) (e : EvS m_X3_entries [.ref 0, .int p0] w (.inl (some (.int v))) w1) : EvS m_L_entries [.ref 0, .int p0] w (.inl (some (.int v))) w1 := by
  obtain ⟨fs, h0⟩ := h0
  refine evs_of (by decide +kernel) (Nat.le_of_ble_eq_true rfl) (by decide) rfl ?_
  refine ev_aload_n (pc := 0) dL_entries_0 rfl rfl ?_
  refine ev_iload_n (pc := 1) dL_entries_1 rfl rfl ?_
  refine cV1 (pc := 2) lk_L_entries_2 h0 rfl rfl (Nat.le_of_ble_eq_true rfl) ⟨Nat.le_of_ble_eq_true rfl, Nat.le_of_ble_eq_true rfl⟩ e ?_
  exact ev_iretE (pc := 5) dL_entries_5 rfl ⟨Nat.le_of_ble_eq_true rfl, Nat.le_of_ble_eq_true rfl⟩ rfl rfl
theorem w_entries_T1 {p0 : Int32} {w w1 : mW} (h0 : ∃ fs, w[0]? = some (.inr (3, fs))) (e : EvS m_X3_entries [.ref 0, .int p0] w (.inr xIB) w1) : EvS m_L_entries [.ref 0, .int p0] w (.inl (some (.int (-1000001)))) w1 := by
  obtain ⟨fs, h0⟩ := h0
  refine evs_of (by decide +kernel) (Nat.le_of_ble_eq_true rfl) (by decide) rfl ?_
  refine ev_aload_n (pc := 0) dL_entries_0 rfl rfl ?_
  refine ev_iload_n (pc := 1) dL_entries_1 rfl rfl ?_
  refine xV1 (pc := 2) (pre := []) (suf := []) lk_L_entries_2 h0 rfl rfl (by decide) ⟨Nat.le_of_ble_eq_true rfl, Nat.le_of_ble_eq_true rfl⟩ e rfl mxIB (fun q hq => absurd hq List.not_mem_nil) rfl (by decide) kc_L_50 (Or.inl ⟨2, rfl, rfl, dL_entries_6⟩) rfl rfl ?_
  refine ev_ldc (pc := 7) dL_entries_7 ki_L_23 ?_
  exact ev_iretE (pc := 9) dL_entries_9 rfl ⟨Nat.le_of_ble_eq_true rfl, Nat.le_of_ble_eq_true rfl⟩ rfl rfl
theorem w_keyAt {p0 p1 : Int32} {v : Int32} {w w1 : mW} (h0 : ∃ fs, w[0]? = some (.inr (3, fs))) (e : EvS m_X3_keyAt [.ref 0, .int p0, .int p1] w (.inl (some (.int v))) w1) : EvS m_L_keyAt [.ref 0, .int p0, .int p1] w (.inl (some (.int v))) w1 := by
  obtain ⟨fs, h0⟩ := h0
  refine evs_of (by decide +kernel) (Nat.le_of_ble_eq_true rfl) (by decide) rfl ?_
  refine ev_aload_n (pc := 0) dL_keyAt_0 rfl rfl ?_
  refine ev_iload_n (pc := 1) dL_keyAt_1 rfl rfl ?_
  refine ev_iload_n (pc := 2) dL_keyAt_2 rfl rfl ?_
  refine cV2 (pc := 3) lk_L_keyAt_3 h0 rfl rfl (Nat.le_of_ble_eq_true rfl) ⟨Nat.le_of_ble_eq_true rfl, Nat.le_of_ble_eq_true rfl⟩ e ?_
  exact ev_iretE (pc := 6) dL_keyAt_6 rfl ⟨Nat.le_of_ble_eq_true rfl, Nat.le_of_ble_eq_true rfl⟩ rfl rfl
theorem w_keyAt_T1 {p0 p1 : Int32} {w w1 : mW} (h0 : ∃ fs, w[0]? = some (.inr (3, fs))) (e : EvS m_X3_keyAt [.ref 0, .int p0, .int p1] w (.inr xIB) w1) : EvS m_L_keyAt [.ref 0, .int p0, .int p1] w (.inl (some (.int (-1000001)))) w1 := by
  obtain ⟨fs, h0⟩ := h0
  refine evs_of (by decide +kernel) (Nat.le_of_ble_eq_true rfl) (by decide) rfl ?_
  refine ev_aload_n (pc := 0) dL_keyAt_0 rfl rfl ?_
  refine ev_iload_n (pc := 1) dL_keyAt_1 rfl rfl ?_
  refine ev_iload_n (pc := 2) dL_keyAt_2 rfl rfl ?_
  refine xV2 (pc := 3) (pre := []) (suf := []) lk_L_keyAt_3 h0 rfl rfl (by decide) ⟨Nat.le_of_ble_eq_true rfl, Nat.le_of_ble_eq_true rfl⟩ e rfl mxIB (fun q hq => absurd hq List.not_mem_nil) rfl (by decide) kc_L_50 (Or.inl ⟨3, rfl, rfl, dL_keyAt_7⟩) rfl rfl ?_
  refine ev_ldc (pc := 8) dL_keyAt_8 ki_L_23 ?_
  exact ev_iretE (pc := 10) dL_keyAt_10 rfl ⟨Nat.le_of_ble_eq_true rfl, Nat.le_of_ble_eq_true rfl⟩ rfl rfl
theorem w_pageAt {p0 p1 : Int32} {v : Int32} {w w1 : mW} (h0 : ∃ fs, w[0]? = some (.inr (3, fs))) (e : EvS m_X3_pageAt [.ref 0, .int p0, .int p1] w (.inl (some (.int v))) w1) : EvS m_L_pageAt [.ref 0, .int p0, .int p1] w (.inl (some (.int v))) w1 := by
  obtain ⟨fs, h0⟩ := h0
  refine evs_of (by decide +kernel) (Nat.le_of_ble_eq_true rfl) (by decide) rfl ?_
  refine ev_aload_n (pc := 0) dL_pageAt_0 rfl rfl ?_
  refine ev_iload_n (pc := 1) dL_pageAt_1 rfl rfl ?_
  refine ev_iload_n (pc := 2) dL_pageAt_2 rfl rfl ?_
  refine cV2 (pc := 3) lk_L_pageAt_3 h0 rfl rfl (Nat.le_of_ble_eq_true rfl) ⟨Nat.le_of_ble_eq_true rfl, Nat.le_of_ble_eq_true rfl⟩ e ?_
  exact ev_iretE (pc := 6) dL_pageAt_6 rfl ⟨Nat.le_of_ble_eq_true rfl, Nat.le_of_ble_eq_true rfl⟩ rfl rfl
theorem w_pageAt_T1 {p0 p1 : Int32} {w w1 : mW} (h0 : ∃ fs, w[0]? = some (.inr (3, fs))) (e : EvS m_X3_pageAt [.ref 0, .int p0, .int p1] w (.inr xIB) w1) : EvS m_L_pageAt [.ref 0, .int p0, .int p1] w (.inl (some (.int (-1000001)))) w1 := by
  obtain ⟨fs, h0⟩ := h0
  refine evs_of (by decide +kernel) (Nat.le_of_ble_eq_true rfl) (by decide) rfl ?_
  refine ev_aload_n (pc := 0) dL_pageAt_0 rfl rfl ?_
  refine ev_iload_n (pc := 1) dL_pageAt_1 rfl rfl ?_
  refine ev_iload_n (pc := 2) dL_pageAt_2 rfl rfl ?_
  refine xV2 (pc := 3) (pre := []) (suf := []) lk_L_pageAt_3 h0 rfl rfl (by decide) ⟨Nat.le_of_ble_eq_true rfl, Nat.le_of_ble_eq_true rfl⟩ e rfl mxIB (fun q hq => absurd hq List.not_mem_nil) rfl (by decide) kc_L_50 (Or.inl ⟨3, rfl, rfl, dL_pageAt_7⟩) rfl rfl ?_
  refine ev_ldc (pc := 8) dL_pageAt_8 ki_L_23 ?_
  exact ev_iretE (pc := 10) dL_pageAt_10 rfl ⟨Nat.le_of_ble_eq_true rfl, Nat.le_of_ble_eq_true rfl⟩ rfl rfl
theorem w_slotWord {p0 p1 : Int32} {v : Int64} {w w1 : mW} (h0 : ∃ fs, w[0]? = some (.inr (3, fs))) (e : EvS m_X3_slotWord [.ref 0, .int p0, .int p1] w (.inl (some (.long v))) w1) : EvS m_L_slotWord [.ref 0, .int p0, .int p1] w (.inl (some (.long v))) w1 := by
  obtain ⟨fs, h0⟩ := h0
  refine evs_of (by decide +kernel) (Nat.le_of_ble_eq_true rfl) (by decide) rfl ?_
  refine ev_aload_n (pc := 0) dL_slotWord_0 rfl rfl ?_
  refine ev_iload_n (pc := 1) dL_slotWord_1 rfl rfl ?_
  refine ev_iload_n (pc := 2) dL_slotWord_2 rfl rfl ?_
  refine cV2 (pc := 3) lk_L_slotWord_3 h0 rfl rfl (Nat.le_of_ble_eq_true rfl) ⟨Nat.le_of_ble_eq_true rfl, Nat.le_of_ble_eq_true rfl⟩ e ?_
  exact ev_lretE (pc := 6) dL_slotWord_6 rfl ⟨Nat.le_of_ble_eq_true rfl, Nat.le_of_ble_eq_true rfl⟩ rfl rfl
theorem w_slotWord_T1 {p0 p1 : Int32} {w w1 : mW} (h0 : ∃ fs, w[0]? = some (.inr (3, fs))) (e : EvS m_X3_slotWord [.ref 0, .int p0, .int p1] w (.inr xIB) w1) : EvS m_L_slotWord [.ref 0, .int p0, .int p1] w (.inl (some (.long (-1000001)))) w1 := by
  obtain ⟨fs, h0⟩ := h0
  refine evs_of (by decide +kernel) (Nat.le_of_ble_eq_true rfl) (by decide) rfl ?_
  refine ev_aload_n (pc := 0) dL_slotWord_0 rfl rfl ?_
  refine ev_iload_n (pc := 1) dL_slotWord_1 rfl rfl ?_
  refine ev_iload_n (pc := 2) dL_slotWord_2 rfl rfl ?_
  refine xV2 (pc := 3) (pre := []) (suf := []) lk_L_slotWord_3 h0 rfl rfl (by decide) ⟨Nat.le_of_ble_eq_true rfl, Nat.le_of_ble_eq_true rfl⟩ e rfl mxIB (fun q hq => absurd hq List.not_mem_nil) rfl (by decide) kc_L_50 (Or.inl ⟨3, rfl, rfl, dL_slotWord_7⟩) rfl rfl ?_
  refine ev_ldc2 (pc := 8) dL_slotWord_8 kl_L_97 ?_
  exact ev_lretE (pc := 11) dL_slotWord_11 rfl ⟨Nat.le_of_ble_eq_true rfl, Nat.le_of_ble_eq_true rfl⟩ rfl rfl
theorem w_isWhole {p0 : Int32} {v : Int32} {w w1 : mW} (h0 : ∃ fs, w[0]? = some (.inr (3, fs))) (hv : v = 0 ∨ v = 1) (e : EvS m_X3_isWhole [.ref 0, .int p0] w (.inl (some (.int v))) w1) : EvS m_L_isWhole [.ref 0, .int p0] w (.inl (some (.int v))) w1 := by
  obtain ⟨fs, h0⟩ := h0
  rcases hv with rfl | rfl
  · refine evs_of (by decide +kernel) (Nat.le_of_ble_eq_true rfl) (by decide) rfl ?_
    refine ev_aload_n (pc := 0) dL_isWhole_0 rfl rfl ?_
    refine ev_iload_n (pc := 1) dL_isWhole_1 rfl rfl ?_
    refine cV1 (pc := 2) lk_L_isWhole_2 h0 rfl rfl (Nat.le_of_ble_eq_true rfl) ⟨Nat.le_of_ble_eq_true rfl, Nat.le_of_ble_eq_true rfl⟩ e ?_
    refine ev_if_eq (pc := 5) (tgt := 12) dL_isWhole_5 (by decide) (fun _ => ?_) (fun c_5 => absurd rfl c_5)
    refine ev_iconst (pc := 12) (v := 0) dL_isWhole_12 (by decide) ?_
    exact ev_iretE (pc := 13) dL_isWhole_13 rfl ⟨Nat.le_of_ble_eq_true rfl, Nat.le_of_ble_eq_true rfl⟩ rfl rfl
  · refine evs_of (by decide +kernel) (Nat.le_of_ble_eq_true rfl) (by decide) rfl ?_
    refine ev_aload_n (pc := 0) dL_isWhole_0 rfl rfl ?_
    refine ev_iload_n (pc := 1) dL_isWhole_1 rfl rfl ?_
    refine cV1 (pc := 2) lk_L_isWhole_2 h0 rfl rfl (Nat.le_of_ble_eq_true rfl) ⟨Nat.le_of_ble_eq_true rfl, Nat.le_of_ble_eq_true rfl⟩ e ?_
    refine ev_if_eq (pc := 5) (tgt := 12) dL_isWhole_5 (by decide) (fun c_5 => absurd c_5 (by decide)) (fun _ => ?_)
    refine ev_iconst (pc := 8) (v := 1) dL_isWhole_8 (by decide) ?_
    refine ev_goto (pc := 9) (tgt := 13) dL_isWhole_9 (by decide) ?_
    exact ev_iretE (pc := 13) dL_isWhole_13 rfl ⟨Nat.le_of_ble_eq_true rfl, Nat.le_of_ble_eq_true rfl⟩ rfl rfl
theorem w_isWhole_T1 {p0 : Int32} {w w1 : mW} (h0 : ∃ fs, w[0]? = some (.inr (3, fs))) (e : EvS m_X3_isWhole [.ref 0, .int p0] w (.inr xIB) w1) : EvS m_L_isWhole [.ref 0, .int p0] w (.inl (some (.int (-1000001)))) w1 := by
  obtain ⟨fs, h0⟩ := h0
  refine evs_of (by decide +kernel) (Nat.le_of_ble_eq_true rfl) (by decide) rfl ?_
  refine ev_aload_n (pc := 0) dL_isWhole_0 rfl rfl ?_
  refine ev_iload_n (pc := 1) dL_isWhole_1 rfl rfl ?_
  refine xV1 (pc := 2) (pre := []) (suf := []) lk_L_isWhole_2 h0 rfl rfl (by decide) ⟨Nat.le_of_ble_eq_true rfl, Nat.le_of_ble_eq_true rfl⟩ e rfl mxIB (fun q hq => absurd hq List.not_mem_nil) rfl (by decide) kc_L_50 (Or.inl ⟨2, rfl, rfl, dL_isWhole_14⟩) rfl rfl ?_
  refine ev_ldc (pc := 15) dL_isWhole_15 ki_L_23 ?_
  exact ev_iretE (pc := 17) dL_isWhole_17 rfl ⟨Nat.le_of_ble_eq_true rfl, Nat.le_of_ble_eq_true rfl⟩ rfl rfl
theorem w_tear {p0 : Int32} {v : Int32} {w w1 : mW} (h0 : ∃ fs, w[0]? = some (.inr (3, fs))) (e : EvS m_X3_tear [.ref 0, .int p0] w (.inl (some (.int v))) w1) : EvS m_L_tear [.ref 0, .int p0] w (.inl (some (.int v))) w1 := by
  obtain ⟨fs, h0⟩ := h0
  refine evs_of (by decide +kernel) (Nat.le_of_ble_eq_true rfl) (by decide) rfl ?_
  refine ev_aload_n (pc := 0) dL_tear_0 rfl rfl ?_
  refine ev_iload_n (pc := 1) dL_tear_1 rfl rfl ?_
  refine cV1 (pc := 2) lk_L_tear_2 h0 rfl rfl (Nat.le_of_ble_eq_true rfl) ⟨Nat.le_of_ble_eq_true rfl, Nat.le_of_ble_eq_true rfl⟩ e ?_
  exact ev_iretE (pc := 5) dL_tear_5 rfl ⟨Nat.le_of_ble_eq_true rfl, Nat.le_of_ble_eq_true rfl⟩ rfl rfl
theorem w_tear_T1 {p0 : Int32} {w w1 : mW} (h0 : ∃ fs, w[0]? = some (.inr (3, fs))) (e : EvS m_X3_tear [.ref 0, .int p0] w (.inr xIB) w1) : EvS m_L_tear [.ref 0, .int p0] w (.inl (some (.int (-1000001)))) w1 := by
  obtain ⟨fs, h0⟩ := h0
  refine evs_of (by decide +kernel) (Nat.le_of_ble_eq_true rfl) (by decide) rfl ?_
  refine ev_aload_n (pc := 0) dL_tear_0 rfl rfl ?_
  refine ev_iload_n (pc := 1) dL_tear_1 rfl rfl ?_
  refine xV1 (pc := 2) (pre := []) (suf := [(0, 5, 10, 21)]) lk_L_tear_2 h0 rfl rfl (by decide) ⟨Nat.le_of_ble_eq_true rfl, Nat.le_of_ble_eq_true rfl⟩ e rfl mxIB (fun q hq => absurd hq List.not_mem_nil) rfl (by decide) kc_L_50 (Or.inl ⟨2, rfl, rfl, dL_tear_6⟩) rfl rfl ?_
  refine ev_ldc (pc := 7) dL_tear_7 ki_L_23 ?_
  exact ev_iretE (pc := 9) dL_tear_9 rfl ⟨Nat.le_of_ble_eq_true rfl, Nat.le_of_ble_eq_true rfl⟩ rfl rfl
theorem w_tear_T2 {p0 : Int32} {w w1 : mW} (h0 : ∃ fs, w[0]? = some (.inr (3, fs))) (e : EvS m_X3_tear [.ref 0, .int p0] w (.inr xIS) w1) : EvS m_L_tear [.ref 0, .int p0] w (.inl (some (.int (-1000002)))) w1 := by
  obtain ⟨fs, h0⟩ := h0
  refine evs_of (by decide +kernel) (Nat.le_of_ble_eq_true rfl) (by decide) rfl ?_
  refine ev_aload_n (pc := 0) dL_tear_0 rfl rfl ?_
  refine ev_iload_n (pc := 1) dL_tear_1 rfl rfl ?_
  refine xV1 (pc := 2) (pre := [(0, 5, 6, 50)]) (suf := []) lk_L_tear_2 h0 rfl rfl (by decide) ⟨Nat.le_of_ble_eq_true rfl, Nat.le_of_ble_eq_true rfl⟩ e rfl mxIS (fun q hq => by rw [List.mem_singleton.mp hq]; exact ⟨by decide, xIB, mxIB, by decide +kernel, kc_L_50⟩) rfl (by decide) kc_L_21 (Or.inl ⟨2, rfl, rfl, dL_tear_10⟩) rfl rfl ?_
  refine ev_ldc (pc := 11) dL_tear_11 ki_L_30 ?_
  exact ev_iretE (pc := 13) dL_tear_13 rfl ⟨Nat.le_of_ble_eq_true rfl, Nat.le_of_ble_eq_true rfl⟩ rfl rfl
theorem w_crashInCommit {p0 : Int32} {v : Int32} {w w1 : mW} (h0 : ∃ fs, w[0]? = some (.inr (3, fs))) (e : EvS m_X3_crashInCommit [.ref 0, .int p0] w (.inl (some (.int v))) w1) : EvS m_L_crashInCommit [.ref 0, .int p0] w (.inl (some (.int v))) w1 := by
  obtain ⟨fs, h0⟩ := h0
  refine evs_of (by decide +kernel) (Nat.le_of_ble_eq_true rfl) (by decide) rfl ?_
  refine ev_aload_n (pc := 0) dL_crashInCommit_0 rfl rfl ?_
  refine ev_iload_n (pc := 1) dL_crashInCommit_1 rfl rfl ?_
  refine cV1 (pc := 2) lk_L_crashInCommit_2 h0 rfl rfl (Nat.le_of_ble_eq_true rfl) ⟨Nat.le_of_ble_eq_true rfl, Nat.le_of_ble_eq_true rfl⟩ e ?_
  exact ev_iretE (pc := 5) dL_crashInCommit_5 rfl ⟨Nat.le_of_ble_eq_true rfl, Nat.le_of_ble_eq_true rfl⟩ rfl rfl
theorem w_crashInCommit_T1 {p0 : Int32} {w w1 : mW} (h0 : ∃ fs, w[0]? = some (.inr (3, fs))) (e : EvS m_X3_crashInCommit [.ref 0, .int p0] w (.inr xIA) w1) : EvS m_L_crashInCommit [.ref 0, .int p0] w (.inl (some (.int (-1000001)))) w1 := by
  obtain ⟨fs, h0⟩ := h0
  refine evs_of (by decide +kernel) (Nat.le_of_ble_eq_true rfl) (by decide) rfl ?_
  refine ev_aload_n (pc := 0) dL_crashInCommit_0 rfl rfl ?_
  refine ev_iload_n (pc := 1) dL_crashInCommit_1 rfl rfl ?_
  refine xV1 (pc := 2) (pre := []) (suf := [(0, 5, 10, 21)]) lk_L_crashInCommit_2 h0 rfl rfl (by decide) ⟨Nat.le_of_ble_eq_true rfl, Nat.le_of_ble_eq_true rfl⟩ e rfl mxIA (fun q hq => absurd hq List.not_mem_nil) rfl (by decide) kc_L_28 (Or.inl ⟨2, rfl, rfl, dL_crashInCommit_6⟩) rfl rfl ?_
  refine ev_ldc (pc := 7) dL_crashInCommit_7 ki_L_23 ?_
  exact ev_iretE (pc := 9) dL_crashInCommit_9 rfl ⟨Nat.le_of_ble_eq_true rfl, Nat.le_of_ble_eq_true rfl⟩ rfl rfl
theorem w_crashInCommit_T2 {p0 : Int32} {w w1 : mW} (h0 : ∃ fs, w[0]? = some (.inr (3, fs))) (e : EvS m_X3_crashInCommit [.ref 0, .int p0] w (.inr xIS) w1) : EvS m_L_crashInCommit [.ref 0, .int p0] w (.inl (some (.int (-1000002)))) w1 := by
  obtain ⟨fs, h0⟩ := h0
  refine evs_of (by decide +kernel) (Nat.le_of_ble_eq_true rfl) (by decide) rfl ?_
  refine ev_aload_n (pc := 0) dL_crashInCommit_0 rfl rfl ?_
  refine ev_iload_n (pc := 1) dL_crashInCommit_1 rfl rfl ?_
  refine xV1 (pc := 2) (pre := [(0, 5, 6, 28)]) (suf := []) lk_L_crashInCommit_2 h0 rfl rfl (by decide) ⟨Nat.le_of_ble_eq_true rfl, Nat.le_of_ble_eq_true rfl⟩ e rfl mxIS (fun q hq => by rw [List.mem_singleton.mp hq]; exact ⟨by decide, xIA, mxIA, by decide +kernel, kc_L_28⟩) rfl (by decide) kc_L_21 (Or.inl ⟨2, rfl, rfl, dL_crashInCommit_10⟩) rfl rfl ?_
  refine ev_ldc (pc := 11) dL_crashInCommit_11 ki_L_30 ?_
  exact ev_iretE (pc := 13) dL_crashInCommit_13 rfl ⟨Nat.le_of_ble_eq_true rfl, Nat.le_of_ble_eq_true rfl⟩ rfl rfl
