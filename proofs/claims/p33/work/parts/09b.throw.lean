/-! throws, catches -/
section TH
variable {M : mM} {Qf : mQ} {pc : Nat} {L st : List Value} {kc ks : Nat} {w : mW}
abbrev mNm : List String := ["java/lang/RuntimeException", "java/lang/Exception"]
/-- a place that throws E with a text -/
def mTh (own : String) (ik is ic : Nat) (E text : String) : Prop := E ∈ mX ∧ (is, text) ∈ mSt ∧ own = "Copperleaf" ∧ Bundle.fit E = true ∧ Jvm.Cond.classLink own ik E ∈ WA ∧ Jvm.Cond.initialized E ∈ WA ∧ (∀ x ∈ vx_atS own ic E mNm, x ∈ WA ∨ x = .castable E E ∨ x ∈ mDe) ∧ ∀ x ∈ Jvm.Cond.classLink own ik E :: Jvm.Cond.initialized E :: vx_atS own ic E mNm, vx_ot x = true
theorem mDe_on : ∀ x ∈ mDe, x.onTables = true := by decide +kernel
theorem mNm_fit : ∀ n ∈ mNm, Bundle.fit n = true := by decide +kernel
theorem ev_throw {ik is ic : Nat} {E text : String} (hT : mTh (mMy M).cls ik is ic E text) (d0 : decode (mMc M) pc = .ok (.new ik, 3)) (d3 : decode (mMc M) (pc + 3) = .ok (.dup, 1)) (d4 : decode (mMc M) (pc + 4) = .ok (.ldc is, 2)) (d6 : decode (mMc M) (pc + 6) = .ok (.invokespecial ic, 3)) (d9 : decode (mMc M) (pc + 9) = .ok (.athrow, 1)) (hh : mMh M = []) (hf : 5 < (mMR M).frames) (hlo : (st.map fun v => v.category).sum + 82 ≤ (mMR M).locals) (hc : kc + 1 ≤ (mMR M).cells) (hs : ks + 6 ≤ (mMR M).slots) : EvF M (mQm M (.inr E) w) pc L st kc ks w := by
  intro z b G cA p l e s m args below meth c H locs ls C hw hL
  obtain ⟨h1, h2, h3, h4, h5, h6, h7, h8⟩ := hT
  obtain ⟨sa, hsa⟩ := C.2.2.2.2.2.2.2.2.2.2.1.2.2.2.2.2.1 _ h2
  refine vx_throwS (A := fun q => z.1 ≤ q) (own := (mMy M).cls) (cls := E) (text := text) (names := mNm) (ik := ik) (is := is) (ic := ic) (sa := sa) C.1 C.2.1 C.2.2.2.2.2.2.2.2.2.2.2.1 C.2.2.2.2.1 h4 mNm_fit (C.2.2.2.2.2.1 _ h5) (C.2.2.2.2.2.1 _ h6) (by rw [h3]; exact hsa) (fun x hx => ?_) h8 C.2.2.2.2.2.2.2.2.2.2.2.2.1 C.2.2.2.2.2.2.2.2.2.2.2.2.2.1 hw.2.1 (hL.1.trans C.2.2.1.symm) d0 d3 d4 d6 d9 (fun x hx => ?_) hf ?_ hc hs C.2.2.2.2.2.2.1 (fun t hA hz hk => ⟨rfl, ⟨hw.1.kept (fun k q hq => hk q.1 (hw.1 k q hq).lt), hw.2.2⟩, Nat.le_trans hw.2.1.1 hz, fun q hq hn => (hk q (Nat.lt_of_lt_of_le hq hw.2.1.1)).trans (hw.2.1.2.1 q hq hn)⟩) hw.2.1.2.2 hc hs
  · rcases h7 x hx with h | h | h
    · exact C.2.2.2.2.2.1 _ h
    · rw [h]; exact va_Nw.use rfl (C.2.2.2.2.2.2.2.2.2.2.1.1 E h1)
    · exact va_Nw.use (mDe_on x h) (C.2.2.2.2.2.2.2.2.2.2.1.2.2.2.2.2.2 x h)
  · rw [C.2.2.2.2.2.2.2.1, hh] at hx
    cases hx
  · rw [mV_sum]
    exact hlo
theorem ev_throwW {ik is ic : Nat} {E text : String} (hT : mTh (mMy M).cls ik is ic E text) (d0 : decode (mMc M) pc = .ok (.new ik, 3)) (d3 : decode (mMc M) (pc + 3) = .ok (.dup, 1)) (d4 : decode (mMc M) (pc + 4) = .ok (.ldc_w is, 3)) (d6 : decode (mMc M) (pc + 7) = .ok (.invokespecial ic, 3)) (d9 : decode (mMc M) (pc + 10) = .ok (.athrow, 1)) (hh : mMh M = []) (hf : 5 < (mMR M).frames) (hlo : (st.map fun v => v.category).sum + 82 ≤ (mMR M).locals) (hc : kc + 1 ≤ (mMR M).cells) (hs : ks + 6 ≤ (mMR M).slots) : EvF M (mQm M (.inr E) w) pc L st kc ks w := by
  intro z b G cA p l e s m args below meth c H locs ls C hw hL
  obtain ⟨h1, h2, h3, h4, h5, h6, h7, h8⟩ := hT
  obtain ⟨sa, hsa⟩ := C.2.2.2.2.2.2.2.2.2.2.1.2.2.2.2.2.1 _ h2
  refine vx_throwSW (A := fun q => z.1 ≤ q) (own := (mMy M).cls) (cls := E) (text := text) (names := mNm) (ik := ik) (is := is) (ic := ic) (sa := sa) C.1 C.2.1 C.2.2.2.2.2.2.2.2.2.2.2.1 C.2.2.2.2.1 h4 mNm_fit (C.2.2.2.2.2.1 _ h5) (C.2.2.2.2.2.1 _ h6) (by rw [h3]; exact hsa) (fun x hx => ?_) h8 C.2.2.2.2.2.2.2.2.2.2.2.2.1 C.2.2.2.2.2.2.2.2.2.2.2.2.2.1 hw.2.1 (hL.1.trans C.2.2.1.symm) d0 d3 d4 d6 d9 (fun x hx => ?_) hf ?_ hc hs C.2.2.2.2.2.2.1 (fun t hA hz hk => ⟨rfl, ⟨hw.1.kept (fun k q hq => hk q.1 (hw.1 k q hq).lt), hw.2.2⟩, Nat.le_trans hw.2.1.1 hz, fun q hq hn => (hk q (Nat.lt_of_lt_of_le hq hw.2.1.1)).trans (hw.2.1.2.1 q hq hn)⟩) hw.2.1.2.2 hc hs
  · rcases h7 x hx with h | h | h
    · exact C.2.2.2.2.2.1 _ h
    · rw [h]; exact va_Nw.use rfl (C.2.2.2.2.2.2.2.2.2.2.1.1 E h1)
    · exact va_Nw.use (mDe_on x h) (C.2.2.2.2.2.2.2.2.2.2.1.2.2.2.2.2.2 x h)
  · rw [C.2.2.2.2.2.2.2.1, hh] at hx
    cases hx
  · rw [mV_sum]
    exact hlo
theorem mLs_setH {z : mZ} {b nL : Nat} {ls' : Array Slot} {L : List Value} {i : Nat} {u : Value} (hL : L.length = nL) (hm : mc1 L i = true)
    (h : lv_has ls' nL ((i, u) :: (mLo z b L).filter (fun q => !(q.1 == i) && !(q.1 + 1 == i && q.2.category == 2)))) : mLs z b nL ls' (L.set i hole) := by
  refine ⟨h.1, by rw [List.length_set, hL], h.2.1, fun j x hj hx => ?_⟩
  by_cases hij : i = j
  · subst hij
    rw [List.getElem?_set] at hj
    by_cases hl : i < L.length
    · simp only [if_pos rfl, if_pos hl] at hj
      cases hj
      exact absurd rfl hx
    · simp only [if_pos rfl, if_neg hl] at hj
      cases hj
  · rw [List.getElem?_set_ne hij] at hj
    refine h.2.2 (j, mV z b x) (List.mem_cons_of_mem _ (List.mem_filter.mpr ⟨mLo_mem.mpr ⟨x, hj, hx, rfl⟩, ?_⟩))
    simp only [Bool.and_eq_true, Bool.not_eq_true', beq_eq_false_iff_ne, ne_eq, Bool.and_eq_false_iff]
    refine ⟨fun q => hij q.symm, ?_⟩
    by_cases hc : j + 1 = i
    · right
      have h1 := mc1_ok (z := z) (b := b) hm (q := (j, mV z b x)) (mLo_mem.mpr ⟨x, hj, hx, rfl⟩) hc
      dsimp only at h1 ⊢
      omega
    · exact Or.inl hc
/-- caught by the row x of the table; the rows ahead name other classes -/
theorem ev_catch {K : mM} {E : String} {w1 : mW} {rest stk : List Value} {aa : mZ → Nat → Array Value} {pre suf : List (Nat × Nat × Nat × Nat)} {sp ep hp ct : Nat} (hr : mRun K (.inr E) w1 L rest kc ks M pc w stk aa) (hsplit : mMh M = pre ++ (sp, ep, hp, ct) :: suf) (hE : E ∈ mX) (hpre : ∀ q ∈ pre, q.2.2.2 ≠ 0 ∧ ∃ F ∈ mX, E ≠ F ∧ Jvm.Cond.classLink (mMy M).cls q.2.2.2 F ∈ WA) (hx : (decide (sp ≤ pc) && decide (pc < ep)) = true) (h0 : ct ≠ 0) (hl : Jvm.Cond.classLink (mMy M).cls ct E ∈ WA)
    {len i : Nat} {L' : List Value} (hd : (∃ j : Fin 4, (j : Nat) = i ∧ len = 1 ∧ decode (mMc M) hp = .ok (.astore_n j, 1)) ∨ (len = 2 ∧ decode (mMc M) hp = .ok (.astore i, 2))) (hm : (decide (i < mMn M) && mc1 L i) = true) (hL' : L.set i hole = L')
    (k : EvF M Qf (hp + len) L' [] (kc + (mMR K).cells) (ks + (mMR K).slots) w1) : EvF M Qf pc L stk kc ks w := by
  intro z b G cA p l e s m args below meth c H locs ls C hw hL
  simp only [Bool.and_eq_true, decide_eq_true_eq] at hm
  refine run_thr (hr z b G cA p l e s m args below meth c H locs ls C hw hL) hw (fun H1 locs1 ce q9 hw1 hce hcv hcl => ?_)
  refine vx_catch (own := (mMy M).cls) (name := E) C.2.2.2.2.1 (tableOf pre) ⟨sp, ep, hp, ct⟩ (tableOf suf) (by rw [C.2.2.2.2.2.2.2.1, hsplit]; simp [tableOf]) (fun x hx => ?_) hx h0 (C.2.2.2.2.2.1 _ hl) (va_Nw.use rfl (C.2.2.2.2.2.2.2.2.2.2.1.1 E hE)) hce hcv hcl ?_
  · obtain ⟨q, hq, rfl⟩ := List.mem_map.mp hx
    obtain ⟨h1, F, hF, hn, hl9⟩ := hpre q hq
    exact Or.inr ⟨h1, F, C.2.2.2.2.2.1 _ hl9, C.2.2.2.2.2.2.2.2.2.2.1.2.1 E hE F hF hn⟩
  · rcases hd with ⟨j, hj, rfl, hd⟩ | ⟨rfl, hd⟩
    · exact lv_astore_n C.1 C.2.1 hd hj (mLs_has hL) hm.1 rfl (fun ls' h' => k z b G cA p l e s m args below meth c H1 locs1 ls' C hw1 (by rw [← hL']; exact mLs_setH hL.2.1 hm.2 h'))
    · exact lv_astore C.1 C.2.1 hd (mLs_has hL) hm.1 rfl (fun ls' h' => k z b G cA p l e s m args below meth c H1 locs1 ls' C hw1 (by rw [← hL']; exact mLs_setH hL.2.1 hm.2 h'))
end TH
