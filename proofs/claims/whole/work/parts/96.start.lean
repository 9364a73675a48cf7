/-! THE LAW'S START: a store new, a model new -/
abbrev T0 : Nat → Nd := fun _ => .inl []
abbrev K0 : Nat → Prop := fun q => q = 0
abbrev W0 : Nat → Prop := fun _ => False
abbrev so0 : Nat → Option RS3 := fun _ => some (0, 0, 0)
theorem oR_0 : oR T0 K0 (0, 0, 0) := ⟨0, ⟨rfl, [], rfl, Nat.zero_le _⟩, fun q => by
  show dl q 0 ≤ 1
  unfold dl
  split <;> omega, by simp [kyl, lvE, Srt], fun x hx => by simp [kyl, lvE] at hx, rfl⟩
theorem Rch_0 {r q : Nat} : Rch T0 r q ↔ q = r := by
  rw [Rch_step]
  constructor
  · rintro (h | ⟨c, hc, -⟩)
    · exact h
    · exact absurd hc List.not_mem_nil
  · exact Or.inl
theorem ai_0 : AI 0 K0 W0 T0 (0, 0, 0) none so0 noR 0 z64 := by
  refine ⟨fun q => ?_, ⟨oR_0, fun t x _ h => ?_, fun j x _ h => by cases h⟩, fun q hq => ?_, ⟨fun _ q h => h, fun x h => by cases h⟩, by omega, ?_⟩
  · constructor
    · intro h
      exact ⟨0, List.mem_cons_self, Rch_0.mpr h⟩
    · rintro ⟨r, hr, h⟩
      rw [Rch_0] at h
      rw [h]
      rcases mem_rts.mp hr with rfl | ⟨t, x, ht, hx, rfl⟩ | ⟨j, x, hj, hx, rfl⟩
      · rfl
      · cases hx; rfl
      · cases hx
  · cases h
    exact oR_0
  · rcases hq with h | h
    · have h2 : q = 0 := h
      omega
    · exact absurd h id
  · refine ⟨fun t ht => ⟨rfl, rfl, rfl, rfl⟩, Or.inl rfl, Or.inl ⟨_, rfl⟩, fun t x _ h => by cases h; exact Nat.le_refl _, fun t _ => ⟨0, 0, 0, Nat.le_refl _, by omega, by omega, rfl, rfl, rfl⟩, fun t _ => Or.inr ⟨0, 0, 0, Nat.le_refl _, by omega, by omega, rfl⟩, Nat.le_refl _⟩
theorem gi_0 {opd : Nat → Int32} (hop : opC opd z32 noR) : GI 0 (gA 0 (0, 0, 0, 0) (0, 0, 0, 0) (0, 0, 0, 0) (0, 0, 0, 0) (0, 0, 0, 0) (0, 0, 0, 0) z64 0 z32 z32 z32 z32 (mkF z32 [0]) z32 z32 (fillL z32 [0]) z32 z32 0 0 (-1) 0 0 0 z32 z32 z32 z32 z32 z32 z32 z64 opd z32 z32 z32) := by
  refine ⟨K0, W0, T0, (0, 0, 0), none, so0, noR, 0, z64, (0, 0, 0, 0), (0, 0, 0, 0), (0, 0, 0, 0), (0, 0, 0, 0), (0, 0, 0, 0), (0, 0, 0, 0), 0, z32, z32, z32, z32, (mkF z32 [0]), z32, z32, (fillL z32 [0]), z32, z32, 0, 0, z32, z32, z32, z32, z32, z32, z32, opd, z32, z32, z32, ai_0, ⟨fun p hp => ?_, fun q hq => ?_, fun q hq => ?_⟩, ⟨⟨0, rfl⟩, rfl, rfl, rfl, rfl, rfl⟩, fun p hp => ?_, (fun x h => by cases h), hop, rfl⟩
  · have h2 : p = 0 := hp.elim id (fun h => absurd h id)
    subst h2
    exact ⟨by decide, rfl, Nat.zero_le _, rfl, fun e x hx => by simp at hx⟩
  · unfold mkF
    by_cases h : q = 0
    · subst h
      exact ⟨fun _ => rfl, fun _ => by decide⟩
    · rw [if_neg (by simp [h])]
      exact ⟨fun h2 => absurd rfl h2, fun h2 => absurd h2 h⟩
  · exact ⟨fun h2 => absurd rfl h2, fun h2 => absurd h2 id⟩
  · have h2 : p = 0 := hp.elim id (fun h => absurd h id)
    subst h2
    exact ⟨by decide, rfl, Nat.zero_le _, rfl, fun j v hj => by simp [kyL] at hj, fun j v hj => by simp [vaL] at hj, fun x hx => absurd hx List.not_mem_nil⟩
theorem l_start {q : Nat × (Nat → Int32)} (hq : q.1 ≤ 1536) : EvF (m_L_law q) QL 0 [scr1, hole, hole, hole, hole, hole, hole, hole] [] 0 0 [] := by
  obtain ⟨opd, hop, e4⟩ : ∃ opd, opC opd z32 noR ∧ EvS m_X4_init [.ref 21] (cW 0 (0, 0, 0, 0) (0, 0, 0, 0) (0, 0, 0, 0) (0, 0, 0, 0) (0, 0, 0, 0) (0, 0, 0, 0) z64 0 z32 z32 z32 z32 (mkF z32 [0]) z32 z32 (fillL z32 [0]) z32 z32 [.inr (4, [.null, .null, .null, .null, .null, .null, .null, .int 0, .int 0, .int 0, .int 0, .null, .null, .null, .int 0, .null, .null, .int 0])]) (.inl none) (dW (cT 0 (0, 0, 0, 0) (0, 0, 0, 0) (0, 0, 0, 0) (0, 0, 0, 0) (0, 0, 0, 0) (0, 0, 0, 0) z64 0 z32 z32 z32 z32 (mkF z32 [0]) z32 z32 (fillL z32 [0]) z32 z32) 0 0 (-1) 0 0 0 z32 z32 z32 z32 z32 z32 z32 z64 opd z32 z32 z32 []) := s_X4_init
  refine ev_newE (pc := 0) (ci := 3) (fs := [.null, .null, .null, .null, .null, .null, .int 0]) (q := 0) dL_law_0 rfl inX3 tyX3_ok (show Jvm.Cond.classLink RL 8 RX3 ∈ WA from wa_m 63 (by decide +kernel) rfl) (wa_m 64 (by decide +kernel) rfl) (wa_m 51 (by decide +kernel) rfl) (by decide) (fun _ _ => rfl) rfl rfl ⟨Nat.le_of_ble_eq_true rfl, Nat.le_of_ble_eq_true rfl⟩ rfl rfl ?_
  refine ev_dup (pc := 3) dL_law_3 rfl ?_
  refine ev_callI0 (pc := 4) (K := m_X3_init) dL_law_4 ci_L_95 ok_X3_init rfl rfl rfl rfl (fun n h => by cases h; rfl) ⟨Nat.le_of_ble_eq_true rfl, Nat.le_of_ble_eq_true rfl⟩ (by decide) ⟨Nat.le_of_ble_eq_true rfl, Nat.le_of_ble_eq_true rfl⟩ s_X3_init ?_
  refine ev_astore_n (pc := 7) dL_law_7 rfl rfl rfl ?_
  refine ev_newE (pc := 8) (ci := 4) (fs := [.null, .null, .null, .null, .null, .null, .null, .int 0, .int 0, .int 0, .int 0, .null, .null, .null, .int 0, .null, .null, .int 0]) (q := 21) dL_law_8 rfl inX4 tyX4_ok (show Jvm.Cond.classLink RL 96 RX4 ∈ WA from wa_m 740 (by decide +kernel) rfl) (wa_m 741 (by decide +kernel) rfl) (wa_m 55 (by decide +kernel) rfl) (by decide) (fun _ _ => rfl) rfl rfl ⟨Nat.le_of_ble_eq_true rfl, Nat.le_of_ble_eq_true rfl⟩ rfl rfl ?_
  refine ev_dup (pc := 11) dL_law_11 rfl ?_
  refine ev_callI0 (pc := 12) (K := m_X4_init) dL_law_12 ci_L_98 ok_X4_init rfl rfl rfl rfl (fun n h => by cases h; rfl) ⟨Nat.le_of_ble_eq_true rfl, Nat.le_of_ble_eq_true rfl⟩ (by decide) ⟨Nat.le_of_ble_eq_true rfl, Nat.le_of_ble_eq_true rfl⟩ e4 ?_
  refine ev_astore_n (pc := 15) dL_law_15 rfl rfl rfl ?_
  refine ev_iconst (pc := 16) (v := 1) dL_law_16 (by decide) ?_
  refine ev_naL (pc := 17) (N := 1) (q := 34) dL_law_17 rfl (Nat.le_of_ble_eq_true rfl) rfl rfl ⟨Nat.le_of_ble_eq_true rfl, Nat.le_of_ble_eq_true rfl⟩ rfl rfl ?_
  refine ev_astore_n (pc := 19) dL_law_19 rfl rfl rfl ?_
  refine ev_iconst (pc := 20) (v := 0) dL_law_20 (by decide) ?_
  refine ev_istore (pc := 21) dL_law_21 rfl rfl ?_
  exact l_law hq 512 0 _ z64 hole hole hole _ _ (by omega) (by omega) (gi_0 hop) wf_gA (Nat.le_of_ble_eq_true rfl) (Nat.le_of_ble_eq_true rfl)
