/-! THE LAW'S START: a store new, a model new -/
abbrev T0 : Nat → Nd := fun _ => .inl []
abbrev K0 : Nat → Prop := fun q => q = 0
abbrev W0 : Nat → Prop := fun _ => False
abbrev so0 : Nat → Option RS3 := fun _ => some (0, 0, 0)
theorem oR_0 : oR T0 K0 (0, 0, 0) := ⟨0, ⟨rfl, [], rfl, Nat.zero_le _⟩, fun q => by
  show dl q 0 ≤ 1
  unfold dl
  split <;> omega, by simp [kyl, lvE, Srt], fun x hx => by simp [kyl, lvE] at hx, rfl⟩
theorem Rch_0 {r q : Nat} : Rch T0 r q ↔ q = r := by
  rw [Rch_step]
  constructor
  · rintro (h | ⟨c, hc, -⟩)
    · exact h
    · exact absurd hc List.not_mem_nil
  · exact Or.inl
theorem ai_0 : AI 0 K0 W0 T0 (0, 0, 0) none so0 noR 0 z64 := by
  refine ⟨fun q => ?_, ⟨oR_0, fun t x _ h => ?_, fun j x _ h => by cases h⟩, fun q hq => ?_, ⟨fun _ q h => h, fun x h => by cases h⟩, by omega, ?_⟩
  · constructor
    · intro h
      exact ⟨0, List.mem_cons_self, Rch_0.mpr h⟩
    · rintro ⟨r, hr, h⟩
      rw [Rch_0] at h
      rw [h]
      rcases mem_rts.mp hr with rfl | ⟨t, x, ht, hx, rfl⟩ | ⟨j, x, hj, hx, rfl⟩
      · rfl
      · cases hx; rfl
      · cases hx
  · cases h
    exact oR_0
  · rcases hq with h | h
    · have h2 : q = 0 := h
      omega
    · exact absurd h id
  · refine ⟨fun t ht => ⟨rfl, rfl, rfl, rfl⟩, Or.inl rfl, Or.inl ⟨_, rfl⟩, fun t x _ h => by cases h; exact Nat.le_refl _, fun t _ => ⟨0, 0, 0, Nat.le_refl _, by omega, by omega, rfl, rfl, rfl⟩, fun t _ => Or.inr ⟨0, 0, 0, Nat.le_refl _, by omega, by omega, rfl⟩, Nat.le_refl _⟩
abbrev σ0 : SS := (K0, W0, T0, (0, 0, 0), none, so0, noR, 0, z64)
theorem cg_start : CG 0 σ0 [] cW0 := by
  refine ⟨(0, 0, 0, 0), (0, 0, 0, 0), (0, 0, 0, 0), (0, 0, 0, 0), (0, 0, 0, 0), (0, 0, 0, 0), 0, z32, z32, z32, z32, mkF z32 [0], z32, z32, fillL z32 [0], z32, z32, ai_0, ⟨fun p hp => ?_, fun q hq => ?_, fun q hq => ?_⟩, ⟨⟨0, rfl⟩, rfl, rfl, rfl, rfl, rfl⟩, rfl⟩
  · have h2 : p = 0 := hp.elim id (fun h => absurd h id)
    subst h2
    exact ⟨by decide, rfl, Nat.zero_le _, rfl, fun e x hx => by simp at hx⟩
  · unfold mkF
    by_cases h : q = 0
    · subst h
      exact ⟨fun _ => rfl, fun _ => by decide⟩
    · rw [if_neg (by simp [h])]
      exact ⟨fun h2 => absurd rfl h2, fun h2 => absurd h2 h⟩
  · exact ⟨fun h2 => absurd rfl h2, fun h2 => absurd h2 id⟩
theorem ctL_z {t : Nat → Nat} (h : ∀ i, t i = 0) : ∀ n, ctL t n = []
  | 0 => rfl
  | n + 1 => by
    rw [ctL_s, ctL_z h n, h n]
    rfl
theorem cN_0 (s : Nat) : cN T0 0 (ct (tn z64 s)) := by
  rw [show ct (tn z64 s) = [] from ctL_z (fun i => by
    show (0 : Int64).toBitVec.toNat / _ % 32 = 0
    rw [show (0 : Int64).toBitVec.toNat = 0 from rfl, Nat.zero_div]) 32]
  exact ⟨0, ⟨[], rfl⟩, rfl⟩
abbrev is0 : Nat → Int32 := upd (upd z32 6 1) 7 1
theorem li_start : LI σ0 z64 z32 is0 := by
  have hst : ∀ s, stI σ0 z64 z32 s (0, 0, 0) := fun s => ⟨cN_0 s, rfl⟩
  refine ⟨hst 0, ?_, fun k hk => ?_, fun t ht => ⟨?_, hst _⟩⟩
  · show is0 1 = 0
    decide
  · show upd (upd z32 6 1) 7 1 (2 + k) = 0
    rw [pk_un (by omega), pk_un (by omega)]
  · by_cases h : t = 0
    · subst h
      decide
    · have h : t = 1 := by omega
      subst h
      decide
theorem l_start {q : Nat × (Nat → Int32)} (hq : q.1 ≤ 260) : EvF (m_L_law q) QL 0 [scr1, hole, hole, hole, hole, hole, hole, hole, hole, hole, hole, hole] [] 0 0 [] := by
  have C0 : CG 0 σ0 (T3 z64 z32 z32) (((cW0 ++ [lA 24 z64]) ++ [iA 8 z32]) ++ [iA 8 z32]) := cg_app (cg_app (cg_app cg_start [lA 24 z64]) [iA 8 z32]) [iA 8 z32]
  have C1 := t3_si C0 (upd z32 6 1)
  have C2 := t3_si C1 is0
  obtain ⟨w', C3, e3⟩ := r_isSo C2 li_start 0
  refine ev_newE (pc := 0) (ci := 3) (fs := [.null, .null, .null, .null, .null, .null, .int 0]) (q := 0) dL_law_0 rfl inX3 tyX3_ok kc_L_16 kn_X3 kj_X3 (by decide) (fun _ _ => rfl) rfl rfl ⟨Nat.le_of_ble_eq_true rfl, Nat.le_of_ble_eq_true rfl⟩ rfl rfl ?_
  refine ev_dup (pc := 3) dL_law_3 rfl ?_
  refine ev_callI0 (pc := 4) (K := m_X3_init) dL_law_4 ci_L_244 ok_X3_init rfl rfl rfl rfl (fun n h => by cases h; rfl) rfl ⟨Nat.le_of_ble_eq_true rfl, Nat.le_of_ble_eq_true rfl⟩ (by decide) ⟨Nat.le_of_ble_eq_true rfl, Nat.le_of_ble_eq_true rfl⟩ s_X3_init ?_
  refine ev_astore_n (pc := 7) dL_law_7 rfl rfl rfl ?_
  refine ev_bipush (pc := 8) (v := 24) dL_law_8 (by decide) ?_
  refine ev_naL (pc := 10) (N := 24) (q := 21) dL_law_10 rfl (Nat.le_of_ble_eq_true rfl) rfl rfl ⟨Nat.le_of_ble_eq_true rfl, Nat.le_of_ble_eq_true rfl⟩ rfl rfl ?_
  refine ev_astore_n (pc := 12) dL_law_12 rfl rfl rfl ?_
  refine ev_bipush (pc := 13) (v := 8) dL_law_13 (by decide) ?_
  refine ev_naI (pc := 15) (N := 8) (q := 22) dL_law_15 rfl (Nat.le_of_ble_eq_true rfl) rfl rfl ⟨Nat.le_of_ble_eq_true rfl, Nat.le_of_ble_eq_true rfl⟩ rfl rfl ?_
  refine ev_astore_n (pc := 17) dL_law_17 rfl rfl rfl ?_
  refine ev_bipush (pc := 18) (v := 8) dL_law_18 (by decide) ?_
  refine ev_naI (pc := 20) (N := 8) (q := 23) dL_law_20 rfl (Nat.le_of_ble_eq_true rfl) rfl rfl ⟨Nat.le_of_ble_eq_true rfl, Nat.le_of_ble_eq_true rfl⟩ rfl rfl ?_
  refine ev_astore (pc := 22) dL_law_22 rfl rfl ?_
  refine ev_aload (pc := 24) dL_law_24 rfl ?_
  refine ev_bipush (pc := 26) (v := 6) dL_law_26 (by decide) ?_
  refine ev_iconst (pc := 28) (v := 1) dL_law_28 (by decide) ?_
  refine ev_iastN (pc := 29) dL_law_29 (t3_i C0) ⟨(show _ = nI 6 from rfl), by decide, by decide⟩ rfl rfl ?_
  refine ev_aload (pc := 30) dL_law_30 rfl ?_
  refine ev_bipush (pc := 32) (v := 7) dL_law_32 (by decide) ?_
  refine ev_iconst (pc := 34) (v := 1) dL_law_34 (by decide) ?_
  refine ev_iastN (pc := 35) dL_law_35 (t3_i C1) ⟨(show _ = nI 7 from rfl), by decide, by decide⟩ rfl rfl ?_
  refine ev_aload_n (pc := 36) dL_law_36 rfl rfl ?_
  refine ev_aload_n (pc := 37) dL_law_37 rfl rfl ?_
  refine ev_aload_n (pc := 38) dL_law_38 rfl rfl ?_
  refine ev_aload (pc := 39) dL_law_39 rfl ?_
  refine ev_iconst (pc := 41) (v := 0) dL_law_41 (by decide) ?_
  refine cS5 (pc := 42) (lk_L_law_42 _) (Nat.le_of_ble_eq_true rfl) ⟨Nat.le_of_ble_eq_true rfl, Nat.le_of_ble_eq_true rfl⟩ e3 ?_
  refine ev_istore (pc := 45) dL_law_45 rfl rfl ?_
  refine ev_iconst (pc := 47) (v := 0) dL_law_47 (by decide) ?_
  refine ev_istore (pc := 48) dL_law_48 rfl rfl ?_
  exact l_law hq 28 0 hole hole hole hole hole _ _ (by omega) C3 li_start (Nat.le_of_ble_eq_true rfl) (Nat.le_of_ble_eq_true rfl)
