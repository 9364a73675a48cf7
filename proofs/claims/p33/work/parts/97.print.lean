/-! THE LAW: print, a number of what is told alone -/
section PRI
variable {N : Nat} {σ : SS}
theorem pg_in (h : gI N σ) (i : Int32) : (∃ q, q < 720 ∧ i = nI q ∧ gU σ q) ∨ nUs (gK σ) (gW σ) i := by
  by_cases hq : ∃ q, q < 720 ∧ i = nI q ∧ gU σ q
  · exact Or.inl hq
  · exact Or.inr (fun q h8 hi hu => hq ⟨q, h.2.2.1 q hu, hi, hu⟩)
theorem pg_4 (h : gI N σ) {q : Nat} (hu : gU σ q) : nlen (gT σ q) ≤ 4 := by
  obtain ⟨d, -, hr⟩ := ai_page h hu
  exact (rt_sb hr).2.1
theorem any_ent (h : gI N σ) (i : Int32) : ∃ v : Int32, (v = -1000001 ∨ ∃ M, M ≤ 4 ∧ v = nI M) ∧ ∀ w tl, CG N σ tl w → EvS m_L_entries [.ref 0, .int i] w (.inl (some (.int v))) w := by
  rcases pg_in h i with ⟨q, hq, rfl, hu⟩ | hn
  · exact ⟨_, Or.inr ⟨_, pg_4 h hu, rfl⟩, fun w tl C => r_entries C hu⟩
  · exact ⟨_, Or.inl rfl, fun w tl C => r_entriesT C hn⟩
theorem any_key (h : gI N σ) (i a : Int32) : ∃ v : Int32, ∀ w tl, CG N σ tl w → EvS m_L_keyAt [.ref 0, .int i, .int a] w (.inl (some (.int v))) w := by
  rcases pg_in h i with ⟨q, hq, rfl, hu⟩ | hn
  · rcases en_cases (gT σ) q a (by have := pg_4 h hu; omega) with ha | ⟨e, he, rfl⟩
    · exact ⟨_, fun w tl C => r_keyAtT2 C hu ha⟩
    · obtain ⟨k, hk⟩ := ai_key h hu he
      exact ⟨_, fun w tl C => r_keyAt C hu hk⟩
  · exact ⟨_, fun w tl C => r_keyAtT1 C hn⟩
theorem any_page (h : gI N σ) (i a : Int32) : ∃ v : Int32, ∀ w tl, CG N σ tl w → EvS m_L_pageAt [.ref 0, .int i, .int a] w (.inl (some (.int v))) w := by
  rcases pg_in h i with ⟨q, hq, rfl, hu⟩ | hn
  · rcases en_cases (gT σ) q a (by have := pg_4 h hu; omega) with ha | ⟨e, he, rfl⟩
    · exact ⟨_, fun w tl C => r_pageAtT2 C hu ha⟩
    · cases hT : gT σ q with
      | inl l => exact ⟨_, fun w tl C => r_pageAtL C hu hT (by rw [hT] at he; exact he)⟩
      | inr l =>
        have he2 : e < l.length := by rw [hT] at he; exact he
        exact ⟨_, fun w tl C => r_pageAtI C hu hT (List.getElem?_eq_getElem he2)⟩
  · exact ⟨_, fun w tl C => r_pageAtT1 C hn⟩
theorem any_root (σ : SS) (i : Int32) : ∃ v : Int32, ∀ w tl, CG N σ tl w → EvS m_L_rootOf [.ref 0, .int i] w (.inl (some (.int v))) w := by
  cases hv : gV σ i with
  | none => exact ⟨_, fun w tl C => r_rootOfT C hv⟩
  | some x => exact ⟨_, fun w tl C => r_rootOf C hv⟩
theorem any_epoch (σ : SS) (i : Int32) : ∃ v : Int32, ∀ w tl, CG N σ tl w → EvS m_L_epochOf [.ref 0, .int i] w (.inl (some (.int v))) w := by
  cases hv : gV σ i with
  | none => exact ⟨_, fun w tl C => r_epochOfT C hv⟩
  | some x => exact ⟨_, fun w tl C => r_epochOf C hv⟩
theorem any_size (σ : SS) (i : Int32) : ∃ v : Int32, ∀ w tl, CG N σ tl w → EvS m_L_size [.ref 0, .int i] w (.inl (some (.int v))) w := by
  cases hv : gV σ i with
  | none => exact ⟨_, fun w tl C => r_sizeT C hv⟩
  | some x => exact ⟨_, fun w tl C => r_size C hv⟩
theorem any_has (σ : SS) : ∃ v : Int32, (v = 0 ∨ v = 1) ∧ ∀ w tl, CG N σ tl w → EvS m_X3_hasBatch [.ref 0] w (.inl (some (.int v))) w := by
  cases hb : gB σ with
  | none => exact ⟨0, Or.inl rfl, fun w tl C => r_hasBatch0 C hb⟩
  | some x => exact ⟨1, Or.inr rfl, fun w tl C => r_hasBatch1 C hb⟩
/-- from one place of print to another, whatever the world's tail -/
def prG (N : Nat) (σ : SS) (p0 : Nat) (L0 : List Value) (p1 : Nat) (L1 : List Value) (dc : Nat) : Prop := ∀ (w : mW) (tl : List mC) (Qf : mQ) (kc ks : Nat), CG N σ tl w → kc + dc ≤ 1100 → ks + 6 * dc ≤ 6600 → EvF m_L_print Qf p1 L1 [] (kc + dc) (ks + 6 * dc) w → EvF m_L_print Qf p0 L0 [] kc ks w
theorem prG_t {p0 p1 p2 d1 d2 : Nat} {L0 L1 L2 : List Value} (h1 : prG N σ p0 L0 p1 L1 d1) (h2 : prG N σ p1 L1 p2 L2 d2) : prG N σ p0 L0 p2 L2 (d1 + d2) := fun w tl Qf kc ks C hc hs k => h1 w tl Qf kc ks C (by omega) (by omega) (h2 w tl Qf _ _ C (by omega) (by omega) (ev_widen (by omega) (by omega) k))
theorem pr_slot (h : Int64) (v4 v5 : Value) {k : Nat} (hk : k < 8) : ∃ h', prG N σ 54 [.ref 0, .long h, hole, .int (nI k), v4, v5] 54 [.ref 0, .long h', hole, .int (nI (k + 1)), v4, v5] 2 := by
  refine ⟨37 * h + gD σ (4 * (k / 4) + k % 4), fun w tl Qf kc ks C hc hs kk => ?_⟩
  refine ev_iload_n (pc := 54) dL_print_54 rfl rfl ?_
  refine ev_bipush (pc := 55) (v := 8) dL_print_55 (by decide) ?_
  refine ev_ic_ge (pc := 57) (tgt := 83) dL_print_57 (by decide) (fun c_57 => absurd c_57 (nI_ge (show k < 8 by omega) (by decide))) (fun _ => ?_)
  refine ev_ldc2 (pc := 60) dL_print_60 kl_L_108 ?_
  refine ev_lload_n (pc := 63) dL_print_63 rfl rfl ?_
  refine ev_lmul (pc := 64) dL_print_64 ?_
  refine ev_aload_n (pc := 65) dL_print_65 rfl rfl ?_
  refine ev_iload_n (pc := 66) dL_print_66 rfl rfl ?_
  refine ev_iconst (pc := 67) (v := 4) dL_print_67 (by decide) ?_
  refine ev_idiv (pc := 68) dL_print_68 (by decide) (pk_div (d := 4) (by omega) (by decide) (by decide)) ?_
  refine ev_iload_n (pc := 69) dL_print_69 rfl rfl ?_
  refine ev_iconst (pc := 70) (v := 4) dL_print_70 (by decide) ?_
  refine ev_irem (pc := 71) dL_print_71 (by decide) (pk_rem (d := 4) (by omega) (by decide) (by decide)) ?_
  refine cX3 (pc := 72) lk_L_print_72 (Nat.le_of_ble_eq_true rfl) ⟨(show kc + 2 ≤ 1100 by omega), (show ks + 12 ≤ 6600 by omega)⟩ (r_slotWord C (show k / 4 < 2 by omega) (Nat.mod_lt _ (by decide))) ?_
  refine ev_widen (k2 := kc + 2) (s2 := ks + 12) (show kc + 2 ≤ kc + 2 by omega) (show ks + 12 ≤ ks + 12 by omega) ?_
  refine ev_ladd (pc := 75) dL_print_75 ?_
  refine ev_lstore_n (pc := 76) dL_print_76 rfl rfl rfl ?_
  refine ev_iinc (pc := 77) dL_print_77 rfl rfl rfl ?_
  refine ev_goto (pc := 80) (tgt := 54) dL_print_80 (by decide) ?_
  rw [nI_i1]
  exact kk
theorem pr_slots (v4 v5 : Value) : ∀ (m n : Nat) (h : Int64), n + m = 8 → ∃ h', prG N σ 54 [.ref 0, .long h, hole, .int (nI n), v4, v5] 54 [.ref 0, .long h', hole, .int (nI 8), v4, v5] (2 * m)
  | 0, n, h, hn => by
    have hn : n = 8 := by omega
    subst hn
    exact ⟨h, fun w tl Qf kc ks C hc hs kk => kk⟩
  | m + 1, n, h, hn => by
    obtain ⟨h1, e1⟩ := pr_slot (N := N) (σ := σ) h v4 v5 (k := n) (by omega)
    obtain ⟨h2, e2⟩ := pr_slots v4 v5 m (n + 1) h1 (by omega)
    refine ⟨h2, ?_⟩
    have e := prG_t e1 e2
    rw [show 2 + 2 * m = 2 * (m + 1) by omega] at e
    exact e
theorem pr_view (h : Int64) (v4 v5 : Value) {k : Int32} (hk : ¬ (4 : Int32) ≤ k) : ∃ h', prG N σ 85 [.ref 0, .long h, hole, .int k, v4, v5] 85 [.ref 0, .long h', hole, .int (k + Int32.ofInt 1), v4, v5] 3 := by
  obtain ⟨a1, e1⟩ := any_root (N := N) σ k
  obtain ⟨a2, e2⟩ := any_epoch (N := N) σ k
  obtain ⟨a3, e3⟩ := any_size (N := N) σ k
  refine ⟨37 * (37 * (37 * h + a1.toInt64) + a2.toInt64) + a3.toInt64, fun w tl Qf kc ks C hc hs kk => ?_⟩
  refine ev_iload_n (pc := 85) dL_print_85 rfl rfl ?_
  refine ev_iconst (pc := 86) (v := 4) dL_print_86 (by decide) ?_
  refine ev_ic_ge (pc := 87) (tgt := 131) dL_print_87 (by decide) (fun c_87 => absurd c_87 hk) (fun _ => ?_)
  refine ev_ldc2 (pc := 90) dL_print_90 kl_L_108 ?_
  refine ev_ldc2 (pc := 93) dL_print_93 kl_L_108 ?_
  refine ev_ldc2 (pc := 96) dL_print_96 kl_L_108 ?_
  refine ev_lload_n (pc := 99) dL_print_99 rfl rfl ?_
  refine ev_lmul (pc := 100) dL_print_100 ?_
  refine ev_aload_n (pc := 101) dL_print_101 rfl rfl ?_
  refine ev_iload_n (pc := 102) dL_print_102 rfl rfl ?_
  refine cX2 (pc := 103) lk_L_print_103 (Nat.le_of_ble_eq_true rfl) ⟨(show kc + 1 ≤ 1100 by omega), (show ks + 6 ≤ 6600 by omega)⟩ (e1 w tl C) ?_
  refine ev_widen (k2 := kc + 1) (s2 := ks + 6) (show kc + 1 ≤ kc + 1 by omega) (show ks + 6 ≤ ks + 6 by omega) ?_
  refine ev_i2l (pc := 106) dL_print_106 ?_
  refine ev_ladd (pc := 107) dL_print_107 ?_
  refine ev_lmul (pc := 108) dL_print_108 ?_
  refine ev_aload_n (pc := 109) dL_print_109 rfl rfl ?_
  refine ev_iload_n (pc := 110) dL_print_110 rfl rfl ?_
  refine cX2 (pc := 111) lk_L_print_111 (Nat.le_of_ble_eq_true rfl) ⟨(show kc + 1 + 1 ≤ 1100 by omega), (show ks + 6 + 6 ≤ 6600 by omega)⟩ (e2 w tl C) ?_
  refine ev_widen (k2 := kc + 2) (s2 := ks + 12) (show kc + 1 + 1 ≤ kc + 2 by omega) (show ks + 6 + 6 ≤ ks + 12 by omega) ?_
  refine ev_i2l (pc := 114) dL_print_114 ?_
  refine ev_ladd (pc := 115) dL_print_115 ?_
  refine ev_lmul (pc := 116) dL_print_116 ?_
  refine ev_aload_n (pc := 117) dL_print_117 rfl rfl ?_
  refine ev_iload_n (pc := 118) dL_print_118 rfl rfl ?_
  refine cX2 (pc := 119) lk_L_print_119 (Nat.le_of_ble_eq_true rfl) ⟨(show kc + 2 + 1 ≤ 1100 by omega), (show ks + 12 + 6 ≤ 6600 by omega)⟩ (e3 w tl C) ?_
  refine ev_widen (k2 := kc + 3) (s2 := ks + 18) (show kc + 2 + 1 ≤ kc + 3 by omega) (show ks + 12 + 6 ≤ ks + 18 by omega) ?_
  refine ev_i2l (pc := 122) dL_print_122 ?_
  refine ev_ladd (pc := 123) dL_print_123 ?_
  refine ev_lstore_n (pc := 124) dL_print_124 rfl rfl rfl ?_
  refine ev_iinc (pc := 125) dL_print_125 rfl rfl rfl ?_
  refine ev_goto (pc := 128) (tgt := 85) dL_print_128 (by decide) ?_
  exact kk
theorem pr_views (h : Int64) (v4 v5 : Value) : ∃ h', prG N σ 85 [.ref 0, .long h, hole, .int (-1), v4, v5] 85 [.ref 0, .long h', hole, .int 4, v4, v5] 15 := by
  obtain ⟨h1, e1⟩ := pr_view (N := N) (σ := σ) h v4 v5 (k := -1) (by decide)
  obtain ⟨h2, e2⟩ := pr_view (N := N) (σ := σ) h1 v4 v5 (k := 0) (by decide)
  obtain ⟨h3, e3⟩ := pr_view (N := N) (σ := σ) h2 v4 v5 (k := 1) (by decide)
  obtain ⟨h4, e4⟩ := pr_view (N := N) (σ := σ) h3 v4 v5 (k := 2) (by decide)
  obtain ⟨h5, e5⟩ := pr_view (N := N) (σ := σ) h4 v4 v5 (k := 3) (by decide)
  exact ⟨h5, prG_t e1 (prG_t e2 (prG_t e3 (prG_t e4 e5)))⟩
theorem pr_ent (hG : gI N σ) (h : Int64) (k M : Int32) {n : Int32} (hn : ¬ M ≤ n) : ∃ h', prG N σ 159 [.ref 0, .long h, hole, .int k, .int M, .int n] 159 [.ref 0, .long h', hole, .int k, .int M, .int (n + Int32.ofInt 1)] 4 := by
  obtain ⟨a1, e1⟩ := any_key hG k n
  obtain ⟨a2, e2⟩ := any_page hG k n
  refine ⟨37 * (37 * h + a1.toInt64) + a2.toInt64, fun w tl Qf kc ks C hc hs kk => ?_⟩
  refine ev_iload (pc := 159) dL_print_159 rfl ?_
  refine ev_iload (pc := 161) dL_print_161 rfl ?_
  refine ev_ic_ge (pc := 163) (tgt := 200) dL_print_163 (by decide) (fun c_163 => absurd c_163 hn) (fun _ => ?_)
  refine ev_ldc2 (pc := 166) dL_print_166 kl_L_108 ?_
  refine ev_ldc2 (pc := 169) dL_print_169 kl_L_108 ?_
  refine ev_lload_n (pc := 172) dL_print_172 rfl rfl ?_
  refine ev_lmul (pc := 173) dL_print_173 ?_
  refine ev_aload_n (pc := 174) dL_print_174 rfl rfl ?_
  refine ev_iload_n (pc := 175) dL_print_175 rfl rfl ?_
  refine ev_iload (pc := 176) dL_print_176 rfl ?_
  refine cX3 (pc := 178) lk_L_print_178 (Nat.le_of_ble_eq_true rfl) ⟨(show kc + 2 ≤ 1100 by omega), (show ks + 12 ≤ 6600 by omega)⟩ (e1 w tl C) ?_
  refine ev_widen (k2 := kc + 2) (s2 := ks + 12) (show kc + 2 ≤ kc + 2 by omega) (show ks + 12 ≤ ks + 12 by omega) ?_
  refine ev_i2l (pc := 181) dL_print_181 ?_
  refine ev_ladd (pc := 182) dL_print_182 ?_
  refine ev_lmul (pc := 183) dL_print_183 ?_
  refine ev_aload_n (pc := 184) dL_print_184 rfl rfl ?_
  refine ev_iload_n (pc := 185) dL_print_185 rfl rfl ?_
  refine ev_iload (pc := 186) dL_print_186 rfl ?_
  refine cX3 (pc := 188) lk_L_print_188 (Nat.le_of_ble_eq_true rfl) ⟨(show kc + 2 + 2 ≤ 1100 by omega), (show ks + 12 + 12 ≤ 6600 by omega)⟩ (e2 w tl C) ?_
  refine ev_widen (k2 := kc + 4) (s2 := ks + 24) (show kc + 2 + 2 ≤ kc + 4 by omega) (show ks + 12 + 12 ≤ ks + 24 by omega) ?_
  refine ev_i2l (pc := 191) dL_print_191 ?_
  refine ev_ladd (pc := 192) dL_print_192 ?_
  refine ev_lstore_n (pc := 193) dL_print_193 rfl rfl rfl ?_
  refine ev_iinc (pc := 194) dL_print_194 rfl rfl rfl ?_
  refine ev_goto (pc := 197) (tgt := 159) dL_print_197 (by decide) ?_
  exact kk
theorem pr_ents (hG : gI N σ) (k : Int32) {M : Nat} (hM : M ≤ 4) : ∀ (m n : Nat) (h : Int64), n + m = M → ∃ h', prG N σ 159 [.ref 0, .long h, hole, .int k, .int (nI M), .int (nI n)] 159 [.ref 0, .long h', hole, .int k, .int (nI M), .int (nI M)] (4 * m)
  | 0, n, h, hn => by
    have hn : n = M := by omega
    subst hn
    exact ⟨h, fun w tl Qf kc ks C hc hs kk => kk⟩
  | m + 1, n, h, hn => by
    obtain ⟨h1, e1⟩ := pr_ent hG h k (nI M) (n := nI n) (nI_ge (by omega) (by omega))
    rw [nI_i1] at e1
    obtain ⟨h2, e2⟩ := pr_ents hG k hM m (n + 1) h1 (by omega)
    refine ⟨h2, ?_⟩
    have e := prG_t e1 e2
    rw [show 4 + 4 * m = 4 * (m + 1) by omega] at e
    exact e
theorem pr_page (hG : gI N σ) (h : Int64) (v4 v5 : Value) {k : Nat} (hk : k < 60) : ∃ h' v4' v5', prG N σ 133 [.ref 0, .long h, hole, .int (nI k), v4, v5] 133 [.ref 0, .long h', hole, .int (nI (k + 1)), v4', v5'] 17 := by
  obtain ⟨v, hv, e1⟩ := any_ent hG (nI k)
  have fst : prG N σ 133 [.ref 0, .long h, hole, .int (nI k), v4, v5] 159 [.ref 0, .long (37 * h + v.toInt64), hole, .int (nI k), .int v, .int 0] 1 := fun w tl Qf kc ks C hc hs kk => by
    refine ev_iload_n (pc := 133) dL_print_133 rfl rfl ?_
    refine ev_bipush (pc := 134) (v := 60) dL_print_134 (by decide) ?_
    refine ev_ic_ge (pc := 136) (tgt := 206) dL_print_136 (by decide) (fun c_136 => absurd c_136 (nI_ge hk (by decide))) (fun _ => ?_)
    refine ev_aload_n (pc := 139) dL_print_139 rfl rfl ?_
    refine ev_iload_n (pc := 140) dL_print_140 rfl rfl ?_
    refine cX2 (pc := 141) lk_L_print_141 (Nat.le_of_ble_eq_true rfl) ⟨(show kc + 1 ≤ 1100 by omega), (show ks + 6 ≤ 6600 by omega)⟩ (e1 w tl C) ?_
    refine ev_widen (k2 := kc + 1) (s2 := ks + 6) (show kc + 1 ≤ kc + 1 by omega) (show ks + 6 ≤ ks + 6 by omega) ?_
    refine ev_istore (pc := 144) dL_print_144 rfl rfl ?_
    refine ev_ldc2 (pc := 146) dL_print_146 kl_L_108 ?_
    refine ev_lload_n (pc := 149) dL_print_149 rfl rfl ?_
    refine ev_lmul (pc := 150) dL_print_150 ?_
    refine ev_iload (pc := 151) dL_print_151 rfl ?_
    refine ev_i2l (pc := 153) dL_print_153 ?_
    refine ev_ladd (pc := 154) dL_print_154 ?_
    refine ev_lstore_n (pc := 155) dL_print_155 rfl rfl rfl ?_
    refine ev_iconst (pc := 156) (v := 0) dL_print_156 (by decide) ?_
    refine ev_istore (pc := 157) dL_print_157 rfl rfl ?_
    exact kk
  have lst : ∀ (h' : Int64) (M : Int32) (n : Int32), M ≤ n → prG N σ 159 [.ref 0, .long h', hole, .int (nI k), .int M, .int n] 133 [.ref 0, .long h', hole, .int (nI (k + 1)), .int M, .int n] 0 := fun h' M n hMn w tl Qf kc ks C hc hs kk => by
    refine ev_iload (pc := 159) dL_print_159 rfl ?_
    refine ev_iload (pc := 161) dL_print_161 rfl ?_
    refine ev_ic_ge (pc := 163) (tgt := 200) dL_print_163 (by decide) (fun _ => ?_) (fun c_163 => absurd hMn c_163)
    refine ev_iinc (pc := 200) dL_print_200 rfl rfl rfl ?_
    refine ev_goto (pc := 203) (tgt := 133) dL_print_203 (by decide) ?_
    rw [nI_i1]
    exact kk
  rcases hv with rfl | ⟨M, hM, rfl⟩
  · have e := prG_t fst (lst _ (-1000001) 0 (by decide))
    exact ⟨_, _, _, fun w tl Qf kc ks C hc hs kk => e w tl Qf kc ks C (by omega) (by omega) (ev_widen (by omega) (by omega) kk)⟩
  · obtain ⟨h2, e2⟩ := pr_ents hG (nI k) hM M 0 (37 * h + (nI M).toInt64) (by omega)
    have e := prG_t fst (prG_t e2 (lst _ _ _ (Int32.le_refl _)))
    exact ⟨_, _, _, fun w tl Qf kc ks C hc hs kk => e w tl Qf kc ks C (by omega) (by omega) (ev_widen (by omega) (by omega) kk)⟩
theorem pr_pages (hG : gI N σ) : ∀ (m n : Nat) (h : Int64) (v4 v5 : Value), n + m = 60 → ∃ h' v4' v5', prG N σ 133 [.ref 0, .long h, hole, .int (nI n), v4, v5] 133 [.ref 0, .long h', hole, .int (nI 60), v4', v5'] (17 * m)
  | 0, n, h, v4, v5, hn => by
    have hn : n = 60 := by omega
    subst hn
    exact ⟨h, v4, v5, fun w tl Qf kc ks C hc hs kk => kk⟩
  | m + 1, n, h, v4, v5, hn => by
    obtain ⟨h1, a4, a5, e1⟩ := pr_page hG h v4 v5 (k := n) (by omega)
    obtain ⟨h2, b4, b5, e2⟩ := pr_pages hG m (n + 1) h1 a4 a5 (by omega)
    refine ⟨h2, b4, b5, ?_⟩
    have e := prG_t e1 e2
    rw [show 17 + 17 * m = 17 * (m + 1) by omega] at e
    exact e
theorem r_print (hG : gI N σ) : ∃ v : Int64, ∀ w tl, CG N σ tl w → EvS m_L_print [.ref 0] w (.inl (some (.long v))) w := by
  obtain ⟨n, hn⟩ := cntR_ex (gU σ) 800
  obtain ⟨n0, hf⟩ := ai_free hG
  obtain ⟨b, hb, eb⟩ := any_has (N := N) σ
  obtain ⟨h1, e1⟩ : ∃ h1 : Int64, ∀ w tl, CG N σ tl w → ∀ Qf, EvF m_L_print Qf 54 [.ref 0, .long h1, hole, .int (nI 0), hole, hole] [] 0 0 w → EvF m_L_print Qf 0 [.ref 0, hole, hole, hole, hole, hole] [] 0 0 w := by
    rcases hb with rfl | rfl
    · refine ⟨37 * (37 * (37 * (nI n).toInt64 + (nI n0).toInt64) + (nI (gS σ)).toInt64) + (0 : Int32).toInt64 + (nI (rtsF (gR σ) 0 4).length).toInt64, fun w tl C Qf k => ?_⟩
      obtain ⟨fs, hfs⟩ := cg_0 C
      refine ev_ldc2 (pc := 0) dL_print_0 kl_L_108 ?_
      refine ev_aload_n (pc := 3) dL_print_3 rfl rfl ?_
      refine cV0 (pc := 4) lk_L_print_4 hfs rfl rfl (Nat.le_of_ble_eq_true rfl) ⟨(show 0 + 0 ≤ 1100 by omega), (show 0 + 0 ≤ 6600 by omega)⟩ (r_inUse C hn) ?_
      refine ev_widen (k2 := 0 + 0) (s2 := 0 + 0) (show 0 + 0 ≤ 0 + 0 by omega) (show 0 + 0 ≤ 0 + 0 by omega) ?_
      refine ev_i2l (pc := 7) dL_print_7 ?_
      refine ev_lmul (pc := 8) dL_print_8 ?_
      refine ev_aload_n (pc := 9) dL_print_9 rfl rfl ?_
      refine cV0 (pc := 10) lk_L_print_10 hfs rfl rfl (Nat.le_of_ble_eq_true rfl) ⟨(show 0 + 0 ≤ 1100 by omega), (show 0 + 0 ≤ 6600 by omega)⟩ (r_leastFree C hf) ?_
      refine ev_widen (k2 := 0 + 0) (s2 := 0 + 0) (show 0 + 0 ≤ 0 + 0 by omega) (show 0 + 0 ≤ 0 + 0 by omega) ?_
      refine ev_i2l (pc := 13) dL_print_13 ?_
      refine ev_ladd (pc := 14) dL_print_14 ?_
      refine ev_lstore_n (pc := 15) dL_print_15 rfl rfl rfl ?_
      refine ev_ldc2 (pc := 16) dL_print_16 kl_L_108 ?_
      refine ev_ldc2 (pc := 19) dL_print_19 kl_L_108 ?_
      refine ev_lload_n (pc := 22) dL_print_22 rfl rfl ?_
      refine ev_lmul (pc := 23) dL_print_23 ?_
      refine ev_aload_n (pc := 24) dL_print_24 rfl rfl ?_
      refine cV0 (pc := 25) lk_L_print_25 hfs rfl rfl (Nat.le_of_ble_eq_true rfl) ⟨(show 0 + 0 ≤ 1100 by omega), (show 0 + 0 ≤ 6600 by omega)⟩ (r_curSlot C) ?_
      refine ev_widen (k2 := 0 + 0) (s2 := 0 + 0) (show 0 + 0 ≤ 0 + 0 by omega) (show 0 + 0 ≤ 0 + 0 by omega) ?_
      refine ev_i2l (pc := 28) dL_print_28 ?_
      refine ev_ladd (pc := 29) dL_print_29 ?_
      refine ev_lmul (pc := 30) dL_print_30 ?_
      refine ev_aload_n (pc := 31) dL_print_31 rfl rfl ?_
      refine cV0 (pc := 32) lk_L_print_32 hfs rfl rfl (Nat.le_of_ble_eq_true rfl) ⟨(show 0 + 0 ≤ 1100 by omega), (show 0 + 0 ≤ 6600 by omega)⟩ (eb w tl C) ?_
      refine ev_widen (k2 := 0 + 0) (s2 := 0 + 0) (show 0 + 0 ≤ 0 + 0 by omega) (show 0 + 0 ≤ 0 + 0 by omega) ?_
      refine ev_if_eq (pc := 35) (tgt := 42) dL_print_35 (by decide) (fun _ => ?_) (fun c_35 => absurd rfl c_35)
      refine ev_iconst (pc := 42) (v := 0) dL_print_42 (by decide) ?_
      refine ev_i2l (pc := 43) dL_print_43 ?_
      refine ev_ladd (pc := 44) dL_print_44 ?_
      refine ev_aload_n (pc := 45) dL_print_45 rfl rfl ?_
      refine cV0 (pc := 46) lk_L_print_46 hfs rfl rfl (Nat.le_of_ble_eq_true rfl) ⟨(show 0 + 0 ≤ 1100 by omega), (show 0 + 0 ≤ 6600 by omega)⟩ (r_readers C) ?_
      refine ev_widen (k2 := 0 + 0) (s2 := 0 + 0) (show 0 + 0 ≤ 0 + 0 by omega) (show 0 + 0 ≤ 0 + 0 by omega) ?_
      refine ev_i2l (pc := 49) dL_print_49 ?_
      refine ev_ladd (pc := 50) dL_print_50 ?_
      refine ev_lstore_n (pc := 51) dL_print_51 rfl rfl rfl ?_
      refine ev_iconst (pc := 52) (v := 0) dL_print_52 (by decide) ?_
      refine ev_istore_n (pc := 53) dL_print_53 rfl rfl rfl ?_
      exact k
    · refine ⟨37 * (37 * (37 * (nI n).toInt64 + (nI n0).toInt64) + (nI (gS σ)).toInt64) + (5 : Int32).toInt64 + (nI (rtsF (gR σ) 0 4).length).toInt64, fun w tl C Qf k => ?_⟩
      obtain ⟨fs, hfs⟩ := cg_0 C
      refine ev_ldc2 (pc := 0) dL_print_0 kl_L_108 ?_
      refine ev_aload_n (pc := 3) dL_print_3 rfl rfl ?_
      refine cV0 (pc := 4) lk_L_print_4 hfs rfl rfl (Nat.le_of_ble_eq_true rfl) ⟨(show 0 + 0 ≤ 1100 by omega), (show 0 + 0 ≤ 6600 by omega)⟩ (r_inUse C hn) ?_
      refine ev_widen (k2 := 0 + 0) (s2 := 0 + 0) (show 0 + 0 ≤ 0 + 0 by omega) (show 0 + 0 ≤ 0 + 0 by omega) ?_
      refine ev_i2l (pc := 7) dL_print_7 ?_
      refine ev_lmul (pc := 8) dL_print_8 ?_
      refine ev_aload_n (pc := 9) dL_print_9 rfl rfl ?_
      refine cV0 (pc := 10) lk_L_print_10 hfs rfl rfl (Nat.le_of_ble_eq_true rfl) ⟨(show 0 + 0 ≤ 1100 by omega), (show 0 + 0 ≤ 6600 by omega)⟩ (r_leastFree C hf) ?_
      refine ev_widen (k2 := 0 + 0) (s2 := 0 + 0) (show 0 + 0 ≤ 0 + 0 by omega) (show 0 + 0 ≤ 0 + 0 by omega) ?_
      refine ev_i2l (pc := 13) dL_print_13 ?_
      refine ev_ladd (pc := 14) dL_print_14 ?_
      refine ev_lstore_n (pc := 15) dL_print_15 rfl rfl rfl ?_
      refine ev_ldc2 (pc := 16) dL_print_16 kl_L_108 ?_
      refine ev_ldc2 (pc := 19) dL_print_19 kl_L_108 ?_
      refine ev_lload_n (pc := 22) dL_print_22 rfl rfl ?_
      refine ev_lmul (pc := 23) dL_print_23 ?_
      refine ev_aload_n (pc := 24) dL_print_24 rfl rfl ?_
      refine cV0 (pc := 25) lk_L_print_25 hfs rfl rfl (Nat.le_of_ble_eq_true rfl) ⟨(show 0 + 0 ≤ 1100 by omega), (show 0 + 0 ≤ 6600 by omega)⟩ (r_curSlot C) ?_
      refine ev_widen (k2 := 0 + 0) (s2 := 0 + 0) (show 0 + 0 ≤ 0 + 0 by omega) (show 0 + 0 ≤ 0 + 0 by omega) ?_
      refine ev_i2l (pc := 28) dL_print_28 ?_
      refine ev_ladd (pc := 29) dL_print_29 ?_
      refine ev_lmul (pc := 30) dL_print_30 ?_
      refine ev_aload_n (pc := 31) dL_print_31 rfl rfl ?_
      refine cV0 (pc := 32) lk_L_print_32 hfs rfl rfl (Nat.le_of_ble_eq_true rfl) ⟨(show 0 + 0 ≤ 1100 by omega), (show 0 + 0 ≤ 6600 by omega)⟩ (eb w tl C) ?_
      refine ev_widen (k2 := 0 + 0) (s2 := 0 + 0) (show 0 + 0 ≤ 0 + 0 by omega) (show 0 + 0 ≤ 0 + 0 by omega) ?_
      refine ev_if_eq (pc := 35) (tgt := 42) dL_print_35 (by decide) (fun c_35 => absurd c_35 (by decide)) (fun _ => ?_)
      refine ev_iconst (pc := 38) (v := 5) dL_print_38 (by decide) ?_
      refine ev_goto (pc := 39) (tgt := 43) dL_print_39 (by decide) ?_
      refine ev_i2l (pc := 43) dL_print_43 ?_
      refine ev_ladd (pc := 44) dL_print_44 ?_
      refine ev_aload_n (pc := 45) dL_print_45 rfl rfl ?_
      refine cV0 (pc := 46) lk_L_print_46 hfs rfl rfl (Nat.le_of_ble_eq_true rfl) ⟨(show 0 + 0 ≤ 1100 by omega), (show 0 + 0 ≤ 6600 by omega)⟩ (r_readers C) ?_
      refine ev_widen (k2 := 0 + 0) (s2 := 0 + 0) (show 0 + 0 ≤ 0 + 0 by omega) (show 0 + 0 ≤ 0 + 0 by omega) ?_
      refine ev_i2l (pc := 49) dL_print_49 ?_
      refine ev_ladd (pc := 50) dL_print_50 ?_
      refine ev_lstore_n (pc := 51) dL_print_51 rfl rfl rfl ?_
      refine ev_iconst (pc := 52) (v := 0) dL_print_52 (by decide) ?_
      refine ev_istore_n (pc := 53) dL_print_53 rfl rfl rfl ?_
      exact k
  obtain ⟨h2, e2⟩ := pr_slots (N := N) (σ := σ) hole hole 8 0 h1 (by omega)
  obtain ⟨h3, e3⟩ := pr_views (N := N) (σ := σ) h2 hole hole
  obtain ⟨h4, v4, v5, e4⟩ := pr_pages hG 60 0 h3 hole hole (by omega)
  refine ⟨h4, fun w tl C => ?_⟩
  refine evs_of (by decide +kernel) (Nat.le_of_ble_eq_true rfl) (by decide) rfl ?_
  refine e1 w tl C _ (e2 w tl _ 0 0 C (by decide) (by decide) ?_)
  refine ev_iload_n (pc := 54) dL_print_54 rfl rfl ?_
  refine ev_bipush (pc := 55) (v := 8) dL_print_55 (by decide) ?_
  refine ev_ic_ge (pc := 57) (tgt := 83) dL_print_57 (by decide) (fun _ => ?_) (fun c_57 => absurd (by decide) c_57)
  refine ev_iconst (pc := 83) (v := (-1)) dL_print_83 (by decide) ?_
  refine ev_istore_n (pc := 84) dL_print_84 rfl rfl rfl ?_
  refine e3 w tl _ 16 96 C (by decide) (by decide) ?_
  refine ev_iload_n (pc := 85) dL_print_85 rfl rfl ?_
  refine ev_iconst (pc := 86) (v := 4) dL_print_86 (by decide) ?_
  refine ev_ic_ge (pc := 87) (tgt := 131) dL_print_87 (by decide) (fun _ => ?_) (fun c_87 => absurd (by decide) c_87)
  refine ev_iconst (pc := 131) (v := 0) dL_print_131 (by decide) ?_
  refine ev_istore_n (pc := 132) dL_print_132 rfl rfl rfl ?_
  refine e4 w tl _ 31 186 C (by decide) (by decide) ?_
  refine ev_iload_n (pc := 133) dL_print_133 rfl rfl ?_
  refine ev_bipush (pc := 134) (v := 60) dL_print_134 (by decide) ?_
  refine ev_ic_ge (pc := 136) (tgt := 206) dL_print_136 (by decide) (fun _ => ?_) (fun c_136 => absurd (by decide) c_136)
  refine ev_lload_n (pc := 206) dL_print_206 rfl rfl ?_
  exact ev_lretE (pc := 207) dL_print_207 rfl ⟨Nat.le_of_ble_eq_true rfl, Nat.le_of_ble_eq_true rfl⟩ rfl rfl
end PRI
