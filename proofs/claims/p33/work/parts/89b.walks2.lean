/-! THE LAW: a page of a level, a level, the levels -/
def lvP (σ : SS) (D : Nat) (iv : Int32) (p : Nat) : Prop := gU σ p ∧ nlen (gT σ p) ≤ 4 ∧ (2 ≤ nlen (gT σ p) ∨ (D = 1 ∧ iv = 0)) ∧ ((iv = 0 ∧ ∃ l, gT σ p = .inl l) ∨ (iv = 1 ∧ ∃ l e, gT σ p = .inr l ∧ e ≤ 4 ∧ ∀ c ∈ l, fl (gT σ) (gU σ) e c))
section WM
variable {N : Nat} {σ : SS} {tl : List mC} {w0 : mW} {pf pm : Nat} {f0 : Nat → Int32}
theorem walks_page (h : CG N σ tl w0) (hp : WP w0 pf pm) {Qf : mQ} {rt0 md : Int32} {D kk p kc ks : Nat} {iv : Int32} {A : List (Nat × Int32)} {B : List Nat} {g : Nat → Int64} {lv bl : Nat → Int32} {v11 v12 v13 v14 v15 : Value} (hlv : lvP σ D iv p) (hlp : lv kk = nI p) (hkk : kk < 64) (hs : Srt (A ++ lvE (gT σ p))) (hA : (A ++ lvE (gT σ p)).length ≤ 50) (h100 : k100 (A ++ lvE (gT σ p))) (hB : (B ++ kids (gT σ p)).length ≤ 50) (hiv0 : iv = 0 → B = []) (hiv1 : iv = 1 → A = []) (hbl : rwP bl B) (hkc : kc + wgt (gT σ) p ≤ 1100) (hks : ks + 6 * wgt (gT σ) p ≤ 6800)
    (k : ∀ (bl' : Nat → Int32) (v11 v12 v13 v14 v15 : Value), rwP bl' (B ++ kids (gT σ p)) → EvF m_L_walks Qf 316 (WLo w0 pf pm rt0 md (nI D) iv (nI (B ++ kids (gT σ p)).length) (nI kk) v11 v12 v13 v14 v15) [] (kc + wgt (gT σ) p) (ks + 6 * wgt (gT σ) p) (WK w0 pf pm (fF f0 (A ++ lvE (gT σ p))) (mkB g p) lv bl')) :
    EvF m_L_walks Qf 66 (WLo w0 pf pm rt0 md (nI D) iv (nI B.length) (nI kk) v11 v12 v13 v14 v15) [] kc ks (WK w0 pf pm (fF f0 A) g lv bl) := by
  obtain ⟨hu, h4, h2, hkind⟩ := hlv
  have hp7 : p < 720 := (cg_I h).2.2.1 p hu
  have hfin : ∀ v14 v15 : Value, EvF m_L_walks Qf 173 (WLo w0 pf pm rt0 md (nI D) iv (nI B.length) (nI kk) (.int (nI p)) (.int (nI (nlen (gT σ p)))) (.int 0) v14 v15) [] (kc + 5) (ks + 30) (WK w0 pf pm (fF f0 A) (mkB g p) lv bl) := fun v14 v15 => by
    rcases hkind with ⟨rfl, l, hl⟩ | ⟨rfl, l, e, hl, he, hk⟩
    · have hB0 := hiv0 rfl
      subst hB0
      have e1 : nlen (gT σ p) = l.length := by rw [hl]; rfl
      have e2 : lvE (gT σ p) = l := by rw [hl]; rfl
      have e3 : kids (gT σ p) = [] := by rw [hl]; rfl
      have e4 : wgt (gT σ) p = 5 + 4 * l.length := by unfold wgt; rw [hl]
      rw [e2] at hs hA h100 k
      rw [e3] at k
      rw [e4] at hkc hks k
      rw [e1]
      have h9 := walks_leaf (f0 := f0) (g := mkB g p) (lv := lv) (bl := bl) h hp (Qf := Qf) (rt0 := rt0) (md := md) (dp0 := nI D) (kk := nI kk) (q := p) (kc0 := kc + 5) (ks0 := ks + 30) (A := A) (l := l) hu hl hs hA h100 (by omega) (by omega) (fun v14 v15 => ev_widen (by omega) (by omega) (k bl _ _ _ _ _ (fun j p hj => by simp at hj))) l.length 0 (kc + 5) (ks + 30) v14 v15 (by omega) (by omega) (by omega)
      rw [List.take_zero, List.append_nil] at h9
      exact h9
    · have hA0 := hiv1 rfl
      subst hA0
      have e1 : nlen (gT σ p) = l.length := by rw [hl]; rfl
      have e2 : lvE (gT σ p) = [] := by rw [hl]; rfl
      have e3 : kids (gT σ p) = l := by rw [hl]; rfl
      have e4 : wgt (gT σ) p = 5 + 24 * l.length := by unfold wgt; rw [hl]
      rw [e2] at k
      rw [e3] at hB k
      rw [e4] at hkc hks k
      rw [e1]
      rw [List.length_append] at k
      have h9 := walks_inner (f := fF f0 []) (g := mkB g p) (lv := lv) h hp (Qf := Qf) (rt0 := rt0) (md := md) (dp0 := nI D) (kk := nI kk) (q := p) (kc0 := kc + 5) (ks0 := ks + 30) (B := B) (l := l) rfl hu hl hk he hB (by omega) (by omega) (fun bl' v14 v15 hb => ev_widen (by omega) (by omega) (k bl' _ _ _ _ _ hb)) l.length 0 (kc + 5) (ks + 30) bl v14 v15 (by omega) (by rw [List.take_zero, List.append_nil]; exact hbl) (by omega) (by omega)
      exact h9
  have hw5 : 5 ≤ wgt (gT σ) p := by
    unfold wgt
    split <;> omega
  obtain ⟨t1, C1⟩ := wk_CG (f := fF f0 A) (g := g) (lv := lv) (bl := bl) h hp
  refine ev_aload (pc := 66) dL_walks_66 rfl ?_
  refine ev_iload (pc := 68) dL_walks_68 rfl ?_
  refine ev_ialdN (pc := 70) dL_walks_70 wk_l ⟨(show _ = nI kk from rfl), by omega, by decide⟩ hlp ?_
  refine ev_istore (pc := 71) dL_walks_71 rfl rfl ?_
  refine ev_iload (pc := 73) dL_walks_73 rfl ?_
  refine ev_if_lt (pc := 75) (tgt := 86) dL_walks_75 (by decide) (fun c_75 => absurd c_75 (hp0 (by omega))) (fun _ => ?_)
  refine ev_iload (pc := 78) dL_walks_78 rfl ?_
  refine ev_sipush (pc := 80) (v := 768) dL_walks_80 (by decide) ?_
  refine ev_ic_lt (pc := 83) (tgt := 90) dL_walks_83 (by decide) (fun _ => ?_) (fun c_83 => absurd (by exact nI_lt (show p < 768 by omega) (by decide)) c_83)
  refine ev_aload_n (pc := 90) dL_walks_90 rfl rfl ?_
  refine ev_iload (pc := 91) dL_walks_91 rfl ?_
  refine cX2 (pc := 93) lk_L_walks_93 (Nat.le_of_ble_eq_true rfl) ⟨(show kc + 1 ≤ 1100 by omega), (show ks + 6 ≤ 6800 by omega)⟩ (r_entries C1 hu) ?_
  refine ev_widen (k2 := kc + 1) (s2 := ks + 6) (show kc + 1 ≤ kc + 1 by omega) (show ks + 6 ≤ ks + 6 by omega) ?_
  refine ev_istore (pc := 96) dL_walks_96 rfl rfl ?_
  refine ev_iload (pc := 98) dL_walks_98 rfl ?_
  refine ev_if_lt (pc := 100) (tgt := 151) dL_walks_100 (by decide) (fun c_100 => absurd c_100 (nI_pos (by omega))) (fun _ => ?_)
  refine ev_iload (pc := 103) dL_walks_103 rfl ?_
  refine ev_iconst (pc := 105) (v := 4) dL_walks_105 (by decide) ?_
  refine ev_ic_gt (pc := 106) (tgt := 151) dL_walks_106 (by decide) (fun c_106 => absurd c_106 (by exact nI_nlt (show nlen (gT σ p) ≤ 4 from h4) (by decide))) (fun _ => ?_)
  refine ev_iload (pc := 109) dL_walks_109 rfl ?_
  refine ev_iconst (pc := 111) (v := 2) dL_walks_111 (by decide) ?_
  refine ev_ic_ge (pc := 112) (tgt := 126) dL_walks_112 (by decide) (fun c9 => ?_) (fun c9 => ?_)
  · refine ev_aload_n (pc := 126) dL_walks_126 rfl rfl ?_
    refine ev_iload (pc := 127) dL_walks_127 rfl ?_
    refine ev_iload (pc := 129) dL_walks_129 rfl ?_
    refine cX3 (pc := 131) lk_L_walks_131 (Nat.le_of_ble_eq_true rfl) ⟨(show kc + 1 + 2 ≤ 1100 by omega), (show ks + 6 + 12 ≤ 6800 by omega)⟩ (r_pageAtT2 C1 hu (Or.inr (Int32.le_refl _))) ?_
    refine ev_widen (k2 := kc + 3) (s2 := ks + 18) (show kc + 1 + 2 ≤ kc + 3 by omega) (show ks + 6 + 12 ≤ ks + 18 by omega) ?_
    refine ev_ldc (pc := 134) dL_walks_134 ki_L_23 ?_
    refine ev_ic_ne (pc := 136) (tgt := 151) dL_walks_136 (by decide) (fun c_136 => absurd rfl c_136) (fun _ => ?_)
    refine ev_aload_n (pc := 139) dL_walks_139 rfl rfl ?_
    refine ev_iload (pc := 140) dL_walks_140 rfl ?_
    refine ev_iconst (pc := 142) (v := (-1)) dL_walks_142 (by decide) ?_
    refine cX3 (pc := 143) lk_L_walks_143 (Nat.le_of_ble_eq_true rfl) ⟨(show kc + 3 + 2 ≤ 1100 by omega), (show ks + 18 + 12 ≤ 6800 by omega)⟩ (r_keyAtT2 C1 hu (Or.inl (by decide))) ?_
    refine ev_widen (k2 := kc + 5) (s2 := ks + 30) (show kc + 3 + 2 ≤ kc + 5 by omega) (show ks + 18 + 12 ≤ ks + 30 by omega) ?_
    refine ev_ldc (pc := 146) dL_walks_146 ki_L_23 ?_
    refine ev_ic_eq (pc := 148) (tgt := 153) dL_walks_148 (by decide) (fun _ => ?_) (fun c_148 => absurd rfl c_148)
    refine ev_aload_n (pc := 153) dL_walks_153 rfl rfl ?_
    refine ev_iload (pc := 154) dL_walks_154 rfl ?_
    refine ev_bipush (pc := 156) (v := 64) dL_walks_156 (by decide) ?_
    refine ev_idiv (pc := 158) dL_walks_158 (by decide) (pk_div (d := 64) (by omega) (by decide) (by decide)) ?_
    refine ev_dup2 (pc := 159) dL_walks_159 rfl rfl ?_
    refine ev_laldN (pc := 160) dL_walks_160 (wk_g hp) ⟨(show _ = nI (p / 64) from rfl), by omega, by decide⟩ rfl ?_
    refine ev_lconst (pc := 161) (v := 1) dL_walks_161 (by decide) ?_
    refine ev_iload (pc := 162) dL_walks_162 rfl ?_
    refine ev_bipush (pc := 164) (v := 64) dL_walks_164 (by decide) ?_
    refine ev_irem (pc := 166) dL_walks_166 (by decide) (pk_rem (d := 64) (by omega) (by decide) (by decide)) ?_
    refine ev_lshl (pc := 167) dL_walks_167 rfl ?_
    refine ev_lor (pc := 168) dL_walks_168 rfl ?_
    refine ev_lastN (pc := 169) dL_walks_169 (wk_g hp) ⟨(show _ = nI (p / 64) from rfl), by omega, by decide⟩ (show _ = mkB g p from rfl) (wk_sg hp) ?_
    refine ev_iconst (pc := 170) (v := 0) dL_walks_170 (by decide) ?_
    refine ev_istore (pc := 171) dL_walks_171 rfl rfl ?_
    exact hfin _ _
  · obtain ⟨hD1, hi0⟩ := h2.resolve_left (fun h => c9 (nI_le h (by omega)))
    refine ev_iload (pc := 115) dL_walks_115 rfl ?_
    refine ev_if_ne (pc := 117) (tgt := 151) dL_walks_117 (by decide) (fun c_117 => absurd hi0 c_117) (fun _ => ?_)
    refine ev_iload (pc := 120) dL_walks_120 rfl ?_
    refine ev_iconst (pc := 122) (v := 1) dL_walks_122 (by decide) ?_
    refine ev_ic_gt (pc := 123) (tgt := 151) dL_walks_123 (by decide) (fun c_123 => absurd c_123 (by rw [hD1]; decide)) (fun _ => ?_)
    refine ev_aload_n (pc := 126) dL_walks_126 rfl rfl ?_
    refine ev_iload (pc := 127) dL_walks_127 rfl ?_
    refine ev_iload (pc := 129) dL_walks_129 rfl ?_
    refine cX3 (pc := 131) lk_L_walks_131 (Nat.le_of_ble_eq_true rfl) ⟨(show kc + 1 + 2 ≤ 1100 by omega), (show ks + 6 + 12 ≤ 6800 by omega)⟩ (r_pageAtT2 C1 hu (Or.inr (Int32.le_refl _))) ?_
    refine ev_widen (k2 := kc + 3) (s2 := ks + 18) (show kc + 1 + 2 ≤ kc + 3 by omega) (show ks + 6 + 12 ≤ ks + 18 by omega) ?_
    refine ev_ldc (pc := 134) dL_walks_134 ki_L_23 ?_
    refine ev_ic_ne (pc := 136) (tgt := 151) dL_walks_136 (by decide) (fun c_136 => absurd rfl c_136) (fun _ => ?_)
    refine ev_aload_n (pc := 139) dL_walks_139 rfl rfl ?_
    refine ev_iload (pc := 140) dL_walks_140 rfl ?_
    refine ev_iconst (pc := 142) (v := (-1)) dL_walks_142 (by decide) ?_
    refine cX3 (pc := 143) lk_L_walks_143 (Nat.le_of_ble_eq_true rfl) ⟨(show kc + 3 + 2 ≤ 1100 by omega), (show ks + 18 + 12 ≤ 6800 by omega)⟩ (r_keyAtT2 C1 hu (Or.inl (by decide))) ?_
    refine ev_widen (k2 := kc + 5) (s2 := ks + 30) (show kc + 3 + 2 ≤ kc + 5 by omega) (show ks + 18 + 12 ≤ ks + 30 by omega) ?_
    refine ev_ldc (pc := 146) dL_walks_146 ki_L_23 ?_
    refine ev_ic_eq (pc := 148) (tgt := 153) dL_walks_148 (by decide) (fun _ => ?_) (fun c_148 => absurd rfl c_148)
    refine ev_aload_n (pc := 153) dL_walks_153 rfl rfl ?_
    refine ev_iload (pc := 154) dL_walks_154 rfl ?_
    refine ev_bipush (pc := 156) (v := 64) dL_walks_156 (by decide) ?_
    refine ev_idiv (pc := 158) dL_walks_158 (by decide) (pk_div (d := 64) (by omega) (by decide) (by decide)) ?_
    refine ev_dup2 (pc := 159) dL_walks_159 rfl rfl ?_
    refine ev_laldN (pc := 160) dL_walks_160 (wk_g hp) ⟨(show _ = nI (p / 64) from rfl), by omega, by decide⟩ rfl ?_
    refine ev_lconst (pc := 161) (v := 1) dL_walks_161 (by decide) ?_
    refine ev_iload (pc := 162) dL_walks_162 rfl ?_
    refine ev_bipush (pc := 164) (v := 64) dL_walks_164 (by decide) ?_
    refine ev_irem (pc := 166) dL_walks_166 (by decide) (pk_rem (d := 64) (by omega) (by decide) (by decide)) ?_
    refine ev_lshl (pc := 167) dL_walks_167 rfl ?_
    refine ev_lor (pc := 168) dL_walks_168 rfl ?_
    refine ev_lastN (pc := 169) dL_walks_169 (wk_g hp) ⟨(show _ = nI (p / 64) from rfl), by omega, by decide⟩ (show _ = mkB g p from rfl) (wk_sg hp) ?_
    refine ev_iconst (pc := 170) (v := 0) dL_walks_170 (by decide) ?_
    refine ev_istore (pc := 171) dL_walks_171 rfl rfl ?_
    exact hfin _ _
theorem fm_snoc {α β : Type} (f : α → List β) (L : List α) (x : α) : (L ++ [x]).flatMap f = L.flatMap f ++ f x := by simp
theorem walks_pages (h : CG N σ tl w0) (hp : WP w0 pf pm) {Qf : mQ} {rt0 : Int32} {D kc0 ks0 : Nat} {iv : Int32} {ps : List Nat} {g : Nat → Int64} {lv : Nat → Int32} (hlv : ∀ p ∈ ps, lvP σ D iv p) (hlp : rwP lv ps) (hn : ps.length ≤ 50) (hs : Srt (ps.flatMap (fun p => lvE (gT σ p)))) (hA : (ps.flatMap (fun p => lvE (gT σ p))).length ≤ 50) (h100 : k100 (ps.flatMap (fun p => lvE (gT σ p)))) (hB : (ps.flatMap (fun p => kids (gT σ p))).length ≤ 50) (hkc : kc0 + smN (wgt (gT σ)) ps ≤ 1100) (hks : ks0 + 6 * smN (wgt (gT σ)) ps ≤ 6800)
    (k : ∀ (bl' : Nat → Int32) (v11 v12 v13 v14 v15 : Value), rwP bl' (ps.flatMap (fun p => kids (gT σ p))) → EvF m_L_walks Qf 322 (WLo w0 pf pm rt0 (nI ps.length) (nI D) iv (nI (ps.flatMap (fun p => kids (gT σ p))).length) (nI ps.length) v11 v12 v13 v14 v15) [] (kc0 + smN (wgt (gT σ)) ps) (ks0 + 6 * smN (wgt (gT σ)) ps) (WK w0 pf pm (fF f0 (ps.flatMap (fun p => lvE (gT σ p)))) (ps.foldl mkB g) lv bl')) :
    ∀ (R Dn : List Nat) (kc ks : Nat) (bl : Nat → Int32) (v11 v12 v13 v14 v15 : Value), ps = Dn ++ R → rwP bl (Dn.flatMap (fun p => kids (gT σ p))) → kc = kc0 + smN (wgt (gT σ)) Dn → ks = ks0 + 6 * smN (wgt (gT σ)) Dn →
    EvF m_L_walks Qf 59 (WLo w0 pf pm rt0 (nI ps.length) (nI D) iv (nI (Dn.flatMap (fun p => kids (gT σ p))).length) (nI Dn.length) v11 v12 v13 v14 v15) [] kc ks (WK w0 pf pm (fF f0 (Dn.flatMap (fun p => lvE (gT σ p)))) (Dn.foldl mkB g) lv bl) := by
  intro R
  induction R with
  | nil =>
    intro Dn kc ks bl v11 v12 v13 v14 v15 hps hbl e1 e2
    rw [List.append_nil] at hps
    subst hps
    subst e1
    subst e2
    refine ev_iload (pc := 59) dL_walks_59 rfl ?_
    refine ev_iload (pc := 61) dL_walks_61 rfl ?_
    refine ev_ic_ge (pc := 63) (tgt := 322) dL_walks_63 (by decide) (fun _ => ?_) (fun c_63 => absurd (nI_le (Nat.le_refl _) (by omega)) c_63)
    exact k bl _ _ _ _ _ hbl
  | cons p R ih =>
    intro Dn kc ks bl v11 v12 v13 v14 v15 hps hbl e1 e2
    have hpm : p ∈ ps := by rw [hps]; exact List.mem_append_right _ List.mem_cons_self
    have hlen : ps.length = Dn.length + (R.length + 1) := by rw [hps]; simp
    have hpx : ps[Dn.length]? = some p := by
      rw [hps, List.getElem?_append_right (Nat.le_refl _), Nat.sub_self]
      rfl
    have hps2 : ps = (Dn ++ [p]) ++ R := by rw [hps]; simp
    have hfa : ∀ {α : Type} (f : Nat → List α), ps.flatMap f = (Dn.flatMap f ++ f p) ++ R.flatMap f := fun f => by
      rw [hps]
      simp
    have hsum : smN (wgt (gT σ)) ps = smN (wgt (gT σ)) Dn + wgt (gT σ) p + smN (wgt (gT σ)) R := by
      rw [hps, smN_app, smN_cons]
      omega
    have hs' := hs
    have hA' := hA
    have h1' := h100
    have hB' := hB
    rw [hfa] at hs' hA' h1' hB'
    rw [List.length_append] at hA' hB'
    have hlvp := hlv p hpm
    have hk0 : iv = 0 → Dn.flatMap (fun p => kids (gT σ p)) = [] := fun hi => by
      rw [List.flatMap_eq_nil_iff]
      intro q hq
      obtain ⟨-, -, -, hkind⟩ := hlv q (by rw [hps]; exact List.mem_append_left _ hq)
      rcases hkind with ⟨-, l, hl⟩ | ⟨h1, -⟩
      · rw [hl]; rfl
      · rw [hi] at h1
        exact absurd h1 (by decide)
    have hk1 : iv = 1 → Dn.flatMap (fun p => lvE (gT σ p)) = [] := fun hi => by
      rw [List.flatMap_eq_nil_iff]
      intro q hq
      obtain ⟨-, -, -, hkind⟩ := hlv q (by rw [hps]; exact List.mem_append_left _ hq)
      rcases hkind with ⟨h1, -⟩ | ⟨-, l, e, hl, -⟩
      · rw [hi] at h1
        exact absurd h1 (by decide)
      · rw [hl]; rfl
    refine ev_iload (pc := 59) dL_walks_59 rfl ?_
    refine ev_iload (pc := 61) dL_walks_61 rfl ?_
    refine ev_ic_ge (pc := 63) (tgt := 322) dL_walks_63 (by decide) (fun c_63 => absurd c_63 (nI_ge (show Dn.length < ps.length by omega) (by omega))) (fun _ => ?_)
    refine walks_page h hp hlvp (hlp _ _ hpx) (by omega) (Srt_app.mp hs').1 (by omega) (k100_app.mp h1').1 (by omega) hk0 hk1 hbl (by omega) (by omega) (fun bl' v11 v12 v13 v14 v15 hb => ?_)
    have h9 := fun kc ks e1 e2 => ih (Dn ++ [p]) kc ks bl' v11 v12 v13 v14 v15 hps2 (by rw [fm_snoc]; exact hb) e1 e2
    rw [fm_snoc, fm_snoc, show (Dn ++ [p]).length = Dn.length + 1 from by simp, List.foldl_append] at h9
    refine ev_iinc (pc := 316) dL_walks_316 rfl rfl rfl ?_
    refine ev_goto (pc := 319) (tgt := 59) dL_walks_319 (by decide) ?_
    rw [nI_i1]
    exact h9 _ _ (by rw [smN_app, smN_1]; omega) (by rw [smN_app, smN_1]; omega)
theorem walks_copy {Qf : mQ} {rt0 md dp0 iv : Int32} {B : List Nat} {f bl : Nat → Int32} {g : Nat → Int64} {kc ks : Nat} {v11 v12 v13 v14 v15 : Value} (hbl : rwP bl B) (hB : B.length ≤ 60)
    (k : ∀ lv' : Nat → Int32, rwP lv' B → EvF m_L_walks Qf 356 (WLo w0 pf pm rt0 md dp0 iv (nI B.length) (nI B.length) v11 v12 v13 v14 v15) [] kc ks (WK w0 pf pm f g lv' bl)) :
    ∀ (m n : Nat) (lv : Nat → Int32), n + m = B.length → rwP lv (B.take n) → EvF m_L_walks Qf 333 (WLo w0 pf pm rt0 md dp0 iv (nI B.length) (nI n) v11 v12 v13 v14 v15) [] kc ks (WK w0 pf pm f g lv bl) := by
  intro m
  induction m with
  | zero =>
    intro n lv hn hlv
    have hn : n = B.length := by omega
    subst hn
    rw [List.take_length] at hlv
    refine ev_iload (pc := 333) dL_walks_333 rfl ?_
    refine ev_iload (pc := 335) dL_walks_335 rfl ?_
    refine ev_ic_ge (pc := 337) (tgt := 356) dL_walks_337 (by decide) (fun _ => ?_) (fun c_337 => absurd (nI_le (Nat.le_refl _) (by omega)) c_337)
    exact k lv hlv
  | succ m ih =>
    intro n lv hn hlv
    have hlt : n < B.length := by omega
    obtain ⟨x, hx⟩ : ∃ x, B[n]? = some x := ⟨_, List.getElem?_eq_getElem hlt⟩
    have h2 := rwP_add hlv x
    rw [List.length_take, Nat.min_eq_left (by omega)] at h2
    rw [show B.take n ++ [x] = B.take (n + 1) from by rw [List.take_add_one, hx]; rfl] at h2
    refine ev_iload (pc := 333) dL_walks_333 rfl ?_
    refine ev_iload (pc := 335) dL_walks_335 rfl ?_
    refine ev_ic_ge (pc := 337) (tgt := 356) dL_walks_337 (by decide) (fun c_337 => absurd c_337 (nI_ge (show n < B.length by omega) (by omega))) (fun _ => ?_)
    refine ev_aload (pc := 340) dL_walks_340 rfl ?_
    refine ev_iload (pc := 342) dL_walks_342 rfl ?_
    refine ev_aload (pc := 344) dL_walks_344 rfl ?_
    refine ev_iload (pc := 346) dL_walks_346 rfl ?_
    refine ev_ialdN (pc := 348) dL_walks_348 wk_b ⟨(show _ = nI n from rfl), by omega, by decide⟩ (hbl n x hx) ?_
    refine ev_iastN (pc := 349) dL_walks_349 wk_l ⟨(show _ = nI n from rfl), by omega, by decide⟩ rfl wk_sl ?_
    refine ev_iinc (pc := 350) dL_walks_350 rfl rfl rfl ?_
    refine ev_goto (pc := 353) (tgt := 333) dL_walks_353 (by decide) ?_
    rw [nI_i1]
    exact ih (n + 1) _ (by omega) h2
theorem kyl_lv (T : Nat → Nd) (d : Nat) : ∀ ps : List Nat, ps.flatMap (kyl T (d + 1)) = (ps.flatMap (fun p => kids (T p))).flatMap (kyl T d)
  | [] => rfl
  | x :: ps => by rw [List.flatMap_cons, List.flatMap_cons, List.flatMap_append, kyl_s, kyl_lv T d ps]
theorem wsm_lv (T : Nat → Nd) (f : Nat → Nat) (d : Nat) : ∀ ps : List Nat, smN (wsm T f (d + 1)) ps = smN f ps + smN (wsm T f d) (ps.flatMap (fun p => kids (T p)))
  | [] => rfl
  | x :: ps => by
    rw [List.flatMap_cons, smN_app, smN_cons, smN_cons, wsm_lv T f d ps, wsm_s]
    omega
theorem one_le {T : Nat → Nd} : ∀ (d : Nat) (ps : List Nat), ps.length ≤ smN (wsm T one1 d) ps
  | 0, ps => by
    rw [← smN_one ps]
    exact Nat.le_refl _
  | d + 1, ps => by
    rw [wsm_lv, smN_one]
    omega
theorem walks_levels (h : CG N σ tl w0) (hp : WP w0 pf pm) {rt0 : Int32} : ∀ (e D : Nat) (ps : List Nat) (g : Nat → Int64) (lv bl : Nat → Int32) (kc ks : Nat) (v8 v9 v10 v11 v12 v13 v14 v15 : Value), ps ≠ [] → D + e ≤ 8 → e ≤ 5 → (∀ p ∈ ps, rt (gT σ) (gU σ) e p ∧ (2 ≤ nlen (gT σ p) ∨ (D = 1 ∧ e = 0))) → rwP lv ps → smN (wsm (gT σ) one1 e) ps ≤ 40 → Srt (ps.flatMap (kyl (gT σ) e)) → k100 (ps.flatMap (kyl (gT σ) e)) → (ps.flatMap (kyl (gT σ) e)).length ≤ 50 → kc + smN (wsm (gT σ) (wgt (gT σ)) e) ps + 2 * (e + 1) ≤ 1100 → ks + 6 * (smN (wsm (gT σ) (wgt (gT σ)) e) ps + 2 * (e + 1)) ≤ 6800 →
    EvF m_L_walks (mQm m_L_walks (.inl (some (.int (nI (D + e))))) ((w0.set pf (iA 64 (fF f0 (ps.flatMap (kyl (gT σ) e))))).set pm (lA 12 ((bfs (gT σ) e ps).foldl mkB g)))) 27 [.ref 0, .int rt0, .ref pf, .ref pm, .ref w0.length, .ref (w0.length + 1), .int (nI ps.length), .int (nI D), v8, v9, v10, v11, v12, v13, v14, v15] [] kc ks (WK w0 pf pm (fF f0 []) g lv bl)
  | 0, D, ps, g, lv, bl, kc, ks, v8, v9, v10, v11, v12, v13, v14, v15, hne, hD, he, hps, hlv, h1, hs, h100, hL, hkc, hks => by
    have hlen := one_le (T := gT σ) 0 ps
    obtain ⟨p0, r, rfl⟩ : ∃ p0 r, ps = p0 :: r := by
      cases ps with
      | nil => exact absurd rfl hne
      | cons p0 r => exact ⟨p0, r, rfl⟩
    have hfl : ((p0 :: r).flatMap (fun p => kids (gT σ p))) = [] := by
      rw [List.flatMap_eq_nil_iff]
      intro q hq
      obtain ⟨⟨-, l, hl, -⟩, -⟩ := hps q hq
      rw [hl]
      rfl
    have hw0 : smN (wsm (gT σ) (wgt (gT σ)) 0) (p0 :: r) = smN (wgt (gT σ)) (p0 :: r) := rfl
    obtain ⟨⟨hu0, l0, hl0, h40⟩, -⟩ := hps p0 List.mem_cons_self
    have C : ∀ f g lv bl, ∃ t, CG N σ t (WK w0 pf pm f g lv bl) := fun f g lv bl => wk_CG h hp
    obtain ⟨t1, C1⟩ := C (fF f0 []) g lv bl
    obtain ⟨v, hv0, hv⟩ : ∃ v : Int32, v < 0 ∧ EvS m_L_pageAt [.ref 0, .int (nI p0), .int (nI 0)] (WK w0 pf pm (fF f0 []) g lv bl) (.inl (some (.int v))) (WK w0 pf pm (fF f0 []) g lv bl) := by
      cases l0 with
      | nil => exact ⟨-1000001, by decide, r_pageAtT2 C1 hu0 (Or.inr (by rw [hl0]; exact Int32.le_refl _))⟩
      | cons x l0 => exact ⟨-1, by decide, r_pageAtL C1 hu0 hl0 (by simp)⟩
    have hall : ∀ p ∈ p0 :: r, lvP σ D 0 p := fun p hm => by
      obtain ⟨⟨hu, l, hl, h4⟩, h2⟩ := hps p hm
      exact ⟨hu, by rw [hl]; exact h4, h2.imp id (fun x => ⟨x.1, rfl⟩), Or.inl ⟨rfl, l, hl⟩⟩
    rw [hw0] at hkc hks
    refine ev_iload (pc := 27) dL_walks_27 rfl ?_
    refine ev_bipush (pc := 29) (v := 9) dL_walks_29 (by decide) ?_
    refine ev_ic_ge (pc := 31) (tgt := 366) dL_walks_31 (by decide) (fun c_31 => absurd c_31 (nI_ge (show D < 9 by omega) (by decide))) (fun _ => ?_)
    refine ev_aload_n (pc := 34) dL_walks_34 rfl rfl ?_
    refine ev_aload (pc := 35) dL_walks_35 rfl ?_
    refine ev_iconst (pc := 37) (v := 0) dL_walks_37 (by decide) ?_
    refine ev_ialdN (pc := 38) dL_walks_38 wk_l ⟨(show _ = nI 0 from rfl), by decide, by decide⟩ (hlv 0 p0 rfl) ?_
    refine ev_iconst (pc := 39) (v := 0) dL_walks_39 (by decide) ?_
    refine cX3 (pc := 40) lk_L_walks_40 (Nat.le_of_ble_eq_true rfl) ⟨(show kc + 2 ≤ 1100 by omega), (show ks + 12 ≤ 6800 by omega)⟩ hv ?_
    refine ev_widen (k2 := kc + 2) (s2 := ks + 12) (show kc + 2 ≤ kc + 2 by omega) (show ks + 12 ≤ ks + 12 by omega) ?_
    refine ev_if_lt (pc := 43) (tgt := 50) dL_walks_43 (by decide) (fun _ => ?_) (fun c_43 => absurd hv0 c_43)
    refine ev_iconst (pc := 50) (v := 0) dL_walks_50 (by decide) ?_
    refine ev_istore (pc := 51) dL_walks_51 rfl rfl ?_
    refine ev_iconst (pc := 53) (v := 0) dL_walks_53 (by decide) ?_
    refine ev_istore (pc := 54) dL_walks_54 rfl rfl ?_
    refine ev_iconst (pc := 56) (v := 0) dL_walks_56 (by decide) ?_
    refine ev_istore (pc := 57) dL_walks_57 rfl rfl ?_
    refine walks_pages h hp hall hlv (by omega) hs hL h100 (by rw [hfl]; decide) (kc0 := kc + 2) (ks0 := ks + 12) (by omega) (by omega) (fun bl' v11 v12 v13 v14 v15 hb => ?_) (p0 :: r) [] _ _ bl _ _ _ _ _ rfl (fun j p hj => by simp at hj) rfl rfl
    refine ev_iload (pc := 322) dL_walks_322 rfl ?_
    refine ev_if_ne (pc := 324) (tgt := 330) dL_walks_324 (by decide) (fun c => absurd rfl c) (fun _ => ?_)
    refine ev_iload (pc := 327) dL_walks_327 rfl ?_
    refine ev_dropG (w1 := (w0.set pf (iA 64 (fF f0 ((p0 :: r).flatMap (kyl (gT σ) 0))))).set pm (lA 12 ((bfs (gT σ) 0 (p0 :: r)).foldl mkB g))) rfl ?_
    exact ev_iretE (pc := 329) dL_walks_329 rfl ⟨(show _ ≤ 1100 by omega), (show _ ≤ 6800 by omega)⟩ rfl rfl
  | e + 1, D, ps, g, lv, bl, kc, ks, v8, v9, v10, v11, v12, v13, v14, v15, hne, hD, he, hps, hlv, h1, hs, h100, hL, hkc, hks => by
    have hlen := one_le (T := gT σ) (e + 1) ps
    rw [wsm_lv] at h1 hkc hks
    rw [wsm_lv, smN_one] at hlen
    have hlen2 := one_le (T := gT σ) e (ps.flatMap (fun p => kids (gT σ p)))
    have hps1 := smN_one ps
    rw [kyl_lv] at hs h100 hL ⊢
    have ih := walks_levels h hp (rt0 := rt0) e (D + 1) (ps.flatMap (fun p => kids (gT σ p))) (ps.foldl mkB g)
    obtain ⟨p0, r, rfl⟩ : ∃ p0 r, ps = p0 :: r := by
      cases ps with
      | nil => exact absurd rfl hne
      | cons p0 r => exact ⟨p0, r, rfl⟩
    have hlvE : (p0 :: r).flatMap (fun p => lvE (gT σ p)) = [] := by
      rw [List.flatMap_eq_nil_iff]
      intro q hq
      obtain ⟨⟨-, l, hl, -⟩, -⟩ := hps q hq
      rw [hl]
      rfl
    have hbf : bfs (gT σ) (e + 1) (p0 :: r) = (p0 :: r) ++ bfs (gT σ) e ((p0 :: r).flatMap (fun p => kids (gT σ p))) := rfl
    rw [hbf, List.foldl_append]
    obtain ⟨⟨hu0, l0, hl0, h20, h40, hk0⟩, -⟩ := hps p0 List.mem_cons_self
    obtain ⟨c0, l1, rfl⟩ : ∃ c0 l1, l0 = c0 :: l1 := by
      cases l0 with
      | nil => simp at h20
      | cons c0 l1 => exact ⟨c0, l1, rfl⟩
    have hc7 : c0 < 720 := (cg_I h).2.2.1 c0 (fl_U (hk0 c0 List.mem_cons_self))
    have hkne : (p0 :: r).flatMap (fun p => kids (gT σ p)) ≠ [] := by
      rw [List.flatMap_cons, hl0]
      intro hx
      cases hx
    have C : ∀ f g lv bl, ∃ t, CG N σ t (WK w0 pf pm f g lv bl) := fun f g lv bl => wk_CG h hp
    obtain ⟨t1, C1⟩ := C (fF f0 []) g lv bl
    have hall : ∀ p ∈ p0 :: r, lvP σ D 1 p := fun p hm => by
      obtain ⟨⟨hu, l, hl, h2, h4, hk⟩, -⟩ := hps p hm
      exact ⟨hu, by rw [hl]; exact h4, Or.inl (by rw [hl]; exact h2), Or.inr ⟨rfl, l, e, hl, by omega, hk⟩⟩
    have hkid : ∀ p ∈ (p0 :: r).flatMap (fun p => kids (gT σ p)), rt (gT σ) (gU σ) e p ∧ (2 ≤ nlen (gT σ p) ∨ (D + 1 = 1 ∧ e = 0)) := fun p hm => by
      obtain ⟨q, hq, hm⟩ := List.mem_flatMap.mp hm
      obtain ⟨⟨hu, l, hl, h2, h4, hk⟩, -⟩ := hps q hq
      rw [hl] at hm
      have hf := hk p hm
      exact ⟨fl_rt hf, Or.inl (fl_sb hf).2.1⟩
    have hDe : D + 1 + e = D + (e + 1) := by omega
    rw [hDe] at ih
    refine ev_iload (pc := 27) dL_walks_27 rfl ?_
    refine ev_bipush (pc := 29) (v := 9) dL_walks_29 (by decide) ?_
    refine ev_ic_ge (pc := 31) (tgt := 366) dL_walks_31 (by decide) (fun c_31 => absurd c_31 (nI_ge (show D < 9 by omega) (by decide))) (fun _ => ?_)
    refine ev_aload_n (pc := 34) dL_walks_34 rfl rfl ?_
    refine ev_aload (pc := 35) dL_walks_35 rfl ?_
    refine ev_iconst (pc := 37) (v := 0) dL_walks_37 (by decide) ?_
    refine ev_ialdN (pc := 38) dL_walks_38 wk_l ⟨(show _ = nI 0 from rfl), by decide, by decide⟩ (hlv 0 p0 rfl) ?_
    refine ev_iconst (pc := 39) (v := 0) dL_walks_39 (by decide) ?_
    refine cX3 (pc := 40) lk_L_walks_40 (Nat.le_of_ble_eq_true rfl) ⟨(show kc + 2 ≤ 1100 by omega), (show ks + 12 ≤ 6800 by omega)⟩ (r_pageAtI C1 hu0 hl0 (e := 0) rfl) ?_
    refine ev_widen (k2 := kc + 2) (s2 := ks + 12) (show kc + 2 ≤ kc + 2 by omega) (show ks + 12 ≤ ks + 12 by omega) ?_
    refine ev_if_lt (pc := 43) (tgt := 50) dL_walks_43 (by decide) (fun c_43 => absurd c_43 (hp0 (by omega))) (fun _ => ?_)
    refine ev_iconst (pc := 46) (v := 1) dL_walks_46 (by decide) ?_
    refine ev_goto (pc := 47) (tgt := 51) dL_walks_47 (by decide) ?_
    refine ev_istore (pc := 51) dL_walks_51 rfl rfl ?_
    refine ev_iconst (pc := 53) (v := 0) dL_walks_53 (by decide) ?_
    refine ev_istore (pc := 54) dL_walks_54 rfl rfl ?_
    refine ev_iconst (pc := 56) (v := 0) dL_walks_56 (by decide) ?_
    refine ev_istore (pc := 57) dL_walks_57 rfl rfl ?_
    refine walks_pages h hp hall hlv (by omega) (by rw [hlvE]; exact List.Pairwise.nil) (by rw [hlvE]; decide) (by rw [hlvE]; exact fun x hx => absurd hx List.not_mem_nil) (by omega) (kc0 := kc + 2) (ks0 := ks + 12) (by omega) (by omega) (fun bl' v11 v12 v13 v14 v15 hb => ?_) (p0 :: r) [] _ _ bl _ _ _ _ _ rfl (fun j p hj => by simp at hj) rfl rfl
    rw [hlvE]
    refine ev_iload (pc := 322) dL_walks_322 rfl ?_
    refine ev_if_ne (pc := 324) (tgt := 330) dL_walks_324 (by decide) (fun _ => ?_) (fun c => absurd c (by decide))
    refine ev_iconst (pc := 330) (v := 0) dL_walks_330 (by decide) ?_
    refine ev_istore (pc := 331) dL_walks_331 rfl rfl ?_
    refine walks_copy hb (by omega) (fun lv' hlv' => ?_) ((p0 :: r).flatMap (fun p => kids (gT σ p))).length 0 lv (by omega) (fun j p hj => by simp at hj)
    refine ev_iload (pc := 356) dL_walks_356 rfl ?_
    refine ev_istore (pc := 358) dL_walks_358 rfl rfl ?_
    refine ev_iinc (pc := 360) dL_walks_360 rfl rfl rfl ?_
    refine ev_goto (pc := 363) (tgt := 27) dL_walks_363 (by decide) ?_
    rw [nI_i1]
    exact ih lv' bl' _ _ _ _ _ _ _ _ _ _ hkne (by omega) (by omega) hkid hlv' (by omega) hs h100 hL (by omega) (by omega)
/-- the whole walk -/
theorem r_walks (h : CG N σ tl w0) (hp : WP w0 pf pm) {n : Nat} (hn : w0.length = n) (hF : w0[pf]? = some (iA 64 f0)) {g0 : Nat → Int64} (hG : w0[pm]? = some (lA 12 g0)) (hwf : ∀ m, 21 ≤ m → ∀ e ∈ tl, cOk m e) {d p : Nat} {L : List (Nat × Int32)} (hr : rt (gT σ) (gU σ) d p) (hL : kyl (gT σ) d p = L) (hs : Srt L) (h100 : k100 L) (hl : L.length ≤ 32) : EvS m_L_walks [.ref 0, .int (nI p), .ref pf, .ref pm] w0 (.inl (some (.int (nI (d + 1))))) ((w0.set pf (iA 64 (fF f0 L))).set pm (lA 12 ((bfs (gT σ) d [p]).foldl mkB g0))) := by
  subst hn
  obtain ⟨p21, m21, hne, pfl, pml⟩ := id hp
  have hpg : wsm (gT σ) one1 d p ≤ 32 := by
    cases d with
    | zero => rw [wsm_0]; exact (by decide : (1 : Nat) ≤ 32)
    | succ d =>
      have h1 := fl_pages (d := d + 1) hr
      rw [hL] at h1
      omega
  have hd4 : d ≤ 4 := by
    cases d with
    | zero => omega
    | succ d =>
      have h1 := fl_deep (d := d + 1) hr
      rw [hL] at h1
      by_cases h5 : d + 1 ≤ 4
      · exact h5
      · have : 2 ^ 6 ≤ 2 ^ (d + 1 + 1) := Nat.pow_le_pow_right (by decide) (by omega)
        omega
  have hw := wgt_sum (sb_dpt (rt_sb hr).1)
  rw [hL] at hw
  have e1 : w0.set pf (iA 64 f0) = w0 := by
    obtain ⟨hh, he⟩ := List.getElem_of_getElem? hF
    rw [← he, List.set_getElem_self]
  have e2 : w0.set pm (lA 12 g0) = w0 := by
    obtain ⟨hh, he⟩ := List.getElem_of_getElem? hG
    rw [← he, List.set_getElem_self]
  have eW : ∀ lv bl, WK w0 pf pm f0 g0 lv bl = w0 ++ [iA 64 lv, iA 64 bl] := fun lv bl => by
    unfold WK
    rw [e1, e2]
  have hws : wOk (w0.length) w0 := cg_wf h (by omega) (hwf _ (by omega))
  have hlen2 : ((w0.set pf (iA 64 (fF f0 L))).set pm (lA 12 ((bfs (gT σ) d [p]).foldl mkB g0))).length ≤ w0.length := by simp
  have hn9 := cg_len h
  have hq : wOk w0.length ((w0.set pf (iA 64 (fF f0 L))).set pm (lA 12 ((bfs (gT σ) d [p]).foldl mkB g0))) := fun x hx => by
    rcases List.mem_or_eq_of_mem_set hx with hx | rfl
    · rcases List.mem_or_eq_of_mem_set hx with hx | rfl
      · exact hws x hx
      · exact trivial
    · exact trivial
  have hq2 : wOk (w0.length + 1) ((w0.set pf (iA 64 (fF f0 L))).set pm (lA 12 ((bfs (gT σ) d [p]).foldl mkB g0))) := fun x hx => by
    rcases List.mem_or_eq_of_mem_set hx with hx | rfl
    · rcases List.mem_or_eq_of_mem_set hx with hx | rfl
      · exact cg_wf h (by omega) (hwf _ (by omega)) x hx
      · exact trivial
    · exact trivial
  have hs1 : ([p] : List Nat).flatMap (kyl (gT σ) d) = L := by simp [hL]
  have main := walks_levels (f0 := f0) h hp (rt0 := nI p) d 1 [p] g0 (upd (fun _ => 0) 0 (nI p)) (fun _ => 0) 2 128 hole hole hole hole hole hole hole hole (fun h => by cases h) (by omega) (by omega) (fun q hq => by
    rw [List.mem_singleton.mp hq]
    refine ⟨hr, ?_⟩
    cases d with
    | zero => exact Or.inr ⟨rfl, rfl⟩
    | succ d => exact Or.inl (fl_sb (d := d + 1) hr).2.1) (fun j q hj => by
    match j, hj with
    | 0, hj => cases hj; exact pk_us) (by rw [smN_1]; omega) (by rw [hs1]; exact hs) (by rw [hs1]; exact h100) (by rw [hs1]; omega) (by rw [smN_1]; omega) (by rw [smN_1]; omega)
  rw [hs1, Nat.add_comm 1 d] at main
  refine evs_of (by decide +kernel) (Nat.le_of_ble_eq_true rfl) (by decide) rfl ?_
  refine ev_bipush (pc := 0) (v := 64) dL_walks_0 (by decide) ?_
  refine ev_naIF (pc := 2) (N := 64) (n := w0.length) dL_walks_2 rfl (Nat.le_of_ble_eq_true rfl) rfl rfl hws (show (decide (0 < w0.length) && (decide (pf < w0.length) && (decide (pm < w0.length) && true))) = true by rw [decide_eq_true (show 0 < w0.length by omega), decide_eq_true pfl, decide_eq_true pml]; rfl) rfl (mQok_m hlen2 hq rfl) ⟨Nat.le_of_ble_eq_true rfl, Nat.le_of_ble_eq_true rfl⟩ rfl ?_
  refine ev_astore (pc := 4) dL_walks_4 rfl rfl ?_
  refine ev_bipush (pc := 6) (v := 64) dL_walks_6 (by decide) ?_
  refine ev_naIF (pc := 8) (N := 64) (n := w0.length + 1) dL_walks_8 rfl (Nat.le_of_ble_eq_true rfl) rfl (by simp) (fun x hx => ?_) (show (decide (0 < w0.length + 1) && (decide (pf < w0.length + 1) && (decide (pm < w0.length + 1) && (decide (w0.length < w0.length + 1) && true)))) = true by rw [decide_eq_true (show 0 < w0.length + 1 by omega), decide_eq_true (show pf < w0.length + 1 by omega), decide_eq_true (show pm < w0.length + 1 by omega), decide_eq_true (show w0.length < w0.length + 1 by omega)]; rfl) rfl (mQok_m (by omega) hq2 rfl) ⟨Nat.le_of_ble_eq_true rfl, Nat.le_of_ble_eq_true rfl⟩ (show _ = WK w0 pf pm f0 g0 (fun _ => 0) (fun _ => 0) by rw [eW]; simp) ?_
  · rcases List.mem_append.mp hx with hx | hx
    · exact cg_wf h (by omega) (hwf _ (by omega)) x hx
    · rw [List.mem_singleton.mp hx]; exact trivial
  refine ev_astore (pc := 10) dL_walks_10 rfl rfl ?_
  refine ev_iconst (pc := 12) (v := 1) dL_walks_12 (by decide) ?_
  refine ev_istore (pc := 13) dL_walks_13 rfl rfl ?_
  refine ev_aload_n (pc := 15) dL_walks_15 rfl rfl ?_
  refine ev_iconst (pc := 16) (v := 0) dL_walks_16 (by decide) ?_
  refine ev_iconst (pc := 17) (v := 0) dL_walks_17 (by decide) ?_
  refine ev_iastN (pc := 18) dL_walks_18 (wk_f hp) ⟨(show _ = nI 0 from rfl), by decide, by decide⟩ fF_nil (wk_sf hp) ?_
  refine ev_aload (pc := 19) dL_walks_19 rfl ?_
  refine ev_iconst (pc := 21) (v := 0) dL_walks_21 (by decide) ?_
  refine ev_iload_n (pc := 22) dL_walks_22 rfl rfl ?_
  refine ev_iastN (pc := 23) dL_walks_23 wk_l ⟨(show _ = nI 0 from rfl), by decide, by decide⟩ rfl wk_sl ?_
  refine ev_iconst (pc := 24) (v := 1) dL_walks_24 (by decide) ?_
  refine ev_istore (pc := 25) dL_walks_25 rfl rfl ?_
  exact main
end WM
