/-! THE LAW: going through a tree level by level -/
def WK (w0 : mW) (pf pm : Nat) (f : Nat → Int32) (g : Nat → Int64) (lv bl : Nat → Int32) : mW := ((w0.set pf (iA 64 f)).set pm (lA 12 g)) ++ [iA 64 lv, iA 64 bl]
/-- the places of what is found and of what is met -/
def WP (w0 : mW) (pf pm : Nat) : Prop := 21 ≤ pf ∧ 21 ≤ pm ∧ pf ≠ pm ∧ pf < w0.length ∧ pm < w0.length
section WKS
variable {w0 : mW} {pf pm : Nat} {f f' : Nat → Int32} {g g' : Nat → Int64} {lv bl lv' bl' : Nat → Int32}
theorem wk_len : ((w0.set pf (iA 64 f)).set pm (lA 12 g)).length = w0.length := by simp
theorem wk_f (h : WP w0 pf pm) : (WK w0 pf pm f g lv bl)[pf]? = some (iA 64 f) := by
  obtain ⟨h1, h2, h3, h4, h5⟩ := h
  unfold WK
  rw [List.getElem?_append_left (by rw [wk_len]; exact h4), List.getElem?_set_ne (fun e => h3 e.symm), List.getElem?_set_self h4]
theorem wk_g (h : WP w0 pf pm) : (WK w0 pf pm f g lv bl)[pm]? = some (lA 12 g) := by
  obtain ⟨h1, h2, h3, h4, h5⟩ := h
  unfold WK
  rw [List.getElem?_append_left (by rw [wk_len]; exact h5), List.getElem?_set_self (by simpa using h5)]
theorem wk_l : (WK w0 pf pm f g lv bl)[w0.length]? = some (iA 64 lv) := by
  unfold WK
  rw [List.getElem?_append_right (by rw [wk_len]; exact Nat.le_refl _), wk_len, Nat.sub_self]
  rfl
theorem wk_b : (WK w0 pf pm f g lv bl)[w0.length + 1]? = some (iA 64 bl) := by
  unfold WK
  rw [List.getElem?_append_right (by rw [wk_len]; omega), wk_len, Nat.add_sub_cancel_left]
  rfl
theorem wk_sf (h : WP w0 pf pm) : (WK w0 pf pm f g lv bl).set pf (iA 64 f') = WK w0 pf pm f' g lv bl := by
  obtain ⟨h1, h2, h3, h4, h5⟩ := h
  unfold WK
  rw [List.set_append_left _ _ (by rw [wk_len]; exact h4), List.set_comm _ _ (fun e => h3 e.symm), List.set_set]
theorem wk_sg (h : WP w0 pf pm) : (WK w0 pf pm f g lv bl).set pm (lA 12 g') = WK w0 pf pm f g' lv bl := by
  obtain ⟨h1, h2, h3, h4, h5⟩ := h
  unfold WK
  rw [List.set_append_left _ _ (by rw [wk_len]; exact h5), List.set_set]
theorem wk_sl : (WK w0 pf pm f g lv bl).set w0.length (iA 64 lv') = WK w0 pf pm f g lv' bl := by
  unfold WK
  rw [List.set_append_right _ _ (by rw [wk_len]; exact Nat.le_refl _), wk_len, Nat.sub_self]
  rfl
theorem wk_sb : (WK w0 pf pm f g lv bl).set (w0.length + 1) (iA 64 bl') = WK w0 pf pm f g lv bl' := by
  unfold WK
  rw [List.set_append_right _ _ (by rw [wk_len]; omega), wk_len, Nat.add_sub_cancel_left]
  rfl
theorem wk_CG {N : Nat} {σ : SS} {tl : List mC} (h : CG N σ tl w0) (hp : WP w0 pf pm) : ∃ tl', CG N σ tl' (WK w0 pf pm f g lv bl) := by
  obtain ⟨h1, h2, -⟩ := hp
  have e1 := cg_set h (j := pf - 21) (x := iA 64 f)
  rw [show 21 + (pf - 21) = pf by omega] at e1
  have e2 := cg_set e1 (j := pm - 21) (x := lA 12 g)
  rw [show 21 + (pm - 21) = pm by omega] at e2
  exact ⟨_, cg_app e2 [iA 64 lv, iA 64 bl]⟩
end WKS
/-- the keys found so far: their number, then the keys -/
def fF (f0 : Nat → Int32) (L : List (Nat × Int32)) : Nat → Int32 := fun j => match j with
  | 0 => nI L.length
  | j + 1 => match L[j]? with
    | some x => nI x.1
    | none => f0 (j + 1)
theorem fF_0 {f0 : Nat → Int32} {L : List (Nat × Int32)} : fF f0 L 0 = nI L.length := rfl
theorem fF_s {f0 : Nat → Int32} {L : List (Nat × Int32)} {j : Nat} {x : Nat × Int32} (h : L[j]? = some x) : fF f0 L (j + 1) = nI x.1 := by
  show (match L[j]? with
    | some x => nI x.1
    | none => f0 (j + 1)) = _
  rw [h]
theorem fF_add (f0 : Nat → Int32) (L : List (Nat × Int32)) (x : Nat × Int32) : upd (upd (fF f0 L) 0 (nI (L.length + 1))) (L.length + 1) (nI x.1) = fF f0 (L ++ [x]) := by
  funext j
  match j with
  | 0 =>
    rw [pk_un (by omega), pk_us, fF_0, List.length_append]
    rfl
  | j + 1 =>
    by_cases h1 : j = L.length
    · subst h1
      rw [pk_us, fF_s (x := x) (by rw [List.getElem?_append_right (Nat.le_refl _), Nat.sub_self]; rfl)]
    · rw [pk_un (by omega), pk_un (by omega)]
      show (match L[j]? with
        | some x => nI x.1
        | none => f0 (j + 1)) = (match (L ++ [x])[j]? with
        | some x => nI x.1
        | none => f0 (j + 1))
      by_cases h2 : j < L.length
      · rw [List.getElem?_append_left h2]
      · rw [List.getElem?_eq_none (by omega), List.getElem?_eq_none (by simp; omega)]
theorem fF_nil {f0 : Nat → Int32} : upd f0 0 0 = fF f0 [] := by
  funext j
  match j with
  | 0 => exact pk_us
  | j + 1 => exact pk_un (by omega)
/-- pages laid into a row -/
def rwP (f : Nat → Int32) (P : List Nat) : Prop := ∀ (j p : Nat), P[j]? = some p → f j = nI p
theorem rwP_add {f : Nat → Int32} {P : List Nat} (h : rwP f P) (c : Nat) : rwP (upd f P.length (nI c)) (P ++ [c]) := fun j p hj => by
  by_cases h1 : j < P.length
  · rw [List.getElem?_append_left h1] at hj
    rw [pk_un (by omega)]
    exact h j p hj
  · have h2 := (List.getElem?_eq_some_iff.mp hj).1
    simp at h2
    have h3 : j = P.length := by omega
    subst h3
    rw [List.getElem?_append_right (Nat.le_refl _), Nat.sub_self] at hj
    cases hj
    exact pk_us
theorem mb_fold (r : Nat) : ∀ (P : List Nat) (g : Nat → Int64), mb (P.foldl mkB g) r = (decide (r ∈ P) || mb g r)
  | [], g => by simp
  | p :: P, g => by
    rw [List.foldl_cons, mb_fold r P, mb_mk]
    by_cases h1 : r = p
    · subst h1
      simp
    · by_cases h2 : r ∈ P <;> simp [h1, h2]
/-- what a page costs -/
def wgt (T : Nat → Nd) (p : Nat) : Nat := match T p with
  | .inl l => 5 + 4 * l.length
  | .inr l => 5 + 24 * l.length
theorem wgt_sum {T : Nat → Nd} : ∀ {d p : Nat}, dpt T d p → wsm T (wgt T) d p + 24 = 29 * wsm T one1 d p + 4 * (kyl T d p).length
  | 0, p, ⟨l, hl⟩ => by
    rw [wsm_0, wsm_0, kyl_0]
    unfold wgt
    rw [hl]
    show 5 + 4 * l.length + 24 = 29 * 1 + 4 * l.length
    omega
  | d + 1, p, ⟨l, hl, hk⟩ => by
    have hkl : kids (T p) = l := by rw [hl]; rfl
    rw [wsm_s, wsm_s, kyl_s, hkl]
    have h : ∀ l : List Nat, (∀ c ∈ l, dpt T d c) → smN (wsm T (wgt T) d) l + 24 * l.length = 29 * smN (wsm T one1 d) l + 4 * (l.flatMap (kyl T d)).length := fun l => by
      induction l with
      | nil => intro _; rfl
      | cons x l ih =>
        intro hx
        have a := wgt_sum (hx x List.mem_cons_self)
        have b := ih (fun c hc => hx c (List.mem_cons_of_mem _ hc))
        rw [smN_cons, smN_cons, List.flatMap_cons, List.length_append, List.length_cons]
        omega
    have h2 := h l hk
    have e : wgt T p = 5 + 24 * l.length := by unfold wgt; rw [hl]
    rw [e]
    show 5 + 24 * l.length + _ + 24 = 29 * (1 + _) + _
    omega
section WL
variable {N : Nat} {σ : SS} {tl : List mC} {w0 : mW} {pf pm : Nat} {f0 : Nat → Int32} {g : Nat → Int64} {lv bl : Nat → Int32}
/-- the locals -/
abbrev WLo (w0 : mW) (pf pm : Nat) (rt0 md dp0 iv mo kk : Int32) (v11 v12 v13 v14 v15 : Value) : List Value := [.ref 0, .int rt0, .ref pf, .ref pm, .ref w0.length, .ref (w0.length + 1), .int md, .int dp0, .int iv, .int mo, .int kk, v11, v12, v13, v14, v15]
/-- the entries of a leaf -/
theorem walks_leaf (h : CG N σ tl w0) (hp : WP w0 pf pm) {Qf : mQ} {rt0 md dp0 kk : Int32} {q kc0 ks0 : Nat} {A l : List (Nat × Int32)} (hu : gU σ q) (hl : gT σ q = .inl l) (hs : Srt (A ++ l)) (hA : (A ++ l).length ≤ 50) (h100 : k100 (A ++ l)) (hb : kc0 + 4 * l.length ≤ 1100) (hbs : ks0 + 24 * l.length ≤ 6800)
    (k : ∀ (v14 v15 : Value), EvF m_L_walks Qf 316 (WLo w0 pf pm rt0 md dp0 0 0 kk (.int (nI q)) (.int (nI l.length)) (.int (nI l.length)) v14 v15) [] (kc0 + 4 * l.length) (ks0 + 24 * l.length) (WK w0 pf pm (fF f0 (A ++ l)) g lv bl)) :
    ∀ (m n kc ks : Nat) (v14 v15 : Value), n + m = l.length → kc = kc0 + 4 * n → ks = ks0 + 24 * n → EvF m_L_walks Qf 173 (WLo w0 pf pm rt0 md dp0 0 0 kk (.int (nI q)) (.int (nI l.length)) (.int (nI n)) v14 v15) [] kc ks (WK w0 pf pm (fF f0 (A ++ l.take n)) g lv bl) := by
  intro m
  induction m with
  | zero =>
    intro n kc ks v14 v15 hn hkc hks
    have hn : n = l.length := by omega
    subst hn
    subst hkc
    subst hks
    rw [List.take_length]
    simp only [List.length_append] at hA
    refine ev_iload (pc := 173) dL_walks_173 rfl ?_
    refine ev_iload (pc := 175) dL_walks_175 rfl ?_
    refine ev_ic_ge (pc := 177) (tgt := 316) dL_walks_177 (by decide) (fun _ => ?_) (fun c_177 => absurd (nI_le (Nat.le_refl _) (by omega)) c_177)
    exact k v14 v15
  | succ m ih =>
    intro n kc ks v14 v15 hn hkc hks
    have hlt : n < l.length := by omega
    obtain ⟨x, hx⟩ : ∃ x, l[n]? = some x := ⟨_, List.getElem?_eq_getElem hlt⟩
    have hAn : (A ++ l.take n).length = A.length + n := by simp; omega
    simp only [List.length_append] at hA
    have hf0 : fF f0 (A ++ l.take n) 0 = nI (A.length + n) := by rw [fF_0, hAn]
    have hnext : A ++ l.take (n + 1) = (A ++ l.take n) ++ [x] := by
      rw [List.append_assoc, List.take_add_one, hx]
      rfl
    have hf2 := fF_add f0 (A ++ l.take n) x
    rw [hAn, ← hnext] at hf2
    have hmid : A ++ l = (A ++ l.take n) ++ x :: l.drop (n + 1) := by
      have e := list_split hx
      calc A ++ l = A ++ (l.take n ++ x :: l.drop (n + 1)) := by rw [← e]
        _ = _ := by simp
    have hlts : ∀ z ∈ A ++ l.take n, z.1 < x.1 := by
      rw [hmid] at hs
      exact (Srt_mid.mp hs).2.1
    have hx1 : x.1 < 100 := h100 x (by rw [hmid]; exact List.mem_append_right _ List.mem_cons_self)
    have hprev : 0 < A.length + n → ∃ y : Nat × Int32, fF f0 (A ++ l.take n) (A.length + n) = nI y.1 ∧ y.1 < x.1 := fun hpos => by
      obtain ⟨i, hi⟩ : ∃ i, A.length + n = i + 1 := ⟨A.length + n - 1, by omega⟩
      have hil : i < (A ++ l.take n).length := by omega
      refine ⟨(A ++ l.take n)[i], ?_, hlts _ (List.getElem_mem hil)⟩
      rw [hi]
      exact fF_s (List.getElem?_eq_getElem hil)
    obtain ⟨t1, C1⟩ := wk_CG (f := fF f0 (A ++ l.take n)) (g := g) (lv := lv) (bl := bl) h hp
    refine ev_iload (pc := 173) dL_walks_173 rfl ?_
    refine ev_iload (pc := 175) dL_walks_175 rfl ?_
    refine ev_ic_ge (pc := 177) (tgt := 316) dL_walks_177 (by decide) (fun c_177 => absurd c_177 (nI_ge (show n < l.length by omega) (by omega))) (fun _ => ?_)
    refine ev_aload_n (pc := 180) dL_walks_180 rfl rfl ?_
    refine ev_iload (pc := 181) dL_walks_181 rfl ?_
    refine ev_iload (pc := 183) dL_walks_183 rfl ?_
    refine cX3 (pc := 185) lk_L_walks_185 (Nat.le_of_ble_eq_true rfl) ⟨(show kc + 2 ≤ 1100 by omega), (show ks + 12 ≤ 6800 by omega)⟩ (r_pageAtL C1 hu hl hlt) ?_
    refine ev_widen (k2 := kc + 2) (s2 := ks + 12) (show kc + 2 ≤ kc + 2 by omega) (show ks + 12 ≤ ks + 12 by omega) ?_
    refine ev_istore (pc := 188) dL_walks_188 rfl rfl ?_
    refine ev_aload_n (pc := 190) dL_walks_190 rfl rfl ?_
    refine ev_iload (pc := 191) dL_walks_191 rfl ?_
    refine ev_iload (pc := 193) dL_walks_193 rfl ?_
    refine cX3 (pc := 195) lk_L_walks_195 (Nat.le_of_ble_eq_true rfl) ⟨(show kc + 2 + 2 ≤ 1100 by omega), (show ks + 12 + 12 ≤ 6800 by omega)⟩ (r_keyAt C1 hu (Or.inl ⟨l, x, hl, hx, rfl⟩)) ?_
    refine ev_widen (k2 := kc + 4) (s2 := ks + 24) (show kc + 2 + 2 ≤ kc + 4 by omega) (show ks + 12 + 12 ≤ ks + 24 by omega) ?_
    refine ev_istore (pc := 198) dL_walks_198 rfl rfl ?_
    refine ev_iload (pc := 200) dL_walks_200 rfl ?_
    refine ev_if_lt (pc := 202) (tgt := 209) dL_walks_202 (by decide) (fun _ => ?_) (fun c_202 => absurd (by decide) c_202)
    refine ev_iconst (pc := 209) (v := 0) dL_walks_209 (by decide) ?_
    refine ev_iload (pc := 210) dL_walks_210 rfl ?_
    refine ev_ic_ne (pc := 212) (tgt := 230) dL_walks_212 (by decide) (fun c_212 => absurd rfl c_212) (fun _ => ?_)
    refine ev_iload (pc := 215) dL_walks_215 rfl ?_
    refine ev_bipush (pc := 217) (v := 62) dL_walks_217 (by decide) ?_
    refine ev_ic_gt (pc := 219) (tgt := 230) dL_walks_219 (by decide) (fun c_219 => absurd c_219 (by decide)) (fun _ => ?_)
    refine ev_aload_n (pc := 222) dL_walks_222 rfl rfl ?_
    refine ev_iconst (pc := 223) (v := 0) dL_walks_223 (by decide) ?_
    refine ev_ialdN (pc := 224) dL_walks_224 (wk_f hp) ⟨(show _ = nI 0 from rfl), by decide, by decide⟩ hf0 ?_
    refine ev_bipush (pc := 225) (v := 62) dL_walks_225 (by decide) ?_
    refine ev_ic_le (pc := 227) (tgt := 232) dL_walks_227 (by decide) (fun _ => ?_) (fun c_227 => absurd (by exact nI_le (show A.length + n ≤ 62 by omega) (by decide)) c_227)
    refine ev_iload (pc := 232) dL_walks_232 rfl ?_
    refine ev_if_eq (pc := 234) (tgt := 250) dL_walks_234 (by decide) (fun _ => ?_) (fun c_234 => absurd rfl c_234)
    refine ev_aload_n (pc := 250) dL_walks_250 rfl rfl ?_
    refine ev_iconst (pc := 251) (v := 0) dL_walks_251 (by decide) ?_
    refine ev_dup2 (pc := 252) dL_walks_252 rfl rfl ?_
    refine ev_ialdN (pc := 253) dL_walks_253 (wk_f hp) ⟨(show _ = nI 0 from rfl), by decide, by decide⟩ hf0 ?_
    refine ev_iconst (pc := 254) (v := 1) dL_walks_254 (by decide) ?_
    refine ev_iadd (pc := 255) dL_walks_255 ?_
    rw [nI_a1]
    refine ev_iastN (pc := 256) dL_walks_256 (wk_f hp) ⟨(show _ = nI 0 from rfl), by decide, by decide⟩ rfl (wk_sf hp) ?_
    refine ev_aload_n (pc := 257) dL_walks_257 rfl rfl ?_
    refine ev_aload_n (pc := 258) dL_walks_258 rfl rfl ?_
    refine ev_iconst (pc := 259) (v := 0) dL_walks_259 (by decide) ?_
    refine ev_ialdN (pc := 260) dL_walks_260 (wk_f hp) ⟨(show _ = nI 0 from rfl), by decide, by decide⟩ pk_us ?_
    refine ev_iload (pc := 261) dL_walks_261 rfl ?_
    refine ev_iastN (pc := 263) dL_walks_263 (wk_f hp) ⟨(show _ = nI (A.length + n + 1) from rfl), by omega, by decide⟩ hf2 (wk_sf hp) ?_
    refine ev_iload (pc := 264) dL_walks_264 rfl ?_
    refine ev_if_eq (pc := 266) (tgt := 283) dL_walks_266 (by decide) (fun _ => ?_) (fun c_266 => absurd rfl c_266)
    refine ev_iload (pc := 283) dL_walks_283 rfl ?_
    refine ev_iconst (pc := 285) (v := (-1)) dL_walks_285 (by decide) ?_
    refine ev_ic_ne (pc := 286) (tgt := 308) dL_walks_286 (by decide) (fun c_286 => absurd rfl c_286) (fun _ => ?_)
    refine ev_aload_n (pc := 289) dL_walks_289 rfl rfl ?_
    refine ev_iconst (pc := 290) (v := 0) dL_walks_290 (by decide) ?_
    refine ev_ialdN (pc := 291) dL_walks_291 (wk_f hp) ⟨(show _ = nI 0 from rfl), by decide, by decide⟩ (show _ = nI (A.length + n + 1) by rw [← hf2, pk_un (by omega), pk_us]) ?_
    refine ev_iconst (pc := 292) (v := 1) dL_walks_292 (by decide) ?_
    refine ev_ic_le (pc := 293) (tgt := 310) dL_walks_293 (by decide) (fun c9 => ?_) (fun c9 => ?_)
    · refine ev_iinc (pc := 310) dL_walks_310 rfl rfl rfl ?_
      refine ev_goto (pc := 313) (tgt := 173) dL_walks_313 (by decide) ?_
      rw [nI_i1]
      exact ih (n + 1) _ _ _ _ (by omega) (by omega) (by omega)
    · have hpos : 0 < A.length + n := by
        rcases Nat.eq_zero_or_pos (A.length + n) with h9 | h9
        · exact absurd (nI_le (show A.length + n + 1 ≤ 1 by omega) (by decide)) c9
        · exact h9
      obtain ⟨y, hy1, hy2⟩ := hprev hpos
      have hy3 : fF f0 (A ++ l.take (n + 1)) (A.length + n) = nI y.1 := by rw [← hf2, pk_un (by omega), pk_un (by omega)]; exact hy1
      refine ev_aload_n (pc := 296) dL_walks_296 rfl rfl ?_
      refine ev_aload_n (pc := 297) dL_walks_297 rfl rfl ?_
      refine ev_iconst (pc := 298) (v := 0) dL_walks_298 (by decide) ?_
      refine ev_ialdN (pc := 299) dL_walks_299 (wk_f hp) ⟨(show _ = nI 0 from rfl), by decide, by decide⟩ (show _ = nI (A.length + n + 1) by rw [← hf2, pk_un (by omega), pk_us]) ?_
      refine ev_iconst (pc := 300) (v := 1) dL_walks_300 (by decide) ?_
      refine ev_isub (pc := 301) dL_walks_301 ?_
      refine ev_ialdN (pc := 302) dL_walks_302 (wk_f hp) ⟨(show _ = nI (A.length + n) by rw [nI_s1 (by omega)]; rfl), by omega, by decide⟩ hy3 ?_
      refine ev_iload (pc := 303) dL_walks_303 rfl ?_
      refine ev_ic_lt (pc := 305) (tgt := 310) dL_walks_305 (by decide) (fun _ => ?_) (fun c_305 => absurd (nI_lt hy2 (by omega)) c_305)
      refine ev_iinc (pc := 310) dL_walks_310 rfl rfl rfl ?_
      refine ev_goto (pc := 313) (tgt := 173) dL_walks_313 (by decide) ?_
      rw [nI_i1]
      exact ih (n + 1) _ _ _ _ (by omega) (by omega) (by omega)
/-- the entries of an inner page -/
theorem walks_inner (h : CG N σ tl w0) (hp : WP w0 pf pm) {Qf : mQ} {rt0 md dp0 kk : Int32} {q kc0 ks0 e : Nat} {B l : List Nat} {f : Nat → Int32} (hf : f 0 = nI 0) (hu : gU σ q) (hl : gT σ q = .inr l) (hk : ∀ c ∈ l, fl (gT σ) (gU σ) e c) (he : e ≤ 4) (hB : (B ++ l).length ≤ 50) (hb : kc0 + 24 * l.length ≤ 1100) (hbs : ks0 + 144 * l.length ≤ 6800)
    (k : ∀ (bl' : Nat → Int32) (v14 v15 : Value), rwP bl' (B ++ l) → EvF m_L_walks Qf 316 (WLo w0 pf pm rt0 md dp0 1 (nI (B.length + l.length)) kk (.int (nI q)) (.int (nI l.length)) (.int (nI l.length)) v14 v15) [] (kc0 + 24 * l.length) (ks0 + 144 * l.length) (WK w0 pf pm f g lv bl')) :
    ∀ (m n kc ks : Nat) (bl : Nat → Int32) (v14 v15 : Value), n + m = l.length → rwP bl (B ++ l.take n) → kc = kc0 + 24 * n → ks = ks0 + 144 * n → EvF m_L_walks Qf 173 (WLo w0 pf pm rt0 md dp0 1 (nI (B.length + n)) kk (.int (nI q)) (.int (nI l.length)) (.int (nI n)) v14 v15) [] kc ks (WK w0 pf pm f g lv bl) := by
  intro m
  induction m with
  | zero =>
    intro n kc ks bl v14 v15 hn hbl hkc hks
    have hn : n = l.length := by omega
    subst hn
    subst hkc
    subst hks
    rw [List.take_length] at hbl
    simp only [List.length_append] at hB
    refine ev_iload (pc := 173) dL_walks_173 rfl ?_
    refine ev_iload (pc := 175) dL_walks_175 rfl ?_
    refine ev_ic_ge (pc := 177) (tgt := 316) dL_walks_177 (by decide) (fun _ => ?_) (fun c_177 => absurd (nI_le (Nat.le_refl _) (by omega)) c_177)
    exact k bl v14 v15 hbl
  | succ m ih =>
    intro n kc ks bl v14 v15 hn hbl hkc hks
    have hlt : n < l.length := by omega
    obtain ⟨x, hx⟩ : ∃ x, l[n]? = some x := ⟨_, List.getElem?_eq_getElem hlt⟩
    have hfx := hk x (List.mem_of_getElem? hx)
    have hx7 : x < 720 := (cg_I h).2.2.1 x (fl_U hfx)
    have hBn : (B ++ l.take n).length = B.length + n := by simp; omega
    simp only [List.length_append] at hB
    have hnext : B ++ l.take (n + 1) = (B ++ l.take n) ++ [x] := by
      rw [List.append_assoc, List.take_add_one, hx]
      rfl
    have hb2 := rwP_add hbl x
    rw [hBn, ← hnext] at hb2
    obtain ⟨t1, C1⟩ := wk_CG (f := f) (g := g) (lv := lv) (bl := bl) h hp
    obtain ⟨t2, C2⟩ := wk_CG (f := f) (g := g) (lv := lv) (bl := upd bl (B.length + n) (nI x)) h hp
    refine ev_iload (pc := 173) dL_walks_173 rfl ?_
    refine ev_iload (pc := 175) dL_walks_175 rfl ?_
    refine ev_ic_ge (pc := 177) (tgt := 316) dL_walks_177 (by decide) (fun c_177 => absurd c_177 (nI_ge (show n < l.length by omega) (by omega))) (fun _ => ?_)
    refine ev_aload_n (pc := 180) dL_walks_180 rfl rfl ?_
    refine ev_iload (pc := 181) dL_walks_181 rfl ?_
    refine ev_iload (pc := 183) dL_walks_183 rfl ?_
    refine cX3 (pc := 185) lk_L_walks_185 (Nat.le_of_ble_eq_true rfl) ⟨(show kc + 2 ≤ 1100 by omega), (show ks + 12 ≤ 6800 by omega)⟩ (r_pageAtI C1 hu hl hx) ?_
    refine ev_widen (k2 := kc + 2) (s2 := ks + 12) (show kc + 2 ≤ kc + 2 by omega) (show ks + 12 ≤ ks + 12 by omega) ?_
    refine ev_istore (pc := 188) dL_walks_188 rfl rfl ?_
    refine ev_aload_n (pc := 190) dL_walks_190 rfl rfl ?_
    refine ev_iload (pc := 191) dL_walks_191 rfl ?_
    refine ev_iload (pc := 193) dL_walks_193 rfl ?_
    refine cX3 (pc := 195) lk_L_walks_195 (Nat.le_of_ble_eq_true rfl) ⟨(show kc + 2 + 2 ≤ 1100 by omega), (show ks + 12 + 12 ≤ 6800 by omega)⟩ (r_keyAt C1 hu (Or.inr ⟨l, x, e, hl, hx, hfx, by omega, rfl⟩)) ?_
    refine ev_widen (k2 := kc + 4) (s2 := ks + 24) (show kc + 2 + 2 ≤ kc + 4 by omega) (show ks + 12 + 12 ≤ ks + 24 by omega) ?_
    refine ev_istore (pc := 198) dL_walks_198 rfl rfl ?_
    refine ev_iload (pc := 200) dL_walks_200 rfl ?_
    refine ev_if_lt (pc := 202) (tgt := 209) dL_walks_202 (by decide) (fun c_202 => absurd c_202 (hp0 (by omega))) (fun _ => ?_)
    refine ev_iconst (pc := 205) (v := 1) dL_walks_205 (by decide) ?_
    refine ev_goto (pc := 206) (tgt := 210) dL_walks_206 (by decide) ?_
    refine ev_iload (pc := 210) dL_walks_210 rfl ?_
    refine ev_ic_ne (pc := 212) (tgt := 230) dL_walks_212 (by decide) (fun c_212 => absurd rfl c_212) (fun _ => ?_)
    refine ev_iload (pc := 215) dL_walks_215 rfl ?_
    refine ev_bipush (pc := 217) (v := 62) dL_walks_217 (by decide) ?_
    refine ev_ic_gt (pc := 219) (tgt := 230) dL_walks_219 (by decide) (fun c_219 => absurd c_219 (by exact nI_nlt (show B.length + n ≤ 62 by omega) (by decide))) (fun _ => ?_)
    refine ev_aload_n (pc := 222) dL_walks_222 rfl rfl ?_
    refine ev_iconst (pc := 223) (v := 0) dL_walks_223 (by decide) ?_
    refine ev_ialdN (pc := 224) dL_walks_224 (wk_f hp) ⟨(show _ = nI 0 from rfl), by decide, by decide⟩ hf ?_
    refine ev_bipush (pc := 225) (v := 62) dL_walks_225 (by decide) ?_
    refine ev_ic_le (pc := 227) (tgt := 232) dL_walks_227 (by decide) (fun _ => ?_) (fun c_227 => absurd (by decide) c_227)
    refine ev_iload (pc := 232) dL_walks_232 rfl ?_
    refine ev_if_eq (pc := 234) (tgt := 250) dL_walks_234 (by decide) (fun c_234 => absurd c_234 (by decide)) (fun _ => ?_)
    refine ev_aload (pc := 237) dL_walks_237 rfl ?_
    refine ev_iload (pc := 239) dL_walks_239 rfl ?_
    refine ev_iload (pc := 241) dL_walks_241 rfl ?_
    refine ev_iastN (pc := 243) dL_walks_243 wk_b ⟨(show _ = nI (B.length + n) from rfl), by omega, by decide⟩ rfl wk_sb ?_
    refine ev_iinc (pc := 244) dL_walks_244 rfl rfl rfl ?_
    refine ev_goto (pc := 247) (tgt := 264) dL_walks_247 (by decide) ?_
    refine ev_iload (pc := 264) dL_walks_264 rfl ?_
    refine ev_if_eq (pc := 266) (tgt := 283) dL_walks_266 (by decide) (fun c_266 => absurd c_266 (by decide)) (fun _ => ?_)
    refine ev_iload (pc := 269) dL_walks_269 rfl ?_
    refine ev_aload_n (pc := 271) dL_walks_271 rfl rfl ?_
    refine ev_iload (pc := 272) dL_walks_272 rfl ?_
    refine cS2 (pc := 274) lk_L_walks_274 (Nat.le_of_ble_eq_true rfl) ⟨(show kc + 4 + 20 ≤ 1100 by omega), (show ks + 24 + 120 ≤ 6800 by omega)⟩ (r_first C2 hfx he) ?_
    refine ev_widen (k2 := kc + 24) (s2 := ks + 144) (show kc + 4 + 20 ≤ kc + 24 by omega) (show ks + 24 + 120 ≤ ks + 144 by omega) ?_
    refine ev_ic_eq (pc := 277) (tgt := 310) dL_walks_277 (by decide) (fun _ => ?_) (fun c_277 => absurd rfl c_277)
    refine ev_iinc (pc := 310) dL_walks_310 rfl rfl rfl ?_
    refine ev_goto (pc := 313) (tgt := 173) dL_walks_313 (by decide) ?_
    rw [nI_i1, nI_i1]
    exact ih (n + 1) _ _ _ _ _ (by omega) hb2 (by omega) (by omega)
end WL
