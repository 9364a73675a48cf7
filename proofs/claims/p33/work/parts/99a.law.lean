/-! THE LAW: its end, its rounds -/
def R_law : String := "CopperleafLaw"
def lw_P (b : Addr) (xs : List Int32) (args : Array Value) (s : State) : Prop := args = #[.ref b] ∧ s.IntsAt b xs ∧ xs.length ≤ 260 ∧ (Jvm.Cond.and given_1 narrow_1).before args s = true
def lw_Q (_ : Array Value) (s : State) (o : Outcome) (t : State) : Prop := o = .returned (some (.int 1)) ∧ Framed s o t [] 600172 7300668
def lw_Z (below : List Frame) (a : Array Value) (s : State) : State → Prop := fun t => ∃ o, t.status = .running ∧ Ended t below o ∧ lw_Q a s o t
/-- the law's own end, with 1 on the stack, nothing written that was there before, its room as the claim has it -/
theorem lw_ret {p : Program} {l : Launch} {e : Env} {s : State} {m : MethodId} {args : Array Value} {below : List Frame} {meth : Method} {c : Code} (hx : p.tables.exec = Jvm.exec) (hb : c.code = code) (hr : meth.sig.returnType = ret) (hlocks : meth.locks = false) {pc : Nat} {H : Heap} {ls : Array Slot} (hdg : decode code pc = .ok (.ireturn, 1)) : W p l e room_1 s m args below meth c H [] 600172 7300668 (lw_Z below args s) (F0 m pc ls [.int 1]) := by
  intro T hT X
  obtain ⟨fs, hret, hrun, hended, hW, hframe⟩ := X.leave (v := some (.int 1)) (hlocks := hlocks) (fun h => by rw [hr] at h; cases h)
  have hmeth' : T.vm.method? m = some meth := X.method'
  refine ⟨T.setFrames fs, ?_, .returned (some (.int 1)), hrun, hended, rfl, ⟨_, rfl⟩, hW, hframe⟩
  jvm_step X.here [X.here.top, hx, hb, hdg, hmeth', hr, ret, narrow_b1]
  (try refine ⟨rfl, ?_⟩); (try refine ⟨rfl, ?_⟩)
  first | (intro acts; rw [hret _ acts rfl rfl rfl]) | rw [hret _ _ rfl rfl rfl]
  exact Steps.refl _
/-- where the law ends -/
def QL : mQ := fun _ _ _ _ below args s => lw_Z below args s
theorem ev_lawend {q : Nat × (Nat → Int32)} {L : List Value} {kc ks : Nat} {w : mW} (hk : kc ≤ 600172) (hs : ks ≤ 7300668) : EvF (m_L_law q) QL 301 L [.int 1] kc ks w := by
  intro z b G cA p l e s m args below meth c H locs ls C hw hL
  have hsz := (C.2.2.2.2.2.2.2.2.2.2.2.2.2.2.2.1 0 rfl).1
  refine W.widen hk hs (va_forget (fun x hx => ?_) (lw_ret C.1 C.2.1 C.2.2.2.1 C.2.2.2.2.2.2.1 dL_law_301))
  have h1 : z.1 ≤ x.base := hw.2.1.2.2 x hx
  omega
theorem nI_m2 (n : Nat) : (2 : Int32) * nI n = nI (2 * n) := by rw [show (2 : Int32) = nI 2 from rfl, pk_mul]
section LAW5
variable {q : Nat × (Nat → Int32)} {N n : Nat} {σ : SS} {w : mW} {cc : Nat → Int64} {ep is : Nat → Int32}
/-- what goes on behind a move -/
theorem l_rest (C : CG N σ (T3 cc ep is) w) (hI : LI σ cc ep is) {x y kd : Int32} {v10 v11 : Value} {kc ks : Nat} (hkc : kc ≤ 580000) (hks : ks ≤ 7200000) (k : ∀ (w' : mW) (v7 v8 v9 v10 v11 : Value), CG N σ (T3 cc ep is) w' → EvF (m_L_law q) QL 50 [scr1, .ref 0, .ref 21, .ref 22, .ref 23, .int 1, .int (nI (n + 1)), v7, v8, v9, v10, v11] [] (kc + 15210) (ks + 95250) w') : EvF (m_L_law q) QL 179 [scr1, .ref 0, .ref 21, .ref 22, .ref 23, .int 1, .int (nI n), .int x, .int y, .int kd, v10, v11] [.int 1] kc ks w := by
  have hG := cg_I C
  obtain ⟨pv, hp⟩ := r_print hG
  obtain ⟨nf, hf⟩ := ai_free hG
  obtain ⟨fs, hfs⟩ := cg_0 C
  obtain ⟨w', C', e9⟩ := r_isSo C hI (y >>> (7 &&& 31))
  have hnu : nUs (gK σ) (gW σ) (nI nf) := fun p hp h => by
    rw [← nI_inj (show nf < 2147483648 by have := hf.1; omega) (by omega) h]
    exact hf.2.1
  refine ev_istore (pc := 179) dL_law_179 rfl rfl ?_
  refine ev_aload_n (pc := 181) dL_law_181 rfl rfl ?_
  refine cS1 (pc := 182) (lk_L_law_182 _) (Nat.le_of_ble_eq_true rfl) ⟨(show kc + 1100 ≤ 600172 by omega), (show ks + 6600 ≤ 7300668 by omega)⟩ (hp _ _ C) ?_
  refine ev_widen (k2 := kc + 1100) (s2 := ks + 6600) (show kc + 1100 ≤ kc + 1100 by omega) (show ks + 6600 ≤ ks + 6600 by omega) ?_
  refine ev_lstore (pc := 185) dL_law_185 rfl rfl ?_
  refine ev_iload (pc := 187) dL_law_187 rfl ?_
  refine ev_if_eq (pc := 189) (tgt := 262) dL_law_189 (by decide) (fun c_189 => absurd c_189 (by decide)) (fun _ => ?_)
  refine ev_aload_n (pc := 192) dL_law_192 rfl rfl ?_
  refine ev_iconst (pc := 193) (v := 4) dL_law_193 (by decide) ?_
  refine cX2 (pc := 194) (lk_L_law_194 _) (Nat.le_of_ble_eq_true rfl) ⟨(show kc + 1100 + 1 ≤ 600172 by omega), (show ks + 6600 + 6 ≤ 7300668 by omega)⟩ (m_closeT C (fun j hj h => absurd (nI_inj (by decide) (by omega) (show nI 4 = nI j from h)) (by omega))) ?_
  refine ev_widen (k2 := kc + 1101) (s2 := ks + 6606) (show kc + 1100 + 1 ≤ kc + 1101 by omega) (show ks + 6600 + 6 ≤ ks + 6606 by omega) ?_
  refine ev_ldc (pc := 197) dL_law_197 ki_L_23 ?_
  refine ev_ic_ne (pc := 199) (tgt := 262) dL_law_199 (by decide) (fun c_199 => absurd rfl c_199) (fun _ => ?_)
  refine ev_aload_n (pc := 202) dL_law_202 rfl rfl ?_
  refine ev_iconst (pc := 203) (v := 2) dL_law_203 (by decide) ?_
  refine cX2 (pc := 204) (lk_L_law_204 _) (Nat.le_of_ble_eq_true rfl) ⟨(show kc + 1101 + 2 ≤ 600172 by omega), (show ks + 6606 + 12 ≤ 7300668 by omega)⟩ (m_tearT1 C (Or.inr (by decide))) ?_
  refine ev_widen (k2 := kc + 1103) (s2 := ks + 6618) (show kc + 1101 + 2 ≤ kc + 1103 by omega) (show ks + 6606 + 12 ≤ ks + 6618 by omega) ?_
  refine ev_ldc (pc := 207) dL_law_207 ki_L_23 ?_
  refine ev_ic_ne (pc := 209) (tgt := 262) dL_law_209 (by decide) (fun c_209 => absurd rfl c_209) (fun _ => ?_)
  refine ev_aload_n (pc := 212) dL_law_212 rfl rfl ?_
  refine ev_aload_n (pc := 213) dL_law_213 rfl rfl ?_
  refine cV0 (pc := 214) (lk_L_law_214 _) hfs rfl rfl (Nat.le_of_ble_eq_true rfl) ⟨(show kc + 1103 + 0 ≤ 600172 by omega), (show ks + 6618 + 0 ≤ 7300668 by omega)⟩ (r_leastFree C hf) ?_
  refine ev_widen (k2 := kc + 1103) (s2 := ks + 6618) (show kc + 1103 + 0 ≤ kc + 1103 by omega) (show ks + 6618 + 0 ≤ ks + 6618 by omega) ?_
  refine cX2 (pc := 217) (lk_L_law_217 _) (Nat.le_of_ble_eq_true rfl) ⟨(show kc + 1103 + 1 ≤ 600172 by omega), (show ks + 6618 + 6 ≤ 7300668 by omega)⟩ (r_entriesT C hnu) ?_
  refine ev_widen (k2 := kc + 1104) (s2 := ks + 6624) (show kc + 1103 + 1 ≤ kc + 1104 by omega) (show ks + 6618 + 6 ≤ ks + 6624 by omega) ?_
  refine ev_ldc (pc := 220) dL_law_220 ki_L_23 ?_
  refine ev_ic_ne (pc := 222) (tgt := 262) dL_law_222 (by decide) (fun c_222 => absurd rfl c_222) (fun _ => ?_)
  refine ev_aload_n (pc := 225) dL_law_225 rfl rfl ?_
  refine ev_iconst (pc := 226) (v := (-1)) dL_law_226 (by decide) ?_
  refine cX2 (pc := 227) (lk_L_law_227 _) (Nat.le_of_ble_eq_true rfl) ⟨(show kc + 1104 + 1 ≤ 600172 by omega), (show ks + 6624 + 6 ≤ 7300668 by omega)⟩ (r_isFreeT C (by decide)) ?_
  refine ev_widen (k2 := kc + 1105) (s2 := ks + 6630) (show kc + 1104 + 1 ≤ kc + 1105 by omega) (show ks + 6624 + 6 ≤ ks + 6630 by omega) ?_
  refine ev_ldc (pc := 230) dL_law_230 ki_L_23 ?_
  refine ev_ic_ne (pc := 232) (tgt := 262) dL_law_232 (by decide) (fun c_232 => absurd rfl c_232) (fun _ => ?_)
  refine ev_aload_n (pc := 235) dL_law_235 rfl rfl ?_
  refine ev_iconst (pc := 236) (v := 0) dL_law_236 (by decide) ?_
  refine ev_iconst (pc := 237) (v := 4) dL_law_237 (by decide) ?_
  refine cX3 (pc := 238) (lk_L_law_238 _) (Nat.le_of_ble_eq_true rfl) ⟨(show kc + 1105 + 2 ≤ 600172 by omega), (show ks + 6630 + 12 ≤ 7300668 by omega)⟩ (r_slotWordT C (t := 0) (by decide) (Or.inr (by decide))) ?_
  refine ev_widen (k2 := kc + 1107) (s2 := ks + 6642) (show kc + 1105 + 2 ≤ kc + 1107 by omega) (show ks + 6630 + 12 ≤ ks + 6642 by omega) ?_
  refine ev_ldc2 (pc := 241) dL_law_241 kl_L_97 ?_
  refine ev_lcmp (pc := 244) dL_law_244 ?_
  refine ev_if_ne (pc := 245) (tgt := 262) dL_law_245 (by decide) (fun c_245 => absurd (by rw [lg_cmp_eq]) c_245) (fun _ => ?_)
  refine ev_aload_n (pc := 248) dL_law_248 rfl rfl ?_
  refine cS1 (pc := 249) (lk_L_law_249 _) (Nat.le_of_ble_eq_true rfl) ⟨(show kc + 1107 + 1100 ≤ 600172 by omega), (show ks + 6642 + 6600 ≤ 7300668 by omega)⟩ (hp _ _ C) ?_
  refine ev_widen (k2 := kc + 2207) (s2 := ks + 13242) (show kc + 1107 + 1100 ≤ kc + 2207 by omega) (show ks + 6642 + 6600 ≤ ks + 13242 by omega) ?_
  refine ev_lload (pc := 252) dL_law_252 rfl ?_
  refine ev_lcmp (pc := 254) dL_law_254 ?_
  refine ev_if_ne (pc := 255) (tgt := 262) dL_law_255 (by decide) (fun c_255 => absurd (by rw [lg_cmp_eq]) c_255) (fun _ => ?_)
  refine ev_iconst (pc := 258) (v := 1) dL_law_258 (by decide) ?_
  refine ev_goto (pc := 259) (tgt := 263) dL_law_259 (by decide) ?_
  refine ev_istore (pc := 263) dL_law_263 rfl rfl ?_
  refine ev_iload (pc := 265) dL_law_265 rfl ?_
  refine ev_if_eq (pc := 267) (tgt := 290) dL_law_267 (by decide) (fun c_267 => absurd c_267 (by decide)) (fun _ => ?_)
  refine ev_aload_n (pc := 270) dL_law_270 rfl rfl ?_
  refine ev_aload_n (pc := 271) dL_law_271 rfl rfl ?_
  refine ev_aload_n (pc := 272) dL_law_272 rfl rfl ?_
  refine ev_aload (pc := 273) dL_law_273 rfl ?_
  refine ev_iload (pc := 275) dL_law_275 rfl ?_
  refine ev_bipush (pc := 277) (v := 7) dL_law_277 (by decide) ?_
  refine ev_ishr (pc := 279) dL_law_279 rfl ?_
  refine cS5 (pc := 280) (lk_L_law_280 _) (Nat.le_of_ble_eq_true rfl) ⟨(show kc + 2207 + 13000 ≤ 600172 by omega), (show ks + 13242 + 82000 ≤ 7300668 by omega)⟩ e9 ?_
  refine ev_widen (k2 := kc + 15207) (s2 := ks + 95242) (show kc + 2207 + 13000 ≤ kc + 15207 by omega) (show ks + 13242 + 82000 ≤ ks + 95242 by omega) ?_
  refine ev_if_eq (pc := 283) (tgt := 290) dL_law_283 (by decide) (fun c_283 => absurd c_283 (by decide)) (fun _ => ?_)
  refine ev_iconst (pc := 286) (v := 1) dL_law_286 (by decide) ?_
  refine ev_goto (pc := 287) (tgt := 291) dL_law_287 (by decide) ?_
  refine ev_istore (pc := 291) dL_law_291 rfl rfl ?_
  refine ev_iinc (pc := 293) dL_law_293 rfl rfl rfl ?_
  refine ev_goto (pc := 296) (tgt := 50) dL_law_296 (by decide) ?_
  rw [nI_i1]
  exact ev_widen (by omega) (by omega) (k w' _ _ _ _ _ C')
theorem l_law (hq : q.1 ≤ 260) : ∀ (m n : Nat) {σ : SS} {w : mW} {cc : Nat → Int64} {ep is : Nat → Int32} (v7 v8 v9 v10 v11 : Value) (kc ks : Nat), n + m = 28 → CG n σ (T3 cc ep is) w → LI σ cc ep is → kc ≤ 13100 + 15400 * n → ks ≤ 110000 + 96000 * n → EvF (m_L_law q) QL 50 [scr1, .ref 0, .ref 21, .ref 22, .ref 23, .int 1, .int (nI n), v7, v8, v9, v10, v11] [] kc ks w
  | 0, n, σ, w, cc, ep, is, v7, v8, v9, v10, v11, kc, ks, hn, C, hI, hkc, hks => by
    have hn : n = 28 := by omega
    subst hn
    refine ev_iload (pc := 50) dL_law_50 rfl ?_
    refine ev_bipush (pc := 52) (v := 28) dL_law_52 (by decide) ?_
    refine ev_ic_ge (pc := 54) (tgt := 299) dL_law_54 (by decide) (fun _ => ?_) (fun c_54 => absurd (by decide) c_54)
    refine ev_iload (pc := 299) dL_law_299 rfl ?_
    exact ev_lawend (by omega) (by omega)
  | m + 1, n, σ, w, cc, ep, is, v7, v8, v9, v10, v11, kc, ks, hn, C, hI, hkc, hks => by
    obtain ⟨x, hx⟩ := r_at (q := q) (k := 2 * n) (by omega) hq
    obtain ⟨y, hy⟩ := r_at (q := q) (k := 2 * n + 1) (by omega) hq
    obtain ⟨kd, hkd⟩ : ∃ kd, kd = lowN x 16 := ⟨_, rfl⟩
    have hk16 : kd < 16 := by rw [hkd]; exact lowN_lt x (by decide)
    have e1 : ∀ w : mW, EvS m_L_low [.int x, .int 16] w (.inl (some (.int (nI kd)))) w := fun w => by
      rw [hkd]
      exact r_low (n := 16) (by decide) (by decide)
    have K : ∀ {σ' : SS} {w' : mW} {cc' : Nat → Int64} {ep' is' : Nat → Int32} (v10 v11 : Value) (kc' ks' : Nat), CG (n + 1) σ' (T3 cc' ep' is') w' → LI σ' cc' ep' is' → kc' ≤ kc + 100 → ks' ≤ ks + 600 → EvF (m_L_law q) QL 179 [scr1, .ref 0, .ref 21, .ref 22, .ref 23, .int 1, .int (nI n), .int x, .int y, .int (nI kd), v10, v11] [.int 1] kc' ks' w' := fun v10 v11 kc' ks' C' hI' h1 h2 =>
      l_rest C' hI' (by omega) (by omega) (fun w2 v7 v8 v9 v10 v11 C2 => l_law hq m (n + 1) v7 v8 v9 v10 v11 _ _ (by omega) C2 hI' (by omega) (by omega))
    by_cases h7 : kd < 7
    · obtain ⟨σ', w', cc', ep', is', C', hI', e2⟩ := r_writes C hI x y (tv := n + 1) (by omega) (by omega)
      refine ev_iload (pc := 50) dL_law_50 rfl ?_
      refine ev_bipush (pc := 52) (v := 28) dL_law_52 (by decide) ?_
      refine ev_ic_ge (pc := 54) (tgt := 299) dL_law_54 (by decide) (fun c_54 => absurd c_54 (nI_ge (show n < 28 by omega) (by decide))) (fun _ => ?_)
      refine ev_iload (pc := 57) dL_law_57 rfl ?_
      refine ev_if_eq (pc := 59) (tgt := 299) dL_law_59 (by decide) (fun c_59 => absurd c_59 (by decide)) (fun _ => ?_)
      refine ev_aloadS_n (pc := 62) dL_law_62 rfl rfl ?_
      refine ev_iconst (pc := 63) (v := 2) dL_law_63 (by decide) ?_
      refine ev_iload (pc := 64) dL_law_64 rfl ?_
      refine ev_imul (pc := 66) dL_law_66 ?_
      rw [nI_m2]
      refine cS2 (pc := 67) (lk_L_law_67 _) (Nat.le_of_ble_eq_true rfl) ⟨(show kc + 0 ≤ 600172 by omega), (show ks + 0 ≤ 7300668 by omega)⟩ (hx _) ?_
      refine ev_widen (k2 := kc + 0) (s2 := ks + 0) (show kc + 0 ≤ kc + 0 by omega) (show ks + 0 ≤ ks + 0 by omega) ?_
      refine ev_istore (pc := 70) dL_law_70 rfl rfl ?_
      refine ev_aloadS_n (pc := 72) dL_law_72 rfl rfl ?_
      refine ev_iconst (pc := 73) (v := 2) dL_law_73 (by decide) ?_
      refine ev_iload (pc := 74) dL_law_74 rfl ?_
      refine ev_imul (pc := 76) dL_law_76 ?_
      rw [nI_m2]
      refine ev_iconst (pc := 77) (v := 1) dL_law_77 (by decide) ?_
      refine ev_iadd (pc := 78) dL_law_78 ?_
      rw [nI_a1]
      refine cS2 (pc := 79) (lk_L_law_79 _) (Nat.le_of_ble_eq_true rfl) ⟨(show kc + 0 ≤ 600172 by omega), (show ks + 0 ≤ 7300668 by omega)⟩ (hy _) ?_
      refine ev_widen (k2 := kc + 0) (s2 := ks + 0) (show kc + 0 ≤ kc + 0 by omega) (show ks + 0 ≤ ks + 0 by omega) ?_
      refine ev_istore (pc := 82) dL_law_82 rfl rfl ?_
      refine ev_iload (pc := 84) dL_law_84 rfl ?_
      refine ev_bipush (pc := 86) (v := 16) dL_law_86 (by decide) ?_
      refine cS2 (pc := 88) (lk_L_law_88 _) (Nat.le_of_ble_eq_true rfl) ⟨(show kc + 0 ≤ 600172 by omega), (show ks + 0 ≤ 7300668 by omega)⟩ (e1 _) ?_
      refine ev_widen (k2 := kc + 0) (s2 := ks + 0) (show kc + 0 ≤ kc + 0 by omega) (show ks + 0 ≤ ks + 0 by omega) ?_
      refine ev_istore (pc := 91) dL_law_91 rfl rfl ?_
      refine ev_iload (pc := 93) dL_law_93 rfl ?_
      refine ev_bipush (pc := 95) (v := 7) dL_law_95 (by decide) ?_
      refine ev_ic_ge (pc := 97) (tgt := 119) dL_law_97 (by decide) (fun c_97 => absurd c_97 (nI_ge h7 (by decide))) (fun _ => ?_)
      refine ev_aload_n (pc := 100) dL_law_100 rfl rfl ?_
      refine ev_iload (pc := 101) dL_law_101 rfl ?_
      refine ev_iload (pc := 103) dL_law_103 rfl ?_
      refine ev_iload (pc := 105) dL_law_105 rfl ?_
      refine ev_iconst (pc := 107) (v := 1) dL_law_107 (by decide) ?_
      refine ev_iadd (pc := 108) dL_law_108 ?_
      rw [nI_a1]
      refine ev_aload_n (pc := 109) dL_law_109 rfl rfl ?_
      refine ev_aload_n (pc := 110) dL_law_110 rfl rfl ?_
      refine ev_aload (pc := 111) dL_law_111 rfl ?_
      refine cS7 (pc := 113) (lk_L_law_113 _) (Nat.le_of_ble_eq_true rfl) ⟨(show kc + 100 ≤ 600172 by omega), (show ks + 600 ≤ 7300668 by omega)⟩ e2 ?_
      refine ev_widen (k2 := kc + 100) (s2 := ks + 600) (show kc + 100 ≤ kc + 100 by omega) (show ks + 600 ≤ ks + 600 by omega) ?_
      refine ev_goto (pc := 116) (tgt := 179) dL_law_116 (by decide) ?_
      exact K _ _ _ _ C' hI' (by omega) (by omega)
    · by_cases h10 : kd < 10
      · obtain ⟨σ', w', cc', ep', is', C', hI', e2⟩ := r_reads C hI (x >>> (4 &&& 31)) y
        refine ev_iload (pc := 50) dL_law_50 rfl ?_
        refine ev_bipush (pc := 52) (v := 28) dL_law_52 (by decide) ?_
        refine ev_ic_ge (pc := 54) (tgt := 299) dL_law_54 (by decide) (fun c_54 => absurd c_54 (nI_ge (show n < 28 by omega) (by decide))) (fun _ => ?_)
        refine ev_iload (pc := 57) dL_law_57 rfl ?_
        refine ev_if_eq (pc := 59) (tgt := 299) dL_law_59 (by decide) (fun c_59 => absurd c_59 (by decide)) (fun _ => ?_)
        refine ev_aloadS_n (pc := 62) dL_law_62 rfl rfl ?_
        refine ev_iconst (pc := 63) (v := 2) dL_law_63 (by decide) ?_
        refine ev_iload (pc := 64) dL_law_64 rfl ?_
        refine ev_imul (pc := 66) dL_law_66 ?_
        rw [nI_m2]
        refine cS2 (pc := 67) (lk_L_law_67 _) (Nat.le_of_ble_eq_true rfl) ⟨(show kc + 0 ≤ 600172 by omega), (show ks + 0 ≤ 7300668 by omega)⟩ (hx _) ?_
        refine ev_widen (k2 := kc + 0) (s2 := ks + 0) (show kc + 0 ≤ kc + 0 by omega) (show ks + 0 ≤ ks + 0 by omega) ?_
        refine ev_istore (pc := 70) dL_law_70 rfl rfl ?_
        refine ev_aloadS_n (pc := 72) dL_law_72 rfl rfl ?_
        refine ev_iconst (pc := 73) (v := 2) dL_law_73 (by decide) ?_
        refine ev_iload (pc := 74) dL_law_74 rfl ?_
        refine ev_imul (pc := 76) dL_law_76 ?_
        rw [nI_m2]
        refine ev_iconst (pc := 77) (v := 1) dL_law_77 (by decide) ?_
        refine ev_iadd (pc := 78) dL_law_78 ?_
        rw [nI_a1]
        refine cS2 (pc := 79) (lk_L_law_79 _) (Nat.le_of_ble_eq_true rfl) ⟨(show kc + 0 ≤ 600172 by omega), (show ks + 0 ≤ 7300668 by omega)⟩ (hy _) ?_
        refine ev_widen (k2 := kc + 0) (s2 := ks + 0) (show kc + 0 ≤ kc + 0 by omega) (show ks + 0 ≤ ks + 0 by omega) ?_
        refine ev_istore (pc := 82) dL_law_82 rfl rfl ?_
        refine ev_iload (pc := 84) dL_law_84 rfl ?_
        refine ev_bipush (pc := 86) (v := 16) dL_law_86 (by decide) ?_
        refine cS2 (pc := 88) (lk_L_law_88 _) (Nat.le_of_ble_eq_true rfl) ⟨(show kc + 0 ≤ 600172 by omega), (show ks + 0 ≤ 7300668 by omega)⟩ (e1 _) ?_
        refine ev_widen (k2 := kc + 0) (s2 := ks + 0) (show kc + 0 ≤ kc + 0 by omega) (show ks + 0 ≤ ks + 0 by omega) ?_
        refine ev_istore (pc := 91) dL_law_91 rfl rfl ?_
        refine ev_iload (pc := 93) dL_law_93 rfl ?_
        refine ev_bipush (pc := 95) (v := 7) dL_law_95 (by decide) ?_
        refine ev_ic_ge (pc := 97) (tgt := 119) dL_law_97 (by decide) (fun _ => ?_) (fun c_97 => absurd (nI_le (show 7 ≤ kd by omega) (by omega)) c_97)
        refine ev_iload (pc := 119) dL_law_119 rfl ?_
        refine ev_bipush (pc := 121) (v := 10) dL_law_121 (by decide) ?_
        refine ev_ic_ge (pc := 123) (tgt := 143) dL_law_123 (by decide) (fun c_123 => absurd c_123 (nI_ge h10 (by decide))) (fun _ => ?_)
        refine ev_aload_n (pc := 126) dL_law_126 rfl rfl ?_
        refine ev_iload (pc := 127) dL_law_127 rfl ?_
        refine ev_iconst (pc := 129) (v := 4) dL_law_129 (by decide) ?_
        refine ev_ishr (pc := 130) dL_law_130 rfl ?_
        refine ev_iload (pc := 131) dL_law_131 rfl ?_
        refine ev_aload_n (pc := 133) dL_law_133 rfl rfl ?_
        refine ev_aload_n (pc := 134) dL_law_134 rfl rfl ?_
        refine ev_aload (pc := 135) dL_law_135 rfl ?_
        refine cS6 (pc := 137) (lk_L_law_137 _) (Nat.le_of_ble_eq_true rfl) ⟨(show kc + 3 ≤ 600172 by omega), (show ks + 18 ≤ 7300668 by omega)⟩ e2 ?_
        refine ev_widen (k2 := kc + 3) (s2 := ks + 18) (show kc + 3 ≤ kc + 3 by omega) (show ks + 18 ≤ ks + 18 by omega) ?_
        refine ev_goto (pc := 140) (tgt := 179) dL_law_140 (by decide) ?_
        exact K _ _ _ _ (CG.mono (by omega) C') hI' (by omega) (by omega)
      · by_cases h11 : kd = 10
        · obtain ⟨t, ht⟩ : ∃ t, t = lowN y 2 := ⟨_, rfl⟩
          have ht2 : t < 2 := by rw [ht]; exact lowN_lt y (by decide)
          have e3 : ∀ w : mW, EvS m_L_low [.int y, .int 2] w (.inl (some (.int (nI t)))) w := fun w => by
            rw [ht]
            exact r_low (n := 2) (by decide) (by decide)
          obtain ⟨σ', w', is', C', hI', e2⟩ := r_tears C (by omega) hI ht2
          refine ev_iload (pc := 50) dL_law_50 rfl ?_
          refine ev_bipush (pc := 52) (v := 28) dL_law_52 (by decide) ?_
          refine ev_ic_ge (pc := 54) (tgt := 299) dL_law_54 (by decide) (fun c_54 => absurd c_54 (nI_ge (show n < 28 by omega) (by decide))) (fun _ => ?_)
          refine ev_iload (pc := 57) dL_law_57 rfl ?_
          refine ev_if_eq (pc := 59) (tgt := 299) dL_law_59 (by decide) (fun c_59 => absurd c_59 (by decide)) (fun _ => ?_)
          refine ev_aloadS_n (pc := 62) dL_law_62 rfl rfl ?_
          refine ev_iconst (pc := 63) (v := 2) dL_law_63 (by decide) ?_
          refine ev_iload (pc := 64) dL_law_64 rfl ?_
          refine ev_imul (pc := 66) dL_law_66 ?_
          rw [nI_m2]
          refine cS2 (pc := 67) (lk_L_law_67 _) (Nat.le_of_ble_eq_true rfl) ⟨(show kc + 0 ≤ 600172 by omega), (show ks + 0 ≤ 7300668 by omega)⟩ (hx _) ?_
          refine ev_widen (k2 := kc + 0) (s2 := ks + 0) (show kc + 0 ≤ kc + 0 by omega) (show ks + 0 ≤ ks + 0 by omega) ?_
          refine ev_istore (pc := 70) dL_law_70 rfl rfl ?_
          refine ev_aloadS_n (pc := 72) dL_law_72 rfl rfl ?_
          refine ev_iconst (pc := 73) (v := 2) dL_law_73 (by decide) ?_
          refine ev_iload (pc := 74) dL_law_74 rfl ?_
          refine ev_imul (pc := 76) dL_law_76 ?_
          rw [nI_m2]
          refine ev_iconst (pc := 77) (v := 1) dL_law_77 (by decide) ?_
          refine ev_iadd (pc := 78) dL_law_78 ?_
          rw [nI_a1]
          refine cS2 (pc := 79) (lk_L_law_79 _) (Nat.le_of_ble_eq_true rfl) ⟨(show kc + 0 ≤ 600172 by omega), (show ks + 0 ≤ 7300668 by omega)⟩ (hy _) ?_
          refine ev_widen (k2 := kc + 0) (s2 := ks + 0) (show kc + 0 ≤ kc + 0 by omega) (show ks + 0 ≤ ks + 0 by omega) ?_
          refine ev_istore (pc := 82) dL_law_82 rfl rfl ?_
          refine ev_iload (pc := 84) dL_law_84 rfl ?_
          refine ev_bipush (pc := 86) (v := 16) dL_law_86 (by decide) ?_
          refine cS2 (pc := 88) (lk_L_law_88 _) (Nat.le_of_ble_eq_true rfl) ⟨(show kc + 0 ≤ 600172 by omega), (show ks + 0 ≤ 7300668 by omega)⟩ (e1 _) ?_
          refine ev_widen (k2 := kc + 0) (s2 := ks + 0) (show kc + 0 ≤ kc + 0 by omega) (show ks + 0 ≤ ks + 0 by omega) ?_
          refine ev_istore (pc := 91) dL_law_91 rfl rfl ?_
          refine ev_iload (pc := 93) dL_law_93 rfl ?_
          refine ev_bipush (pc := 95) (v := 7) dL_law_95 (by decide) ?_
          refine ev_ic_ge (pc := 97) (tgt := 119) dL_law_97 (by decide) (fun _ => ?_) (fun c_97 => absurd (nI_le (show 7 ≤ kd by omega) (by omega)) c_97)
          refine ev_iload (pc := 119) dL_law_119 rfl ?_
          refine ev_bipush (pc := 121) (v := 10) dL_law_121 (by decide) ?_
          refine ev_ic_ge (pc := 123) (tgt := 143) dL_law_123 (by decide) (fun _ => ?_) (fun c_123 => absurd (nI_le (show 10 ≤ kd by omega) (by omega)) c_123)
          refine ev_iload (pc := 143) dL_law_143 rfl ?_
          refine ev_bipush (pc := 145) (v := 10) dL_law_145 (by decide) ?_
          refine ev_ic_ne (pc := 147) (tgt := 165) dL_law_147 (by decide) (fun c_147 => absurd (congrArg nI h11) c_147) (fun _ => ?_)
          refine ev_aload_n (pc := 150) dL_law_150 rfl rfl ?_
          refine ev_iload (pc := 151) dL_law_151 rfl ?_
          refine ev_iconst (pc := 153) (v := 2) dL_law_153 (by decide) ?_
          refine cS2 (pc := 154) (lk_L_law_154 _) (Nat.le_of_ble_eq_true rfl) ⟨(show kc + 0 ≤ 600172 by omega), (show ks + 0 ≤ 7300668 by omega)⟩ (e3 _) ?_
          refine ev_widen (k2 := kc + 0) (s2 := ks + 0) (show kc + 0 ≤ kc + 0 by omega) (show ks + 0 ≤ ks + 0 by omega) ?_
          refine ev_aload (pc := 157) dL_law_157 rfl ?_
          refine cS3 (pc := 159) (lk_L_law_159 _) (Nat.le_of_ble_eq_true rfl) ⟨(show kc + 4 ≤ 600172 by omega), (show ks + 24 ≤ 7300668 by omega)⟩ e2 ?_
          refine ev_widen (k2 := kc + 4) (s2 := ks + 24) (show kc + 4 ≤ kc + 4 by omega) (show ks + 24 ≤ ks + 24 by omega) ?_
          refine ev_goto (pc := 162) (tgt := 179) dL_law_162 (by decide) ?_
          exact K _ _ _ _ (CG.mono (by omega) C') hI' (by omega) (by omega)
        · obtain ⟨σ', w', cc', ep', is', C', hI', e2⟩ := r_ends C (by omega) hI (x >>> (4 &&& 31)) y
          refine ev_iload (pc := 50) dL_law_50 rfl ?_
          refine ev_bipush (pc := 52) (v := 28) dL_law_52 (by decide) ?_
          refine ev_ic_ge (pc := 54) (tgt := 299) dL_law_54 (by decide) (fun c_54 => absurd c_54 (nI_ge (show n < 28 by omega) (by decide))) (fun _ => ?_)
          refine ev_iload (pc := 57) dL_law_57 rfl ?_
          refine ev_if_eq (pc := 59) (tgt := 299) dL_law_59 (by decide) (fun c_59 => absurd c_59 (by decide)) (fun _ => ?_)
          refine ev_aloadS_n (pc := 62) dL_law_62 rfl rfl ?_
          refine ev_iconst (pc := 63) (v := 2) dL_law_63 (by decide) ?_
          refine ev_iload (pc := 64) dL_law_64 rfl ?_
          refine ev_imul (pc := 66) dL_law_66 ?_
          rw [nI_m2]
          refine cS2 (pc := 67) (lk_L_law_67 _) (Nat.le_of_ble_eq_true rfl) ⟨(show kc + 0 ≤ 600172 by omega), (show ks + 0 ≤ 7300668 by omega)⟩ (hx _) ?_
          refine ev_widen (k2 := kc + 0) (s2 := ks + 0) (show kc + 0 ≤ kc + 0 by omega) (show ks + 0 ≤ ks + 0 by omega) ?_
          refine ev_istore (pc := 70) dL_law_70 rfl rfl ?_
          refine ev_aloadS_n (pc := 72) dL_law_72 rfl rfl ?_
          refine ev_iconst (pc := 73) (v := 2) dL_law_73 (by decide) ?_
          refine ev_iload (pc := 74) dL_law_74 rfl ?_
          refine ev_imul (pc := 76) dL_law_76 ?_
          rw [nI_m2]
          refine ev_iconst (pc := 77) (v := 1) dL_law_77 (by decide) ?_
          refine ev_iadd (pc := 78) dL_law_78 ?_
          rw [nI_a1]
          refine cS2 (pc := 79) (lk_L_law_79 _) (Nat.le_of_ble_eq_true rfl) ⟨(show kc + 0 ≤ 600172 by omega), (show ks + 0 ≤ 7300668 by omega)⟩ (hy _) ?_
          refine ev_widen (k2 := kc + 0) (s2 := ks + 0) (show kc + 0 ≤ kc + 0 by omega) (show ks + 0 ≤ ks + 0 by omega) ?_
          refine ev_istore (pc := 82) dL_law_82 rfl rfl ?_
          refine ev_iload (pc := 84) dL_law_84 rfl ?_
          refine ev_bipush (pc := 86) (v := 16) dL_law_86 (by decide) ?_
          refine cS2 (pc := 88) (lk_L_law_88 _) (Nat.le_of_ble_eq_true rfl) ⟨(show kc + 0 ≤ 600172 by omega), (show ks + 0 ≤ 7300668 by omega)⟩ (e1 _) ?_
          refine ev_widen (k2 := kc + 0) (s2 := ks + 0) (show kc + 0 ≤ kc + 0 by omega) (show ks + 0 ≤ ks + 0 by omega) ?_
          refine ev_istore (pc := 91) dL_law_91 rfl rfl ?_
          refine ev_iload (pc := 93) dL_law_93 rfl ?_
          refine ev_bipush (pc := 95) (v := 7) dL_law_95 (by decide) ?_
          refine ev_ic_ge (pc := 97) (tgt := 119) dL_law_97 (by decide) (fun _ => ?_) (fun c_97 => absurd (nI_le (show 7 ≤ kd by omega) (by omega)) c_97)
          refine ev_iload (pc := 119) dL_law_119 rfl ?_
          refine ev_bipush (pc := 121) (v := 10) dL_law_121 (by decide) ?_
          refine ev_ic_ge (pc := 123) (tgt := 143) dL_law_123 (by decide) (fun _ => ?_) (fun c_123 => absurd (nI_le (show 10 ≤ kd by omega) (by omega)) c_123)
          refine ev_iload (pc := 143) dL_law_143 rfl ?_
          refine ev_bipush (pc := 145) (v := 10) dL_law_145 (by decide) ?_
          refine ev_ic_ne (pc := 147) (tgt := 165) dL_law_147 (by decide) (fun _ => ?_) (fun c_147 => absurd c_147 (fun h => h11 (nI_inj (by omega) (by decide) (show nI kd = nI 10 from h))))
          refine ev_aload_n (pc := 165) dL_law_165 rfl rfl ?_
          refine ev_iload (pc := 166) dL_law_166 rfl ?_
          refine ev_iconst (pc := 168) (v := 4) dL_law_168 (by decide) ?_
          refine ev_ishr (pc := 169) dL_law_169 rfl ?_
          refine ev_iload (pc := 170) dL_law_170 rfl ?_
          refine ev_aload_n (pc := 172) dL_law_172 rfl rfl ?_
          refine ev_aload_n (pc := 173) dL_law_173 rfl rfl ?_
          refine ev_aload (pc := 174) dL_law_174 rfl ?_
          refine cS6 (pc := 176) (lk_L_law_176 _) (Nat.le_of_ble_eq_true rfl) ⟨(show kc + 7 ≤ 600172 by omega), (show ks + 42 ≤ 7300668 by omega)⟩ e2 ?_
          refine ev_widen (k2 := kc + 7) (s2 := ks + 42) (show kc + 7 ≤ kc + 7 by omega) (show ks + 42 ≤ ks + 42 by omega) ?_
          exact K _ _ _ _ C' hI' (by omega) (by omega)
end LAW5
