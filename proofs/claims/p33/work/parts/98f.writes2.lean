/-! THE LAW: writes, whole -/
section WT6
variable {N : Nat} {σ : SS} {w : mW} {cc : Nat → Int64} {ep is : Nat → Int32}
theorem wr_mid (C : CG N σ (T3 cc ep is) w) (hI : LI σ cc ep is) {z : RS3} (hb : gB σ = some z) (x y : Int32) {tv : Nat} (h0 : 0 < tv) (htv : tv < 32) : ∃ (σ' : SS) (w' : mW) (cc' : Nat → Int64), CG N σ' (T3 cc' ep is) w' ∧ LI σ' cc' ep is ∧ EvF m_L_writes (mQm m_L_writes (.inl (some (.int 1))) w') 50 [.ref 0, .int x, .int y, .int (nI tv), .ref 21, .ref 22, .ref 23, .int 1, hole, hole, hole, hole, hole, hole] [] 1 6 w := by
  obtain ⟨f, hf⟩ : ∃ f, f = lowN y 32 := ⟨_, rfl⟩
  have hf32 : f < 32 := by rw [hf]; exact lowN_lt y (by decide)
  obtain ⟨s, hs⟩ : ∃ s, s = lowN (y >>> (6 &&& 31)) 7 := ⟨_, rfl⟩
  have hs7 : s < 7 := by rw [hs]; exact lowN_lt _ (by decide)
  obtain ⟨m, hm⟩ : ∃ m, m = lowN (y >>> (9 &&& 31)) 9 := ⟨_, rfl⟩
  have hm9 : m < 9 := by rw [hm]; exact lowN_lt _ (by decide)
  have e1 : ∀ w : mW, EvS m_L_low [.int y, .int 32] w (.inl (some (.int (nI f)))) w := fun w => by
    rw [hf]
    exact r_low (n := 32) (by decide) (by decide)
  have e2 : ∀ w : mW, EvS m_L_low [.int (y >>> (6 &&& 31)), .int 7] w (.inl (some (.int (nI s)))) w := fun w => by
    rw [hs]
    exact r_low (n := 7) (by decide) (by decide)
  have e3 : ∀ w : mW, EvS m_L_low [.int (y >>> (9 &&& 31)), .int 9] w (.inl (some (.int (nI m)))) w := fun w => by
    rw [hm]
    exact r_low (n := 9) (by decide) (by decide)
  have a1 : ∀ n : Nat, (1 : Int32) + nI n = nI (1 + n) := fun n => by rw [show (1 : Int32) = nI 1 from rfl, nI_add]
  obtain ⟨σ', w', cc', z', C1, hI1, hb1, k1⟩ := wr_loop x y h0 htv hf32 (show 1 + s < 8 by omega) (show 1 + m < 10 by omega) (1 + m) 0 (by omega) C hI hb
  refine ⟨σ', w', cc', C1, hI1, ?_⟩
  refine ev_iload_n (pc := 50) dL_writes_50 rfl rfl ?_
  refine ev_bipush (pc := 51) (v := 32) dL_writes_51 (by decide) ?_
  refine cS2 (pc := 53) lk_L_writes_53 (Nat.le_of_ble_eq_true rfl) ⟨Nat.le_of_ble_eq_true rfl, Nat.le_of_ble_eq_true rfl⟩ (e1 _) ?_
  refine ev_istore (pc := 56) dL_writes_56 rfl rfl ?_
  refine ev_iconst (pc := 58) (v := 1) dL_writes_58 (by decide) ?_
  refine ev_iload_n (pc := 59) dL_writes_59 rfl rfl ?_
  refine ev_bipush (pc := 60) (v := 6) dL_writes_60 (by decide) ?_
  refine ev_ishr (pc := 62) dL_writes_62 rfl ?_
  refine ev_bipush (pc := 63) (v := 7) dL_writes_63 (by decide) ?_
  refine cS2 (pc := 65) lk_L_writes_65 (Nat.le_of_ble_eq_true rfl) ⟨Nat.le_of_ble_eq_true rfl, Nat.le_of_ble_eq_true rfl⟩ (e2 _) ?_
  refine ev_iadd (pc := 68) dL_writes_68 ?_
  rw [a1]
  refine ev_istore (pc := 69) dL_writes_69 rfl rfl ?_
  refine ev_iconst (pc := 71) (v := 1) dL_writes_71 (by decide) ?_
  refine ev_iload_n (pc := 72) dL_writes_72 rfl rfl ?_
  refine ev_bipush (pc := 73) (v := 9) dL_writes_73 (by decide) ?_
  refine ev_ishr (pc := 75) dL_writes_75 rfl ?_
  refine ev_bipush (pc := 76) (v := 9) dL_writes_76 (by decide) ?_
  refine cS2 (pc := 78) lk_L_writes_78 (Nat.le_of_ble_eq_true rfl) ⟨Nat.le_of_ble_eq_true rfl, Nat.le_of_ble_eq_true rfl⟩ (e3 _) ?_
  refine ev_iadd (pc := 81) dL_writes_81 ?_
  rw [a1]
  refine ev_istore (pc := 82) dL_writes_82 rfl rfl ?_
  refine ev_iconst (pc := 84) (v := 0) dL_writes_84 (by decide) ?_
  refine ev_istore (pc := 85) dL_writes_85 rfl rfl ?_
  refine k1 _ 1 6 _ _ (by omega) (by omega) (fun v12 v13 => ?_)
  refine ev_widen (k2 := 40) (s2 := 240) (by omega) (by omega) ?_
  refine ev_iload (pc := 236) dL_writes_236 rfl ?_
  refine ev_if_eq (pc := 238) (tgt := 276) dL_writes_238 (by decide) (fun c_238 => absurd c_238 (by decide)) (fun _ => ?_)
  refine ev_aload_n (pc := 241) dL_writes_241 rfl rfl ?_
  refine cX1 (pc := 242) lk_L_writes_242 (Nat.le_of_ble_eq_true rfl) ⟨Nat.le_of_ble_eq_true rfl, Nat.le_of_ble_eq_true rfl⟩ (m_beginT C1 hb1) ?_
  refine ev_ldc (pc := 245) dL_writes_245 ki_L_23 ?_
  refine ev_ic_ne (pc := 247) (tgt := 276) dL_writes_247 (by decide) (fun c_247 => absurd rfl c_247) (fun _ => ?_)
  refine ev_aload_n (pc := 250) dL_writes_250 rfl rfl ?_
  refine ev_bipush (pc := 251) (v := 100) dL_writes_251 (by decide) ?_
  refine ev_iconst (pc := 253) (v := 1) dL_writes_253 (by decide) ?_
  refine cX3 (pc := 254) lk_L_writes_254 (Nat.le_of_ble_eq_true rfl) ⟨Nat.le_of_ble_eq_true rfl, Nat.le_of_ble_eq_true rfl⟩ (m_putT1 C1 (Or.inr (by decide))) ?_
  refine ev_ldc (pc := 257) dL_writes_257 ki_L_23 ?_
  refine ev_ic_ne (pc := 259) (tgt := 276) dL_writes_259 (by decide) (fun c_259 => absurd rfl c_259) (fun _ => ?_)
  refine ev_aload_n (pc := 262) dL_writes_262 rfl rfl ?_
  refine ev_iconst (pc := 263) (v := (-1)) dL_writes_263 (by decide) ?_
  refine cX2 (pc := 264) lk_L_writes_264 (Nat.le_of_ble_eq_true rfl) ⟨Nat.le_of_ble_eq_true rfl, Nat.le_of_ble_eq_true rfl⟩ (m_deleteT1 C1 (Or.inl (by decide))) ?_
  refine ev_ldc (pc := 267) dL_writes_267 ki_L_23 ?_
  refine ev_ic_ne (pc := 269) (tgt := 276) dL_writes_269 (by decide) (fun c_269 => absurd rfl c_269) (fun _ => ?_)
  refine ev_iconst (pc := 272) (v := 1) dL_writes_272 (by decide) ?_
  refine ev_goto (pc := 273) (tgt := 277) dL_writes_273 (by decide) ?_
  exact ev_zretE (pc := 277) dL_writes_277 rfl ⟨Nat.le_of_ble_eq_true rfl, Nat.le_of_ble_eq_true rfl⟩ (by first | exact Or.inl rfl | exact Or.inr rfl | assumption | exact i10_o) rfl rfl
theorem r_writes (C : CG N σ (T3 cc ep is) w) (hI : LI σ cc ep is) (x y : Int32) {tv : Nat} (h0 : 0 < tv) (htv : tv < 32) : ∃ (σ' : SS) (w' : mW) (cc' : Nat → Int64) (ep' is' : Nat → Int32), CG (N + 1) σ' (T3 cc' ep' is') w' ∧ LI σ' cc' ep' is' ∧ EvS m_L_writes [.ref 0, .int x, .int y, .int (nI tv), .ref 21, .ref 22, .ref 23] w (.inl (some (.int 1))) w' := by
  cases hb : gB σ with
  | some z =>
    obtain ⟨hi, -, -⟩ := ob_s hI.2.1 hb
    obtain ⟨σ', w', cc', C1, hI1, e1⟩ := wr_mid C hI hb x y h0 htv
    refine ⟨σ', w', cc', ep, is, CG.mono (by omega) C1, hI1, ?_⟩
    refine evs_of (by decide +kernel) (Nat.le_of_ble_eq_true rfl) (by decide) rfl ?_
    refine ev_iconst (pc := 0) (v := 1) dL_writes_0 (by decide) ?_
    refine ev_istore (pc := 1) dL_writes_1 rfl rfl ?_
    refine ev_aload (pc := 3) dL_writes_3 rfl ?_
    refine ev_iconst (pc := 5) (v := 1) dL_writes_5 (by decide) ?_
    refine ev_ialdN (pc := 6) dL_writes_6 (t3_i C) ⟨(show _ = nI 1 from rfl), by decide, by decide⟩ hi ?_
    refine ev_if_ne (pc := 7) (tgt := 50) dL_writes_7 (by decide) (fun _ => ?_) (fun c_7 => absurd c_7 (by decide))
    exact ev_widen (Nat.le_of_ble_eq_true rfl) (Nat.le_of_ble_eq_true rfl) e1
  | none =>
    have hi := ob_n hI.2.1 hb
    have hepc : ep 0 = nI (gC σ).1 := hI.1.2
    have ecp := r_copies (w := w) (p := 21) (pe := 22) (a := 0) (b := 1) (t3_c C) (by decide) (t3_e C) (by decide) (by decide) (by decide)
    have C1 := t3_se (t3_sc C (cpP cc 0 1 3)) (upd ep 1 (ep 0))
    have C2 := t3_se C1 (upd (upd ep 1 (ep 0)) 1 (nI ((gC σ).1 + 1)))
    have C3 := t3_si C2 (upd is 1 1)
    obtain ⟨w4, C4, e4⟩ := m_begin C3 hb
    have ep1 : (upd ep 1 (ep 0)) 1 = nI (gC σ).1 := pk_us.trans hepc
    have hI4 : LI (begS σ) (cpP cc 0 1 3) (upd (upd ep 1 (ep 0)) 1 (nI ((gC σ).1 + 1))) (upd is 1 1) := by
      refine ⟨st_T hI.1 rfl (fun i hi => by rw [tn_cp (by omega), if_neg (by decide)]) (by rw [pk_un (by decide), pk_un (by decide)]), ⟨pk_us, ?_, pk_us⟩, fun k hk => ob_T (hI.2.2.1 k hk) rfl (fun i hi => by rw [tn_cp (by omega), if_neg (by omega)]) (by rw [pk_un (by omega), pk_un (by omega)]) (pk_un (by omega)), fun t ht => ob_T (hI.2.2.2 t ht) rfl (fun i hi => by rw [tn_cp (by omega), if_neg (by omega)]) (by rw [pk_un (by omega), pk_un (by omega)]) (pk_un (by omega))⟩
      rw [show ct (tn (cpP cc 0 1 3) 1) = ct (tn cc 0) from ctL_cg (fun i hi => by rw [tn_cp (by omega), if_pos rfl])]
      exact hI.1.1
    obtain ⟨σ', w', cc', C5, hI5, e5⟩ := wr_mid C4 hI4 rfl x y h0 htv
    refine ⟨σ', w', cc', _, _, C5, hI5, ?_⟩
    refine evs_of (by decide +kernel) (Nat.le_of_ble_eq_true rfl) (by decide) rfl ?_
    refine ev_iconst (pc := 0) (v := 1) dL_writes_0 (by decide) ?_
    refine ev_istore (pc := 1) dL_writes_1 rfl rfl ?_
    refine ev_aload (pc := 3) dL_writes_3 rfl ?_
    refine ev_iconst (pc := 5) (v := 1) dL_writes_5 (by decide) ?_
    refine ev_ialdN (pc := 6) dL_writes_6 (t3_i C) ⟨(show _ = nI 1 from rfl), by decide, by decide⟩ hi ?_
    refine ev_if_ne (pc := 7) (tgt := 50) dL_writes_7 (by decide) (fun c_7 => absurd rfl c_7) (fun _ => ?_)
    refine ev_aload (pc := 10) dL_writes_10 rfl ?_
    refine ev_aload (pc := 12) dL_writes_12 rfl ?_
    refine ev_iconst (pc := 14) (v := 0) dL_writes_14 (by decide) ?_
    refine ev_iconst (pc := 15) (v := 1) dL_writes_15 (by decide) ?_
    refine cS4 (pc := 16) lk_L_writes_16 (Nat.le_of_ble_eq_true rfl) ⟨Nat.le_of_ble_eq_true rfl, Nat.le_of_ble_eq_true rfl⟩ ecp ?_
    refine ev_aload (pc := 19) dL_writes_19 rfl ?_
    refine ev_iconst (pc := 21) (v := 1) dL_writes_21 (by decide) ?_
    refine ev_dup2 (pc := 22) dL_writes_22 rfl rfl ?_
    refine ev_ialdN (pc := 23) dL_writes_23 (t3_e C1) ⟨(show _ = nI 1 from rfl), by decide, by decide⟩ ep1 ?_
    refine ev_iconst (pc := 24) (v := 1) dL_writes_24 (by decide) ?_
    refine ev_iadd (pc := 25) dL_writes_25 ?_
    rw [nI_a1]
    refine ev_iastN (pc := 26) dL_writes_26 (t3_e C1) ⟨(show _ = nI 1 from rfl), by decide, by decide⟩ rfl rfl ?_
    refine ev_aload (pc := 27) dL_writes_27 rfl ?_
    refine ev_iconst (pc := 29) (v := 1) dL_writes_29 (by decide) ?_
    refine ev_iconst (pc := 30) (v := 1) dL_writes_30 (by decide) ?_
    refine ev_iastN (pc := 31) dL_writes_31 (t3_i C2) ⟨(show _ = nI 1 from rfl), by decide, by decide⟩ rfl rfl ?_
    refine ev_aload_n (pc := 32) dL_writes_32 rfl rfl ?_
    refine cX1 (pc := 33) lk_L_writes_33 (Nat.le_of_ble_eq_true rfl) ⟨Nat.le_of_ble_eq_true rfl, Nat.le_of_ble_eq_true rfl⟩ e4 ?_
    refine ev_aload (pc := 36) dL_writes_36 rfl ?_
    refine ev_iconst (pc := 38) (v := 1) dL_writes_38 (by decide) ?_
    refine ev_ialdN (pc := 39) dL_writes_39 (t3_e C4) ⟨(show _ = nI 1 from rfl), by decide, by decide⟩ pk_us ?_
    refine ev_ic_ne (pc := 40) (tgt := 47) dL_writes_40 (by decide) (fun c_40 => absurd rfl c_40) (fun _ => ?_)
    refine ev_iconst (pc := 43) (v := 1) dL_writes_43 (by decide) ?_
    refine ev_goto (pc := 44) (tgt := 48) dL_writes_44 (by decide) ?_
    refine ev_istore (pc := 48) dL_writes_48 rfl rfl ?_
    exact ev_widen (Nat.le_of_ble_eq_true rfl) (Nat.le_of_ble_eq_true rfl) e5
end WT6
