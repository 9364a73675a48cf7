/-! THE LAW: a tree has a state's keys; a view shows them -/
abbrev TL (cc : Nat → Int64) (ep is f : Nat → Int32) (g : Nat → Int64) : List mC := [lA 24 cc, iA 8 ep, iA 8 is, iA 64 f, lA 12 g]
section TLS
variable {N : Nat} {σ : SS} {w : mW} {cc g g' : Nat → Int64} {ep is f f' : Nat → Int32}
theorem tl_c (h : CG N σ (TL cc ep is f g) w) : w[21]? = some (lA 24 cc) := cg_at h (j := 0) rfl
theorem tl_e (h : CG N σ (TL cc ep is f g) w) : w[22]? = some (iA 8 ep) := cg_at h (j := 1) rfl
theorem tl_i (h : CG N σ (TL cc ep is f g) w) : w[23]? = some (iA 8 is) := cg_at h (j := 2) rfl
theorem tl_f (h : CG N σ (TL cc ep is f g) w) : w[24]? = some (iA 64 f) := cg_at h (j := 3) rfl
theorem tl_g (h : CG N σ (TL cc ep is f g) w) : w[25]? = some (lA 12 g) := cg_at h (j := 4) rfl
theorem tl_w (h : CG N σ (TL cc ep is f g) w) : CG N σ (TL cc ep is f' g') ((w.set 24 (iA 64 f')).set 25 (lA 12 g')) := cg_set (cg_set h (j := 3) (x := iA 64 f')) (j := 4) (x := lA 12 g')
theorem tl_ok (m : Nat) : ∀ e ∈ TL cc ep is f g, cOk m e := fun e he => by
  simp only [TL, List.mem_cons, List.not_mem_nil, or_false] at he
  rcases he with rfl | rfl | rfl | rfl | rfl <;> exact trivial
/-- a good tree with these keys -/
def gT1 (σ : SS) (d p : Nat) (L : List (Nat × Int32)) : Prop := rt (gT σ) (gU σ) d p ∧ kyl (gT σ) d p = L ∧ d ≤ 5
theorem holds_loop {w1 : mW} {rt0 dp : Int32} {d s : Nat} {f0 : Nat → Int32} (hc : w1[21]? = some (lA 24 cc)) (hf : w1[24]? = some (iA 64 (fF f0 (ct (tn cc s))))) (hs : s < 8) (hd : d ≤ 5) (hdp : dp < 0 ∨ dp = nI (d + 1)) : ∀ m n kc ks : Nat, n + m = 32 → kc ≤ 1100 → ks ≤ 6800 → EvF m_L_holds (mQm m_L_holds (.inl (some (.int 1))) w1) 17 [.ref 0, .int rt0, .int dp, .ref 21, .int (nI s), .ref 24, .ref 25, .int (nI (d + 1)), .int (nI (ctL (tn cc s) n).length), .int (nI n)] [] kc ks w1
  | 0, n, kc, ks, hn, hkc, hks => by
    have hn : n = 32 := by omega
    subst hn
    have hl : (ct (tn cc s)).length ≤ 32 := ctL_len (tn cc s) 32
    have hpos : ¬ nI (d + 1) ≤ 0 := nI_nle (by omega) (by omega)
    rcases hdp with hdp | hdp
    · refine ev_iload (pc := 17) dL_holds_17 rfl ?_
      refine ev_bipush (pc := 19) (v := 32) dL_holds_19 (by decide) ?_
      refine ev_ic_ge (pc := 21) (tgt := 68) dL_holds_21 (by decide) (fun _ => ?_) (fun c_21 => absurd (by decide) c_21)
      refine ev_iload (pc := 68) dL_holds_68 rfl ?_
      refine ev_if_le (pc := 70) (tgt := 96) dL_holds_70 (by decide) (fun c_70 => absurd c_70 hpos) (fun _ => ?_)
      refine ev_iload_n (pc := 73) dL_holds_73 rfl rfl ?_
      refine ev_if_lt (pc := 74) (tgt := 83) dL_holds_74 (by decide) (fun _ => ?_) (fun c_74 => absurd hdp c_74)
      refine ev_iload (pc := 83) dL_holds_83 rfl ?_
      refine ev_aload (pc := 85) dL_holds_85 rfl ?_
      refine ev_iconst (pc := 87) (v := 0) dL_holds_87 (by decide) ?_
      refine ev_ialdN (pc := 88) dL_holds_88 hf ⟨(show _ = nI 0 from rfl), by decide, by decide⟩ fF_0 ?_
      refine ev_ic_ne (pc := 89) (tgt := 96) dL_holds_89 (by decide) (fun c_89 => absurd rfl c_89) (fun _ => ?_)
      refine ev_iconst (pc := 92) (v := 1) dL_holds_92 (by decide) ?_
      refine ev_goto (pc := 93) (tgt := 97) dL_holds_93 (by decide) ?_
      exact ev_zretE (pc := 97) dL_holds_97 rfl ⟨(show kc ≤ 1100 by omega), (show ks ≤ 6800 by omega)⟩ (by first | exact Or.inl rfl | exact Or.inr rfl | assumption | exact i10_o) rfl rfl
    · subst hdp
      refine ev_iload (pc := 17) dL_holds_17 rfl ?_
      refine ev_bipush (pc := 19) (v := 32) dL_holds_19 (by decide) ?_
      refine ev_ic_ge (pc := 21) (tgt := 68) dL_holds_21 (by decide) (fun _ => ?_) (fun c_21 => absurd (by decide) c_21)
      refine ev_iload (pc := 68) dL_holds_68 rfl ?_
      refine ev_if_le (pc := 70) (tgt := 96) dL_holds_70 (by decide) (fun c_70 => absurd c_70 hpos) (fun _ => ?_)
      refine ev_iload_n (pc := 73) dL_holds_73 rfl rfl ?_
      refine ev_if_lt (pc := 74) (tgt := 83) dL_holds_74 (by decide) (fun c_74 => absurd c_74 (nI_pos (by omega))) (fun _ => ?_)
      refine ev_iload (pc := 77) dL_holds_77 rfl ?_
      refine ev_iload_n (pc := 79) dL_holds_79 rfl rfl ?_
      refine ev_ic_ne (pc := 80) (tgt := 96) dL_holds_80 (by decide) (fun c_80 => absurd rfl c_80) (fun _ => ?_)
      refine ev_iload (pc := 83) dL_holds_83 rfl ?_
      refine ev_aload (pc := 85) dL_holds_85 rfl ?_
      refine ev_iconst (pc := 87) (v := 0) dL_holds_87 (by decide) ?_
      refine ev_ialdN (pc := 88) dL_holds_88 hf ⟨(show _ = nI 0 from rfl), by decide, by decide⟩ fF_0 ?_
      refine ev_ic_ne (pc := 89) (tgt := 96) dL_holds_89 (by decide) (fun c_89 => absurd rfl c_89) (fun _ => ?_)
      refine ev_iconst (pc := 92) (v := 1) dL_holds_92 (by decide) ?_
      refine ev_goto (pc := 93) (tgt := 97) dL_holds_93 (by decide) ?_
      exact ev_zretE (pc := 97) dL_holds_97 rfl ⟨(show kc ≤ 1100 by omega), (show ks ≤ 6800 by omega)⟩ (by first | exact Or.inl rfl | exact Or.inr rfl | assumption | exact i10_o) rfl rfl
  | m + 1, n, kc, ks, hn, hkc, hks => by
    have hl : (ct (tn cc s)).length ≤ 32 := ctL_len (tn cc s) 32
    have hln := ctL_len (tn cc s) n
    by_cases ht : 0 < tn cc s n
    · have hlt := ct_lt (t := tn cc s) (show n < 32 by omega) ht
      have hat := ct_at (t := tn cc s) (show n < 32 by omega) ht
      have e : (ctL (tn cc s) (n + 1)).length = (ctL (tn cc s) n).length + 1 := by
        rw [ctL_s, if_pos ht, List.length_append]
        rfl
      refine ev_iload (pc := 17) dL_holds_17 rfl ?_
      refine ev_bipush (pc := 19) (v := 32) dL_holds_19 (by decide) ?_
      refine ev_ic_ge (pc := 21) (tgt := 68) dL_holds_21 (by decide) (fun c_21 => absurd c_21 (nI_ge (show n < 32 by omega) (by decide))) (fun _ => ?_)
      refine ev_aload_n (pc := 24) dL_holds_24 rfl rfl ?_
      refine ev_iload (pc := 25) dL_holds_25 rfl ?_
      refine ev_iload (pc := 27) dL_holds_27 rfl ?_
      refine cS3 (pc := 29) lk_L_holds_29 (Nat.le_of_ble_eq_true rfl) ⟨(show kc + 0 ≤ 1100 by omega), (show ks + 0 ≤ 6800 by omega)⟩ (r_turn hc hs (show n < 36 by omega)) ?_
      refine ev_widen (k2 := kc + 0) (s2 := ks + 0) (show kc + 0 ≤ kc + 0 by omega) (show ks + 0 ≤ ks + 0 by omega) ?_
      refine ev_if_le (pc := 32) (tgt := 62) dL_holds_32 (by decide) (fun c_32 => absurd c_32 (nI_nle ht (by have := tn_lt (cc := cc) (s := s) (i := n); omega))) (fun _ => ?_)
      refine ev_iinc (pc := 35) dL_holds_35 rfl rfl rfl ?_
      rw [nI_i1]
      refine ev_iload (pc := 38) dL_holds_38 rfl ?_
      refine ev_aload (pc := 40) dL_holds_40 rfl ?_
      refine ev_iconst (pc := 42) (v := 0) dL_holds_42 (by decide) ?_
      refine ev_ialdN (pc := 43) dL_holds_43 hf ⟨(show _ = nI 0 from rfl), by decide, by decide⟩ fF_0 ?_
      refine ev_ic_gt (pc := 44) (tgt := 60) dL_holds_44 (by decide) (fun c_44 => absurd c_44 (by exact nI_nlt (show (ctL (tn cc s) n).length + 1 ≤ (ct (tn cc s)).length by omega) (by omega))) (fun _ => ?_)
      refine ev_aload (pc := 47) dL_holds_47 rfl ?_
      refine ev_iload (pc := 49) dL_holds_49 rfl ?_
      refine ev_ialdN (pc := 51) dL_holds_51 hf ⟨(show _ = nI ((ctL (tn cc s) n).length + 1) from rfl), by omega, by decide⟩ (fF_s hat) ?_
      refine ev_iload (pc := 52) dL_holds_52 rfl ?_
      refine cS1 (pc := 54) lk_L_holds_54 (Nat.le_of_ble_eq_true rfl) ⟨(show kc + 0 ≤ 1100 by omega), (show ks + 0 ≤ 6800 by omega)⟩ r_key ?_
      refine ev_widen (k2 := kc + 0) (s2 := ks + 0) (show kc + 0 ≤ kc + 0 by omega) (show ks + 0 ≤ ks + 0 by omega) ?_
      refine ev_ic_eq (pc := 57) (tgt := 62) dL_holds_57 (by decide) (fun _ => ?_) (fun c_57 => absurd rfl c_57)
      refine ev_iinc (pc := 62) dL_holds_62 rfl rfl rfl ?_
      refine ev_goto (pc := 65) (tgt := 17) dL_holds_65 (by decide) ?_
      rw [nI_i1, ← e]
      exact holds_loop hc hf hs hd hdp m (n + 1) _ _ (by omega) (by omega) (by omega)
    · have e : (ctL (tn cc s) (n + 1)).length = (ctL (tn cc s) n).length := by
        rw [ctL_s, if_neg ht, List.append_nil]
      have h0 : tn cc s n = 0 := by omega
      refine ev_iload (pc := 17) dL_holds_17 rfl ?_
      refine ev_bipush (pc := 19) (v := 32) dL_holds_19 (by decide) ?_
      refine ev_ic_ge (pc := 21) (tgt := 68) dL_holds_21 (by decide) (fun c_21 => absurd c_21 (nI_ge (show n < 32 by omega) (by decide))) (fun _ => ?_)
      refine ev_aload_n (pc := 24) dL_holds_24 rfl rfl ?_
      refine ev_iload (pc := 25) dL_holds_25 rfl ?_
      refine ev_iload (pc := 27) dL_holds_27 rfl ?_
      refine cS3 (pc := 29) lk_L_holds_29 (Nat.le_of_ble_eq_true rfl) ⟨(show kc + 0 ≤ 1100 by omega), (show ks + 0 ≤ 6800 by omega)⟩ (r_turn hc hs (show n < 36 by omega)) ?_
      refine ev_widen (k2 := kc + 0) (s2 := ks + 0) (show kc + 0 ≤ kc + 0 by omega) (show ks + 0 ≤ ks + 0 by omega) ?_
      refine ev_if_le (pc := 32) (tgt := 62) dL_holds_32 (by decide) (fun _ => ?_) (fun c_32 => absurd (by rw [h0]; decide) c_32)
      refine ev_iinc (pc := 62) dL_holds_62 rfl rfl rfl ?_
      refine ev_goto (pc := 65) (tgt := 17) dL_holds_65 (by decide) ?_
      rw [nI_i1, ← e]
      exact holds_loop hc hf hs hd hdp m (n + 1) _ _ (by omega) (by omega) (by omega)
theorem r_holds (h : CG N σ (TL cc ep is f g) w) {d p s : Nat} {dp : Int32} (ht : gT1 σ d p (ct (tn cc s))) (hs : s < 8) (hdp : dp < 0 ∨ dp = nI (d + 1)) : ∃ w', CG N σ (TL cc ep is (fF f (ct (tn cc s))) ((bfs (gT σ) d [p]).foldl mkB g)) w' ∧ EvS m_L_holds [.ref 0, .int (nI p), .int dp, .ref 21, .int (nI s), .ref 24, .ref 25] w (.inl (some (.int 1))) w' := by
  obtain ⟨hr, hL, hd⟩ := ht
  have hlen := cg_len h
  have e1 := r_walks h (pf := 24) (pm := 25) ⟨by decide, by decide, by decide, by rw [hlen]; show 24 < 21 + 5; decide, by rw [hlen]; show 25 < 21 + 5; decide⟩ (n := w.length) rfl (tl_f h) (tl_g h) (fun m _ => tl_ok m) hr hL (ctL_srt _ _) (ct_100 _) (ctL_len _ _)
  have C1 := tl_w (f' := fF f (ct (tn cc s))) (g' := (bfs (gT σ) d [p]).foldl mkB g) h
  refine ⟨_, C1, ?_⟩
  refine evs_of (by decide +kernel) (Nat.le_of_ble_eq_true rfl) (by decide) rfl ?_
  refine ev_aload_n (pc := 0) dL_holds_0 rfl rfl ?_
  refine ev_iload_n (pc := 1) dL_holds_1 rfl rfl ?_
  refine ev_aload (pc := 2) dL_holds_2 rfl ?_
  refine ev_aload (pc := 4) dL_holds_4 rfl ?_
  refine cS4 (pc := 6) lk_L_holds_6 (Nat.le_of_ble_eq_true rfl) ⟨Nat.le_of_ble_eq_true rfl, Nat.le_of_ble_eq_true rfl⟩ e1 ?_
  refine ev_istore (pc := 9) dL_holds_9 rfl rfl ?_
  refine ev_iconst (pc := 11) (v := 0) dL_holds_11 (by decide) ?_
  refine ev_istore (pc := 12) dL_holds_12 rfl rfl ?_
  refine ev_iconst (pc := 14) (v := 0) dL_holds_14 (by decide) ?_
  refine ev_istore (pc := 15) dL_holds_15 rfl rfl ?_
  exact holds_loop (tl_c C1) (tl_f C1) hs hd hdp 32 0 _ _ (by omega) (Nat.le_refl _) (Nat.le_refl _)
end TLS
