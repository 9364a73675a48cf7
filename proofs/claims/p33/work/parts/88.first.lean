/-! THE LAW: the first key below a page -/
abbrev iA (n : Nat) (f : Nat → Int32) : mC := .inl (0, n, .inl f)
abbrev lA (n : Nat) (f : Nat → Int64) : mC := .inl (2, n, .inr (.inl f))
section FI
variable {N : Nat} {σ : SS} {tl : List mC} {w : mW}
theorem first_loop (h : CG N σ tl w) {key : Nat} {p1 : Int32} : ∀ (e c j kc ks : Nat), fl (gT σ) (gU σ) e c → mkT (gT σ) e c = key → j + e ≤ 8 → kc + 4 * e + 4 ≤ 20 → ks ≤ 6 * kc → EvF m_L_first (mQm m_L_first (.inl (some (.int (nI key)))) w) 4 [.ref 0, .int p1, .int (nI c), .int (nI j)] [] kc ks w
  | 0, c, j, kc, ks, hf, hk, hj, hkc, hks => by
    obtain ⟨hu, l, hl, h2, h4⟩ := hf
    obtain ⟨x, r, rfl⟩ : ∃ x r, l = x :: r := by
      cases l with
      | nil => simp at h2
      | cons x r => exact ⟨x, r, rfl⟩
    have hx : x.1 = key := by
      rw [← hk]
      unfold mkT
      rw [hl]
    refine ev_iload_n (pc := 4) dL_first_4 rfl rfl ?_
    refine ev_bipush (pc := 5) (v := 9) dL_first_5 (by decide) ?_
    refine ev_ic_ge (pc := 7) (tgt := 32) dL_first_7 (by decide) (fun c_7 => absurd c_7 (nI_ge (show j < 9 by omega) (by decide))) (fun _ => ?_)
    refine ev_aload_n (pc := 10) dL_first_10 rfl rfl ?_
    refine ev_iload_n (pc := 11) dL_first_11 rfl rfl ?_
    refine ev_iconst (pc := 12) (v := 0) dL_first_12 (by decide) ?_
    refine cX3 (pc := 13) lk_L_first_13 (Nat.le_of_ble_eq_true rfl) ⟨(show kc + 2 ≤ 20 by omega), (show ks + 12 ≤ 120 by omega)⟩ (r_pageAtL h hu hl (e := 0) (by simp)) ?_
    refine ev_widen (k2 := kc + 2) (s2 := ks + 12) (show kc + 2 ≤ kc + 2 by omega) (show ks + 12 ≤ ks + 12 by omega) ?_
    refine ev_if_lt (pc := 16) (tgt := 32) dL_first_16 (by decide) (fun _ => ?_) (fun c_16 => absurd (by decide) c_16)
    refine ev_aload_n (pc := 32) dL_first_32 rfl rfl ?_
    refine ev_iload_n (pc := 33) dL_first_33 rfl rfl ?_
    refine ev_iconst (pc := 34) (v := 0) dL_first_34 (by decide) ?_
    refine cX3 (pc := 35) lk_L_first_35 (Nat.le_of_ble_eq_true rfl) ⟨(show kc + 2 + 2 ≤ 20 by omega), (show ks + 12 + 12 ≤ 120 by omega)⟩ (r_keyAt h hu (e := 0) (Or.inl ⟨_, x, hl, rfl, hx⟩)) ?_
    refine ev_widen (k2 := kc + 4) (s2 := ks + 24) (show kc + 2 + 2 ≤ kc + 4 by omega) (show ks + 12 + 12 ≤ ks + 24 by omega) ?_
    exact ev_iretE (pc := 38) dL_first_38 rfl ⟨(show kc + 4 ≤ 20 by omega), (show ks + 24 ≤ 120 by omega)⟩ rfl rfl
  | e + 1, c, j, kc, ks, hf, hk, hj, hkc, hks => by
    obtain ⟨hu, l, hl, h2, h4, hk2⟩ := hf
    obtain ⟨x, r, rfl⟩ : ∃ x r, l = x :: r := by
      cases l with
      | nil => simp at h2
      | cons x r => exact ⟨x, r, rfl⟩
    have hx : mkT (gT σ) e x = key := by
      rw [← hk]
      show _ = (match gT σ c with
        | .inr (c :: _) => mkT (gT σ) e c
        | _ => 0)
      rw [hl]
    have hfx := hk2 x List.mem_cons_self
    have hx7 : x < 720 := (cg_I h).2.2.1 x (fl_U hfx)
    refine ev_iload_n (pc := 4) dL_first_4 rfl rfl ?_
    refine ev_bipush (pc := 5) (v := 9) dL_first_5 (by decide) ?_
    refine ev_ic_ge (pc := 7) (tgt := 32) dL_first_7 (by decide) (fun c_7 => absurd c_7 (nI_ge (show j < 9 by omega) (by decide))) (fun _ => ?_)
    refine ev_aload_n (pc := 10) dL_first_10 rfl rfl ?_
    refine ev_iload_n (pc := 11) dL_first_11 rfl rfl ?_
    refine ev_iconst (pc := 12) (v := 0) dL_first_12 (by decide) ?_
    refine cX3 (pc := 13) lk_L_first_13 (Nat.le_of_ble_eq_true rfl) ⟨(show kc + 2 ≤ 20 by omega), (show ks + 12 ≤ 120 by omega)⟩ (r_pageAtI h hu hl (e := 0) rfl) ?_
    refine ev_widen (k2 := kc + 2) (s2 := ks + 12) (show kc + 2 ≤ kc + 2 by omega) (show ks + 12 ≤ ks + 12 by omega) ?_
    refine ev_if_lt (pc := 16) (tgt := 32) dL_first_16 (by decide) (fun c_16 => absurd c_16 (hp0 (by omega))) (fun _ => ?_)
    refine ev_aload_n (pc := 19) dL_first_19 rfl rfl ?_
    refine ev_iload_n (pc := 20) dL_first_20 rfl rfl ?_
    refine ev_iconst (pc := 21) (v := 0) dL_first_21 (by decide) ?_
    refine cX3 (pc := 22) lk_L_first_22 (Nat.le_of_ble_eq_true rfl) ⟨(show kc + 2 + 2 ≤ 20 by omega), (show ks + 12 + 12 ≤ 120 by omega)⟩ (r_pageAtI h hu hl (e := 0) rfl) ?_
    refine ev_widen (k2 := kc + 4) (s2 := ks + 24) (show kc + 2 + 2 ≤ kc + 4 by omega) (show ks + 12 + 12 ≤ ks + 24 by omega) ?_
    refine ev_istore_n (pc := 25) dL_first_25 rfl rfl rfl ?_
    refine ev_iinc (pc := 26) dL_first_26 rfl rfl rfl ?_
    refine ev_goto (pc := 29) (tgt := 4) dL_first_29 (by decide) ?_
    rw [nI_i1]
    exact first_loop h e x (j + 1) _ _ hfx hx (by omega) (by omega) (by omega)
theorem r_first (h : CG N σ tl w) {e c : Nat} (hf : fl (gT σ) (gU σ) e c) (he : e ≤ 4) : EvS m_L_first [.ref 0, .int (nI c)] w (.inl (some (.int (nI (mkT (gT σ) e c))))) w := by
  refine evs_of (by decide +kernel) (Nat.le_of_ble_eq_true rfl) (by decide) rfl ?_
  refine ev_iload_n (pc := 0) dL_first_0 rfl rfl ?_
  refine ev_istore_n (pc := 1) dL_first_1 rfl rfl rfl ?_
  refine ev_iconst (pc := 2) (v := 0) dL_first_2 (by decide) ?_
  refine ev_istore_n (pc := 3) dL_first_3 rfl rfl rfl ?_
  exact first_loop h e c 0 0 0 hf rfl (by omega) (by omega) (by omega)
end FI
