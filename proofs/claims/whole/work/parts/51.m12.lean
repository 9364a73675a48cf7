/-! the model: counting keys, counting met pages -/
/-- a weight summed over a tree's pages -/
def wsm (T : Nat → Nd) (f : Nat → Nat) : Nat → Nat → Nat
  | 0, p => f p
  | d + 1, p => f p + ((kids (T p)).map (wsm T f d)).sum
/-- how many of a leaf's keys are less -/
def cnL : List (Nat × Int32) → Int32 → Nat
  | [], _ => 0
  | x :: r, a => (if nI x.1 < a then 1 else 0) + cnL r a
def lfW (T : Nat → Nd) (a : Int32) (p : Nat) : Nat := match T p with
  | .inl l => cnL l a
  | .inr _ => 0
def mkW (met : Nat → Int32) (p : Nat) : Nat := if met p = 0 then 0 else 1
abbrev one1 : Nat → Nat := fun _ => 1
def stW (T : Nat → Nd) (f : Nat → Nat) (S : List (Nat × Nat)) : Nat := (S.map (fun x => wsm T f x.1 x.2)).sum
theorem stW_app (T : Nat → Nd) (f : Nat → Nat) (A B : List (Nat × Nat)) : stW T f (A ++ B) = stW T f A + stW T f B := by simp [stW]
theorem stW_1 (T : Nat → Nd) (f : Nat → Nat) (x : Nat × Nat) : stW T f [x] = wsm T f x.1 x.2 := by simp [stW]
theorem wsm_pos (T : Nat → Nd) : ∀ (d p : Nat), 1 ≤ wsm T one1 d p
  | 0, p => Nat.le_refl _
  | d + 1, p => Nat.le_add_right 1 _
theorem stW_len (T : Nat → Nd) : ∀ S : List (Nat × Nat), S.length ≤ stW T one1 S
  | [] => Nat.zero_le _
  | x :: S => by
    have h1 := stW_len T S
    have h2 := wsm_pos T x.1 x.2
    have h3 : stW T one1 (x :: S) = wsm T one1 x.1 x.2 + stW T one1 S := by simp [stW]
    rw [h3, List.length_cons]
    omega
theorem stW_kids (T : Nat → Nd) (f : Nat → Nat) (d : Nat) (l : List Nat) : stW T f (l.map (fun c => (d, c))) = (l.map (wsm T f d)).sum := by
  unfold stW
  rw [List.map_map]
  rfl
theorem list_snoc {S : List (Nat × Nat)} (h : S ≠ []) : ∃ A x, S = A ++ [x] := ⟨S.dropLast, S.getLast h, (List.dropLast_concat_getLast h).symm⟩
section M12
variable {U : Nat → Prop} {T : Nat → Nd}
theorem l_belowL {cc : C21} {ep ro bb sl th dp : Int32} {many inn item val wr met rst : Nat → Int32} {wds : Nat → Int64} {opd ope way tk : Nat → Int32} {tl : List mC} (hR : Rm many inn item val T U) {p : Nat} {l : List (Nat × Int32)} (hu : U p) (ht : T p = .inl l) (tp left : Int32) (a : Int32) {Qf : mQ} : ∀ (r b : List (Nat × Int32)) (s : Nat) (v7 : Value), l = b ++ r → (∀ v6 v7 : Value, EvF m_X4_below Qf 12 [.ref 21, .int tp, .int a, .int (nI (s + cnL r a)), .int left, .int (nI p), v6, v7] [] 0 0 (dW cc ep ro bb sl th dp many inn item val wr met rst wds opd ope way tk tl)) → EvF m_X4_below Qf 32 [.ref 21, .int tp, .int a, .int (nI s), .int left, .int (nI p), .int (nI b.length), v7] [] 0 0 (dW cc ep ro bb sl th dp many inn item val wr met rst wds opd ope way tk tl) := by
  obtain ⟨hp, hi, h5, hc, hrow, hva, hk1⟩ := hR.leaf hu ht
  intro r
  induction r with
  | nil =>
    intro b s v7 hb k
    rw [List.append_nil] at hb
    subst hb
    refine ev_iload (pc := 32) dX4_below_32 rfl ?_
    refine ev_aload_n (pc := 34) dX4_below_34 rfl rfl ?_
    refine ev_get (pc := 35) dX4_below_35 fd_X4_7 rfl rfl ?_
    refine ev_iload (pc := 38) dX4_below_38 rfl ?_
    refine ev_ialdN (pc := 40) dX4_below_40 rfl ⟨rfl, hp, by decide⟩ hc ?_
    refine ev_ic_ge (pc := 41) (tgt := 103) dX4_below_41 (by decide) (fun _ => ?_) (fun c_41 => absurd (by exact nI_le (Nat.le_refl _) (by omega)) c_41)
    refine ev_goto (pc := 103) (tgt := 12) dX4_below_103 (by decide) ?_
    exact k _ _
  | cons x r ih =>
    intro b s v7 hb k
    have hlt : b.length < l.length := by rw [hb]; simp
    have hx : l[b.length]? = some x := by rw [hb, List.getElem?_append_right (Nat.le_refl _), Nat.sub_self]; rfl
    have hb2 : l = (b ++ [x]) ++ r := by rw [hb]; simp
    have hbl : (b ++ [x]).length = b.length + 1 := by simp
    by_cases hxa : nI x.1 < a
    · have h9 := ih (b ++ [x]) (s + 1) (.int (nI x.1)) hb2 (fun v6 v7 => by
        have h8 := k v6 v7
        simp only [cnL, if_pos hxa] at h8
        rw [show s + (1 + cnL r a) = s + 1 + cnL r a by omega] at h8
        exact h8)
      rw [hbl] at h9
      refine ev_iload (pc := 32) dX4_below_32 rfl ?_
      refine ev_aload_n (pc := 34) dX4_below_34 rfl rfl ?_
      refine ev_get (pc := 35) dX4_below_35 fd_X4_7 rfl rfl ?_
      refine ev_iload (pc := 38) dX4_below_38 rfl ?_
      refine ev_ialdN (pc := 40) dX4_below_40 rfl ⟨rfl, hp, by decide⟩ hc ?_
      refine ev_ic_ge (pc := 41) (tgt := 103) dX4_below_41 (by decide) (fun c_41 => absurd c_41 (nI_ge hlt (by omega))) (fun _ => ?_)
      refine ev_aload_n (pc := 44) dX4_below_44 rfl rfl ?_
      refine ev_get (pc := 45) dX4_below_45 fd_X4_17 rfl rfl ?_
      refine ev_iconst (pc := 48) (v := 5) dX4_below_48 (by decide) ?_
      refine ev_iload (pc := 49) dX4_below_49 rfl ?_
      refine ev_imul (pc := 51) dX4_below_51 ?_
      refine ev_iload (pc := 52) dX4_below_52 rfl ?_
      refine ev_iadd (pc := 54) dX4_below_54 ?_
      refine ev_ialdN (pc := 55) dX4_below_55 rfl ⟨(ix5m p b.length), by omega, by decide⟩ (row_ky hrow hx) ?_
      refine ev_istore (pc := 56) dX4_below_56 rfl rfl ?_
      refine ev_aload_n (pc := 58) dX4_below_58 rfl rfl ?_
      refine ev_get (pc := 59) dX4_below_59 fd_X4_13 rfl rfl ?_
      refine ev_iload (pc := 62) dX4_below_62 rfl ?_
      refine ev_zaldN (pc := 64) dX4_below_64 rfl ⟨rfl, hp, by decide⟩ hi ?_
      refine ev_if_eq (pc := 65) (tgt := 83) dX4_below_65 (by decide) (fun _ => ?_) (fun c_65 => absurd rfl c_65)
      refine ev_iload_n (pc := 83) dX4_below_83 rfl rfl ?_
      refine ev_iload (pc := 84) dX4_below_84 rfl ?_
      refine ev_iload_n (pc := 86) dX4_below_86 rfl rfl ?_
      refine ev_ic_ge (pc := 87) (tgt := 94) dX4_below_87 (by decide) (fun c_87 => absurd c_87 (Int32.not_le.mpr hxa)) (fun _ => ?_)
      refine ev_iconst (pc := 90) (v := 1) dX4_below_90 (by decide) ?_
      refine ev_goto (pc := 91) (tgt := 95) dX4_below_91 (by decide) ?_
      refine ev_iadd (pc := 95) dX4_below_95 ?_
      rw [nI_a1]
      refine ev_istore_n (pc := 96) dX4_below_96 rfl rfl rfl ?_
      refine ev_iinc (pc := 97) dX4_below_97 rfl rfl rfl ?_
      refine ev_goto (pc := 100) (tgt := 32) dX4_below_100 (by decide) ?_
      rw [nI_i1]
      exact h9
    · have h9 := ih (b ++ [x]) s (.int (nI x.1)) hb2 (fun v6 v7 => by
        have h8 := k v6 v7
        simp only [cnL, if_neg hxa, Nat.zero_add] at h8
        exact h8)
      rw [hbl] at h9
      refine ev_iload (pc := 32) dX4_below_32 rfl ?_
      refine ev_aload_n (pc := 34) dX4_below_34 rfl rfl ?_
      refine ev_get (pc := 35) dX4_below_35 fd_X4_7 rfl rfl ?_
      refine ev_iload (pc := 38) dX4_below_38 rfl ?_
      refine ev_ialdN (pc := 40) dX4_below_40 rfl ⟨rfl, hp, by decide⟩ hc ?_
      refine ev_ic_ge (pc := 41) (tgt := 103) dX4_below_41 (by decide) (fun c_41 => absurd c_41 (nI_ge hlt (by omega))) (fun _ => ?_)
      refine ev_aload_n (pc := 44) dX4_below_44 rfl rfl ?_
      refine ev_get (pc := 45) dX4_below_45 fd_X4_17 rfl rfl ?_
      refine ev_iconst (pc := 48) (v := 5) dX4_below_48 (by decide) ?_
      refine ev_iload (pc := 49) dX4_below_49 rfl ?_
      refine ev_imul (pc := 51) dX4_below_51 ?_
      refine ev_iload (pc := 52) dX4_below_52 rfl ?_
      refine ev_iadd (pc := 54) dX4_below_54 ?_
      refine ev_ialdN (pc := 55) dX4_below_55 rfl ⟨(ix5m p b.length), by omega, by decide⟩ (row_ky hrow hx) ?_
      refine ev_istore (pc := 56) dX4_below_56 rfl rfl ?_
      refine ev_aload_n (pc := 58) dX4_below_58 rfl rfl ?_
      refine ev_get (pc := 59) dX4_below_59 fd_X4_13 rfl rfl ?_
      refine ev_iload (pc := 62) dX4_below_62 rfl ?_
      refine ev_zaldN (pc := 64) dX4_below_64 rfl ⟨rfl, hp, by decide⟩ hi ?_
      refine ev_if_eq (pc := 65) (tgt := 83) dX4_below_65 (by decide) (fun _ => ?_) (fun c_65 => absurd rfl c_65)
      refine ev_iload_n (pc := 83) dX4_below_83 rfl rfl ?_
      refine ev_iload (pc := 84) dX4_below_84 rfl ?_
      refine ev_iload_n (pc := 86) dX4_below_86 rfl rfl ?_
      refine ev_ic_ge (pc := 87) (tgt := 94) dX4_below_87 (by decide) (fun _ => ?_) (fun c_87 => absurd (Int32.not_lt.mp hxa) c_87)
      refine ev_iconst (pc := 94) (v := 0) dX4_below_94 (by decide) ?_
      refine ev_iadd (pc := 95) dX4_below_95 ?_
      rw [Int32.add_zero]
      refine ev_istore_n (pc := 96) dX4_below_96 rfl rfl rfl ?_
      refine ev_iinc (pc := 97) dX4_below_97 rfl rfl rfl ?_
      refine ev_goto (pc := 100) (tgt := 32) dX4_below_100 (by decide) ?_
      rw [nI_i1]
      exact h9
theorem l_belowI {cc : C21} {ep ro bb sl th dp : Int32} {many inn item val wr met rst : Nat → Int32} {wds : Nat → Int64} {opd ope way tk : Nat → Int32} {tl : List mC} (hR : Rm many inn item val T U) {p : Nat} {l : List Nat} (hu : U p) (ht : T p = .inr l) (tp s : Int32) (a : Int32) : ∀ (r b S : List Nat) (rst : Nat → Int32), l = b ++ r → stkR rst S → S.length + r.length ≤ 720 → ∃ rst', stkR rst' (S ++ r) ∧ ∀ (Qf : mQ) (v7 : Value), (∀ v6 v7 : Value, EvF m_X4_below Qf 12 [.ref 21, .int tp, .int a, .int s, .int (nI (S ++ r).length), .int (nI p), v6, v7] [] 0 0 (dW cc ep ro bb sl th dp many inn item val wr met rst' wds opd ope way tk tl)) → EvF m_X4_below Qf 32 [.ref 21, .int tp, .int a, .int s, .int (nI S.length), .int (nI p), .int (nI b.length), v7] [] 0 0 (dW cc ep ro bb sl th dp many inn item val wr met rst wds opd ope way tk tl) := by
  obtain ⟨hp, hi, h5, hc, hrow, hk7⟩ := hR.inner hu ht
  intro r
  induction r with
  | nil =>
    intro b S rst hb hst _
    rw [List.append_nil] at hb
    subst hb
    rw [List.append_nil]
    refine ⟨rst, hst, fun Qf v7 k1 => ?_⟩
    refine ev_iload (pc := 32) dX4_below_32 rfl ?_
    refine ev_aload_n (pc := 34) dX4_below_34 rfl rfl ?_
    refine ev_get (pc := 35) dX4_below_35 fd_X4_7 rfl rfl ?_
    refine ev_iload (pc := 38) dX4_below_38 rfl ?_
    refine ev_ialdN (pc := 40) dX4_below_40 rfl ⟨rfl, hp, by decide⟩ hc ?_
    refine ev_ic_ge (pc := 41) (tgt := 103) dX4_below_41 (by decide) (fun _ => ?_) (fun c_41 => absurd (by exact nI_le (Nat.le_refl _) (by omega)) c_41)
    refine ev_goto (pc := 103) (tgt := 12) dX4_below_103 (by decide) ?_
    exact k1 _ _
  | cons x r ih =>
    intro b S rst hb hst hlen
    have hlt : b.length < l.length := by rw [hb]; simp
    have hx : l[b.length]? = some x := by rw [hb, List.getElem?_append_right (Nat.le_refl _), Nat.sub_self]; rfl
    have hb2 : l = (b ++ [x]) ++ r := by rw [hb]; simp
    have hbl : (b ++ [x]).length = b.length + 1 := by simp
    have hSl : (S ++ [x]).length = S.length + 1 := by simp
    rw [List.length_cons] at hlen
    obtain ⟨rst', hs', e⟩ := ih (b ++ [x]) (S ++ [x]) (upd rst S.length (nI x)) hb2 (stk_push hst) (by rw [hSl]; omega)
    rw [show S ++ x :: r = S ++ [x] ++ r by simp]
    refine ⟨rst', hs', fun Qf v7 k => ?_⟩
    have h9 := e Qf (.int (nI x)) k
    rw [hbl, hSl] at h9
    refine ev_iload (pc := 32) dX4_below_32 rfl ?_
    refine ev_aload_n (pc := 34) dX4_below_34 rfl rfl ?_
    refine ev_get (pc := 35) dX4_below_35 fd_X4_7 rfl rfl ?_
    refine ev_iload (pc := 38) dX4_below_38 rfl ?_
    refine ev_ialdN (pc := 40) dX4_below_40 rfl ⟨rfl, hp, by decide⟩ hc ?_
    refine ev_ic_ge (pc := 41) (tgt := 103) dX4_below_41 (by decide) (fun c_41 => absurd c_41 (nI_ge hlt (by omega))) (fun _ => ?_)
    refine ev_aload_n (pc := 44) dX4_below_44 rfl rfl ?_
    refine ev_get (pc := 45) dX4_below_45 fd_X4_17 rfl rfl ?_
    refine ev_iconst (pc := 48) (v := 5) dX4_below_48 (by decide) ?_
    refine ev_iload (pc := 49) dX4_below_49 rfl ?_
    refine ev_imul (pc := 51) dX4_below_51 ?_
    refine ev_iload (pc := 52) dX4_below_52 rfl ?_
    refine ev_iadd (pc := 54) dX4_below_54 ?_
    refine ev_ialdN (pc := 55) dX4_below_55 rfl ⟨(ix5m p b.length), by omega, by decide⟩ (row_ch hrow hx) ?_
    refine ev_istore (pc := 56) dX4_below_56 rfl rfl ?_
    refine ev_aload_n (pc := 58) dX4_below_58 rfl rfl ?_
    refine ev_get (pc := 59) dX4_below_59 fd_X4_13 rfl rfl ?_
    refine ev_iload (pc := 62) dX4_below_62 rfl ?_
    refine ev_zaldN (pc := 64) dX4_below_64 rfl ⟨rfl, hp, by decide⟩ hi ?_
    refine ev_if_eq (pc := 65) (tgt := 83) dX4_below_65 (by decide) (fun c_65 => absurd c_65 (by decide)) (fun _ => ?_)
    refine ev_aload_n (pc := 68) dX4_below_68 rfl rfl ?_
    refine ev_get (pc := 69) dX4_below_69 fd_X4_29 rfl rfl ?_
    refine ev_iload (pc := 72) dX4_below_72 rfl ?_
    refine ev_iload (pc := 74) dX4_below_74 rfl ?_
    refine ev_iastN (pc := 76) dX4_below_76 rfl ⟨rfl, by omega, by decide⟩ rfl rfl ?_
    refine ev_iinc (pc := 77) dX4_below_77 rfl rfl rfl ?_
    refine ev_goto (pc := 80) (tgt := 97) dX4_below_80 (by decide) ?_
    refine ev_iinc (pc := 97) dX4_below_97 rfl rfl rfl ?_
    refine ev_goto (pc := 100) (tgt := 32) dX4_below_100 (by decide) ?_
    rw [nI_i1, nI_i1]
    exact h9
theorem l_below {cc : C21} {ep ro bb sl th dp : Int32} {many inn item val wr met rst : Nat → Int32} {wds : Nat → Int64} {opd ope way tk : Nat → Int32} {tl : List mC} (hR : Rm many inn item val T U) (tp a : Int32) : ∀ (N : Nat) (S : List (Nat × Nat)) (rst : Nat → Int32) (s : Nat), stW T one1 S ≤ N → N ≤ 700 → (∀ x ∈ S, rt T U x.1 x.2) → stkR rst (S.map (fun x => x.2)) → ∃ rst', ∀ v5 v6 v7 : Value, EvF m_X4_below (mQm m_X4_below (.inl (some (.int (nI (s + stW T (lfW T a) S))))) (dW cc ep ro bb sl th dp many inn item val wr met rst' wds opd ope way tk tl)) 12 [.ref 21, .int tp, .int a, .int (nI s), .int (nI S.length), v5, v6, v7] [] 0 0 (dW cc ep ro bb sl th dp many inn item val wr met rst wds opd ope way tk tl) := by
  intro N
  induction N with
  | zero =>
    intro S rst s hN hN7 hS hst
    have h1 := stW_len T S
    have hS0 : S = [] := List.length_eq_zero_iff.mp (by omega)
    subst hS0
    refine ⟨rst, fun v5 v6 v7 => ?_⟩
    refine ev_iload (pc := 12) dX4_below_12 rfl ?_
    refine ev_if_le (pc := 14) (tgt := 106) dX4_below_14 (by decide) (fun _ => ?_) (fun c_14 => absurd (by decide) c_14)
    refine ev_iload_n (pc := 106) dX4_below_106 rfl rfl ?_
    exact ev_iretE (pc := 107) dX4_below_107 rfl ⟨Nat.le_of_ble_eq_true rfl, Nat.le_of_ble_eq_true rfl⟩ (by simp [stW]) rfl
  | succ N ih =>
    intro S rst s hN hN7 hS hst
    by_cases hS0 : S = []
    · subst hS0
      refine ⟨rst, fun v5 v6 v7 => ?_⟩
      refine ev_iload (pc := 12) dX4_below_12 rfl ?_
      refine ev_if_le (pc := 14) (tgt := 106) dX4_below_14 (by decide) (fun _ => ?_) (fun c_14 => absurd (by decide) c_14)
      refine ev_iload_n (pc := 106) dX4_below_106 rfl rfl ?_
      exact ev_iretE (pc := 107) dX4_below_107 rfl ⟨Nat.le_of_ble_eq_true rfl, Nat.le_of_ble_eq_true rfl⟩ (by simp [stW]) rfl
    · obtain ⟨A, ⟨d, p⟩, rfl⟩ := list_snoc hS0
      have hx := hS (d, p) (List.mem_append_right _ (List.mem_singleton.mpr rfl))
      have hAS : ∀ x ∈ A, rt T U x.1 x.2 := fun x hx => hS x (List.mem_append_left _ hx)
      rw [stW_app, stW_1] at hN
      dsimp only at hN
      have hA := stW_len T A
      have hp1 := wsm_pos T d p
      rw [List.map_append] at hst
      obtain ⟨hst1, hst2⟩ := stk_pop hst
      rw [List.length_map] at hst2
      have hl1 : (A ++ [(d, p)]).length = A.length + 1 := by simp
      have hu : U p := rt_U hx
      have hW : stW T (lfW T a) (A ++ [(d, p)]) = stW T (lfW T a) A + wsm T (lfW T a) d p := by rw [stW_app, stW_1]
      rw [hW]
      cases d with
      | zero =>
        obtain ⟨-, l, ht, -⟩ := hx
        have hp7 := (hR p hu).1
        obtain ⟨rst', e1⟩ := ih A rst (s + cnL l a) (by omega) (by omega) hAS hst1
        refine ⟨rst', fun v5 v6 v7 => ?_⟩
        have hw : wsm T (lfW T a) 0 p = cnL l a := by unfold wsm lfW; rw [ht]
        rw [hw, show s + (stW T (lfW T a) A + cnL l a) = s + cnL l a + stW T (lfW T a) A by omega, hl1]
        refine ev_iload (pc := 12) dX4_below_12 rfl ?_
        refine ev_if_le (pc := 14) (tgt := 106) dX4_below_14 (by decide) (fun c_14 => absurd c_14 (by exact nI_nle (show 0 < A.length + 1 by omega) (by omega))) (fun _ => ?_)
        refine ev_iinc (pc := 17) dX4_below_17 rfl rfl rfl ?_
        rw [nI_im (show 0 < A.length + 1 by omega), Nat.add_sub_cancel]
        refine ev_aload_n (pc := 20) dX4_below_20 rfl rfl ?_
        refine ev_get (pc := 21) dX4_below_21 fd_X4_29 rfl rfl ?_
        refine ev_iload (pc := 24) dX4_below_24 rfl ?_
        refine ev_ialdN (pc := 26) dX4_below_26 rfl ⟨rfl, by omega, by decide⟩ hst2 ?_
        refine ev_istore (pc := 27) dX4_below_27 rfl rfl ?_
        refine ev_iconst (pc := 29) (v := 0) dX4_below_29 (by decide) ?_
        refine ev_istore (pc := 30) dX4_below_30 rfl rfl ?_
        exact l_belowL (cc := cc) (ep := ep) (ro := ro) (bb := bb) (sl := sl) (th := th) (dp := dp) (many := many) (inn := inn) (item := item) (val := val) (wr := wr) (met := met) (rst := rst) (wds := wds) (opd := opd) (ope := ope) (way := way) (tk := tk) (tl := tl) hR hu ht tp (nI A.length) a l [] s v7 rfl (fun v6 v7 => e1 _ _ _)
      | succ d =>
        obtain ⟨-, l, ht, -, -, hfl⟩ := hx
        have hk : kids (T p) = l := by rw [ht]; rfl
        have hp7 := (hR p hu).1
        have hw1 : wsm T one1 (d + 1) p = 1 + stW T one1 (l.map (fun c => (d, c))) := by
          rw [stW_kids]
          show 1 + ((kids (T p)).map (wsm T one1 d)).sum = _
          rw [hk]
        have hw2 : wsm T (lfW T a) (d + 1) p = stW T (lfW T a) (l.map (fun c => (d, c))) := by
          rw [stW_kids]
          show lfW T a p + ((kids (T p)).map (wsm T (lfW T a) d)).sum = _
          rw [hk]
          unfold lfW
          rw [ht, Nat.zero_add]
        have hB := stW_len T (A ++ l.map (fun c => (d, c)))
        have hsum : stW T one1 (A ++ l.map (fun c => (d, c))) ≤ N := by rw [stW_app]; omega
        have hAl : (A ++ l.map (fun c => (d, c))).length = A.length + l.length := by simp
        have hmap : (A ++ l.map (fun c => (d, c))).map (fun x => x.2) = A.map (fun x => x.2) ++ l := by simp [List.map_map, Function.comp_def]
        have hlA : (A.map (fun x => x.2)).length = A.length := List.length_map _
        obtain ⟨rst1, hst3, hgo⟩ := l_belowI (cc := cc) (ep := ep) (ro := ro) (bb := bb) (sl := sl) (th := th) (dp := dp) (many := many) (inn := inn) (item := item) (val := val) (wr := wr) (met := met) (rst := rst) (wds := wds) (opd := opd) (ope := ope) (way := way) (tk := tk) (tl := tl) hR hu ht tp (nI s) a l [] (A.map (fun x => x.2)) rst rfl hst1 (by rw [hlA]; rw [hAl] at hB; omega)
        rw [hlA] at hgo
        obtain ⟨rst', e1⟩ := ih (A ++ l.map (fun c => (d, c))) rst1 s hsum (by omega) (fun x hx => (List.mem_append.mp hx).elim (hAS x) (fun h => by
          obtain ⟨c, hc, rfl⟩ := List.mem_map.mp h
          exact fl_rt (hfl c hc))) (by rw [hmap]; exact hst3)
        refine ⟨rst', fun v5 v6 v7 => ?_⟩
        rw [hw2, ← stW_app, hl1]
        refine ev_iload (pc := 12) dX4_below_12 rfl ?_
        refine ev_if_le (pc := 14) (tgt := 106) dX4_below_14 (by decide) (fun c_14 => absurd c_14 (by exact nI_nle (show 0 < A.length + 1 by omega) (by omega))) (fun _ => ?_)
        refine ev_iinc (pc := 17) dX4_below_17 rfl rfl rfl ?_
        rw [nI_im (show 0 < A.length + 1 by omega), Nat.add_sub_cancel]
        refine ev_aload_n (pc := 20) dX4_below_20 rfl rfl ?_
        refine ev_get (pc := 21) dX4_below_21 fd_X4_29 rfl rfl ?_
        refine ev_iload (pc := 24) dX4_below_24 rfl ?_
        refine ev_ialdN (pc := 26) dX4_below_26 rfl ⟨rfl, by omega, by decide⟩ hst2 ?_
        refine ev_istore (pc := 27) dX4_below_27 rfl rfl ?_
        refine ev_iconst (pc := 29) (v := 0) dX4_below_29 (by decide) ?_
        refine ev_istore (pc := 30) dX4_below_30 rfl rfl ?_
        exact hgo _ v7 (fun v6 v7 => by
          have h9 := e1 (.int (nI p)) v6 v7
          rw [hAl] at h9
          rw [List.length_append, hlA]
          exact h9)
theorem s_below {cc : C21} {ep ro bb sl th dp : Int32} {many inn item val wr met rst : Nat → Int32} {wds : Nat → Int64} {opd ope way tk : Nat → Int32} {tl : List mC} (hR : Rm many inn item val T U) {d p : Nat} (hf : rt T U d p) (hn : wsm T one1 d p ≤ 700) (a : Int32) : ∃ rst', EvS m_X4_below [.ref 21, .int (nI p), .int a] (dW cc ep ro bb sl th dp many inn item val wr met rst wds opd ope way tk tl) (.inl (some (.int (nI (wsm T (lfW T a) d p))))) (dW cc ep ro bb sl th dp many inn item val wr met rst' wds opd ope way tk tl) := by
  obtain ⟨rst', e1⟩ := l_below (cc := cc) (ep := ep) (ro := ro) (bb := bb) (sl := sl) (th := th) (dp := dp) (many := many) (inn := inn) (item := item) (val := val) (wr := wr) (met := met) (rst := rst) (wds := wds) (opd := opd) (ope := ope) (way := way) (tk := tk) (tl := tl) hR (nI p) a 700 [(d, p)] (upd rst 0 (nI p)) 0 (by rw [stW_1]; exact hn) (Nat.le_refl _) (fun x hx => by rw [List.mem_singleton.mp hx]; exact hf) (fun j x hj => by cases j with
    | zero => simp at hj; rw [← hj]; exact pk_us
    | succ j => simp at hj)
  refine ⟨rst', ?_⟩
  have h9 := e1 hole hole hole
  rw [stW_1, Nat.zero_add] at h9
  refine evs_of (by decide +kernel) (Nat.le_of_ble_eq_true rfl) (by decide) rfl rfl ?_
  refine ev_iconst (pc := 0) (v := 0) dX4_below_0 (by decide) ?_
  refine ev_istore_n (pc := 1) dX4_below_1 rfl rfl rfl ?_
  refine ev_iconst (pc := 2) (v := 1) dX4_below_2 (by decide) ?_
  refine ev_istore (pc := 3) dX4_below_3 rfl rfl ?_
  refine ev_aload_n (pc := 5) dX4_below_5 rfl rfl ?_
  refine ev_get (pc := 6) dX4_below_6 fd_X4_29 rfl rfl ?_
  refine ev_iconst (pc := 9) (v := 0) dX4_below_9 (by decide) ?_
  refine ev_iload_n (pc := 10) dX4_below_10 rfl rfl ?_
  refine ev_iastN (pc := 11) dX4_below_11 rfl ⟨rfl, by decide, by decide⟩ rfl rfl ?_
  exact h9
theorem s_keys {cc : C21} {ep ro bb sl th dp : Int32} {many inn item val wr met rst : Nat → Int32} {wds : Nat → Int64} {opd ope way tk : Nat → Int32} {tl : List mC} (hR : Rm many inn item val T U) {d p : Nat} (hf : rt T U d p) (hn : wsm T one1 d p ≤ 700) : ∃ rst', EvS m_X4_keys [.ref 21, .int (nI p)] (dW cc ep ro bb sl th dp many inn item val wr met rst wds opd ope way tk tl) (.inl (some (.int (nI (wsm T (lfW T 100) d p))))) (dW cc ep ro bb sl th dp many inn item val wr met rst' wds opd ope way tk tl) := by
  obtain ⟨rst', e1⟩ := s_below (cc := cc) (ep := ep) (ro := ro) (bb := bb) (sl := sl) (th := th) (dp := dp) (many := many) (inn := inn) (item := item) (val := val) (wr := wr) (met := met) (rst := rst) (wds := wds) (opd := opd) (ope := ope) (way := way) (tk := tk) (tl := tl) hR hf hn 100
  refine ⟨rst', ?_⟩
  refine evs_of (by decide +kernel) (Nat.le_of_ble_eq_true rfl) (by decide) rfl rfl ?_
  refine ev_aload_n (pc := 0) dX4_keys_0 rfl rfl ?_
  refine ev_iload_n (pc := 1) dX4_keys_1 rfl rfl ?_
  refine ev_bipush (pc := 2) (v := 100) dX4_keys_2 (by decide) ?_
  refine cV2 (pc := 4) lk_X4_keys_4 rfl rfl rfl (Nat.le_of_ble_eq_true rfl) ⟨Nat.le_of_ble_eq_true rfl, Nat.le_of_ble_eq_true rfl⟩ e1 ?_
  exact ev_iretE (pc := 7) dX4_keys_7 rfl ⟨Nat.le_of_ble_eq_true rfl, Nat.le_of_ble_eq_true rfl⟩ rfl rfl
theorem l_sharedI {cc : C21} {ep ro bb sl th dp : Int32} {many inn item val wr met rst : Nat → Int32} {wds : Nat → Int64} {opd ope way tk : Nat → Int32} {tl : List mC} (hR : Rm many inn item val T U) {p : Nat} {l : List Nat} (hu : U p) (ht : T p = .inr l) (tp s : Int32) : ∀ (r b S : List Nat) (rst : Nat → Int32), l = b ++ r → stkR rst S → S.length + r.length ≤ 720 → ∃ rst', stkR rst' (S ++ r) ∧ ∀ (Qf : mQ), (∀ v5 : Value, EvF m_X4_shared Qf 11 [.ref 21, .int tp, .int s, .int (nI (S ++ r).length), .int (nI p), v5] [] 0 0 (dW cc ep ro bb sl th dp many inn item val wr met rst' wds opd ope way tk tl)) → EvF m_X4_shared Qf 47 [.ref 21, .int tp, .int s, .int (nI S.length), .int (nI p), .int (nI b.length)] [] 0 0 (dW cc ep ro bb sl th dp many inn item val wr met rst wds opd ope way tk tl) := by
  obtain ⟨hp, hi, h5, hc, hrow, hk7⟩ := hR.inner hu ht
  intro r
  induction r with
  | nil =>
    intro b S rst hb hst _
    rw [List.append_nil] at hb
    subst hb
    rw [List.append_nil]
    refine ⟨rst, hst, fun Qf k1 => ?_⟩
    refine ev_iload (pc := 47) dX4_shared_47 rfl ?_
    refine ev_aload_n (pc := 49) dX4_shared_49 rfl rfl ?_
    refine ev_get (pc := 50) dX4_shared_50 fd_X4_7 rfl rfl ?_
    refine ev_iload (pc := 53) dX4_shared_53 rfl ?_
    refine ev_ialdN (pc := 55) dX4_shared_55 rfl ⟨rfl, hp, by decide⟩ hc ?_
    refine ev_ic_ge (pc := 56) (tgt := 96) dX4_shared_56 (by decide) (fun _ => ?_) (fun c_56 => absurd (by exact nI_le (Nat.le_refl _) (by omega)) c_56)
    refine ev_goto (pc := 96) (tgt := 11) dX4_shared_96 (by decide) ?_
    exact k1 _
  | cons x r ih =>
    intro b S rst hb hst hlen
    have hlt : b.length < l.length := by rw [hb]; simp
    have hx : l[b.length]? = some x := by rw [hb, List.getElem?_append_right (Nat.le_refl _), Nat.sub_self]; rfl
    have hb2 : l = (b ++ [x]) ++ r := by rw [hb]; simp
    have hbl : (b ++ [x]).length = b.length + 1 := by simp
    have hSl : (S ++ [x]).length = S.length + 1 := by simp
    rw [List.length_cons] at hlen
    obtain ⟨rst', hs', e⟩ := ih (b ++ [x]) (S ++ [x]) (upd rst S.length (nI x)) hb2 (stk_push hst) (by rw [hSl]; omega)
    rw [show S ++ x :: r = S ++ [x] ++ r by simp]
    refine ⟨rst', hs', fun Qf k => ?_⟩
    have h9 := e Qf k
    rw [hbl, hSl] at h9
    refine ev_iload (pc := 47) dX4_shared_47 rfl ?_
    refine ev_aload_n (pc := 49) dX4_shared_49 rfl rfl ?_
    refine ev_get (pc := 50) dX4_shared_50 fd_X4_7 rfl rfl ?_
    refine ev_iload (pc := 53) dX4_shared_53 rfl ?_
    refine ev_ialdN (pc := 55) dX4_shared_55 rfl ⟨rfl, hp, by decide⟩ hc ?_
    refine ev_ic_ge (pc := 56) (tgt := 96) dX4_shared_56 (by decide) (fun c_56 => absurd c_56 (nI_ge hlt (by omega))) (fun _ => ?_)
    refine ev_aload_n (pc := 59) dX4_shared_59 rfl rfl ?_
    refine ev_get (pc := 60) dX4_shared_60 fd_X4_13 rfl rfl ?_
    refine ev_iload (pc := 63) dX4_shared_63 rfl ?_
    refine ev_zaldN (pc := 65) dX4_shared_65 rfl ⟨rfl, hp, by decide⟩ hi ?_
    refine ev_if_eq (pc := 66) (tgt := 96) dX4_shared_66 (by decide) (fun c_66 => absurd c_66 (by decide)) (fun _ => ?_)
    refine ev_aload_n (pc := 69) dX4_shared_69 rfl rfl ?_
    refine ev_get (pc := 70) dX4_shared_70 fd_X4_29 rfl rfl ?_
    refine ev_iload_n (pc := 73) dX4_shared_73 rfl rfl ?_
    refine ev_aload_n (pc := 74) dX4_shared_74 rfl rfl ?_
    refine ev_get (pc := 75) dX4_shared_75 fd_X4_17 rfl rfl ?_
    refine ev_iconst (pc := 78) (v := 5) dX4_shared_78 (by decide) ?_
    refine ev_iload (pc := 79) dX4_shared_79 rfl ?_
    refine ev_imul (pc := 81) dX4_shared_81 ?_
    refine ev_iload (pc := 82) dX4_shared_82 rfl ?_
    refine ev_iadd (pc := 84) dX4_shared_84 ?_
    refine ev_ialdN (pc := 85) dX4_shared_85 rfl ⟨(ix5m p b.length), by omega, by decide⟩ (row_ch hrow hx) ?_
    refine ev_iastN (pc := 86) dX4_shared_86 rfl ⟨rfl, by omega, by decide⟩ rfl rfl ?_
    refine ev_iinc (pc := 87) dX4_shared_87 rfl rfl rfl ?_
    refine ev_iinc (pc := 90) dX4_shared_90 rfl rfl rfl ?_
    refine ev_goto (pc := 93) (tgt := 47) dX4_shared_93 (by decide) ?_
    rw [nI_i1, nI_i1]
    exact h9
theorem l_sharedN {cc : C21} {ep ro bb sl th dp : Int32} {many inn item val wr met rst : Nat → Int32} {wds : Nat → Int64} {opd ope way tk : Nat → Int32} {tl : List mC} {p : Nat} (hp : p < 720) (tp left : Int32) (s : Nat) (v5 : Value) {Qf : mQ} (k : EvF m_X4_shared Qf 47 [.ref 21, .int tp, .int (nI (s + mkW met p)), .int left, .int (nI p), .int (nI 0)] [] 0 0 (dW cc ep ro bb sl th dp many inn item val wr met rst wds opd ope way tk tl)) : EvF m_X4_shared Qf 26 [.ref 21, .int tp, .int (nI s), .int left, .int (nI p), v5] [] 0 0 (dW cc ep ro bb sl th dp many inn item val wr met rst wds opd ope way tk tl) := by
  by_cases hm : met p = 0
  · have h9 : mkW met p = 0 := if_pos hm
    rw [h9] at k
    refine ev_iload_n (pc := 26) dX4_shared_26 rfl rfl ?_
    refine ev_aload_n (pc := 27) dX4_shared_27 rfl rfl ?_
    refine ev_get (pc := 28) dX4_shared_28 fd_X4_26 rfl rfl ?_
    refine ev_iload (pc := 31) dX4_shared_31 rfl ?_
    refine ev_zaldN (pc := 33) dX4_shared_33 rfl ⟨rfl, hp, by decide⟩ rfl ?_
    refine ev_if_eq (pc := 34) (tgt := 41) dX4_shared_34 (by decide) (fun _ => ?_) (fun c_34 => absurd hm c_34)
    refine ev_iconst (pc := 41) (v := 0) dX4_shared_41 (by decide) ?_
    refine ev_iadd (pc := 42) dX4_shared_42 ?_
    rw [Int32.add_zero]
    refine ev_istore_n (pc := 43) dX4_shared_43 rfl rfl rfl ?_
    refine ev_iconst (pc := 44) (v := 0) dX4_shared_44 (by decide) ?_
    refine ev_istore (pc := 45) dX4_shared_45 rfl rfl ?_
    exact k
  · have h9 : mkW met p = 1 := if_neg hm
    rw [h9] at k
    refine ev_iload_n (pc := 26) dX4_shared_26 rfl rfl ?_
    refine ev_aload_n (pc := 27) dX4_shared_27 rfl rfl ?_
    refine ev_get (pc := 28) dX4_shared_28 fd_X4_26 rfl rfl ?_
    refine ev_iload (pc := 31) dX4_shared_31 rfl ?_
    refine ev_zaldN (pc := 33) dX4_shared_33 rfl ⟨rfl, hp, by decide⟩ rfl ?_
    refine ev_if_eq (pc := 34) (tgt := 41) dX4_shared_34 (by decide) (fun c_34 => absurd c_34 hm) (fun _ => ?_)
    refine ev_iconst (pc := 37) (v := 1) dX4_shared_37 (by decide) ?_
    refine ev_goto (pc := 38) (tgt := 42) dX4_shared_38 (by decide) ?_
    refine ev_iadd (pc := 42) dX4_shared_42 ?_
    rw [nI_a1]
    refine ev_istore_n (pc := 43) dX4_shared_43 rfl rfl rfl ?_
    refine ev_iconst (pc := 44) (v := 0) dX4_shared_44 (by decide) ?_
    refine ev_istore (pc := 45) dX4_shared_45 rfl rfl ?_
    exact k
theorem l_shared {cc : C21} {ep ro bb sl th dp : Int32} {many inn item val wr met rst : Nat → Int32} {wds : Nat → Int64} {opd ope way tk : Nat → Int32} {tl : List mC} (hR : Rm many inn item val T U) (tp : Int32) : ∀ (N : Nat) (S : List (Nat × Nat)) (rst : Nat → Int32) (s : Nat), stW T one1 S ≤ N → N ≤ 700 → (∀ x ∈ S, rt T U x.1 x.2) → stkR rst (S.map (fun x => x.2)) → ∃ rst', ∀ v4 v5 : Value, EvF m_X4_shared (mQm m_X4_shared (.inl (some (.int (nI (s + stW T (mkW met) S))))) (dW cc ep ro bb sl th dp many inn item val wr met rst' wds opd ope way tk tl)) 11 [.ref 21, .int tp, .int (nI s), .int (nI S.length), v4, v5] [] 0 0 (dW cc ep ro bb sl th dp many inn item val wr met rst wds opd ope way tk tl) := by
  intro N
  induction N with
  | zero =>
    intro S rst s hN hN7 hS hst
    have h1 := stW_len T S
    have hS0 : S = [] := List.length_eq_zero_iff.mp (by omega)
    subst hS0
    refine ⟨rst, fun v4 v5 => ?_⟩
    refine ev_iload_n (pc := 11) dX4_shared_11 rfl rfl ?_
    refine ev_if_le (pc := 12) (tgt := 99) dX4_shared_12 (by decide) (fun _ => ?_) (fun c_12 => absurd (by decide) c_12)
    refine ev_iload_n (pc := 99) dX4_shared_99 rfl rfl ?_
    exact ev_iretE (pc := 100) dX4_shared_100 rfl ⟨Nat.le_of_ble_eq_true rfl, Nat.le_of_ble_eq_true rfl⟩ (by simp [stW]) rfl
  | succ N ih =>
    intro S rst s hN hN7 hS hst
    by_cases hS0 : S = []
    · subst hS0
      refine ⟨rst, fun v4 v5 => ?_⟩
      refine ev_iload_n (pc := 11) dX4_shared_11 rfl rfl ?_
      refine ev_if_le (pc := 12) (tgt := 99) dX4_shared_12 (by decide) (fun _ => ?_) (fun c_12 => absurd (by decide) c_12)
      refine ev_iload_n (pc := 99) dX4_shared_99 rfl rfl ?_
      exact ev_iretE (pc := 100) dX4_shared_100 rfl ⟨Nat.le_of_ble_eq_true rfl, Nat.le_of_ble_eq_true rfl⟩ (by simp [stW]) rfl
    · obtain ⟨A, ⟨d, p⟩, rfl⟩ := list_snoc hS0
      have hx := hS (d, p) (List.mem_append_right _ (List.mem_singleton.mpr rfl))
      have hAS : ∀ x ∈ A, rt T U x.1 x.2 := fun x hx => hS x (List.mem_append_left _ hx)
      rw [stW_app, stW_1] at hN
      dsimp only at hN
      have hA := stW_len T A
      have hp1 := wsm_pos T d p
      rw [List.map_append] at hst
      obtain ⟨hst1, hst2⟩ := stk_pop hst
      rw [List.length_map] at hst2
      have hl1 : (A ++ [(d, p)]).length = A.length + 1 := by simp
      have hu : U p := rt_U hx
      have hp7 := (hR p hu).1
      have hW : stW T (mkW met) (A ++ [(d, p)]) = stW T (mkW met) A + wsm T (mkW met) d p := by rw [stW_app, stW_1]
      rw [hW]
      cases d with
      | zero =>
        obtain ⟨-, l, ht, -⟩ := hx
        obtain ⟨hp7, hi, h5, hc, -⟩ := hR.leaf hu ht
        obtain ⟨rst', e1⟩ := ih A rst (s + mkW met p) (by omega) (by omega) hAS hst1
        refine ⟨rst', fun v4 v5 => ?_⟩
        have hw : wsm T (mkW met) 0 p = mkW met p := rfl
        rw [hw, show s + (stW T (mkW met) A + mkW met p) = s + mkW met p + stW T (mkW met) A by omega, hl1]
        refine ev_iload_n (pc := 11) dX4_shared_11 rfl rfl ?_
        refine ev_if_le (pc := 12) (tgt := 99) dX4_shared_12 (by decide) (fun c_12 => absurd c_12 (by exact nI_nle (show 0 < A.length + 1 by omega) (by omega))) (fun _ => ?_)
        refine ev_iinc (pc := 15) dX4_shared_15 rfl rfl rfl ?_
        rw [nI_im (show 0 < A.length + 1 by omega), Nat.add_sub_cancel]
        refine ev_aload_n (pc := 18) dX4_shared_18 rfl rfl ?_
        refine ev_get (pc := 19) dX4_shared_19 fd_X4_29 rfl rfl ?_
        refine ev_iload_n (pc := 22) dX4_shared_22 rfl rfl ?_
        refine ev_ialdN (pc := 23) dX4_shared_23 rfl ⟨rfl, by omega, by decide⟩ hst2 ?_
        refine ev_istore (pc := 24) dX4_shared_24 rfl rfl ?_
        refine l_sharedN (cc := cc) (ep := ep) (ro := ro) (bb := bb) (sl := sl) (th := th) (dp := dp) (many := many) (inn := inn) (item := item) (val := val) (wr := wr) (met := met) (rst := rst) (wds := wds) (opd := opd) (ope := ope) (way := way) (tk := tk) (tl := tl) hp7 tp (nI A.length) s v5 ?_
        by_cases hl0 : nI l.length ≤ nI 0
        · refine ev_iload (pc := 47) dX4_shared_47 rfl ?_
          refine ev_aload_n (pc := 49) dX4_shared_49 rfl rfl ?_
          refine ev_get (pc := 50) dX4_shared_50 fd_X4_7 rfl rfl ?_
          refine ev_iload (pc := 53) dX4_shared_53 rfl ?_
          refine ev_ialdN (pc := 55) dX4_shared_55 rfl ⟨rfl, hp7, by decide⟩ hc ?_
          refine ev_ic_ge (pc := 56) (tgt := 96) dX4_shared_56 (by decide) (fun _ => ?_) (fun c_56 => absurd hl0 c_56)
          refine ev_goto (pc := 96) (tgt := 11) dX4_shared_96 (by decide) ?_
          exact e1 _ _
        · refine ev_iload (pc := 47) dX4_shared_47 rfl ?_
          refine ev_aload_n (pc := 49) dX4_shared_49 rfl rfl ?_
          refine ev_get (pc := 50) dX4_shared_50 fd_X4_7 rfl rfl ?_
          refine ev_iload (pc := 53) dX4_shared_53 rfl ?_
          refine ev_ialdN (pc := 55) dX4_shared_55 rfl ⟨rfl, hp7, by decide⟩ hc ?_
          refine ev_ic_ge (pc := 56) (tgt := 96) dX4_shared_56 (by decide) (fun c_56 => absurd c_56 hl0) (fun _ => ?_)
          refine ev_aload_n (pc := 59) dX4_shared_59 rfl rfl ?_
          refine ev_get (pc := 60) dX4_shared_60 fd_X4_13 rfl rfl ?_
          refine ev_iload (pc := 63) dX4_shared_63 rfl ?_
          refine ev_zaldN (pc := 65) dX4_shared_65 rfl ⟨rfl, hp7, by decide⟩ hi ?_
          refine ev_if_eq (pc := 66) (tgt := 96) dX4_shared_66 (by decide) (fun _ => ?_) (fun c_66 => absurd rfl c_66)
          refine ev_goto (pc := 96) (tgt := 11) dX4_shared_96 (by decide) ?_
          exact e1 _ _
      | succ d =>
        obtain ⟨-, l, ht, -, -, hfl⟩ := hx
        have hk : kids (T p) = l := by rw [ht]; rfl
        have hw1 : wsm T one1 (d + 1) p = 1 + stW T one1 (l.map (fun c => (d, c))) := by
          rw [stW_kids]
          show 1 + ((kids (T p)).map (wsm T one1 d)).sum = _
          rw [hk]
        have hw2 : wsm T (mkW met) (d + 1) p = mkW met p + stW T (mkW met) (l.map (fun c => (d, c))) := by
          rw [stW_kids]
          show mkW met p + ((kids (T p)).map (wsm T (mkW met) d)).sum = _
          rw [hk]
        have hB := stW_len T (A ++ l.map (fun c => (d, c)))
        have hsum : stW T one1 (A ++ l.map (fun c => (d, c))) ≤ N := by rw [stW_app]; omega
        have hAl : (A ++ l.map (fun c => (d, c))).length = A.length + l.length := by simp
        have hmap : (A ++ l.map (fun c => (d, c))).map (fun x => x.2) = A.map (fun x => x.2) ++ l := by simp [List.map_map, Function.comp_def]
        have hlA : (A.map (fun x => x.2)).length = A.length := List.length_map _
        obtain ⟨rst1, hst3, hgo⟩ := l_sharedI (cc := cc) (ep := ep) (ro := ro) (bb := bb) (sl := sl) (th := th) (dp := dp) (many := many) (inn := inn) (item := item) (val := val) (wr := wr) (met := met) (rst := rst) (wds := wds) (opd := opd) (ope := ope) (way := way) (tk := tk) (tl := tl) hR hu ht tp (nI (s + mkW met p)) l [] (A.map (fun x => x.2)) rst rfl hst1 (by rw [hlA]; rw [hAl] at hB; omega)
        rw [hlA] at hgo
        obtain ⟨rst', e1⟩ := ih (A ++ l.map (fun c => (d, c))) rst1 (s + mkW met p) hsum (by omega) (fun x hx => (List.mem_append.mp hx).elim (hAS x) (fun h => by
          obtain ⟨c, hc, rfl⟩ := List.mem_map.mp h
          exact fl_rt (hfl c hc))) (by rw [hmap]; exact hst3)
        refine ⟨rst', fun v4 v5 => ?_⟩
        rw [hw2, show s + (stW T (mkW met) A + (mkW met p + stW T (mkW met) (l.map (fun c => (d, c))))) = s + mkW met p + (stW T (mkW met) A + stW T (mkW met) (l.map (fun c => (d, c)))) by omega, ← stW_app, hl1]
        refine ev_iload_n (pc := 11) dX4_shared_11 rfl rfl ?_
        refine ev_if_le (pc := 12) (tgt := 99) dX4_shared_12 (by decide) (fun c_12 => absurd c_12 (by exact nI_nle (show 0 < A.length + 1 by omega) (by omega))) (fun _ => ?_)
        refine ev_iinc (pc := 15) dX4_shared_15 rfl rfl rfl ?_
        rw [nI_im (show 0 < A.length + 1 by omega), Nat.add_sub_cancel]
        refine ev_aload_n (pc := 18) dX4_shared_18 rfl rfl ?_
        refine ev_get (pc := 19) dX4_shared_19 fd_X4_29 rfl rfl ?_
        refine ev_iload_n (pc := 22) dX4_shared_22 rfl rfl ?_
        refine ev_ialdN (pc := 23) dX4_shared_23 rfl ⟨rfl, by omega, by decide⟩ hst2 ?_
        refine ev_istore (pc := 24) dX4_shared_24 rfl rfl ?_
        refine l_sharedN (cc := cc) (ep := ep) (ro := ro) (bb := bb) (sl := sl) (th := th) (dp := dp) (many := many) (inn := inn) (item := item) (val := val) (wr := wr) (met := met) (rst := rst) (wds := wds) (opd := opd) (ope := ope) (way := way) (tk := tk) (tl := tl) hp7 tp (nI A.length) s v5 ?_
        exact hgo _ (fun v5 => by
            have h9 := e1 (.int (nI p)) v5
            rw [hAl] at h9
            rw [List.length_append, hlA]
            exact h9)
theorem s_mShared {cc : C21} {ep ro bb sl th dp : Int32} {many inn item val wr met rst : Nat → Int32} {wds : Nat → Int64} {opd ope way tk : Nat → Int32} {tl : List mC} (hR : Rm many inn item val T U) {d p : Nat} (hf : rt T U d p) (hn : wsm T one1 d p ≤ 700) : ∃ rst', EvS m_X4_shared [.ref 21, .int (nI p)] (dW cc ep ro bb sl th dp many inn item val wr met rst wds opd ope way tk tl) (.inl (some (.int (nI (wsm T (mkW met) d p))))) (dW cc ep ro bb sl th dp many inn item val wr met rst' wds opd ope way tk tl) := by
  obtain ⟨rst', e1⟩ := l_shared (cc := cc) (ep := ep) (ro := ro) (bb := bb) (sl := sl) (th := th) (dp := dp) (many := many) (inn := inn) (item := item) (val := val) (wr := wr) (met := met) (rst := rst) (wds := wds) (opd := opd) (ope := ope) (way := way) (tk := tk) (tl := tl) hR (nI p) 700 [(d, p)] (upd rst 0 (nI p)) 0 (by rw [stW_1]; exact hn) (Nat.le_refl _) (fun x hx => by rw [List.mem_singleton.mp hx]; exact hf) (fun j x hj => by cases j with
    | zero => simp at hj; rw [← hj]; exact pk_us
    | succ j => simp at hj)
  refine ⟨rst', ?_⟩
  have h9 := e1 hole hole
  rw [stW_1, Nat.zero_add] at h9
  refine evs_of (by decide +kernel) (Nat.le_of_ble_eq_true rfl) (by decide) rfl rfl ?_
  refine ev_iconst (pc := 0) (v := 0) dX4_shared_0 (by decide) ?_
  refine ev_istore_n (pc := 1) dX4_shared_1 rfl rfl rfl ?_
  refine ev_iconst (pc := 2) (v := 1) dX4_shared_2 (by decide) ?_
  refine ev_istore_n (pc := 3) dX4_shared_3 rfl rfl rfl ?_
  refine ev_aload_n (pc := 4) dX4_shared_4 rfl rfl ?_
  refine ev_get (pc := 5) dX4_shared_5 fd_X4_29 rfl rfl ?_
  refine ev_iconst (pc := 8) (v := 0) dX4_shared_8 (by decide) ?_
  refine ev_iload_n (pc := 9) dX4_shared_9 rfl rfl ?_
  refine ev_iastN (pc := 10) dX4_shared_10 rfl ⟨rfl, by decide, by decide⟩ rfl rfl ?_
  exact h9
end M12
