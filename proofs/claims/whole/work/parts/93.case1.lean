/-! THE LAW'S CASES 10 to 19 -/
theorem lc_10 {n j kc ks : Nat} {q : Nat × (Nat → Int32)} {A : List mC} {o : Nat → Int64} {v5 v6 v7 : Value} (hA : GI n A) (hw : wf A) (hn : n ≤ 512) (hj : j + 2 < q.1) (hq : q.1 ≤ 1536) (hkc : kc ≤ 500000) (hks : ks ≤ 7000000) (k : LK q n j kc ks) : EvF (m_L_law q) QL 617 [scr1, .ref 0, .ref 21, .ref 34, .int (nI j), v5, v6, v7] [] kc ks (A ++ [ouC o]) := by
  obtain ⟨h34, ⟨fs, h0⟩, -⟩ := id hw
  rcases st_epochOf hA (q.2 (nI (j + 1)).toNatClampNeg) with ⟨v, hs⟩ | hs
  · obtain ⟨A1, f1, e1, hs⟩ := hs (ouC o)
    obtain ⟨A2, g1, e2, e3, g4⟩ := hs (ouC (vp_updL o 0 v.toInt64))
    obtain ⟨f34, -, ⟨fs1, f21⟩⟩ := id f1
    obtain ⟨g34, -, ⟨fs2, g21⟩⟩ := id g1
    refine ev_aload_n (pc := 617) dL_law_617 rfl rfl ?_
    refine ev_aloadS_n (pc := 618) dL_law_618 rfl rfl ?_
    refine ev_iload (pc := 619) dL_law_619 rfl ?_
    refine ev_iconst (pc := 621) (v := 1) dL_law_621 (by decide) ?_
    refine ev_iadd (pc := 622) dL_law_622 ?_
    rw [nI_a1]
    refine ev_sld (pc := 623) dL_law_623 rfl (vp_in_nI (show j + 1 < q.1 by omega) (by omega)) ?_
    refine ev_aload_n (pc := 624) dL_law_624 rfl rfl ?_
    refine cX3 (pc := 625) (lk_L_law_625 _) (Nat.le_of_ble_eq_true rfl) ⟨(by show kc + 1 ≤ 601024; omega), (by show ks + 6 ≤ 7293034; omega)⟩ (w_epochOf hw f1 e1) ?_
    refine ev_istore (pc := 628) dL_law_628 rfl rfl ?_
    refine ev_aload_n (pc := 630) dL_law_630 rfl rfl ?_
    refine ev_aloadS_n (pc := 631) dL_law_631 rfl rfl ?_
    refine ev_iload (pc := 632) dL_law_632 rfl ?_
    refine ev_iconst (pc := 634) (v := 1) dL_law_634 (by decide) ?_
    refine ev_iadd (pc := 635) dL_law_635 ?_
    rw [nI_a1]
    refine ev_sld (pc := 636) dL_law_636 rfl (vp_in_nI (show j + 1 < q.1 by omega) (by omega)) ?_
    refine cV1 (pc := 637) (lk_L_law_637 _) (ou_0 f21) rfl rfl (Nat.le_of_ble_eq_true rfl) ⟨(by show kc + 1 + 0 ≤ 601024; omega), (by show ks + 6 + 0 ≤ 7293034; omega)⟩ e2 ?_
    refine ev_istore (pc := 640) dL_law_640 rfl rfl ?_
    refine ev_aload_n (pc := 642) dL_law_642 rfl rfl ?_
    refine cV0 (pc := 643) (lk_L_law_643 _) (ou_0 g21) rfl rfl (Nat.le_of_ble_eq_true rfl) ⟨(by show kc + 1 + 0 + 0 ≤ 601024; omega), (by show ks + 6 + 0 + 0 ≤ 7293034; omega)⟩ e3 ?_
    refine ev_iload (pc := 646) dL_law_646 rfl ?_
    refine ev_ic_eq (pc := 648) (tgt := 653) dL_law_648 (by decide) (fun _ => ?_) (fun c_648 => absurd rfl c_648)
    refine ev_iload (pc := 653) dL_law_653 rfl ?_
    refine ev_if_ne (pc := 655) (tgt := 670) dL_law_655 (by decide) (fun c_655 => absurd rfl c_655) (fun _ => ?_)
    refine ev_aload_n (pc := 658) dL_law_658 rfl rfl ?_
    refine ev_iconst (pc := 659) (v := 0) dL_law_659 (by decide) ?_
    refine ev_laldN (pc := 660) dL_law_660 (ou_get g34) ⟨(show _ = nI 0 from rfl), by decide, by decide⟩ pk_uLs ?_
    refine ev_iload (pc := 661) dL_law_661 rfl ?_
    refine ev_i2l (pc := 663) dL_law_663 ?_
    refine ev_lcmp (pc := 664) dL_law_664 ?_
    refine ev_if_eq (pc := 665) (tgt := 670) dL_law_665 (by decide) (fun _ => ?_) (fun c_665 => absurd ((lg_cmp_eq _ _).mpr rfl) c_665)
    refine ev_goto (pc := 670) (tgt := 1662) dL_law_670 (by decide) ?_
    exact k A2 _ _ _ _ _ _ (gi_mono (Nat.le_succ n) g4) g1 (by show kc + 1 + 0 + 0 ≤ kc + 8; omega) (by show ks + 6 + 0 + 0 ≤ ks + 64; omega)
  · obtain ⟨A1, f1, e1, hs⟩ := hs (ouC o)
    obtain ⟨A2, g1, e2, e3, g4⟩ := hs (ouC o)
    obtain ⟨-, -, ⟨fs1, f21⟩⟩ := id f1
    obtain ⟨-, -, ⟨fs2, g21⟩⟩ := id g1
    refine ev_aload_n (pc := 617) dL_law_617 rfl rfl ?_
    refine ev_aloadS_n (pc := 618) dL_law_618 rfl rfl ?_
    refine ev_iload (pc := 619) dL_law_619 rfl ?_
    refine ev_iconst (pc := 621) (v := 1) dL_law_621 (by decide) ?_
    refine ev_iadd (pc := 622) dL_law_622 ?_
    rw [nI_a1]
    refine ev_sld (pc := 623) dL_law_623 rfl (vp_in_nI (show j + 1 < q.1 by omega) (by omega)) ?_
    refine ev_aload_n (pc := 624) dL_law_624 rfl rfl ?_
    refine cX3 (pc := 625) (lk_L_law_625 _) (Nat.le_of_ble_eq_true rfl) ⟨(by show kc + 1 ≤ 601024; omega), (by show ks + 6 ≤ 7293034; omega)⟩ (w_epochOf_T1 hw f1 e1) ?_
    refine ev_istore (pc := 628) dL_law_628 rfl rfl ?_
    refine ev_aload_n (pc := 630) dL_law_630 rfl rfl ?_
    refine ev_aloadS_n (pc := 631) dL_law_631 rfl rfl ?_
    refine ev_iload (pc := 632) dL_law_632 rfl ?_
    refine ev_iconst (pc := 634) (v := 1) dL_law_634 (by decide) ?_
    refine ev_iadd (pc := 635) dL_law_635 ?_
    rw [nI_a1]
    refine ev_sld (pc := 636) dL_law_636 rfl (vp_in_nI (show j + 1 < q.1 by omega) (by omega)) ?_
    refine cV1 (pc := 637) (lk_L_law_637 _) (ou_0 f21) rfl rfl (Nat.le_of_ble_eq_true rfl) ⟨(by show kc + 1 + 0 ≤ 601024; omega), (by show ks + 6 + 0 ≤ 7293034; omega)⟩ e2 ?_
    refine ev_istore (pc := 640) dL_law_640 rfl rfl ?_
    refine ev_aload_n (pc := 642) dL_law_642 rfl rfl ?_
    refine cV0 (pc := 643) (lk_L_law_643 _) (ou_0 g21) rfl rfl (Nat.le_of_ble_eq_true rfl) ⟨(by show kc + 1 + 0 + 0 ≤ 601024; omega), (by show ks + 6 + 0 + 0 ≤ 7293034; omega)⟩ e3 ?_
    refine ev_iload (pc := 646) dL_law_646 rfl ?_
    refine ev_ic_eq (pc := 648) (tgt := 653) dL_law_648 (by decide) (fun _ => ?_) (fun c_648 => absurd rfl c_648)
    refine ev_iload (pc := 653) dL_law_653 rfl ?_
    refine ev_if_ne (pc := 655) (tgt := 670) dL_law_655 (by decide) (fun _ => ?_) (fun c_655 => absurd c_655 (by decide))
    refine ev_goto (pc := 670) (tgt := 1662) dL_law_670 (by decide) ?_
    exact k A2 _ _ _ _ _ _ (gi_mono (Nat.le_succ n) g4) g1 (by show kc + 1 + 0 + 0 ≤ kc + 8; omega) (by show ks + 6 + 0 + 0 ≤ ks + 64; omega)
theorem lc_11 {n j kc ks : Nat} {q : Nat × (Nat → Int32)} {A : List mC} {o : Nat → Int64} {v5 v6 v7 : Value} (hA : GI n A) (hw : wf A) (hn : n ≤ 512) (hj : j + 2 < q.1) (hq : q.1 ≤ 1536) (hkc : kc ≤ 500000) (hks : ks ≤ 7000000) (k : LK q n j kc ks) : EvF (m_L_law q) QL 673 [scr1, .ref 0, .ref 21, .ref 34, .int (nI j), v5, v6, v7] [] kc ks (A ++ [ouC o]) := by
  obtain ⟨h34, ⟨fs, h0⟩, -⟩ := id hw
  rcases st_get hA (q.2 (nI (j + 1)).toNatClampNeg) (q.2 (nI (j + 2)).toNatClampNeg) with ⟨v, hs⟩ | hs | hs | hs
  · obtain ⟨A1, f1, e1, hs⟩ := hs (ouC o)
    obtain ⟨A2, g1, e2, e3, g4⟩ := hs (ouC (vp_updL o 0 v.toInt64))
    obtain ⟨f34, -, ⟨fs1, f21⟩⟩ := id f1
    obtain ⟨g34, -, ⟨fs2, g21⟩⟩ := id g1
    refine ev_aload_n (pc := 673) dL_law_673 rfl rfl ?_
    refine ev_aloadS_n (pc := 674) dL_law_674 rfl rfl ?_
    refine ev_iload (pc := 675) dL_law_675 rfl ?_
    refine ev_iconst (pc := 677) (v := 1) dL_law_677 (by decide) ?_
    refine ev_iadd (pc := 678) dL_law_678 ?_
    rw [nI_a1]
    refine ev_sld (pc := 679) dL_law_679 rfl (vp_in_nI (show j + 1 < q.1 by omega) (by omega)) ?_
    refine ev_aloadS_n (pc := 680) dL_law_680 rfl rfl ?_
    refine ev_iload (pc := 681) dL_law_681 rfl ?_
    refine ev_iconst (pc := 683) (v := 2) dL_law_683 (by decide) ?_
    refine ev_iadd (pc := 684) dL_law_684 ?_
    rw [nI_a2]
    refine ev_sld (pc := 685) dL_law_685 rfl (vp_in_nI (show j + 2 < q.1 by omega) (by omega)) ?_
    refine ev_aload_n (pc := 686) dL_law_686 rfl rfl ?_
    refine cX4 (pc := 687) (lk_L_law_687 _) (Nat.le_of_ble_eq_true rfl) ⟨(by show kc + 3 ≤ 601024; omega), (by show ks + 18 ≤ 7293034; omega)⟩ (w_get hw f1 e1) ?_
    refine ev_istore (pc := 690) dL_law_690 rfl rfl ?_
    refine ev_aload_n (pc := 692) dL_law_692 rfl rfl ?_
    refine ev_aloadS_n (pc := 693) dL_law_693 rfl rfl ?_
    refine ev_iload (pc := 694) dL_law_694 rfl ?_
    refine ev_iconst (pc := 696) (v := 1) dL_law_696 (by decide) ?_
    refine ev_iadd (pc := 697) dL_law_697 ?_
    rw [nI_a1]
    refine ev_sld (pc := 698) dL_law_698 rfl (vp_in_nI (show j + 1 < q.1 by omega) (by omega)) ?_
    refine ev_aloadS_n (pc := 699) dL_law_699 rfl rfl ?_
    refine ev_iload (pc := 700) dL_law_700 rfl ?_
    refine ev_iconst (pc := 702) (v := 2) dL_law_702 (by decide) ?_
    refine ev_iadd (pc := 703) dL_law_703 ?_
    rw [nI_a2]
    refine ev_sld (pc := 704) dL_law_704 rfl (vp_in_nI (show j + 2 < q.1 by omega) (by omega)) ?_
    refine cV2 (pc := 705) (lk_L_law_705 _) (ou_0 f21) rfl rfl (Nat.le_of_ble_eq_true rfl) ⟨(by show kc + 3 + 0 ≤ 601024; omega), (by show ks + 18 + 0 ≤ 7293034; omega)⟩ e2 ?_
    refine ev_istore (pc := 708) dL_law_708 rfl rfl ?_
    refine ev_aload_n (pc := 710) dL_law_710 rfl rfl ?_
    refine cV0 (pc := 711) (lk_L_law_711 _) (ou_0 g21) rfl rfl (Nat.le_of_ble_eq_true rfl) ⟨(by show kc + 3 + 0 + 0 ≤ 601024; omega), (by show ks + 18 + 0 + 0 ≤ 7293034; omega)⟩ e3 ?_
    refine ev_iload (pc := 714) dL_law_714 rfl ?_
    refine ev_ic_eq (pc := 716) (tgt := 721) dL_law_716 (by decide) (fun _ => ?_) (fun c_716 => absurd rfl c_716)
    refine ev_iload (pc := 721) dL_law_721 rfl ?_
    refine ev_if_ne (pc := 723) (tgt := 738) dL_law_723 (by decide) (fun c_723 => absurd rfl c_723) (fun _ => ?_)
    refine ev_aload_n (pc := 726) dL_law_726 rfl rfl ?_
    refine ev_iconst (pc := 727) (v := 0) dL_law_727 (by decide) ?_
    refine ev_laldN (pc := 728) dL_law_728 (ou_get g34) ⟨(show _ = nI 0 from rfl), by decide, by decide⟩ pk_uLs ?_
    refine ev_iload (pc := 729) dL_law_729 rfl ?_
    refine ev_i2l (pc := 731) dL_law_731 ?_
    refine ev_lcmp (pc := 732) dL_law_732 ?_
    refine ev_if_eq (pc := 733) (tgt := 738) dL_law_733 (by decide) (fun _ => ?_) (fun c_733 => absurd ((lg_cmp_eq _ _).mpr rfl) c_733)
    refine ev_goto (pc := 738) (tgt := 1662) dL_law_738 (by decide) ?_
    exact k A2 _ _ _ _ _ _ (gi_mono (Nat.le_succ n) g4) g1 (by show kc + 3 + 0 + 0 ≤ kc + 8; omega) (by show ks + 18 + 0 + 0 ≤ ks + 64; omega)
  · obtain ⟨A1, f1, e1, hs⟩ := hs (ouC o)
    obtain ⟨A2, g1, e2, e3, g4⟩ := hs (ouC o)
    obtain ⟨-, -, ⟨fs1, f21⟩⟩ := id f1
    obtain ⟨-, -, ⟨fs2, g21⟩⟩ := id g1
    refine ev_aload_n (pc := 673) dL_law_673 rfl rfl ?_
    refine ev_aloadS_n (pc := 674) dL_law_674 rfl rfl ?_
    refine ev_iload (pc := 675) dL_law_675 rfl ?_
    refine ev_iconst (pc := 677) (v := 1) dL_law_677 (by decide) ?_
    refine ev_iadd (pc := 678) dL_law_678 ?_
    rw [nI_a1]
    refine ev_sld (pc := 679) dL_law_679 rfl (vp_in_nI (show j + 1 < q.1 by omega) (by omega)) ?_
    refine ev_aloadS_n (pc := 680) dL_law_680 rfl rfl ?_
    refine ev_iload (pc := 681) dL_law_681 rfl ?_
    refine ev_iconst (pc := 683) (v := 2) dL_law_683 (by decide) ?_
    refine ev_iadd (pc := 684) dL_law_684 ?_
    rw [nI_a2]
    refine ev_sld (pc := 685) dL_law_685 rfl (vp_in_nI (show j + 2 < q.1 by omega) (by omega)) ?_
    refine ev_aload_n (pc := 686) dL_law_686 rfl rfl ?_
    refine cX4 (pc := 687) (lk_L_law_687 _) (Nat.le_of_ble_eq_true rfl) ⟨(by show kc + 3 ≤ 601024; omega), (by show ks + 18 ≤ 7293034; omega)⟩ (w_get_T1 hw f1 e1) ?_
    refine ev_istore (pc := 690) dL_law_690 rfl rfl ?_
    refine ev_aload_n (pc := 692) dL_law_692 rfl rfl ?_
    refine ev_aloadS_n (pc := 693) dL_law_693 rfl rfl ?_
    refine ev_iload (pc := 694) dL_law_694 rfl ?_
    refine ev_iconst (pc := 696) (v := 1) dL_law_696 (by decide) ?_
    refine ev_iadd (pc := 697) dL_law_697 ?_
    rw [nI_a1]
    refine ev_sld (pc := 698) dL_law_698 rfl (vp_in_nI (show j + 1 < q.1 by omega) (by omega)) ?_
    refine ev_aloadS_n (pc := 699) dL_law_699 rfl rfl ?_
    refine ev_iload (pc := 700) dL_law_700 rfl ?_
    refine ev_iconst (pc := 702) (v := 2) dL_law_702 (by decide) ?_
    refine ev_iadd (pc := 703) dL_law_703 ?_
    rw [nI_a2]
    refine ev_sld (pc := 704) dL_law_704 rfl (vp_in_nI (show j + 2 < q.1 by omega) (by omega)) ?_
    refine cV2 (pc := 705) (lk_L_law_705 _) (ou_0 f21) rfl rfl (Nat.le_of_ble_eq_true rfl) ⟨(by show kc + 3 + 0 ≤ 601024; omega), (by show ks + 18 + 0 ≤ 7293034; omega)⟩ e2 ?_
    refine ev_istore (pc := 708) dL_law_708 rfl rfl ?_
    refine ev_aload_n (pc := 710) dL_law_710 rfl rfl ?_
    refine cV0 (pc := 711) (lk_L_law_711 _) (ou_0 g21) rfl rfl (Nat.le_of_ble_eq_true rfl) ⟨(by show kc + 3 + 0 + 0 ≤ 601024; omega), (by show ks + 18 + 0 + 0 ≤ 7293034; omega)⟩ e3 ?_
    refine ev_iload (pc := 714) dL_law_714 rfl ?_
    refine ev_ic_eq (pc := 716) (tgt := 721) dL_law_716 (by decide) (fun _ => ?_) (fun c_716 => absurd rfl c_716)
    refine ev_iload (pc := 721) dL_law_721 rfl ?_
    refine ev_if_ne (pc := 723) (tgt := 738) dL_law_723 (by decide) (fun _ => ?_) (fun c_723 => absurd c_723 (by decide))
    refine ev_goto (pc := 738) (tgt := 1662) dL_law_738 (by decide) ?_
    exact k A2 _ _ _ _ _ _ (gi_mono (Nat.le_succ n) g4) g1 (by show kc + 3 + 0 + 0 ≤ kc + 8; omega) (by show ks + 18 + 0 + 0 ≤ ks + 64; omega)
  · obtain ⟨A1, f1, e1, hs⟩ := hs (ouC o)
    obtain ⟨A2, g1, e2, e3, g4⟩ := hs (ouC o)
    obtain ⟨-, -, ⟨fs1, f21⟩⟩ := id f1
    obtain ⟨-, -, ⟨fs2, g21⟩⟩ := id g1
    refine ev_aload_n (pc := 673) dL_law_673 rfl rfl ?_
    refine ev_aloadS_n (pc := 674) dL_law_674 rfl rfl ?_
    refine ev_iload (pc := 675) dL_law_675 rfl ?_
    refine ev_iconst (pc := 677) (v := 1) dL_law_677 (by decide) ?_
    refine ev_iadd (pc := 678) dL_law_678 ?_
    rw [nI_a1]
    refine ev_sld (pc := 679) dL_law_679 rfl (vp_in_nI (show j + 1 < q.1 by omega) (by omega)) ?_
    refine ev_aloadS_n (pc := 680) dL_law_680 rfl rfl ?_
    refine ev_iload (pc := 681) dL_law_681 rfl ?_
    refine ev_iconst (pc := 683) (v := 2) dL_law_683 (by decide) ?_
    refine ev_iadd (pc := 684) dL_law_684 ?_
    rw [nI_a2]
    refine ev_sld (pc := 685) dL_law_685 rfl (vp_in_nI (show j + 2 < q.1 by omega) (by omega)) ?_
    refine ev_aload_n (pc := 686) dL_law_686 rfl rfl ?_
    refine cX4 (pc := 687) (lk_L_law_687 _) (Nat.le_of_ble_eq_true rfl) ⟨(by show kc + 3 ≤ 601024; omega), (by show ks + 18 ≤ 7293034; omega)⟩ (w_get_T2 hw f1 e1) ?_
    refine ev_istore (pc := 690) dL_law_690 rfl rfl ?_
    refine ev_aload_n (pc := 692) dL_law_692 rfl rfl ?_
    refine ev_aloadS_n (pc := 693) dL_law_693 rfl rfl ?_
    refine ev_iload (pc := 694) dL_law_694 rfl ?_
    refine ev_iconst (pc := 696) (v := 1) dL_law_696 (by decide) ?_
    refine ev_iadd (pc := 697) dL_law_697 ?_
    rw [nI_a1]
    refine ev_sld (pc := 698) dL_law_698 rfl (vp_in_nI (show j + 1 < q.1 by omega) (by omega)) ?_
    refine ev_aloadS_n (pc := 699) dL_law_699 rfl rfl ?_
    refine ev_iload (pc := 700) dL_law_700 rfl ?_
    refine ev_iconst (pc := 702) (v := 2) dL_law_702 (by decide) ?_
    refine ev_iadd (pc := 703) dL_law_703 ?_
    rw [nI_a2]
    refine ev_sld (pc := 704) dL_law_704 rfl (vp_in_nI (show j + 2 < q.1 by omega) (by omega)) ?_
    refine cV2 (pc := 705) (lk_L_law_705 _) (ou_0 f21) rfl rfl (Nat.le_of_ble_eq_true rfl) ⟨(by show kc + 3 + 0 ≤ 601024; omega), (by show ks + 18 + 0 ≤ 7293034; omega)⟩ e2 ?_
    refine ev_istore (pc := 708) dL_law_708 rfl rfl ?_
    refine ev_aload_n (pc := 710) dL_law_710 rfl rfl ?_
    refine cV0 (pc := 711) (lk_L_law_711 _) (ou_0 g21) rfl rfl (Nat.le_of_ble_eq_true rfl) ⟨(by show kc + 3 + 0 + 0 ≤ 601024; omega), (by show ks + 18 + 0 + 0 ≤ 7293034; omega)⟩ e3 ?_
    refine ev_iload (pc := 714) dL_law_714 rfl ?_
    refine ev_ic_eq (pc := 716) (tgt := 721) dL_law_716 (by decide) (fun _ => ?_) (fun c_716 => absurd rfl c_716)
    refine ev_iload (pc := 721) dL_law_721 rfl ?_
    refine ev_if_ne (pc := 723) (tgt := 738) dL_law_723 (by decide) (fun _ => ?_) (fun c_723 => absurd c_723 (by decide))
    refine ev_goto (pc := 738) (tgt := 1662) dL_law_738 (by decide) ?_
    exact k A2 _ _ _ _ _ _ (gi_mono (Nat.le_succ n) g4) g1 (by show kc + 3 + 0 + 0 ≤ kc + 8; omega) (by show ks + 18 + 0 + 0 ≤ ks + 64; omega)
  · obtain ⟨A1, f1, e1, hs⟩ := hs (ouC o)
    obtain ⟨A2, g1, e2, e3, g4⟩ := hs (ouC o)
    obtain ⟨-, -, ⟨fs1, f21⟩⟩ := id f1
    obtain ⟨-, -, ⟨fs2, g21⟩⟩ := id g1
    refine ev_aload_n (pc := 673) dL_law_673 rfl rfl ?_
    refine ev_aloadS_n (pc := 674) dL_law_674 rfl rfl ?_
    refine ev_iload (pc := 675) dL_law_675 rfl ?_
    refine ev_iconst (pc := 677) (v := 1) dL_law_677 (by decide) ?_
    refine ev_iadd (pc := 678) dL_law_678 ?_
    rw [nI_a1]
    refine ev_sld (pc := 679) dL_law_679 rfl (vp_in_nI (show j + 1 < q.1 by omega) (by omega)) ?_
    refine ev_aloadS_n (pc := 680) dL_law_680 rfl rfl ?_
    refine ev_iload (pc := 681) dL_law_681 rfl ?_
    refine ev_iconst (pc := 683) (v := 2) dL_law_683 (by decide) ?_
    refine ev_iadd (pc := 684) dL_law_684 ?_
    rw [nI_a2]
    refine ev_sld (pc := 685) dL_law_685 rfl (vp_in_nI (show j + 2 < q.1 by omega) (by omega)) ?_
    refine ev_aload_n (pc := 686) dL_law_686 rfl rfl ?_
    refine cX4 (pc := 687) (lk_L_law_687 _) (Nat.le_of_ble_eq_true rfl) ⟨(by show kc + 3 ≤ 601024; omega), (by show ks + 18 ≤ 7293034; omega)⟩ (w_get_T3 hw f1 e1) ?_
    refine ev_istore (pc := 690) dL_law_690 rfl rfl ?_
    refine ev_aload_n (pc := 692) dL_law_692 rfl rfl ?_
    refine ev_aloadS_n (pc := 693) dL_law_693 rfl rfl ?_
    refine ev_iload (pc := 694) dL_law_694 rfl ?_
    refine ev_iconst (pc := 696) (v := 1) dL_law_696 (by decide) ?_
    refine ev_iadd (pc := 697) dL_law_697 ?_
    rw [nI_a1]
    refine ev_sld (pc := 698) dL_law_698 rfl (vp_in_nI (show j + 1 < q.1 by omega) (by omega)) ?_
    refine ev_aloadS_n (pc := 699) dL_law_699 rfl rfl ?_
    refine ev_iload (pc := 700) dL_law_700 rfl ?_
    refine ev_iconst (pc := 702) (v := 2) dL_law_702 (by decide) ?_
    refine ev_iadd (pc := 703) dL_law_703 ?_
    rw [nI_a2]
    refine ev_sld (pc := 704) dL_law_704 rfl (vp_in_nI (show j + 2 < q.1 by omega) (by omega)) ?_
    refine cV2 (pc := 705) (lk_L_law_705 _) (ou_0 f21) rfl rfl (Nat.le_of_ble_eq_true rfl) ⟨(by show kc + 3 + 0 ≤ 601024; omega), (by show ks + 18 + 0 ≤ 7293034; omega)⟩ e2 ?_
    refine ev_istore (pc := 708) dL_law_708 rfl rfl ?_
    refine ev_aload_n (pc := 710) dL_law_710 rfl rfl ?_
    refine cV0 (pc := 711) (lk_L_law_711 _) (ou_0 g21) rfl rfl (Nat.le_of_ble_eq_true rfl) ⟨(by show kc + 3 + 0 + 0 ≤ 601024; omega), (by show ks + 18 + 0 + 0 ≤ 7293034; omega)⟩ e3 ?_
    refine ev_iload (pc := 714) dL_law_714 rfl ?_
    refine ev_ic_eq (pc := 716) (tgt := 721) dL_law_716 (by decide) (fun _ => ?_) (fun c_716 => absurd rfl c_716)
    refine ev_iload (pc := 721) dL_law_721 rfl ?_
    refine ev_if_ne (pc := 723) (tgt := 738) dL_law_723 (by decide) (fun _ => ?_) (fun c_723 => absurd c_723 (by decide))
    refine ev_goto (pc := 738) (tgt := 1662) dL_law_738 (by decide) ?_
    exact k A2 _ _ _ _ _ _ (gi_mono (Nat.le_succ n) g4) g1 (by show kc + 3 + 0 + 0 ≤ kc + 8; omega) (by show ks + 18 + 0 + 0 ≤ ks + 64; omega)
theorem lc_12 {n j kc ks : Nat} {q : Nat × (Nat → Int32)} {A : List mC} {o : Nat → Int64} {v5 v6 v7 : Value} (hA : GI n A) (hw : wf A) (hn : n ≤ 512) (hj : j + 2 < q.1) (hq : q.1 ≤ 1536) (hkc : kc ≤ 500000) (hks : ks ≤ 7000000) (k : LK q n j kc ks) : EvF (m_L_law q) QL 741 [scr1, .ref 0, .ref 21, .ref 34, .int (nI j), v5, v6, v7] [] kc ks (A ++ [ouC o]) := by
  obtain ⟨h34, ⟨fs, h0⟩, -⟩ := id hw
  rcases st_next hA (q.2 (nI (j + 1)).toNatClampNeg) (q.2 (nI (j + 2)).toNatClampNeg) with ⟨v, hs⟩ | hs
  · obtain ⟨A1, f1, e1, hs⟩ := hs (ouC o)
    obtain ⟨A2, g1, e2, e3, g4⟩ := hs (ouC (vp_updL o 0 v.toInt64))
    obtain ⟨f34, -, ⟨fs1, f21⟩⟩ := id f1
    obtain ⟨g34, -, ⟨fs2, g21⟩⟩ := id g1
    refine ev_aload_n (pc := 741) dL_law_741 rfl rfl ?_
    refine ev_aloadS_n (pc := 742) dL_law_742 rfl rfl ?_
    refine ev_iload (pc := 743) dL_law_743 rfl ?_
    refine ev_iconst (pc := 745) (v := 1) dL_law_745 (by decide) ?_
    refine ev_iadd (pc := 746) dL_law_746 ?_
    rw [nI_a1]
    refine ev_sld (pc := 747) dL_law_747 rfl (vp_in_nI (show j + 1 < q.1 by omega) (by omega)) ?_
    refine ev_aloadS_n (pc := 748) dL_law_748 rfl rfl ?_
    refine ev_iload (pc := 749) dL_law_749 rfl ?_
    refine ev_iconst (pc := 751) (v := 2) dL_law_751 (by decide) ?_
    refine ev_iadd (pc := 752) dL_law_752 ?_
    rw [nI_a2]
    refine ev_sld (pc := 753) dL_law_753 rfl (vp_in_nI (show j + 2 < q.1 by omega) (by omega)) ?_
    refine ev_aload_n (pc := 754) dL_law_754 rfl rfl ?_
    refine cX4 (pc := 755) (lk_L_law_755 _) (Nat.le_of_ble_eq_true rfl) ⟨(by show kc + 1 ≤ 601024; omega), (by show ks + 6 ≤ 7293034; omega)⟩ (w_next hw f1 e1) ?_
    refine ev_istore (pc := 758) dL_law_758 rfl rfl ?_
    refine ev_aload_n (pc := 760) dL_law_760 rfl rfl ?_
    refine ev_aloadS_n (pc := 761) dL_law_761 rfl rfl ?_
    refine ev_iload (pc := 762) dL_law_762 rfl ?_
    refine ev_iconst (pc := 764) (v := 1) dL_law_764 (by decide) ?_
    refine ev_iadd (pc := 765) dL_law_765 ?_
    rw [nI_a1]
    refine ev_sld (pc := 766) dL_law_766 rfl (vp_in_nI (show j + 1 < q.1 by omega) (by omega)) ?_
    refine ev_aloadS_n (pc := 767) dL_law_767 rfl rfl ?_
    refine ev_iload (pc := 768) dL_law_768 rfl ?_
    refine ev_iconst (pc := 770) (v := 2) dL_law_770 (by decide) ?_
    refine ev_iadd (pc := 771) dL_law_771 ?_
    rw [nI_a2]
    refine ev_sld (pc := 772) dL_law_772 rfl (vp_in_nI (show j + 2 < q.1 by omega) (by omega)) ?_
    refine cV2 (pc := 773) (lk_L_law_773 _) (ou_0 f21) rfl rfl (Nat.le_of_ble_eq_true rfl) ⟨(by show kc + 1 + 0 ≤ 601024; omega), (by show ks + 6 + 0 ≤ 7293034; omega)⟩ e2 ?_
    refine ev_istore (pc := 776) dL_law_776 rfl rfl ?_
    refine ev_aload_n (pc := 778) dL_law_778 rfl rfl ?_
    refine cV0 (pc := 779) (lk_L_law_779 _) (ou_0 g21) rfl rfl (Nat.le_of_ble_eq_true rfl) ⟨(by show kc + 1 + 0 + 0 ≤ 601024; omega), (by show ks + 6 + 0 + 0 ≤ 7293034; omega)⟩ e3 ?_
    refine ev_iload (pc := 782) dL_law_782 rfl ?_
    refine ev_ic_eq (pc := 784) (tgt := 789) dL_law_784 (by decide) (fun _ => ?_) (fun c_784 => absurd rfl c_784)
    refine ev_iload (pc := 789) dL_law_789 rfl ?_
    refine ev_if_ne (pc := 791) (tgt := 806) dL_law_791 (by decide) (fun c_791 => absurd rfl c_791) (fun _ => ?_)
    refine ev_aload_n (pc := 794) dL_law_794 rfl rfl ?_
    refine ev_iconst (pc := 795) (v := 0) dL_law_795 (by decide) ?_
    refine ev_laldN (pc := 796) dL_law_796 (ou_get g34) ⟨(show _ = nI 0 from rfl), by decide, by decide⟩ pk_uLs ?_
    refine ev_iload (pc := 797) dL_law_797 rfl ?_
    refine ev_i2l (pc := 799) dL_law_799 ?_
    refine ev_lcmp (pc := 800) dL_law_800 ?_
    refine ev_if_eq (pc := 801) (tgt := 806) dL_law_801 (by decide) (fun _ => ?_) (fun c_801 => absurd ((lg_cmp_eq _ _).mpr rfl) c_801)
    refine ev_goto (pc := 806) (tgt := 1662) dL_law_806 (by decide) ?_
    exact k A2 _ _ _ _ _ _ (gi_mono (Nat.le_succ n) g4) g1 (by show kc + 1 + 0 + 0 ≤ kc + 8; omega) (by show ks + 6 + 0 + 0 ≤ ks + 64; omega)
  · obtain ⟨A1, f1, e1, hs⟩ := hs (ouC o)
    obtain ⟨A2, g1, e2, e3, g4⟩ := hs (ouC o)
    obtain ⟨-, -, ⟨fs1, f21⟩⟩ := id f1
    obtain ⟨-, -, ⟨fs2, g21⟩⟩ := id g1
    refine ev_aload_n (pc := 741) dL_law_741 rfl rfl ?_
    refine ev_aloadS_n (pc := 742) dL_law_742 rfl rfl ?_
    refine ev_iload (pc := 743) dL_law_743 rfl ?_
    refine ev_iconst (pc := 745) (v := 1) dL_law_745 (by decide) ?_
    refine ev_iadd (pc := 746) dL_law_746 ?_
    rw [nI_a1]
    refine ev_sld (pc := 747) dL_law_747 rfl (vp_in_nI (show j + 1 < q.1 by omega) (by omega)) ?_
    refine ev_aloadS_n (pc := 748) dL_law_748 rfl rfl ?_
    refine ev_iload (pc := 749) dL_law_749 rfl ?_
    refine ev_iconst (pc := 751) (v := 2) dL_law_751 (by decide) ?_
    refine ev_iadd (pc := 752) dL_law_752 ?_
    rw [nI_a2]
    refine ev_sld (pc := 753) dL_law_753 rfl (vp_in_nI (show j + 2 < q.1 by omega) (by omega)) ?_
    refine ev_aload_n (pc := 754) dL_law_754 rfl rfl ?_
    refine cX4 (pc := 755) (lk_L_law_755 _) (Nat.le_of_ble_eq_true rfl) ⟨(by show kc + 1 ≤ 601024; omega), (by show ks + 6 ≤ 7293034; omega)⟩ (w_next_T1 hw f1 e1) ?_
    refine ev_istore (pc := 758) dL_law_758 rfl rfl ?_
    refine ev_aload_n (pc := 760) dL_law_760 rfl rfl ?_
    refine ev_aloadS_n (pc := 761) dL_law_761 rfl rfl ?_
    refine ev_iload (pc := 762) dL_law_762 rfl ?_
    refine ev_iconst (pc := 764) (v := 1) dL_law_764 (by decide) ?_
    refine ev_iadd (pc := 765) dL_law_765 ?_
    rw [nI_a1]
    refine ev_sld (pc := 766) dL_law_766 rfl (vp_in_nI (show j + 1 < q.1 by omega) (by omega)) ?_
    refine ev_aloadS_n (pc := 767) dL_law_767 rfl rfl ?_
    refine ev_iload (pc := 768) dL_law_768 rfl ?_
    refine ev_iconst (pc := 770) (v := 2) dL_law_770 (by decide) ?_
    refine ev_iadd (pc := 771) dL_law_771 ?_
    rw [nI_a2]
    refine ev_sld (pc := 772) dL_law_772 rfl (vp_in_nI (show j + 2 < q.1 by omega) (by omega)) ?_
    refine cV2 (pc := 773) (lk_L_law_773 _) (ou_0 f21) rfl rfl (Nat.le_of_ble_eq_true rfl) ⟨(by show kc + 1 + 0 ≤ 601024; omega), (by show ks + 6 + 0 ≤ 7293034; omega)⟩ e2 ?_
    refine ev_istore (pc := 776) dL_law_776 rfl rfl ?_
    refine ev_aload_n (pc := 778) dL_law_778 rfl rfl ?_
    refine cV0 (pc := 779) (lk_L_law_779 _) (ou_0 g21) rfl rfl (Nat.le_of_ble_eq_true rfl) ⟨(by show kc + 1 + 0 + 0 ≤ 601024; omega), (by show ks + 6 + 0 + 0 ≤ 7293034; omega)⟩ e3 ?_
    refine ev_iload (pc := 782) dL_law_782 rfl ?_
    refine ev_ic_eq (pc := 784) (tgt := 789) dL_law_784 (by decide) (fun _ => ?_) (fun c_784 => absurd rfl c_784)
    refine ev_iload (pc := 789) dL_law_789 rfl ?_
    refine ev_if_ne (pc := 791) (tgt := 806) dL_law_791 (by decide) (fun _ => ?_) (fun c_791 => absurd c_791 (by decide))
    refine ev_goto (pc := 806) (tgt := 1662) dL_law_806 (by decide) ?_
    exact k A2 _ _ _ _ _ _ (gi_mono (Nat.le_succ n) g4) g1 (by show kc + 1 + 0 + 0 ≤ kc + 8; omega) (by show ks + 6 + 0 + 0 ≤ ks + 64; omega)
theorem lc_13 {n j kc ks : Nat} {q : Nat × (Nat → Int32)} {A : List mC} {o : Nat → Int64} {v5 v6 v7 : Value} (hA : GI n A) (hw : wf A) (hn : n ≤ 512) (hj : j + 2 < q.1) (hq : q.1 ≤ 1536) (hkc : kc ≤ 500000) (hks : ks ≤ 7000000) (k : LK q n j kc ks) : EvF (m_L_law q) QL 809 [scr1, .ref 0, .ref 21, .ref 34, .int (nI j), v5, v6, v7] [] kc ks (A ++ [ouC o]) := by
  obtain ⟨h34, ⟨fs, h0⟩, -⟩ := id hw
  rcases st_rank hA (q.2 (nI (j + 1)).toNatClampNeg) (q.2 (nI (j + 2)).toNatClampNeg) with ⟨v, hs⟩ | hs
  · obtain ⟨A1, f1, e1, hs⟩ := hs (ouC o)
    obtain ⟨A2, g1, e2, e3, g4⟩ := hs (ouC (vp_updL o 0 v.toInt64))
    obtain ⟨f34, -, ⟨fs1, f21⟩⟩ := id f1
    obtain ⟨g34, -, ⟨fs2, g21⟩⟩ := id g1
    refine ev_aload_n (pc := 809) dL_law_809 rfl rfl ?_
    refine ev_aloadS_n (pc := 810) dL_law_810 rfl rfl ?_
    refine ev_iload (pc := 811) dL_law_811 rfl ?_
    refine ev_iconst (pc := 813) (v := 1) dL_law_813 (by decide) ?_
    refine ev_iadd (pc := 814) dL_law_814 ?_
    rw [nI_a1]
    refine ev_sld (pc := 815) dL_law_815 rfl (vp_in_nI (show j + 1 < q.1 by omega) (by omega)) ?_
    refine ev_aloadS_n (pc := 816) dL_law_816 rfl rfl ?_
    refine ev_iload (pc := 817) dL_law_817 rfl ?_
    refine ev_iconst (pc := 819) (v := 2) dL_law_819 (by decide) ?_
    refine ev_iadd (pc := 820) dL_law_820 ?_
    rw [nI_a2]
    refine ev_sld (pc := 821) dL_law_821 rfl (vp_in_nI (show j + 2 < q.1 by omega) (by omega)) ?_
    refine ev_aload_n (pc := 822) dL_law_822 rfl rfl ?_
    refine cX4 (pc := 823) (lk_L_law_823 _) (Nat.le_of_ble_eq_true rfl) ⟨(by show kc + 1 ≤ 601024; omega), (by show ks + 6 ≤ 7293034; omega)⟩ (w_rank hw f1 e1) ?_
    refine ev_istore (pc := 826) dL_law_826 rfl rfl ?_
    refine ev_aload_n (pc := 828) dL_law_828 rfl rfl ?_
    refine ev_aloadS_n (pc := 829) dL_law_829 rfl rfl ?_
    refine ev_iload (pc := 830) dL_law_830 rfl ?_
    refine ev_iconst (pc := 832) (v := 1) dL_law_832 (by decide) ?_
    refine ev_iadd (pc := 833) dL_law_833 ?_
    rw [nI_a1]
    refine ev_sld (pc := 834) dL_law_834 rfl (vp_in_nI (show j + 1 < q.1 by omega) (by omega)) ?_
    refine ev_aloadS_n (pc := 835) dL_law_835 rfl rfl ?_
    refine ev_iload (pc := 836) dL_law_836 rfl ?_
    refine ev_iconst (pc := 838) (v := 2) dL_law_838 (by decide) ?_
    refine ev_iadd (pc := 839) dL_law_839 ?_
    rw [nI_a2]
    refine ev_sld (pc := 840) dL_law_840 rfl (vp_in_nI (show j + 2 < q.1 by omega) (by omega)) ?_
    refine cV2 (pc := 841) (lk_L_law_841 _) (ou_0 f21) rfl rfl (Nat.le_of_ble_eq_true rfl) ⟨(by show kc + 1 + 0 ≤ 601024; omega), (by show ks + 6 + 0 ≤ 7293034; omega)⟩ e2 ?_
    refine ev_istore (pc := 844) dL_law_844 rfl rfl ?_
    refine ev_aload_n (pc := 846) dL_law_846 rfl rfl ?_
    refine cV0 (pc := 847) (lk_L_law_847 _) (ou_0 g21) rfl rfl (Nat.le_of_ble_eq_true rfl) ⟨(by show kc + 1 + 0 + 0 ≤ 601024; omega), (by show ks + 6 + 0 + 0 ≤ 7293034; omega)⟩ e3 ?_
    refine ev_iload (pc := 850) dL_law_850 rfl ?_
    refine ev_ic_eq (pc := 852) (tgt := 857) dL_law_852 (by decide) (fun _ => ?_) (fun c_852 => absurd rfl c_852)
    refine ev_iload (pc := 857) dL_law_857 rfl ?_
    refine ev_if_ne (pc := 859) (tgt := 874) dL_law_859 (by decide) (fun c_859 => absurd rfl c_859) (fun _ => ?_)
    refine ev_aload_n (pc := 862) dL_law_862 rfl rfl ?_
    refine ev_iconst (pc := 863) (v := 0) dL_law_863 (by decide) ?_
    refine ev_laldN (pc := 864) dL_law_864 (ou_get g34) ⟨(show _ = nI 0 from rfl), by decide, by decide⟩ pk_uLs ?_
    refine ev_iload (pc := 865) dL_law_865 rfl ?_
    refine ev_i2l (pc := 867) dL_law_867 ?_
    refine ev_lcmp (pc := 868) dL_law_868 ?_
    refine ev_if_eq (pc := 869) (tgt := 874) dL_law_869 (by decide) (fun _ => ?_) (fun c_869 => absurd ((lg_cmp_eq _ _).mpr rfl) c_869)
    refine ev_goto (pc := 874) (tgt := 1662) dL_law_874 (by decide) ?_
    exact k A2 _ _ _ _ _ _ (gi_mono (Nat.le_succ n) g4) g1 (by show kc + 1 + 0 + 0 ≤ kc + 8; omega) (by show ks + 6 + 0 + 0 ≤ ks + 64; omega)
  · obtain ⟨A1, f1, e1, hs⟩ := hs (ouC o)
    obtain ⟨A2, g1, e2, e3, g4⟩ := hs (ouC o)
    obtain ⟨-, -, ⟨fs1, f21⟩⟩ := id f1
    obtain ⟨-, -, ⟨fs2, g21⟩⟩ := id g1
    refine ev_aload_n (pc := 809) dL_law_809 rfl rfl ?_
    refine ev_aloadS_n (pc := 810) dL_law_810 rfl rfl ?_
    refine ev_iload (pc := 811) dL_law_811 rfl ?_
    refine ev_iconst (pc := 813) (v := 1) dL_law_813 (by decide) ?_
    refine ev_iadd (pc := 814) dL_law_814 ?_
    rw [nI_a1]
    refine ev_sld (pc := 815) dL_law_815 rfl (vp_in_nI (show j + 1 < q.1 by omega) (by omega)) ?_
    refine ev_aloadS_n (pc := 816) dL_law_816 rfl rfl ?_
    refine ev_iload (pc := 817) dL_law_817 rfl ?_
    refine ev_iconst (pc := 819) (v := 2) dL_law_819 (by decide) ?_
    refine ev_iadd (pc := 820) dL_law_820 ?_
    rw [nI_a2]
    refine ev_sld (pc := 821) dL_law_821 rfl (vp_in_nI (show j + 2 < q.1 by omega) (by omega)) ?_
    refine ev_aload_n (pc := 822) dL_law_822 rfl rfl ?_
    refine cX4 (pc := 823) (lk_L_law_823 _) (Nat.le_of_ble_eq_true rfl) ⟨(by show kc + 1 ≤ 601024; omega), (by show ks + 6 ≤ 7293034; omega)⟩ (w_rank_T1 hw f1 e1) ?_
    refine ev_istore (pc := 826) dL_law_826 rfl rfl ?_
    refine ev_aload_n (pc := 828) dL_law_828 rfl rfl ?_
    refine ev_aloadS_n (pc := 829) dL_law_829 rfl rfl ?_
    refine ev_iload (pc := 830) dL_law_830 rfl ?_
    refine ev_iconst (pc := 832) (v := 1) dL_law_832 (by decide) ?_
    refine ev_iadd (pc := 833) dL_law_833 ?_
    rw [nI_a1]
    refine ev_sld (pc := 834) dL_law_834 rfl (vp_in_nI (show j + 1 < q.1 by omega) (by omega)) ?_
    refine ev_aloadS_n (pc := 835) dL_law_835 rfl rfl ?_
    refine ev_iload (pc := 836) dL_law_836 rfl ?_
    refine ev_iconst (pc := 838) (v := 2) dL_law_838 (by decide) ?_
    refine ev_iadd (pc := 839) dL_law_839 ?_
    rw [nI_a2]
    refine ev_sld (pc := 840) dL_law_840 rfl (vp_in_nI (show j + 2 < q.1 by omega) (by omega)) ?_
    refine cV2 (pc := 841) (lk_L_law_841 _) (ou_0 f21) rfl rfl (Nat.le_of_ble_eq_true rfl) ⟨(by show kc + 1 + 0 ≤ 601024; omega), (by show ks + 6 + 0 ≤ 7293034; omega)⟩ e2 ?_
    refine ev_istore (pc := 844) dL_law_844 rfl rfl ?_
    refine ev_aload_n (pc := 846) dL_law_846 rfl rfl ?_
    refine cV0 (pc := 847) (lk_L_law_847 _) (ou_0 g21) rfl rfl (Nat.le_of_ble_eq_true rfl) ⟨(by show kc + 1 + 0 + 0 ≤ 601024; omega), (by show ks + 6 + 0 + 0 ≤ 7293034; omega)⟩ e3 ?_
    refine ev_iload (pc := 850) dL_law_850 rfl ?_
    refine ev_ic_eq (pc := 852) (tgt := 857) dL_law_852 (by decide) (fun _ => ?_) (fun c_852 => absurd rfl c_852)
    refine ev_iload (pc := 857) dL_law_857 rfl ?_
    refine ev_if_ne (pc := 859) (tgt := 874) dL_law_859 (by decide) (fun _ => ?_) (fun c_859 => absurd c_859 (by decide))
    refine ev_goto (pc := 874) (tgt := 1662) dL_law_874 (by decide) ?_
    exact k A2 _ _ _ _ _ _ (gi_mono (Nat.le_succ n) g4) g1 (by show kc + 1 + 0 + 0 ≤ kc + 8; omega) (by show ks + 6 + 0 + 0 ≤ ks + 64; omega)
theorem lc_14 {n j kc ks : Nat} {q : Nat × (Nat → Int32)} {A : List mC} {o : Nat → Int64} {v5 v6 v7 : Value} (hA : GI n A) (hw : wf A) (hn : n ≤ 512) (hj : j + 2 < q.1) (hq : q.1 ≤ 1536) (hkc : kc ≤ 500000) (hks : ks ≤ 7000000) (k : LK q n j kc ks) : EvF (m_L_law q) QL 877 [scr1, .ref 0, .ref 21, .ref 34, .int (nI j), v5, v6, v7] [] kc ks (A ++ [ouC o]) := by
  obtain ⟨h34, ⟨fs, h0⟩, -⟩ := id hw
  rcases st_size hA (q.2 (nI (j + 1)).toNatClampNeg) with ⟨v, hs⟩ | hs
  · obtain ⟨A1, f1, e1, hs⟩ := hs (ouC o)
    obtain ⟨A2, g1, e2, e3, g4⟩ := hs (ouC (vp_updL o 0 v.toInt64))
    obtain ⟨f34, -, ⟨fs1, f21⟩⟩ := id f1
    obtain ⟨g34, -, ⟨fs2, g21⟩⟩ := id g1
    refine ev_aload_n (pc := 877) dL_law_877 rfl rfl ?_
    refine ev_aloadS_n (pc := 878) dL_law_878 rfl rfl ?_
    refine ev_iload (pc := 879) dL_law_879 rfl ?_
    refine ev_iconst (pc := 881) (v := 1) dL_law_881 (by decide) ?_
    refine ev_iadd (pc := 882) dL_law_882 ?_
    rw [nI_a1]
    refine ev_sld (pc := 883) dL_law_883 rfl (vp_in_nI (show j + 1 < q.1 by omega) (by omega)) ?_
    refine ev_aload_n (pc := 884) dL_law_884 rfl rfl ?_
    refine cX3 (pc := 885) (lk_L_law_885 _) (Nat.le_of_ble_eq_true rfl) ⟨(by show kc + 1 ≤ 601024; omega), (by show ks + 6 ≤ 7293034; omega)⟩ (w_size hw f1 e1) ?_
    refine ev_istore (pc := 888) dL_law_888 rfl rfl ?_
    refine ev_aload_n (pc := 890) dL_law_890 rfl rfl ?_
    refine ev_aloadS_n (pc := 891) dL_law_891 rfl rfl ?_
    refine ev_iload (pc := 892) dL_law_892 rfl ?_
    refine ev_iconst (pc := 894) (v := 1) dL_law_894 (by decide) ?_
    refine ev_iadd (pc := 895) dL_law_895 ?_
    rw [nI_a1]
    refine ev_sld (pc := 896) dL_law_896 rfl (vp_in_nI (show j + 1 < q.1 by omega) (by omega)) ?_
    refine cV1 (pc := 897) (lk_L_law_897 _) (ou_0 f21) rfl rfl (Nat.le_of_ble_eq_true rfl) ⟨(by show kc + 1 + 0 ≤ 601024; omega), (by show ks + 6 + 0 ≤ 7293034; omega)⟩ e2 ?_
    refine ev_istore (pc := 900) dL_law_900 rfl rfl ?_
    refine ev_aload_n (pc := 902) dL_law_902 rfl rfl ?_
    refine cV0 (pc := 903) (lk_L_law_903 _) (ou_0 g21) rfl rfl (Nat.le_of_ble_eq_true rfl) ⟨(by show kc + 1 + 0 + 0 ≤ 601024; omega), (by show ks + 6 + 0 + 0 ≤ 7293034; omega)⟩ e3 ?_
    refine ev_iload (pc := 906) dL_law_906 rfl ?_
    refine ev_ic_eq (pc := 908) (tgt := 913) dL_law_908 (by decide) (fun _ => ?_) (fun c_908 => absurd rfl c_908)
    refine ev_iload (pc := 913) dL_law_913 rfl ?_
    refine ev_if_ne (pc := 915) (tgt := 930) dL_law_915 (by decide) (fun c_915 => absurd rfl c_915) (fun _ => ?_)
    refine ev_aload_n (pc := 918) dL_law_918 rfl rfl ?_
    refine ev_iconst (pc := 919) (v := 0) dL_law_919 (by decide) ?_
    refine ev_laldN (pc := 920) dL_law_920 (ou_get g34) ⟨(show _ = nI 0 from rfl), by decide, by decide⟩ pk_uLs ?_
    refine ev_iload (pc := 921) dL_law_921 rfl ?_
    refine ev_i2l (pc := 923) dL_law_923 ?_
    refine ev_lcmp (pc := 924) dL_law_924 ?_
    refine ev_if_eq (pc := 925) (tgt := 930) dL_law_925 (by decide) (fun _ => ?_) (fun c_925 => absurd ((lg_cmp_eq _ _).mpr rfl) c_925)
    refine ev_goto (pc := 930) (tgt := 1662) dL_law_930 (by decide) ?_
    exact k A2 _ _ _ _ _ _ (gi_mono (Nat.le_succ n) g4) g1 (by show kc + 1 + 0 + 0 ≤ kc + 8; omega) (by show ks + 6 + 0 + 0 ≤ ks + 64; omega)
  · obtain ⟨A1, f1, e1, hs⟩ := hs (ouC o)
    obtain ⟨A2, g1, e2, e3, g4⟩ := hs (ouC o)
    obtain ⟨-, -, ⟨fs1, f21⟩⟩ := id f1
    obtain ⟨-, -, ⟨fs2, g21⟩⟩ := id g1
    refine ev_aload_n (pc := 877) dL_law_877 rfl rfl ?_
    refine ev_aloadS_n (pc := 878) dL_law_878 rfl rfl ?_
    refine ev_iload (pc := 879) dL_law_879 rfl ?_
    refine ev_iconst (pc := 881) (v := 1) dL_law_881 (by decide) ?_
    refine ev_iadd (pc := 882) dL_law_882 ?_
    rw [nI_a1]
    refine ev_sld (pc := 883) dL_law_883 rfl (vp_in_nI (show j + 1 < q.1 by omega) (by omega)) ?_
    refine ev_aload_n (pc := 884) dL_law_884 rfl rfl ?_
    refine cX3 (pc := 885) (lk_L_law_885 _) (Nat.le_of_ble_eq_true rfl) ⟨(by show kc + 1 ≤ 601024; omega), (by show ks + 6 ≤ 7293034; omega)⟩ (w_size_T1 hw f1 e1) ?_
    refine ev_istore (pc := 888) dL_law_888 rfl rfl ?_
    refine ev_aload_n (pc := 890) dL_law_890 rfl rfl ?_
    refine ev_aloadS_n (pc := 891) dL_law_891 rfl rfl ?_
    refine ev_iload (pc := 892) dL_law_892 rfl ?_
    refine ev_iconst (pc := 894) (v := 1) dL_law_894 (by decide) ?_
    refine ev_iadd (pc := 895) dL_law_895 ?_
    rw [nI_a1]
    refine ev_sld (pc := 896) dL_law_896 rfl (vp_in_nI (show j + 1 < q.1 by omega) (by omega)) ?_
    refine cV1 (pc := 897) (lk_L_law_897 _) (ou_0 f21) rfl rfl (Nat.le_of_ble_eq_true rfl) ⟨(by show kc + 1 + 0 ≤ 601024; omega), (by show ks + 6 + 0 ≤ 7293034; omega)⟩ e2 ?_
    refine ev_istore (pc := 900) dL_law_900 rfl rfl ?_
    refine ev_aload_n (pc := 902) dL_law_902 rfl rfl ?_
    refine cV0 (pc := 903) (lk_L_law_903 _) (ou_0 g21) rfl rfl (Nat.le_of_ble_eq_true rfl) ⟨(by show kc + 1 + 0 + 0 ≤ 601024; omega), (by show ks + 6 + 0 + 0 ≤ 7293034; omega)⟩ e3 ?_
    refine ev_iload (pc := 906) dL_law_906 rfl ?_
    refine ev_ic_eq (pc := 908) (tgt := 913) dL_law_908 (by decide) (fun _ => ?_) (fun c_908 => absurd rfl c_908)
    refine ev_iload (pc := 913) dL_law_913 rfl ?_
    refine ev_if_ne (pc := 915) (tgt := 930) dL_law_915 (by decide) (fun _ => ?_) (fun c_915 => absurd c_915 (by decide))
    refine ev_goto (pc := 930) (tgt := 1662) dL_law_930 (by decide) ?_
    exact k A2 _ _ _ _ _ _ (gi_mono (Nat.le_succ n) g4) g1 (by show kc + 1 + 0 + 0 ≤ kc + 8; omega) (by show ks + 6 + 0 + 0 ≤ ks + 64; omega)
theorem lc_15 {n j kc ks : Nat} {q : Nat × (Nat → Int32)} {A : List mC} {o : Nat → Int64} {v5 v6 v7 : Value} (hA : GI n A) (hw : wf A) (hn : n ≤ 512) (hj : j + 2 < q.1) (hq : q.1 ≤ 1536) (hkc : kc ≤ 500000) (hks : ks ≤ 7000000) (k : LK q n j kc ks) : EvF (m_L_law q) QL 933 [scr1, .ref 0, .ref 21, .ref 34, .int (nI j), v5, v6, v7] [] kc ks (A ++ [ouC o]) := by
  obtain ⟨h34, ⟨fs, h0⟩, -⟩ := id hw
  rcases st_depth hA (q.2 (nI (j + 1)).toNatClampNeg) with ⟨v, hs⟩ | hs
  · obtain ⟨A1, f1, e1, hs⟩ := hs (ouC o)
    obtain ⟨A2, g1, e2, e3, g4⟩ := hs (ouC (vp_updL o 0 v.toInt64))
    obtain ⟨f34, -, ⟨fs1, f21⟩⟩ := id f1
    obtain ⟨g34, -, ⟨fs2, g21⟩⟩ := id g1
    refine ev_aload_n (pc := 933) dL_law_933 rfl rfl ?_
    refine ev_aloadS_n (pc := 934) dL_law_934 rfl rfl ?_
    refine ev_iload (pc := 935) dL_law_935 rfl ?_
    refine ev_iconst (pc := 937) (v := 1) dL_law_937 (by decide) ?_
    refine ev_iadd (pc := 938) dL_law_938 ?_
    rw [nI_a1]
    refine ev_sld (pc := 939) dL_law_939 rfl (vp_in_nI (show j + 1 < q.1 by omega) (by omega)) ?_
    refine ev_aload_n (pc := 940) dL_law_940 rfl rfl ?_
    refine cX3 (pc := 941) (lk_L_law_941 _) (Nat.le_of_ble_eq_true rfl) ⟨(by show kc + 1 ≤ 601024; omega), (by show ks + 6 ≤ 7293034; omega)⟩ (w_depth hw f1 e1) ?_
    refine ev_istore (pc := 944) dL_law_944 rfl rfl ?_
    refine ev_aload_n (pc := 946) dL_law_946 rfl rfl ?_
    refine ev_aloadS_n (pc := 947) dL_law_947 rfl rfl ?_
    refine ev_iload (pc := 948) dL_law_948 rfl ?_
    refine ev_iconst (pc := 950) (v := 1) dL_law_950 (by decide) ?_
    refine ev_iadd (pc := 951) dL_law_951 ?_
    rw [nI_a1]
    refine ev_sld (pc := 952) dL_law_952 rfl (vp_in_nI (show j + 1 < q.1 by omega) (by omega)) ?_
    refine cV1 (pc := 953) (lk_L_law_953 _) (ou_0 f21) rfl rfl (Nat.le_of_ble_eq_true rfl) ⟨(by show kc + 1 + 0 ≤ 601024; omega), (by show ks + 6 + 0 ≤ 7293034; omega)⟩ e2 ?_
    refine ev_istore (pc := 956) dL_law_956 rfl rfl ?_
    refine ev_aload_n (pc := 958) dL_law_958 rfl rfl ?_
    refine cV0 (pc := 959) (lk_L_law_959 _) (ou_0 g21) rfl rfl (Nat.le_of_ble_eq_true rfl) ⟨(by show kc + 1 + 0 + 0 ≤ 601024; omega), (by show ks + 6 + 0 + 0 ≤ 7293034; omega)⟩ e3 ?_
    refine ev_iload (pc := 962) dL_law_962 rfl ?_
    refine ev_ic_eq (pc := 964) (tgt := 969) dL_law_964 (by decide) (fun _ => ?_) (fun c_964 => absurd rfl c_964)
    refine ev_iload (pc := 969) dL_law_969 rfl ?_
    refine ev_if_ne (pc := 971) (tgt := 986) dL_law_971 (by decide) (fun c_971 => absurd rfl c_971) (fun _ => ?_)
    refine ev_aload_n (pc := 974) dL_law_974 rfl rfl ?_
    refine ev_iconst (pc := 975) (v := 0) dL_law_975 (by decide) ?_
    refine ev_laldN (pc := 976) dL_law_976 (ou_get g34) ⟨(show _ = nI 0 from rfl), by decide, by decide⟩ pk_uLs ?_
    refine ev_iload (pc := 977) dL_law_977 rfl ?_
    refine ev_i2l (pc := 979) dL_law_979 ?_
    refine ev_lcmp (pc := 980) dL_law_980 ?_
    refine ev_if_eq (pc := 981) (tgt := 986) dL_law_981 (by decide) (fun _ => ?_) (fun c_981 => absurd ((lg_cmp_eq _ _).mpr rfl) c_981)
    refine ev_goto (pc := 986) (tgt := 1662) dL_law_986 (by decide) ?_
    exact k A2 _ _ _ _ _ _ (gi_mono (Nat.le_succ n) g4) g1 (by show kc + 1 + 0 + 0 ≤ kc + 8; omega) (by show ks + 6 + 0 + 0 ≤ ks + 64; omega)
  · obtain ⟨A1, f1, e1, hs⟩ := hs (ouC o)
    obtain ⟨A2, g1, e2, e3, g4⟩ := hs (ouC o)
    obtain ⟨-, -, ⟨fs1, f21⟩⟩ := id f1
    obtain ⟨-, -, ⟨fs2, g21⟩⟩ := id g1
    refine ev_aload_n (pc := 933) dL_law_933 rfl rfl ?_
    refine ev_aloadS_n (pc := 934) dL_law_934 rfl rfl ?_
    refine ev_iload (pc := 935) dL_law_935 rfl ?_
    refine ev_iconst (pc := 937) (v := 1) dL_law_937 (by decide) ?_
    refine ev_iadd (pc := 938) dL_law_938 ?_
    rw [nI_a1]
    refine ev_sld (pc := 939) dL_law_939 rfl (vp_in_nI (show j + 1 < q.1 by omega) (by omega)) ?_
    refine ev_aload_n (pc := 940) dL_law_940 rfl rfl ?_
    refine cX3 (pc := 941) (lk_L_law_941 _) (Nat.le_of_ble_eq_true rfl) ⟨(by show kc + 1 ≤ 601024; omega), (by show ks + 6 ≤ 7293034; omega)⟩ (w_depth_T1 hw f1 e1) ?_
    refine ev_istore (pc := 944) dL_law_944 rfl rfl ?_
    refine ev_aload_n (pc := 946) dL_law_946 rfl rfl ?_
    refine ev_aloadS_n (pc := 947) dL_law_947 rfl rfl ?_
    refine ev_iload (pc := 948) dL_law_948 rfl ?_
    refine ev_iconst (pc := 950) (v := 1) dL_law_950 (by decide) ?_
    refine ev_iadd (pc := 951) dL_law_951 ?_
    rw [nI_a1]
    refine ev_sld (pc := 952) dL_law_952 rfl (vp_in_nI (show j + 1 < q.1 by omega) (by omega)) ?_
    refine cV1 (pc := 953) (lk_L_law_953 _) (ou_0 f21) rfl rfl (Nat.le_of_ble_eq_true rfl) ⟨(by show kc + 1 + 0 ≤ 601024; omega), (by show ks + 6 + 0 ≤ 7293034; omega)⟩ e2 ?_
    refine ev_istore (pc := 956) dL_law_956 rfl rfl ?_
    refine ev_aload_n (pc := 958) dL_law_958 rfl rfl ?_
    refine cV0 (pc := 959) (lk_L_law_959 _) (ou_0 g21) rfl rfl (Nat.le_of_ble_eq_true rfl) ⟨(by show kc + 1 + 0 + 0 ≤ 601024; omega), (by show ks + 6 + 0 + 0 ≤ 7293034; omega)⟩ e3 ?_
    refine ev_iload (pc := 962) dL_law_962 rfl ?_
    refine ev_ic_eq (pc := 964) (tgt := 969) dL_law_964 (by decide) (fun _ => ?_) (fun c_964 => absurd rfl c_964)
    refine ev_iload (pc := 969) dL_law_969 rfl ?_
    refine ev_if_ne (pc := 971) (tgt := 986) dL_law_971 (by decide) (fun _ => ?_) (fun c_971 => absurd c_971 (by decide))
    refine ev_goto (pc := 986) (tgt := 1662) dL_law_986 (by decide) ?_
    exact k A2 _ _ _ _ _ _ (gi_mono (Nat.le_succ n) g4) g1 (by show kc + 1 + 0 + 0 ≤ kc + 8; omega) (by show ks + 6 + 0 + 0 ≤ ks + 64; omega)
theorem lc_16 {n j kc ks : Nat} {q : Nat × (Nat → Int32)} {A : List mC} {o : Nat → Int64} {v5 v6 v7 : Value} (hA : GI n A) (hw : wf A) (hn : n ≤ 512) (hj : j + 2 < q.1) (hq : q.1 ≤ 1536) (hkc : kc ≤ 500000) (hks : ks ≤ 7000000) (k : LK q n j kc ks) : EvF (m_L_law q) QL 989 [scr1, .ref 0, .ref 21, .ref 34, .int (nI j), v5, v6, v7] [] kc ks (A ++ [ouC o]) := by
  obtain ⟨h34, ⟨fs, h0⟩, -⟩ := id hw
  rcases st_rootOf hA (q.2 (nI (j + 1)).toNatClampNeg) with ⟨v, hs⟩ | hs
  · obtain ⟨A1, f1, e1, hs⟩ := hs (ouC o)
    obtain ⟨A2, g1, e2, e3, g4⟩ := hs (ouC (vp_updL o 0 v.toInt64))
    obtain ⟨f34, -, ⟨fs1, f21⟩⟩ := id f1
    obtain ⟨g34, -, ⟨fs2, g21⟩⟩ := id g1
    refine ev_aload_n (pc := 989) dL_law_989 rfl rfl ?_
    refine ev_aloadS_n (pc := 990) dL_law_990 rfl rfl ?_
    refine ev_iload (pc := 991) dL_law_991 rfl ?_
    refine ev_iconst (pc := 993) (v := 1) dL_law_993 (by decide) ?_
    refine ev_iadd (pc := 994) dL_law_994 ?_
    rw [nI_a1]
    refine ev_sld (pc := 995) dL_law_995 rfl (vp_in_nI (show j + 1 < q.1 by omega) (by omega)) ?_
    refine ev_aload_n (pc := 996) dL_law_996 rfl rfl ?_
    refine cX3 (pc := 997) (lk_L_law_997 _) (Nat.le_of_ble_eq_true rfl) ⟨(by show kc + 1 ≤ 601024; omega), (by show ks + 6 ≤ 7293034; omega)⟩ (w_rootOf hw f1 e1) ?_
    refine ev_istore (pc := 1000) dL_law_1000 rfl rfl ?_
    refine ev_aload_n (pc := 1002) dL_law_1002 rfl rfl ?_
    refine ev_aloadS_n (pc := 1003) dL_law_1003 rfl rfl ?_
    refine ev_iload (pc := 1004) dL_law_1004 rfl ?_
    refine ev_iconst (pc := 1006) (v := 1) dL_law_1006 (by decide) ?_
    refine ev_iadd (pc := 1007) dL_law_1007 ?_
    rw [nI_a1]
    refine ev_sld (pc := 1008) dL_law_1008 rfl (vp_in_nI (show j + 1 < q.1 by omega) (by omega)) ?_
    refine cV1 (pc := 1009) (lk_L_law_1009 _) (ou_0 f21) rfl rfl (Nat.le_of_ble_eq_true rfl) ⟨(by show kc + 1 + 0 ≤ 601024; omega), (by show ks + 6 + 0 ≤ 7293034; omega)⟩ e2 ?_
    refine ev_istore (pc := 1012) dL_law_1012 rfl rfl ?_
    refine ev_aload_n (pc := 1014) dL_law_1014 rfl rfl ?_
    refine cV0 (pc := 1015) (lk_L_law_1015 _) (ou_0 g21) rfl rfl (Nat.le_of_ble_eq_true rfl) ⟨(by show kc + 1 + 0 + 0 ≤ 601024; omega), (by show ks + 6 + 0 + 0 ≤ 7293034; omega)⟩ e3 ?_
    refine ev_iload (pc := 1018) dL_law_1018 rfl ?_
    refine ev_ic_eq (pc := 1020) (tgt := 1025) dL_law_1020 (by decide) (fun _ => ?_) (fun c_1020 => absurd rfl c_1020)
    refine ev_iload (pc := 1025) dL_law_1025 rfl ?_
    refine ev_if_ne (pc := 1027) (tgt := 1042) dL_law_1027 (by decide) (fun c_1027 => absurd rfl c_1027) (fun _ => ?_)
    refine ev_aload_n (pc := 1030) dL_law_1030 rfl rfl ?_
    refine ev_iconst (pc := 1031) (v := 0) dL_law_1031 (by decide) ?_
    refine ev_laldN (pc := 1032) dL_law_1032 (ou_get g34) ⟨(show _ = nI 0 from rfl), by decide, by decide⟩ pk_uLs ?_
    refine ev_iload (pc := 1033) dL_law_1033 rfl ?_
    refine ev_i2l (pc := 1035) dL_law_1035 ?_
    refine ev_lcmp (pc := 1036) dL_law_1036 ?_
    refine ev_if_eq (pc := 1037) (tgt := 1042) dL_law_1037 (by decide) (fun _ => ?_) (fun c_1037 => absurd ((lg_cmp_eq _ _).mpr rfl) c_1037)
    refine ev_goto (pc := 1042) (tgt := 1662) dL_law_1042 (by decide) ?_
    exact k A2 _ _ _ _ _ _ (gi_mono (Nat.le_succ n) g4) g1 (by show kc + 1 + 0 + 0 ≤ kc + 8; omega) (by show ks + 6 + 0 + 0 ≤ ks + 64; omega)
  · obtain ⟨A1, f1, e1, hs⟩ := hs (ouC o)
    obtain ⟨A2, g1, e2, e3, g4⟩ := hs (ouC o)
    obtain ⟨-, -, ⟨fs1, f21⟩⟩ := id f1
    obtain ⟨-, -, ⟨fs2, g21⟩⟩ := id g1
    refine ev_aload_n (pc := 989) dL_law_989 rfl rfl ?_
    refine ev_aloadS_n (pc := 990) dL_law_990 rfl rfl ?_
    refine ev_iload (pc := 991) dL_law_991 rfl ?_
    refine ev_iconst (pc := 993) (v := 1) dL_law_993 (by decide) ?_
    refine ev_iadd (pc := 994) dL_law_994 ?_
    rw [nI_a1]
    refine ev_sld (pc := 995) dL_law_995 rfl (vp_in_nI (show j + 1 < q.1 by omega) (by omega)) ?_
    refine ev_aload_n (pc := 996) dL_law_996 rfl rfl ?_
    refine cX3 (pc := 997) (lk_L_law_997 _) (Nat.le_of_ble_eq_true rfl) ⟨(by show kc + 1 ≤ 601024; omega), (by show ks + 6 ≤ 7293034; omega)⟩ (w_rootOf_T1 hw f1 e1) ?_
    refine ev_istore (pc := 1000) dL_law_1000 rfl rfl ?_
    refine ev_aload_n (pc := 1002) dL_law_1002 rfl rfl ?_
    refine ev_aloadS_n (pc := 1003) dL_law_1003 rfl rfl ?_
    refine ev_iload (pc := 1004) dL_law_1004 rfl ?_
    refine ev_iconst (pc := 1006) (v := 1) dL_law_1006 (by decide) ?_
    refine ev_iadd (pc := 1007) dL_law_1007 ?_
    rw [nI_a1]
    refine ev_sld (pc := 1008) dL_law_1008 rfl (vp_in_nI (show j + 1 < q.1 by omega) (by omega)) ?_
    refine cV1 (pc := 1009) (lk_L_law_1009 _) (ou_0 f21) rfl rfl (Nat.le_of_ble_eq_true rfl) ⟨(by show kc + 1 + 0 ≤ 601024; omega), (by show ks + 6 + 0 ≤ 7293034; omega)⟩ e2 ?_
    refine ev_istore (pc := 1012) dL_law_1012 rfl rfl ?_
    refine ev_aload_n (pc := 1014) dL_law_1014 rfl rfl ?_
    refine cV0 (pc := 1015) (lk_L_law_1015 _) (ou_0 g21) rfl rfl (Nat.le_of_ble_eq_true rfl) ⟨(by show kc + 1 + 0 + 0 ≤ 601024; omega), (by show ks + 6 + 0 + 0 ≤ 7293034; omega)⟩ e3 ?_
    refine ev_iload (pc := 1018) dL_law_1018 rfl ?_
    refine ev_ic_eq (pc := 1020) (tgt := 1025) dL_law_1020 (by decide) (fun _ => ?_) (fun c_1020 => absurd rfl c_1020)
    refine ev_iload (pc := 1025) dL_law_1025 rfl ?_
    refine ev_if_ne (pc := 1027) (tgt := 1042) dL_law_1027 (by decide) (fun _ => ?_) (fun c_1027 => absurd c_1027 (by decide))
    refine ev_goto (pc := 1042) (tgt := 1662) dL_law_1042 (by decide) ?_
    exact k A2 _ _ _ _ _ _ (gi_mono (Nat.le_succ n) g4) g1 (by show kc + 1 + 0 + 0 ≤ kc + 8; omega) (by show ks + 6 + 0 + 0 ≤ ks + 64; omega)
theorem lc_17 {n j kc ks : Nat} {q : Nat × (Nat → Int32)} {A : List mC} {o : Nat → Int64} {v5 v6 v7 : Value} (hA : GI n A) (hw : wf A) (hn : n ≤ 512) (hj : j + 2 < q.1) (hq : q.1 ≤ 1536) (hkc : kc ≤ 500000) (hks : ks ≤ 7000000) (k : LK q n j kc ks) : EvF (m_L_law q) QL 1045 [scr1, .ref 0, .ref 21, .ref 34, .int (nI j), v5, v6, v7] [] kc ks (A ++ [ouC o]) := by
  obtain ⟨h34, ⟨fs, h0⟩, -⟩ := id hw
  rcases st_shared hA (q.2 (nI (j + 1)).toNatClampNeg) (q.2 (nI (j + 2)).toNatClampNeg) with ⟨v, hs⟩ | hs
  · obtain ⟨A1, f1, e1, hs⟩ := hs (ouC o)
    obtain ⟨A2, g1, e2, e3, g4⟩ := hs (ouC (vp_updL o 0 v.toInt64))
    obtain ⟨f34, -, ⟨fs1, f21⟩⟩ := id f1
    obtain ⟨g34, -, ⟨fs2, g21⟩⟩ := id g1
    refine ev_aload_n (pc := 1045) dL_law_1045 rfl rfl ?_
    refine ev_aloadS_n (pc := 1046) dL_law_1046 rfl rfl ?_
    refine ev_iload (pc := 1047) dL_law_1047 rfl ?_
    refine ev_iconst (pc := 1049) (v := 1) dL_law_1049 (by decide) ?_
    refine ev_iadd (pc := 1050) dL_law_1050 ?_
    rw [nI_a1]
    refine ev_sld (pc := 1051) dL_law_1051 rfl (vp_in_nI (show j + 1 < q.1 by omega) (by omega)) ?_
    refine ev_aloadS_n (pc := 1052) dL_law_1052 rfl rfl ?_
    refine ev_iload (pc := 1053) dL_law_1053 rfl ?_
    refine ev_iconst (pc := 1055) (v := 2) dL_law_1055 (by decide) ?_
    refine ev_iadd (pc := 1056) dL_law_1056 ?_
    rw [nI_a2]
    refine ev_sld (pc := 1057) dL_law_1057 rfl (vp_in_nI (show j + 2 < q.1 by omega) (by omega)) ?_
    refine ev_aload_n (pc := 1058) dL_law_1058 rfl rfl ?_
    refine cX4 (pc := 1059) (lk_L_law_1059 _) (Nat.le_of_ble_eq_true rfl) ⟨(by show kc + 2 ≤ 601024; omega), (by show ks + 12 ≤ 7293034; omega)⟩ (w_sharedPages hw f1 e1) ?_
    refine ev_istore (pc := 1062) dL_law_1062 rfl rfl ?_
    refine ev_aload_n (pc := 1064) dL_law_1064 rfl rfl ?_
    refine ev_aloadS_n (pc := 1065) dL_law_1065 rfl rfl ?_
    refine ev_iload (pc := 1066) dL_law_1066 rfl ?_
    refine ev_iconst (pc := 1068) (v := 1) dL_law_1068 (by decide) ?_
    refine ev_iadd (pc := 1069) dL_law_1069 ?_
    rw [nI_a1]
    refine ev_sld (pc := 1070) dL_law_1070 rfl (vp_in_nI (show j + 1 < q.1 by omega) (by omega)) ?_
    refine ev_aloadS_n (pc := 1071) dL_law_1071 rfl rfl ?_
    refine ev_iload (pc := 1072) dL_law_1072 rfl ?_
    refine ev_iconst (pc := 1074) (v := 2) dL_law_1074 (by decide) ?_
    refine ev_iadd (pc := 1075) dL_law_1075 ?_
    rw [nI_a2]
    refine ev_sld (pc := 1076) dL_law_1076 rfl (vp_in_nI (show j + 2 < q.1 by omega) (by omega)) ?_
    refine cV2 (pc := 1077) (lk_L_law_1077 _) (ou_0 f21) rfl rfl (Nat.le_of_ble_eq_true rfl) ⟨(by show kc + 2 + 0 ≤ 601024; omega), (by show ks + 12 + 0 ≤ 7293034; omega)⟩ e2 ?_
    refine ev_istore (pc := 1080) dL_law_1080 rfl rfl ?_
    refine ev_aload_n (pc := 1082) dL_law_1082 rfl rfl ?_
    refine cV0 (pc := 1083) (lk_L_law_1083 _) (ou_0 g21) rfl rfl (Nat.le_of_ble_eq_true rfl) ⟨(by show kc + 2 + 0 + 0 ≤ 601024; omega), (by show ks + 12 + 0 + 0 ≤ 7293034; omega)⟩ e3 ?_
    refine ev_iload (pc := 1086) dL_law_1086 rfl ?_
    refine ev_ic_eq (pc := 1088) (tgt := 1093) dL_law_1088 (by decide) (fun _ => ?_) (fun c_1088 => absurd rfl c_1088)
    refine ev_iload (pc := 1093) dL_law_1093 rfl ?_
    refine ev_if_ne (pc := 1095) (tgt := 1110) dL_law_1095 (by decide) (fun c_1095 => absurd rfl c_1095) (fun _ => ?_)
    refine ev_aload_n (pc := 1098) dL_law_1098 rfl rfl ?_
    refine ev_iconst (pc := 1099) (v := 0) dL_law_1099 (by decide) ?_
    refine ev_laldN (pc := 1100) dL_law_1100 (ou_get g34) ⟨(show _ = nI 0 from rfl), by decide, by decide⟩ pk_uLs ?_
    refine ev_iload (pc := 1101) dL_law_1101 rfl ?_
    refine ev_i2l (pc := 1103) dL_law_1103 ?_
    refine ev_lcmp (pc := 1104) dL_law_1104 ?_
    refine ev_if_eq (pc := 1105) (tgt := 1110) dL_law_1105 (by decide) (fun _ => ?_) (fun c_1105 => absurd ((lg_cmp_eq _ _).mpr rfl) c_1105)
    refine ev_goto (pc := 1110) (tgt := 1662) dL_law_1110 (by decide) ?_
    exact k A2 _ _ _ _ _ _ (gi_mono (Nat.le_succ n) g4) g1 (by show kc + 2 + 0 + 0 ≤ kc + 8; omega) (by show ks + 12 + 0 + 0 ≤ ks + 64; omega)
  · obtain ⟨A1, f1, e1, hs⟩ := hs (ouC o)
    obtain ⟨A2, g1, e2, e3, g4⟩ := hs (ouC o)
    obtain ⟨-, -, ⟨fs1, f21⟩⟩ := id f1
    obtain ⟨-, -, ⟨fs2, g21⟩⟩ := id g1
    refine ev_aload_n (pc := 1045) dL_law_1045 rfl rfl ?_
    refine ev_aloadS_n (pc := 1046) dL_law_1046 rfl rfl ?_
    refine ev_iload (pc := 1047) dL_law_1047 rfl ?_
    refine ev_iconst (pc := 1049) (v := 1) dL_law_1049 (by decide) ?_
    refine ev_iadd (pc := 1050) dL_law_1050 ?_
    rw [nI_a1]
    refine ev_sld (pc := 1051) dL_law_1051 rfl (vp_in_nI (show j + 1 < q.1 by omega) (by omega)) ?_
    refine ev_aloadS_n (pc := 1052) dL_law_1052 rfl rfl ?_
    refine ev_iload (pc := 1053) dL_law_1053 rfl ?_
    refine ev_iconst (pc := 1055) (v := 2) dL_law_1055 (by decide) ?_
    refine ev_iadd (pc := 1056) dL_law_1056 ?_
    rw [nI_a2]
    refine ev_sld (pc := 1057) dL_law_1057 rfl (vp_in_nI (show j + 2 < q.1 by omega) (by omega)) ?_
    refine ev_aload_n (pc := 1058) dL_law_1058 rfl rfl ?_
    refine cX4 (pc := 1059) (lk_L_law_1059 _) (Nat.le_of_ble_eq_true rfl) ⟨(by show kc + 2 ≤ 601024; omega), (by show ks + 12 ≤ 7293034; omega)⟩ (w_sharedPages_T1 hw f1 e1) ?_
    refine ev_istore (pc := 1062) dL_law_1062 rfl rfl ?_
    refine ev_aload_n (pc := 1064) dL_law_1064 rfl rfl ?_
    refine ev_aloadS_n (pc := 1065) dL_law_1065 rfl rfl ?_
    refine ev_iload (pc := 1066) dL_law_1066 rfl ?_
    refine ev_iconst (pc := 1068) (v := 1) dL_law_1068 (by decide) ?_
    refine ev_iadd (pc := 1069) dL_law_1069 ?_
    rw [nI_a1]
    refine ev_sld (pc := 1070) dL_law_1070 rfl (vp_in_nI (show j + 1 < q.1 by omega) (by omega)) ?_
    refine ev_aloadS_n (pc := 1071) dL_law_1071 rfl rfl ?_
    refine ev_iload (pc := 1072) dL_law_1072 rfl ?_
    refine ev_iconst (pc := 1074) (v := 2) dL_law_1074 (by decide) ?_
    refine ev_iadd (pc := 1075) dL_law_1075 ?_
    rw [nI_a2]
    refine ev_sld (pc := 1076) dL_law_1076 rfl (vp_in_nI (show j + 2 < q.1 by omega) (by omega)) ?_
    refine cV2 (pc := 1077) (lk_L_law_1077 _) (ou_0 f21) rfl rfl (Nat.le_of_ble_eq_true rfl) ⟨(by show kc + 2 + 0 ≤ 601024; omega), (by show ks + 12 + 0 ≤ 7293034; omega)⟩ e2 ?_
    refine ev_istore (pc := 1080) dL_law_1080 rfl rfl ?_
    refine ev_aload_n (pc := 1082) dL_law_1082 rfl rfl ?_
    refine cV0 (pc := 1083) (lk_L_law_1083 _) (ou_0 g21) rfl rfl (Nat.le_of_ble_eq_true rfl) ⟨(by show kc + 2 + 0 + 0 ≤ 601024; omega), (by show ks + 12 + 0 + 0 ≤ 7293034; omega)⟩ e3 ?_
    refine ev_iload (pc := 1086) dL_law_1086 rfl ?_
    refine ev_ic_eq (pc := 1088) (tgt := 1093) dL_law_1088 (by decide) (fun _ => ?_) (fun c_1088 => absurd rfl c_1088)
    refine ev_iload (pc := 1093) dL_law_1093 rfl ?_
    refine ev_if_ne (pc := 1095) (tgt := 1110) dL_law_1095 (by decide) (fun _ => ?_) (fun c_1095 => absurd c_1095 (by decide))
    refine ev_goto (pc := 1110) (tgt := 1662) dL_law_1110 (by decide) ?_
    exact k A2 _ _ _ _ _ _ (gi_mono (Nat.le_succ n) g4) g1 (by show kc + 2 + 0 + 0 ≤ kc + 8; omega) (by show ks + 12 + 0 + 0 ≤ ks + 64; omega)
theorem lc_18 {n j kc ks : Nat} {q : Nat × (Nat → Int32)} {A : List mC} {o : Nat → Int64} {v5 v6 v7 : Value} (hA : GI n A) (hw : wf A) (hn : n ≤ 512) (hj : j + 2 < q.1) (hq : q.1 ≤ 1536) (hkc : kc ≤ 500000) (hks : ks ≤ 7000000) (k : LK q n j kc ks) : EvF (m_L_law q) QL 1113 [scr1, .ref 0, .ref 21, .ref 34, .int (nI j), v5, v6, v7] [] kc ks (A ++ [ouC o]) := by
  obtain ⟨h34, ⟨fs, h0⟩, -⟩ := id hw
  rcases st_isFree hA (q.2 (nI (j + 1)).toNatClampNeg) with ⟨v, hv, hs⟩ | hs
  · obtain ⟨A1, f1, e1, hs⟩ := hs (ouC o)
    obtain ⟨A2, g1, e2, e3, g4⟩ := hs (ouC (vp_updL o 0 v.toInt64))
    obtain ⟨f34, -, ⟨fs1, f21⟩⟩ := id f1
    obtain ⟨g34, -, ⟨fs2, g21⟩⟩ := id g1
    have hv0 := hv
    rcases hv with rfl | rfl
    · refine ev_aload_n (pc := 1113) dL_law_1113 rfl rfl ?_
      refine ev_aloadS_n (pc := 1114) dL_law_1114 rfl rfl ?_
      refine ev_iload (pc := 1115) dL_law_1115 rfl ?_
      refine ev_iconst (pc := 1117) (v := 1) dL_law_1117 (by decide) ?_
      refine ev_iadd (pc := 1118) dL_law_1118 ?_
      rw [nI_a1]
      refine ev_sld (pc := 1119) dL_law_1119 rfl (vp_in_nI (show j + 1 < q.1 by omega) (by omega)) ?_
      refine ev_aload_n (pc := 1120) dL_law_1120 rfl rfl ?_
      refine cX3 (pc := 1121) (lk_L_law_1121 _) (Nat.le_of_ble_eq_true rfl) ⟨(by show kc + 1 ≤ 601024; omega), (by show ks + 6 ≤ 7293034; omega)⟩ (w_isFree hw f1 hv0 e1) ?_
      refine ev_istore (pc := 1124) dL_law_1124 rfl rfl ?_
      refine ev_aload_n (pc := 1126) dL_law_1126 rfl rfl ?_
      refine ev_aloadS_n (pc := 1127) dL_law_1127 rfl rfl ?_
      refine ev_iload (pc := 1128) dL_law_1128 rfl ?_
      refine ev_iconst (pc := 1130) (v := 1) dL_law_1130 (by decide) ?_
      refine ev_iadd (pc := 1131) dL_law_1131 ?_
      rw [nI_a1]
      refine ev_sld (pc := 1132) dL_law_1132 rfl (vp_in_nI (show j + 1 < q.1 by omega) (by omega)) ?_
      refine cV1 (pc := 1133) (lk_L_law_1133 _) (ou_0 f21) rfl rfl (Nat.le_of_ble_eq_true rfl) ⟨(by show kc + 1 + 0 ≤ 601024; omega), (by show ks + 6 + 0 ≤ 7293034; omega)⟩ e2 ?_
      refine ev_istore (pc := 1136) dL_law_1136 rfl rfl ?_
      refine ev_aload_n (pc := 1138) dL_law_1138 rfl rfl ?_
      refine cV0 (pc := 1139) (lk_L_law_1139 _) (ou_0 g21) rfl rfl (Nat.le_of_ble_eq_true rfl) ⟨(by show kc + 1 + 0 + 0 ≤ 601024; omega), (by show ks + 6 + 0 + 0 ≤ 7293034; omega)⟩ e3 ?_
      refine ev_iload (pc := 1142) dL_law_1142 rfl ?_
      refine ev_ic_eq (pc := 1144) (tgt := 1149) dL_law_1144 (by decide) (fun _ => ?_) (fun c_1144 => absurd rfl c_1144)
      refine ev_iload (pc := 1149) dL_law_1149 rfl ?_
      refine ev_if_ne (pc := 1151) (tgt := 1173) dL_law_1151 (by decide) (fun c_1151 => absurd rfl c_1151) (fun _ => ?_)
      refine ev_aload_n (pc := 1154) dL_law_1154 rfl rfl ?_
      refine ev_iconst (pc := 1155) (v := 0) dL_law_1155 (by decide) ?_
      refine ev_laldN (pc := 1156) dL_law_1156 (ou_get g34) ⟨(show _ = nI 0 from rfl), by decide, by decide⟩ pk_uLs ?_
      refine ev_iload (pc := 1157) dL_law_1157 rfl ?_
      refine ev_if_eq (pc := 1159) (tgt := 1166) dL_law_1159 (by decide) (fun _ => ?_) (fun c_1159 => absurd rfl c_1159)
      refine ev_lconst (pc := 1166) (v := 0) dL_law_1166 (by decide) ?_
      refine ev_lcmp (pc := 1167) dL_law_1167 ?_
      refine ev_if_eq (pc := 1168) (tgt := 1173) dL_law_1168 (by decide) (fun _ => ?_) (fun c_1168 => absurd ((lg_cmp_eq _ _).mpr rfl) c_1168)
      refine ev_goto (pc := 1173) (tgt := 1662) dL_law_1173 (by decide) ?_
      exact k A2 _ _ _ _ _ _ (gi_mono (Nat.le_succ n) g4) g1 (by show kc + 1 + 0 + 0 ≤ kc + 8; omega) (by show ks + 6 + 0 + 0 ≤ ks + 64; omega)
    · refine ev_aload_n (pc := 1113) dL_law_1113 rfl rfl ?_
      refine ev_aloadS_n (pc := 1114) dL_law_1114 rfl rfl ?_
      refine ev_iload (pc := 1115) dL_law_1115 rfl ?_
      refine ev_iconst (pc := 1117) (v := 1) dL_law_1117 (by decide) ?_
      refine ev_iadd (pc := 1118) dL_law_1118 ?_
      rw [nI_a1]
      refine ev_sld (pc := 1119) dL_law_1119 rfl (vp_in_nI (show j + 1 < q.1 by omega) (by omega)) ?_
      refine ev_aload_n (pc := 1120) dL_law_1120 rfl rfl ?_
      refine cX3 (pc := 1121) (lk_L_law_1121 _) (Nat.le_of_ble_eq_true rfl) ⟨(by show kc + 1 ≤ 601024; omega), (by show ks + 6 ≤ 7293034; omega)⟩ (w_isFree hw f1 hv0 e1) ?_
      refine ev_istore (pc := 1124) dL_law_1124 rfl rfl ?_
      refine ev_aload_n (pc := 1126) dL_law_1126 rfl rfl ?_
      refine ev_aloadS_n (pc := 1127) dL_law_1127 rfl rfl ?_
      refine ev_iload (pc := 1128) dL_law_1128 rfl ?_
      refine ev_iconst (pc := 1130) (v := 1) dL_law_1130 (by decide) ?_
      refine ev_iadd (pc := 1131) dL_law_1131 ?_
      rw [nI_a1]
      refine ev_sld (pc := 1132) dL_law_1132 rfl (vp_in_nI (show j + 1 < q.1 by omega) (by omega)) ?_
      refine cV1 (pc := 1133) (lk_L_law_1133 _) (ou_0 f21) rfl rfl (Nat.le_of_ble_eq_true rfl) ⟨(by show kc + 1 + 0 ≤ 601024; omega), (by show ks + 6 + 0 ≤ 7293034; omega)⟩ e2 ?_
      refine ev_istore (pc := 1136) dL_law_1136 rfl rfl ?_
      refine ev_aload_n (pc := 1138) dL_law_1138 rfl rfl ?_
      refine cV0 (pc := 1139) (lk_L_law_1139 _) (ou_0 g21) rfl rfl (Nat.le_of_ble_eq_true rfl) ⟨(by show kc + 1 + 0 + 0 ≤ 601024; omega), (by show ks + 6 + 0 + 0 ≤ 7293034; omega)⟩ e3 ?_
      refine ev_iload (pc := 1142) dL_law_1142 rfl ?_
      refine ev_ic_eq (pc := 1144) (tgt := 1149) dL_law_1144 (by decide) (fun _ => ?_) (fun c_1144 => absurd rfl c_1144)
      refine ev_iload (pc := 1149) dL_law_1149 rfl ?_
      refine ev_if_ne (pc := 1151) (tgt := 1173) dL_law_1151 (by decide) (fun c_1151 => absurd rfl c_1151) (fun _ => ?_)
      refine ev_aload_n (pc := 1154) dL_law_1154 rfl rfl ?_
      refine ev_iconst (pc := 1155) (v := 0) dL_law_1155 (by decide) ?_
      refine ev_laldN (pc := 1156) dL_law_1156 (ou_get g34) ⟨(show _ = nI 0 from rfl), by decide, by decide⟩ pk_uLs ?_
      refine ev_iload (pc := 1157) dL_law_1157 rfl ?_
      refine ev_if_eq (pc := 1159) (tgt := 1166) dL_law_1159 (by decide) (fun c_1159 => absurd c_1159 (by decide)) (fun _ => ?_)
      refine ev_lconst (pc := 1162) (v := 1) dL_law_1162 (by decide) ?_
      refine ev_goto (pc := 1163) (tgt := 1167) dL_law_1163 (by decide) ?_
      refine ev_lcmp (pc := 1167) dL_law_1167 ?_
      refine ev_if_eq (pc := 1168) (tgt := 1173) dL_law_1168 (by decide) (fun _ => ?_) (fun c_1168 => absurd ((lg_cmp_eq _ _).mpr rfl) c_1168)
      refine ev_goto (pc := 1173) (tgt := 1662) dL_law_1173 (by decide) ?_
      exact k A2 _ _ _ _ _ _ (gi_mono (Nat.le_succ n) g4) g1 (by show kc + 1 + 0 + 0 ≤ kc + 8; omega) (by show ks + 6 + 0 + 0 ≤ ks + 64; omega)
  · obtain ⟨A1, f1, e1, hs⟩ := hs (ouC o)
    obtain ⟨A2, g1, e2, e3, g4⟩ := hs (ouC o)
    obtain ⟨-, -, ⟨fs1, f21⟩⟩ := id f1
    obtain ⟨-, -, ⟨fs2, g21⟩⟩ := id g1
    refine ev_aload_n (pc := 1113) dL_law_1113 rfl rfl ?_
    refine ev_aloadS_n (pc := 1114) dL_law_1114 rfl rfl ?_
    refine ev_iload (pc := 1115) dL_law_1115 rfl ?_
    refine ev_iconst (pc := 1117) (v := 1) dL_law_1117 (by decide) ?_
    refine ev_iadd (pc := 1118) dL_law_1118 ?_
    rw [nI_a1]
    refine ev_sld (pc := 1119) dL_law_1119 rfl (vp_in_nI (show j + 1 < q.1 by omega) (by omega)) ?_
    refine ev_aload_n (pc := 1120) dL_law_1120 rfl rfl ?_
    refine cX3 (pc := 1121) (lk_L_law_1121 _) (Nat.le_of_ble_eq_true rfl) ⟨(by show kc + 1 ≤ 601024; omega), (by show ks + 6 ≤ 7293034; omega)⟩ (w_isFree_T1 hw f1 e1) ?_
    refine ev_istore (pc := 1124) dL_law_1124 rfl rfl ?_
    refine ev_aload_n (pc := 1126) dL_law_1126 rfl rfl ?_
    refine ev_aloadS_n (pc := 1127) dL_law_1127 rfl rfl ?_
    refine ev_iload (pc := 1128) dL_law_1128 rfl ?_
    refine ev_iconst (pc := 1130) (v := 1) dL_law_1130 (by decide) ?_
    refine ev_iadd (pc := 1131) dL_law_1131 ?_
    rw [nI_a1]
    refine ev_sld (pc := 1132) dL_law_1132 rfl (vp_in_nI (show j + 1 < q.1 by omega) (by omega)) ?_
    refine cV1 (pc := 1133) (lk_L_law_1133 _) (ou_0 f21) rfl rfl (Nat.le_of_ble_eq_true rfl) ⟨(by show kc + 1 + 0 ≤ 601024; omega), (by show ks + 6 + 0 ≤ 7293034; omega)⟩ e2 ?_
    refine ev_istore (pc := 1136) dL_law_1136 rfl rfl ?_
    refine ev_aload_n (pc := 1138) dL_law_1138 rfl rfl ?_
    refine cV0 (pc := 1139) (lk_L_law_1139 _) (ou_0 g21) rfl rfl (Nat.le_of_ble_eq_true rfl) ⟨(by show kc + 1 + 0 + 0 ≤ 601024; omega), (by show ks + 6 + 0 + 0 ≤ 7293034; omega)⟩ e3 ?_
    refine ev_iload (pc := 1142) dL_law_1142 rfl ?_
    refine ev_ic_eq (pc := 1144) (tgt := 1149) dL_law_1144 (by decide) (fun _ => ?_) (fun c_1144 => absurd rfl c_1144)
    refine ev_iload (pc := 1149) dL_law_1149 rfl ?_
    refine ev_if_ne (pc := 1151) (tgt := 1173) dL_law_1151 (by decide) (fun _ => ?_) (fun c_1151 => absurd c_1151 (by decide))
    refine ev_goto (pc := 1173) (tgt := 1662) dL_law_1173 (by decide) ?_
    exact k A2 _ _ _ _ _ _ (gi_mono (Nat.le_succ n) g4) g1 (by show kc + 1 + 0 + 0 ≤ kc + 8; omega) (by show ks + 6 + 0 + 0 ≤ ks + 64; omega)
theorem lc_19 {n j kc ks : Nat} {q : Nat × (Nat → Int32)} {A : List mC} {o : Nat → Int64} {v5 v6 v7 : Value} (hA : GI n A) (hw : wf A) (hn : n ≤ 512) (hj : j + 2 < q.1) (hq : q.1 ≤ 1536) (hkc : kc ≤ 500000) (hks : ks ≤ 7000000) (k : LK q n j kc ks) : EvF (m_L_law q) QL 1176 [scr1, .ref 0, .ref 21, .ref 34, .int (nI j), v5, v6, v7] [] kc ks (A ++ [ouC o]) := by
  obtain ⟨h34, ⟨fs, h0⟩, -⟩ := id hw
  obtain ⟨a, hs⟩ := st_inUse hA
  obtain ⟨A1, f1, e1, hs⟩ := hs (ouC o)
  obtain ⟨A2, g1, e2, e3, g4⟩ := hs (ouC o)
  obtain ⟨-, -, ⟨fs1, f21⟩⟩ := id f1
  refine ev_aload_n (pc := 1176) dL_law_1176 rfl rfl ?_
  refine cV0 (pc := 1177) (lk_L_law_1177 _) (ou_0 h0) rfl rfl (Nat.le_of_ble_eq_true rfl) ⟨(by show kc + 0 ≤ 601024; omega), (by show ks + 0 ≤ 7293034; omega)⟩ e1 ?_
  refine ev_aload_n (pc := 1180) dL_law_1180 rfl rfl ?_
  refine cV0 (pc := 1181) (lk_L_law_1181 _) (ou_0 f21) rfl rfl (Nat.le_of_ble_eq_true rfl) ⟨(by show kc + 0 + 0 ≤ 601024; omega), (by show ks + 0 + 0 ≤ 7293034; omega)⟩ e2 ?_
  refine ev_ic_eq (pc := 1184) (tgt := 1662) dL_law_1184 (by decide) (fun _ => ?_) (fun c_1184 => absurd rfl c_1184)
  exact k A2 o v5 v6 v7 _ _ (gi_mono (Nat.le_succ n) g4) g1 (by show kc + 0 + 0 ≤ kc + 8; omega) (by show ks + 0 + 0 ≤ ks + 64; omega)
