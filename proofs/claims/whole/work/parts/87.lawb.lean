/-! ===== the law's calls, further ===== -/
theorem lc_11 {X : Nat × (Int → Int)} {i : Nat} {m : Mem} {Q : zPost} (hi : i + 7 ≤ X.1) (hL : X.1 ≤ 3584) (hI : lwI m) (kk : ∀ m', lwI m' → ZZ X (0, 0) 12 mL_law G0 1411 [vc 2, vr 0, vr 88, vi (i : Int)] [] m' Q) : ZZ X (0, 0) 12 mL_law G0 697 [vc 2, vr 0, vr 88, vi (i : Int)] [] m Q := by
  have hI0 := hI
  obtain ⟨nf, fd, np, pr, nw, wd, fr, bk, mo, a, b, hS, hM, hR⟩ := hI
  have hS0 := hS
  obtain ⟨hC, hwc, hw0⟩ := hS0
  have hR0 := hR
  obtain ⟨rF, rP, rFr, rB, rW, o1, o2⟩ := hR0
  refine z_aload_n dL_law_697 rfl ?_
  refine z_sload_n dL_law_698 rfl ?_
  refine z_iload_n dL_law_699 rfl ?_
  refine z_iconst dL_law_700 (by decide) ?_
  refine z_iadd dL_law_701 (by omega) ?_
  refine z_sald dL_law_702 rfl (by omega) (by omega) ?_
  refine z_sload_n dL_law_703 rfl ?_
  refine z_iload_n dL_law_704 rfl ?_
  refine z_iconst dL_law_705 (by decide) ?_
  refine z_iadd dL_law_706 (by omega) ?_
  refine z_sald dL_law_707 rfl (by omega) (by omega) ?_
  refine z_V2i dL_law_708 ok_X11_thereAre lk_L_64 (by first | rfl | assumption) rfl rfl (Nat.le_of_ble_eq_true rfl) (by decide) (cm_X11_thereAre hC.1 rF) (fun z1 m1 q1 => ?_)
  have d1 := two2 q1
  have k1 : ∀ x, (88 ≤ x ∧ x < 105) ∨ x = 32 → m1 x = m x := by
    intro x hx
    rcases d1 with ⟨-, -, e⟩ | ⟨-, -, -, e⟩
    · rw [e]
    · exact e x (by omega) (by omega)
  have hM1 := hM.hi k1
  refine z_aload_n dL_law_711 rfl ?_
  refine z_sload_n dL_law_712 rfl ?_
  refine z_iload_n dL_law_713 rfl ?_
  refine z_iconst dL_law_714 (by decide) ?_
  refine z_iadd dL_law_715 (by omega) ?_
  refine z_sald dL_law_716 rfl (by omega) (by omega) ?_
  refine z_sload_n dL_law_717 rfl ?_
  refine z_iload_n dL_law_718 rfl ?_
  refine z_iconst dL_law_719 (by decide) ?_
  refine z_iadd dL_law_720 (by omega) ?_
  refine z_sald dL_law_721 rfl (by omega) (by omega) ?_
  refine z_V2i dL_law_722 ok_X12_thereAre lk_L_67 (by first | rfl | assumption) rfl rfl (Nat.le_of_ble_eq_true rfl) (by decide) (cm_X12_thereAre hM1.1 rF) (fun z2 m2 q2 => ?_)
  have fin : z1 = z2 ∧ lwI m2 := by
    rcases d1 with ⟨no, e1, e2⟩ | ⟨ok, e1, e2, e3⟩
    · obtain ⟨g1, g2⟩ := q2.1 no
      exact ⟨e1.trans g1.symm, by rw [g2, e2]; exact hI0⟩
    · obtain ⟨g1, ⟨g2, g3⟩, g4⟩ := q2.2 ok
      exact ⟨e1.trans g1.symm, nf, fd, np, pr, nw, wd, fr, bk, mo, _, _, cS.lo (hS.newF (m1 := m1) (fun x hx => e3 x (by omega) (by omega)) (by rw [e3 68 (by omega) (by omega)]) (hw0.same (e3 36 (by omega) (by omega))) e2) (fun x hx => g4 x (by omega) (by omega)), hM1.off (fun x hx => g4 x (by omega) (by omega)) (fun j _ => by rw [g4 88 (by decide) (by decide)]) g2 g3, hR⟩
  refine z_icmp_eq 1411 dL_law_725 (by decide) (fun h725 => ?_) (fun h725 => ?_)
  · exact kk _ fin.2
  · exact absurd fin.1 h725
theorem lc_12 {X : Nat × (Int → Int)} {i : Nat} {m : Mem} {Q : zPost} (hi : i + 7 ≤ X.1) (hL : X.1 ≤ 3584) (hI : lwI m) (kk : ∀ m', lwI m' → ZZ X (0, 0) 12 mL_law G0 1411 [vc 2, vr 0, vr 88, vi (i : Int)] [] m' Q) : ZZ X (0, 0) 12 mL_law G0 730 [vc 2, vr 0, vr 88, vi (i : Int)] [] m Q := by
  have hI0 := hI
  obtain ⟨nf, fd, np, pr, nw, wd, fr, bk, mo, a, b, hS, hM, hR⟩ := hI
  have hS0 := hS
  obtain ⟨hC, hwc, hw0⟩ := hS0
  have hR0 := hR
  obtain ⟨rF, rP, rFr, rB, rW, o1, o2⟩ := hR0
  refine z_aload_n dL_law_730 rfl ?_
  refine z_sload_n dL_law_731 rfl ?_
  refine z_iload_n dL_law_732 rfl ?_
  refine z_iconst dL_law_733 (by decide) ?_
  refine z_iadd dL_law_734 (by omega) ?_
  refine z_sald dL_law_735 rfl (by omega) (by omega) ?_
  refine z_sload_n dL_law_736 rfl ?_
  refine z_iload_n dL_law_737 rfl ?_
  refine z_iconst dL_law_738 (by decide) ?_
  refine z_iadd dL_law_739 (by omega) ?_
  refine z_sald dL_law_740 rfl (by omega) (by omega) ?_
  refine z_sload_n dL_law_741 rfl ?_
  refine z_iload_n dL_law_742 rfl ?_
  refine z_iconst dL_law_743 (by decide) ?_
  refine z_iadd dL_law_744 (by omega) ?_
  refine z_sald dL_law_745 rfl (by omega) (by omega) ?_
  refine z_sload_n dL_law_746 rfl ?_
  refine z_iload_n dL_law_747 rfl ?_
  refine z_iconst dL_law_748 (by decide) ?_
  refine z_iadd dL_law_749 (by omega) ?_
  refine z_sald dL_law_750 rfl (by omega) (by omega) ?_
  refine z_sload_n dL_law_751 rfl ?_
  refine z_iload_n dL_law_752 rfl ?_
  refine z_iconst dL_law_753 (by decide) ?_
  refine z_iadd dL_law_754 (by omega) ?_
  refine z_sald dL_law_755 rfl (by omega) (by omega) ?_
  refine z_V5i dL_law_756 ok_X11_can lk_L_68 (by first | rfl | assumption) rfl rfl (Nat.le_of_ble_eq_true rfl) (by decide) (cm_X11_can) (fun z1 m1 q1 => ?_)
  have k1 : ∀ x, (88 ≤ x ∧ x < 105) ∨ x = 32 → m1 x = m x := fun x hx => by rw [q1.2]
  have hS1 := hS.keep (m1 := m1) (fun x hx => by rw [q1.2])
  have hM1 := hM.hi k1
  refine z_aload_n dL_law_759 rfl ?_
  refine z_sload_n dL_law_760 rfl ?_
  refine z_iload_n dL_law_761 rfl ?_
  refine z_iconst dL_law_762 (by decide) ?_
  refine z_iadd dL_law_763 (by omega) ?_
  refine z_sald dL_law_764 rfl (by omega) (by omega) ?_
  refine z_sload_n dL_law_765 rfl ?_
  refine z_iload_n dL_law_766 rfl ?_
  refine z_iconst dL_law_767 (by decide) ?_
  refine z_iadd dL_law_768 (by omega) ?_
  refine z_sald dL_law_769 rfl (by omega) (by omega) ?_
  refine z_sload_n dL_law_770 rfl ?_
  refine z_iload_n dL_law_771 rfl ?_
  refine z_iconst dL_law_772 (by decide) ?_
  refine z_iadd dL_law_773 (by omega) ?_
  refine z_sald dL_law_774 rfl (by omega) (by omega) ?_
  refine z_sload_n dL_law_775 rfl ?_
  refine z_iload_n dL_law_776 rfl ?_
  refine z_iconst dL_law_777 (by decide) ?_
  refine z_iadd dL_law_778 (by omega) ?_
  refine z_sald dL_law_779 rfl (by omega) (by omega) ?_
  refine z_sload_n dL_law_780 rfl ?_
  refine z_iload_n dL_law_781 rfl ?_
  refine z_iconst dL_law_782 (by decide) ?_
  refine z_iadd dL_law_783 (by omega) ?_
  refine z_sald dL_law_784 rfl (by omega) (by omega) ?_
  refine z_V5i dL_law_785 ok_X12_can lk_L_71 (by first | rfl | assumption) rfl rfl (Nat.le_of_ble_eq_true rfl) (by decide) (cm_X12_can) (fun z2 m2 q2 => ?_)
  have fin : z1 = z2 ∧ lwI m2 := ⟨two_uniq q1.1 q2.1, nf, fd, np, pr, nw, wd, fr, bk, mo, a, b, cS.lo hS1 (fun x hx => by rw [q2.2]), (by rw [q2.2]; exact hM1), hR⟩
  refine z_icmp_eq 1411 dL_law_788 (by decide) (fun h788 => ?_) (fun h788 => ?_)
  · exact kk _ fin.2
  · exact absurd fin.1 h788
theorem lc_13 {X : Nat × (Int → Int)} {i : Nat} {m : Mem} {Q : zPost} (hi : i + 7 ≤ X.1) (hL : X.1 ≤ 3584) (hI : lwI m) (kk : ∀ m', lwI m' → ZZ X (0, 0) 12 mL_law G0 1411 [vc 2, vr 0, vr 88, vi (i : Int)] [] m' Q) : ZZ X (0, 0) 12 mL_law G0 793 [vc 2, vr 0, vr 88, vi (i : Int)] [] m Q := by
  have hI0 := hI
  obtain ⟨nf, fd, np, pr, nw, wd, fr, bk, mo, a, b, hS, hM, hR⟩ := hI
  have hS0 := hS
  obtain ⟨hC, hwc, hw0⟩ := hS0
  have hR0 := hR
  obtain ⟨rF, rP, rFr, rB, rW, o1, o2⟩ := hR0
  refine z_aload_n dL_law_793 rfl ?_
  refine z_sload_n dL_law_794 rfl ?_
  refine z_iload_n dL_law_795 rfl ?_
  refine z_iconst dL_law_796 (by decide) ?_
  refine z_iadd dL_law_797 (by omega) ?_
  refine z_sald dL_law_798 rfl (by omega) (by omega) ?_
  refine z_sload_n dL_law_799 rfl ?_
  refine z_iload_n dL_law_800 rfl ?_
  refine z_iconst dL_law_801 (by decide) ?_
  refine z_iadd dL_law_802 (by omega) ?_
  refine z_sald dL_law_803 rfl (by omega) (by omega) ?_
  refine z_sload_n dL_law_804 rfl ?_
  refine z_iload_n dL_law_805 rfl ?_
  refine z_iconst dL_law_806 (by decide) ?_
  refine z_iadd dL_law_807 (by omega) ?_
  refine z_sald dL_law_808 rfl (by omega) (by omega) ?_
  refine z_sload_n dL_law_809 rfl ?_
  refine z_iload_n dL_law_810 rfl ?_
  refine z_iconst dL_law_811 (by decide) ?_
  refine z_iadd dL_law_812 (by omega) ?_
  refine z_sald dL_law_813 rfl (by omega) (by omega) ?_
  refine z_V4i dL_law_814 ok_X11_word lk_L_72 (by first | rfl | assumption) rfl rfl (Nat.le_of_ble_eq_true rfl) (by decide) (cm_X11_word hC.2.2.1) (fun z1 m1 q1 => ?_)
  have d1 := tri3 (show nw = 12 ∨ nw < 12 by have := hC.2.2.1.1; omega) q1
  have k1 : ∀ x, (88 ≤ x ∧ x < 105) ∨ x = 32 → m1 x = m x := by
    intro x hx
    rcases d1 with ⟨-, -, e⟩ | ⟨-, -, -, e⟩ | ⟨-, -, -, -, -, e, -⟩
    · rw [e]
    · rw [e]
    · exact e x (by omega)
  have hM1 := hM.hi k1
  refine z_aload_n dL_law_817 rfl ?_
  refine z_sload_n dL_law_818 rfl ?_
  refine z_iload_n dL_law_819 rfl ?_
  refine z_iconst dL_law_820 (by decide) ?_
  refine z_iadd dL_law_821 (by omega) ?_
  refine z_sald dL_law_822 rfl (by omega) (by omega) ?_
  refine z_sload_n dL_law_823 rfl ?_
  refine z_iload_n dL_law_824 rfl ?_
  refine z_iconst dL_law_825 (by decide) ?_
  refine z_iadd dL_law_826 (by omega) ?_
  refine z_sald dL_law_827 rfl (by omega) (by omega) ?_
  refine z_sload_n dL_law_828 rfl ?_
  refine z_iload_n dL_law_829 rfl ?_
  refine z_iconst dL_law_830 (by decide) ?_
  refine z_iadd dL_law_831 (by omega) ?_
  refine z_sald dL_law_832 rfl (by omega) (by omega) ?_
  refine z_sload_n dL_law_833 rfl ?_
  refine z_iload_n dL_law_834 rfl ?_
  refine z_iconst dL_law_835 (by decide) ?_
  refine z_iadd dL_law_836 (by omega) ?_
  refine z_sald dL_law_837 rfl (by omega) (by omega) ?_
  refine z_V4i dL_law_838 ok_X12_word lk_L_75 (by first | rfl | assumption) rfl rfl (Nat.le_of_ble_eq_true rfl) (by decide) (cm_X12_word hM1.2.2.1) (fun z2 m2 q2 => ?_)
  have fin : z1 = z2 ∧ lwI m2 := by
    rcases d1 with ⟨no, e1, e2⟩ | ⟨ok, h60, e1, e2⟩ | ⟨ok, hlt, e1, f1, s1, e2, e3⟩
    · obtain ⟨g1, g2⟩ := q2.1 no
      exact ⟨e1.trans g1.symm, by rw [g2, e2]; exact hI0⟩
    · obtain ⟨g1, g2⟩ := q2.2.1 ok h60
      exact ⟨e1.trans g1.symm, by rw [g2, e2]; exact hI0⟩
    · obtain ⟨g1, f2, g2⟩ := q2.2.2 ok hlt
      have lo : ∀ x, x < 88 ∧ x ≠ 32 → m2 x = m1 x := fun x hx => g2.1 x (by omega) (by omega)
      refine ⟨e1.trans g1.symm, nf, fd, np, pr, nw + 1, _, fr, bk, mo, a, b, cS.lo (m1 := m1) ⟨⟨hC.1.off fun x _ _ => e2 x (by omega), hC.2.1.same fun x _ _ => e2 x (by omega), f1, hC.2.2.2.1.same fun x _ _ => e2 x (by omega), hC.2.2.2.2.1.same fun x _ _ => e2 x (by omega), by rw [e2 0 (by omega)]; exact hC.2.2.2.2.2.1, hC.2.2.2.2.2.2.kp fun x _ _ => e2 x (by omega)⟩, Or.inl s1, hw0.same (e2 36 (by omega))⟩ lo, ⟨hM1.1.off (g2.2 3 (by decide)) (g2.1 91 (by decide) (by decide)), hM1.2.1.same (g2.2 29 (by decide)) (g2.1 102 (by decide) (by decide)), f2, hM1.2.2.2.1.same (g2.1 103 (by decide) (by decide)), hM1.2.2.2.2.1.same (g2.1 32 (by decide) (by decide)), (g2.2 4 (by decide)).trans hM1.2.2.2.2.2.1, hM1.2.2.2.2.2.2.1.kp (g2.1 89 (by decide) (by decide)) (g2.1 90 (by decide) (by decide)), hM1.2.2.2.2.2.2.2.kp (g2.1 89 (by decide) (by decide)) (g2.1 90 (by decide) (by decide))⟩, ⟨rF, rP, rFr, rB, wdR_put rW ok, o1, o2⟩⟩
  refine z_icmp_eq 1411 dL_law_841 (by decide) (fun h841 => ?_) (fun h841 => ?_)
  · exact kk _ fin.2
  · exact absurd fin.1 h841
theorem lc_14 {X : Nat × (Int → Int)} {i : Nat} {m : Mem} {Q : zPost} (hi : i + 7 ≤ X.1) (hL : X.1 ≤ 3584) (hI : lwI m) (kk : ∀ m', lwI m' → ZZ X (0, 0) 12 mL_law G0 1411 [vc 2, vr 0, vr 88, vi (i : Int)] [] m' Q) : ZZ X (0, 0) 12 mL_law G0 846 [vc 2, vr 0, vr 88, vi (i : Int)] [] m Q := by
  have hI0 := hI
  obtain ⟨nf, fd, np, pr, nw, wd, fr, bk, mo, a, b, hS, hM, hR⟩ := hI
  have hS0 := hS
  obtain ⟨hC, hwc, hw0⟩ := hS0
  have hR0 := hR
  obtain ⟨rF, rP, rFr, rB, rW, o1, o2⟩ := hR0
  refine z_aload_n dL_law_846 rfl ?_
  refine z_V0i dL_law_847 ok_X11_wordless lk_L_76 (by first | rfl | assumption) rfl rfl (Nat.le_of_ble_eq_true rfl) (by decide) (cm_X11_wordless hC.2.2.1) (fun z1 m1 q1 => ?_)
  obtain ⟨e1, f1, s1, e2, e3⟩ := q1
  have k1 : ∀ x, (88 ≤ x ∧ x < 105) ∨ x = 32 → m1 x = m x := fun x hx => e2 x (by omega)
  have hM1 := hM.hi k1
  refine z_aload_n dL_law_850 rfl ?_
  refine z_V0i dL_law_851 ok_X12_wordless lk_L_80 (by first | rfl | assumption) rfl rfl (Nat.le_of_ble_eq_true rfl) (by decide) (cm_X12_wordless hM1.2.2.1) (fun z2 m2 q2 => ?_)
  have fin : z1 = z2 ∧ lwI m2 := by
    obtain ⟨g1, f2, g2, g3⟩ := q2
    refine ⟨e1.trans g1.symm, nf, fd, np, pr, 0, wd, fr, bk, mo, a, b, cS.lo (m1 := m1) ⟨⟨hC.1.off fun x _ _ => e2 x (by omega), hC.2.1.same fun x _ _ => e2 x (by omega), f1, hC.2.2.2.1.same fun x _ _ => e2 x (by omega), hC.2.2.2.2.1.same fun x _ _ => e2 x (by omega), by rw [e2 0 (by omega)]; exact hC.2.2.2.2.2.1, hC.2.2.2.2.2.2.kp fun x _ _ => e2 x (by omega)⟩, Or.inl s1, hw0.same (e2 36 (by omega))⟩ (fun x hx => g2 x (by omega)), ⟨hM1.1.off (g3 3 (by decide)) (g2 91 (by decide)), hM1.2.1.same (g3 29 (by decide)) (g2 102 (by decide)), f2, hM1.2.2.2.1.same (g2 103 (by decide)), hM1.2.2.2.2.1.same (g2 32 (by decide)), (g3 4 (by decide)).trans hM1.2.2.2.2.2.1, hM1.2.2.2.2.2.2.1.kp (g2 89 (by decide)) (g2 90 (by decide)), hM1.2.2.2.2.2.2.2.kp (g2 89 (by decide)) (g2 90 (by decide))⟩, ⟨rF, rP, rFr, rB, fun w hw => absurd hw (Nat.not_lt_zero w), o1, o2⟩⟩
  refine z_icmp_eq 1411 dL_law_854 (by decide) (fun h854 => ?_) (fun h854 => ?_)
  · exact kk _ fin.2
  · exact absurd fin.1 h854
theorem lc_15 {X : Nat × (Int → Int)} {i : Nat} {m : Mem} {Q : zPost} (hi : i + 7 ≤ X.1) (hL : X.1 ≤ 3584) (hI : lwI m) (kk : ∀ m', lwI m' → ZZ X (0, 0) 12 mL_law G0 1411 [vc 2, vr 0, vr 88, vi (i : Int)] [] m' Q) : ZZ X (0, 0) 12 mL_law G0 859 [vc 2, vr 0, vr 88, vi (i : Int)] [] m Q := by
  have hI0 := hI
  obtain ⟨nf, fd, np, pr, nw, wd, fr, bk, mo, a, b, hS, hM, hR⟩ := hI
  have hS0 := hS
  obtain ⟨hC, hwc, hw0⟩ := hS0
  have hR0 := hR
  obtain ⟨rF, rP, rFr, rB, rW, o1, o2⟩ := hR0
  refine z_aload_n dL_law_859 rfl ?_
  refine z_V0i dL_law_860 ok_X11_keys lk_L_81 (by first | rfl | assumption) rfl rfl (Nat.le_of_ble_eq_true rfl) (by decide) (cm_X11_keys hC.2.2.1 rW hwc) (fun z1 m1 q1 => ?_)
  have k1 : ∀ x, (88 ≤ x ∧ x < 105) ∨ x = 32 → m1 x = m x := fun x hx => q1.2.2.1 x (by omega)
  have hS1 : cS m1 nf fd np pr nw wd fr bk mo a b := ⟨hC.off (fun x hx => q1.2.2.1 x (by omega)) (q1.2.2.2 4 (by decide) (by decide) (by decide)) (by rw [q1.2.2.1 68 (by omega)]) (hC.2.2.2.2.2.2.kp fun x h1 h2 => q1.2.2.1 x (by omega)), q1.2.1, hw0.same (q1.2.2.1 36 (by omega))⟩
  have hM1 := hM.hi k1
  refine z_aload_n dL_law_863 rfl ?_
  refine z_V0i dL_law_864 ok_X12_keys lk_L_84 (by first | rfl | assumption) rfl rfl (Nat.le_of_ble_eq_true rfl) (by decide) (cm_X12_keys hM1.2.2.1 rW) (fun z2 m2 q2 => ?_)
  have fin : z1 = z2 ∧ lwI m2 := ⟨q1.1.trans q2.1.symm, nf, fd, np, pr, nw, wd, fr, bk, mo, a, b, cS.lo hS1 (fun x hx => q2.2.1 x (by omega) (by omega) (by omega)), hM1.all (fun x hx => q2.2.1 x (by omega) (by omega) (by omega)) (fun j hj => q2.2.2 j (by omega) (by omega) (by omega) (by omega) (by omega)), hR⟩
  refine z_icmp_eq 1411 dL_law_867 (by decide) (fun h867 => ?_) (fun h867 => ?_)
  · exact kk _ fin.2
  · exact absurd fin.1 h867
theorem lc_16 {X : Nat × (Int → Int)} {i : Nat} {m : Mem} {Q : zPost} (hi : i + 7 ≤ X.1) (hL : X.1 ≤ 3584) (hI : lwI m) (kk : ∀ m', lwI m' → ZZ X (0, 0) 12 mL_law G0 1411 [vc 2, vr 0, vr 88, vi (i : Int)] [] m' Q) : ZZ X (0, 0) 12 mL_law G0 872 [vc 2, vr 0, vr 88, vi (i : Int)] [] m Q := by
  have hI0 := hI
  obtain ⟨nf, fd, np, pr, nw, wd, fr, bk, mo, a, b, hS, hM, hR⟩ := hI
  have hS0 := hS
  obtain ⟨hC, hwc, hw0⟩ := hS0
  have hR0 := hR
  obtain ⟨rF, rP, rFr, rB, rW, o1, o2⟩ := hR0
  refine z_aload_n dL_law_872 rfl ?_
  refine z_sload_n dL_law_873 rfl ?_
  refine z_iload_n dL_law_874 rfl ?_
  refine z_iconst dL_law_875 (by decide) ?_
  refine z_iadd dL_law_876 (by omega) ?_
  refine z_sald dL_law_877 rfl (by omega) (by omega) ?_
  refine z_V1i dL_law_878 ok_X11_may lk_L_85 (by first | rfl | assumption) rfl rfl (Nat.le_of_ble_eq_true rfl) (by decide) (cm_X11_may hC.2.2.1 rW hwc) (fun z1 m1 q1 => ?_)
  have k1 : ∀ x, (88 ≤ x ∧ x < 105) ∨ x = 32 → m1 x = m x := fun x hx => q1.2.2.1 x (by omega)
  have hS1 : cS m1 nf fd np pr nw wd fr bk mo a b := ⟨hC.off (fun x hx => q1.2.2.1 x (by omega)) (q1.2.2.2 4 (by decide) (by decide) (by decide)) (by rw [q1.2.2.1 68 (by omega)]) (hC.2.2.2.2.2.2.kp fun x h1 h2 => q1.2.2.1 x (by omega)), q1.2.1, hw0.same (q1.2.2.1 36 (by omega))⟩
  have hM1 := hM.hi k1
  refine z_aload_n dL_law_881 rfl ?_
  refine z_sload_n dL_law_882 rfl ?_
  refine z_iload_n dL_law_883 rfl ?_
  refine z_iconst dL_law_884 (by decide) ?_
  refine z_iadd dL_law_885 (by omega) ?_
  refine z_sald dL_law_886 rfl (by omega) (by omega) ?_
  refine z_V1i dL_law_887 ok_X12_may lk_L_88 (by first | rfl | assumption) rfl rfl (Nat.le_of_ble_eq_true rfl) (by decide) (cm_X12_may hM1.2.2.1 rW) (fun z2 m2 q2 => ?_)
  have fin : z1 = z2 ∧ lwI m2 := ⟨my_uniq q1.1 q2.1, nf, fd, np, pr, nw, wd, fr, bk, mo, a, b, cS.lo hS1 (fun x hx => q2.2.1 x (by omega) (by omega) (by omega)), hM1.all (fun x hx => q2.2.1 x (by omega) (by omega) (by omega)) (fun j hj => q2.2.2 j (by omega) (by omega) (by omega) (by omega) (by omega)), hR⟩
  refine z_icmp_eq 1411 dL_law_890 (by decide) (fun h890 => ?_) (fun h890 => ?_)
  · exact kk _ fin.2
  · exact absurd fin.1 h890
theorem lc_17 {X : Nat × (Int → Int)} {i : Nat} {m : Mem} {Q : zPost} (hi : i + 7 ≤ X.1) (hL : X.1 ≤ 3584) (hI : lwI m) (kk : ∀ m', lwI m' → ZZ X (0, 0) 12 mL_law G0 1411 [vc 2, vr 0, vr 88, vi (i : Int)] [] m' Q) : ZZ X (0, 0) 12 mL_law G0 895 [vc 2, vr 0, vr 88, vi (i : Int)] [] m Q := by
  have hI0 := hI
  obtain ⟨nf, fd, np, pr, nw, wd, fr, bk, mo, a, b, hS, hM, hR⟩ := hI
  have hS0 := hS
  obtain ⟨hC, hwc, hw0⟩ := hS0
  have hR0 := hR
  obtain ⟨rF, rP, rFr, rB, rW, o1, o2⟩ := hR0
  refine z_aload_n dL_law_895 rfl ?_
  refine z_sload_n dL_law_896 rfl ?_
  refine z_iload_n dL_law_897 rfl ?_
  refine z_iconst dL_law_898 (by decide) ?_
  refine z_iadd dL_law_899 (by omega) ?_
  refine z_sald dL_law_900 rfl (by omega) (by omega) ?_
  refine z_sload_n dL_law_901 rfl ?_
  refine z_iload_n dL_law_902 rfl ?_
  refine z_iconst dL_law_903 (by decide) ?_
  refine z_iadd dL_law_904 (by omega) ?_
  refine z_sald dL_law_905 rfl (by omega) (by omega) ?_
  refine z_sload_n dL_law_906 rfl ?_
  refine z_iload_n dL_law_907 rfl ?_
  refine z_iconst dL_law_908 (by decide) ?_
  refine z_iadd dL_law_909 (by omega) ?_
  refine z_sald dL_law_910 rfl (by omega) (by omega) ?_
  refine z_V3i dL_law_911 ok_X11_reads lk_L_89 (by first | rfl | assumption) rfl rfl (Nat.le_of_ble_eq_true rfl) (by decide) (cm_X11_reads hC.2.2.1 rW hwc) (fun z1 m1 q1 => ?_)
  have k1 : ∀ x, (88 ≤ x ∧ x < 105) ∨ x = 32 → m1 x = m x := fun x hx => q1.2.2.1 x (by omega)
  have hS1 : cS m1 nf fd np pr nw wd fr bk mo a b := ⟨hC.off (fun x hx => q1.2.2.1 x (by omega)) (q1.2.2.2 4 (by decide) (by decide) (by decide)) (by rw [q1.2.2.1 68 (by omega)]) (hC.2.2.2.2.2.2.kp fun x h1 h2 => q1.2.2.1 x (by omega)), q1.2.1, hw0.same (q1.2.2.1 36 (by omega))⟩
  have hM1 := hM.hi k1
  refine z_aload_n dL_law_914 rfl ?_
  refine z_sload_n dL_law_915 rfl ?_
  refine z_iload_n dL_law_916 rfl ?_
  refine z_iconst dL_law_917 (by decide) ?_
  refine z_iadd dL_law_918 (by omega) ?_
  refine z_sald dL_law_919 rfl (by omega) (by omega) ?_
  refine z_sload_n dL_law_920 rfl ?_
  refine z_iload_n dL_law_921 rfl ?_
  refine z_iconst dL_law_922 (by decide) ?_
  refine z_iadd dL_law_923 (by omega) ?_
  refine z_sald dL_law_924 rfl (by omega) (by omega) ?_
  refine z_sload_n dL_law_925 rfl ?_
  refine z_iload_n dL_law_926 rfl ?_
  refine z_iconst dL_law_927 (by decide) ?_
  refine z_iadd dL_law_928 (by omega) ?_
  refine z_sald dL_law_929 rfl (by omega) (by omega) ?_
  refine z_V3i dL_law_930 ok_X12_reads lk_L_92 (by first | rfl | assumption) rfl rfl (Nat.le_of_ble_eq_true rfl) (by decide) (cm_X12_reads hM1.2.2.1 rW) (fun z2 m2 q2 => ?_)
  have fin : z1 = z2 ∧ lwI m2 := ⟨rs_uniq q1.1 q2.1, nf, fd, np, pr, nw, wd, fr, bk, mo, a, b, cS.lo hS1 (fun x hx => q2.2.1 x (by omega) (by omega) (by omega)), hM1.all (fun x hx => q2.2.1 x (by omega) (by omega) (by omega)) (fun j hj => q2.2.2 j (by omega) (by omega) (by omega) (by omega) (by omega)), hR⟩
  refine z_icmp_eq 1411 dL_law_933 (by decide) (fun h933 => ?_) (fun h933 => ?_)
  · exact kk _ fin.2
  · exact absurd fin.1 h933
theorem lc_18 {X : Nat × (Int → Int)} {i : Nat} {m : Mem} {Q : zPost} (hi : i + 7 ≤ X.1) (hL : X.1 ≤ 3584) (hI : lwI m) (kk : ∀ m', lwI m' → ZZ X (0, 0) 12 mL_law G0 1411 [vc 2, vr 0, vr 88, vi (i : Int)] [] m' Q) : ZZ X (0, 0) 12 mL_law G0 938 [vc 2, vr 0, vr 88, vi (i : Int)] [] m Q := by
  have hI0 := hI
  obtain ⟨nf, fd, np, pr, nw, wd, fr, bk, mo, a, b, hS, hM, hR⟩ := hI
  have hS0 := hS
  obtain ⟨hC, hwc, hw0⟩ := hS0
  have hR0 := hR
  obtain ⟨rF, rP, rFr, rB, rW, o1, o2⟩ := hR0
  refine z_aload_n dL_law_938 rfl ?_
  refine z_sload_n dL_law_939 rfl ?_
  refine z_iload_n dL_law_940 rfl ?_
  refine z_iconst dL_law_941 (by decide) ?_
  refine z_iadd dL_law_942 (by omega) ?_
  refine z_sald dL_law_943 rfl (by omega) (by omega) ?_
  refine z_sload_n dL_law_944 rfl ?_
  refine z_iload_n dL_law_945 rfl ?_
  refine z_iconst dL_law_946 (by decide) ?_
  refine z_iadd dL_law_947 (by omega) ?_
  refine z_sald dL_law_948 rfl (by omega) (by omega) ?_
  refine z_V2i dL_law_949 ok_X11_runs lk_L_93 (by first | rfl | assumption) rfl rfl (Nat.le_of_ble_eq_true rfl) (by decide) (cm_X11_runs hC.1 rF) (fun z1 m1 q1 => ?_)
  have k1 : ∀ x, (88 ≤ x ∧ x < 105) ∨ x = 32 → m1 x = m x := fun x hx => q1.2.1 x (by omega) (by omega)
  have hS1 := hS.keep (m1 := m1) (fun x hx => q1.2.1 x (by omega) (by omega))
  have hM1 := hM.hi k1
  refine z_aload_n dL_law_952 rfl ?_
  refine z_sload_n dL_law_953 rfl ?_
  refine z_iload_n dL_law_954 rfl ?_
  refine z_iconst dL_law_955 (by decide) ?_
  refine z_iadd dL_law_956 (by omega) ?_
  refine z_sald dL_law_957 rfl (by omega) (by omega) ?_
  refine z_sload_n dL_law_958 rfl ?_
  refine z_iload_n dL_law_959 rfl ?_
  refine z_iconst dL_law_960 (by decide) ?_
  refine z_iadd dL_law_961 (by omega) ?_
  refine z_sald dL_law_962 rfl (by omega) (by omega) ?_
  refine z_V2i dL_law_963 ok_X12_runs lk_L_96 (by first | rfl | assumption) rfl rfl (Nat.le_of_ble_eq_true rfl) (by decide) (cm_X12_runs hM1.1 rF) (fun z2 m2 q2 => ?_)
  have fin : z1 = z2 ∧ lwI m2 := ⟨q1.1.trans q2.1.symm, nf, fd, np, pr, nw, wd, fr, bk, mo, a, b, cS.lo hS1 (fun x hx => q2.2.1 x (by omega) (by omega)), hM1.all (fun x hx => q2.2.1 x (by omega) (by omega)) (fun j hj => q2.2.2 j (by omega)), hR⟩
  refine z_icmp_eq 1411 dL_law_966 (by decide) (fun h966 => ?_) (fun h966 => ?_)
  · exact kk _ fin.2
  · exact absurd fin.1 h966
theorem lc_19 {X : Nat × (Int → Int)} {i : Nat} {m : Mem} {Q : zPost} (hi : i + 7 ≤ X.1) (hL : X.1 ≤ 3584) (hI : lwI m) (kk : ∀ m', lwI m' → ZZ X (0, 0) 12 mL_law G0 1411 [vc 2, vr 0, vr 88, vi (i : Int)] [] m' Q) : ZZ X (0, 0) 12 mL_law G0 971 [vc 2, vr 0, vr 88, vi (i : Int)] [] m Q := by
  have hI0 := hI
  obtain ⟨nf, fd, np, pr, nw, wd, fr, bk, mo, a, b, hS, hM, hR⟩ := hI
  have hS0 := hS
  obtain ⟨hC, hwc, hw0⟩ := hS0
  have hR0 := hR
  obtain ⟨rF, rP, rFr, rB, rW, o1, o2⟩ := hR0
  refine z_aload_n dL_law_971 rfl ?_
  refine z_sload_n dL_law_972 rfl ?_
  refine z_iload_n dL_law_973 rfl ?_
  refine z_iconst dL_law_974 (by decide) ?_
  refine z_iadd dL_law_975 (by omega) ?_
  refine z_sald dL_law_976 rfl (by omega) (by omega) ?_
  refine z_sload_n dL_law_977 rfl ?_
  refine z_iload_n dL_law_978 rfl ?_
  refine z_iconst dL_law_979 (by decide) ?_
  refine z_iadd dL_law_980 (by omega) ?_
  refine z_sald dL_law_981 rfl (by omega) (by omega) ?_
  refine z_sload_n dL_law_982 rfl ?_
  refine z_iload_n dL_law_983 rfl ?_
  refine z_iconst dL_law_984 (by decide) ?_
  refine z_iadd dL_law_985 (by omega) ?_
  refine z_sald dL_law_986 rfl (by omega) (by omega) ?_
  refine z_V3i dL_law_987 ok_X11_gap lk_L_97 (by first | rfl | assumption) rfl rfl (Nat.le_of_ble_eq_true rfl) (by decide) (cm_X11_gap hC.1 rF) (fun z1 m1 q1 => ?_)
  have k1 : ∀ x, (88 ≤ x ∧ x < 105) ∨ x = 32 → m1 x = m x := fun x hx => q1.2.1 x (by omega)
  have hS1 := hS.keep (m1 := m1) (fun x hx => q1.2.1 x (by omega))
  have hM1 := hM.hi k1
  refine z_aload_n dL_law_990 rfl ?_
  refine z_sload_n dL_law_991 rfl ?_
  refine z_iload_n dL_law_992 rfl ?_
  refine z_iconst dL_law_993 (by decide) ?_
  refine z_iadd dL_law_994 (by omega) ?_
  refine z_sald dL_law_995 rfl (by omega) (by omega) ?_
  refine z_sload_n dL_law_996 rfl ?_
  refine z_iload_n dL_law_997 rfl ?_
  refine z_iconst dL_law_998 (by decide) ?_
  refine z_iadd dL_law_999 (by omega) ?_
  refine z_sald dL_law_1000 rfl (by omega) (by omega) ?_
  refine z_sload_n dL_law_1001 rfl ?_
  refine z_iload_n dL_law_1002 rfl ?_
  refine z_iconst dL_law_1003 (by decide) ?_
  refine z_iadd dL_law_1004 (by omega) ?_
  refine z_sald dL_law_1005 rfl (by omega) (by omega) ?_
  refine z_V3i dL_law_1006 ok_X12_gap lk_L_100 (by first | rfl | assumption) rfl rfl (Nat.le_of_ble_eq_true rfl) (by decide) (cm_X12_gap hM1.1 rF) (fun z2 m2 q2 => ?_)
  have fin : z1 = z2 ∧ lwI m2 := ⟨q1.1.trans q2.1.symm, nf, fd, np, pr, nw, wd, fr, bk, mo, a, b, cS.lo hS1 (fun x hx => q2.2.1 x (by omega) (by omega)), hM1.all (fun x hx => q2.2.1 x (by omega) (by omega)) (fun j hj => q2.2.2 j (by omega)), hR⟩
  refine z_icmp_eq 1411 dL_law_1009 (by decide) (fun h1009 => ?_) (fun h1009 => ?_)
  · exact kk _ fin.2
  · exact absurd fin.1 h1009
theorem lc_20 {X : Nat × (Int → Int)} {i : Nat} {m : Mem} {Q : zPost} (hi : i + 7 ≤ X.1) (hL : X.1 ≤ 3584) (hI : lwI m) (kk : ∀ m', lwI m' → ZZ X (0, 0) 12 mL_law G0 1411 [vc 2, vr 0, vr 88, vi (i : Int)] [] m' Q) : ZZ X (0, 0) 12 mL_law G0 1014 [vc 2, vr 0, vr 88, vi (i : Int)] [] m Q := by
  have hI0 := hI
  obtain ⟨nf, fd, np, pr, nw, wd, fr, bk, mo, a, b, hS, hM, hR⟩ := hI
  have hS0 := hS
  obtain ⟨hC, hwc, hw0⟩ := hS0
  have hR0 := hR
  obtain ⟨rF, rP, rFr, rB, rW, o1, o2⟩ := hR0
  refine z_aload_n dL_law_1014 rfl ?_
  refine z_sload_n dL_law_1015 rfl ?_
  refine z_iload_n dL_law_1016 rfl ?_
  refine z_iconst dL_law_1017 (by decide) ?_
  refine z_iadd dL_law_1018 (by omega) ?_
  refine z_sald dL_law_1019 rfl (by omega) (by omega) ?_
  refine z_sload_n dL_law_1020 rfl ?_
  refine z_iload_n dL_law_1021 rfl ?_
  refine z_iconst dL_law_1022 (by decide) ?_
  refine z_iadd dL_law_1023 (by omega) ?_
  refine z_sald dL_law_1024 rfl (by omega) (by omega) ?_
  refine z_V2i dL_law_1025 ok_X11_chance lk_L_101 (by first | rfl | assumption) rfl rfl (Nat.le_of_ble_eq_true rfl) (by decide) (cm_X11_chance hC.1 rF hw0) (fun z1 m1 q1 => ?_)
  have d1 := sq3 q1
  have k1 : ∀ x, (88 ≤ x ∧ x < 105) ∨ x = 32 → m1 x = m x := by
    intro x hx
    rcases d1 with ⟨-, -, e⟩ | ⟨-, -, -, e⟩ | ⟨-, -, -, -, -, e⟩
    · rw [e]
    · exact e.1 x (by omega)
    · exact e x (by omega)
  have hM1 := hM.hi k1
  refine z_aload_n dL_law_1028 rfl ?_
  refine z_sload_n dL_law_1029 rfl ?_
  refine z_iload_n dL_law_1030 rfl ?_
  refine z_iconst dL_law_1031 (by decide) ?_
  refine z_iadd dL_law_1032 (by omega) ?_
  refine z_sald dL_law_1033 rfl (by omega) (by omega) ?_
  refine z_sload_n dL_law_1034 rfl ?_
  refine z_iload_n dL_law_1035 rfl ?_
  refine z_iconst dL_law_1036 (by decide) ?_
  refine z_iadd dL_law_1037 (by omega) ?_
  refine z_sald dL_law_1038 rfl (by omega) (by omega) ?_
  refine z_V2i dL_law_1039 ok_X12_chance lk_L_104 (by first | rfl | assumption) rfl rfl (Nat.le_of_ble_eq_true rfl) (by decide) (cm_X12_chance hM1.1 rF) (fun z2 m2 q2 => ?_)
  have fin : z1 = z2 ∧ lwI m2 := by
    have lo : ∀ x, x < 88 ∧ x ≠ 32 → m2 x = m1 x := fun x hx => q2.2.2.2.1 x (by omega)
    have hk2 : ∀ x, x = 91 ∨ x = 95 ∨ x = 102 ∨ x = 103 ∨ x = 32 → m2 x = m1 x := fun x hx => q2.2.2.2.1 x (by omega)
    have h88 : ∀ j, j = 3 ∨ j = 4 ∨ j = 13 ∨ j = 29 → m2 88 j = m1 88 j := fun j hj => q2.2.2.2.2 j (by omega)
    rcases d1 with ⟨h1, e1, e2⟩ | ⟨h1, h2, e1, e2⟩ | ⟨h1, h2, e1, e2, e3, e4⟩
    · obtain ⟨g1, g2⟩ := q2.1 h1
      exact ⟨e1.trans g1.symm, nf, fd, np, pr, nw, wd, fr, bk, mo, a, b, cS.lo (hS.keep (m1 := m1) fun x hx => by rw [e2]) lo, hM1.all (fun x hx => g2.1 x (by omega) (by omega)) h88, hR⟩
    · obtain ⟨g1, g2⟩ := q2.2.1 h1 h2
      exact ⟨e1.trans g1.symm, nf, fd, np, pr, nw, wd, fr, bk, mo, a, b, cS.lo (hS.keep (m1 := m1) fun x hx => e2.1 x (by omega)) lo, hM1.all (fun x hx => g2.1 x (by omega) (by omega)) h88, hR⟩
    · obtain ⟨g1, g2, g3⟩ := q2.2.2.1 h1 h2
      exact ⟨e1.trans g1.symm, nf, fd, np, pr, nw, wd, fr, bk, mo, _, _, cS.lo (hS.newF (m1 := m1) (fun x hx => e4 x (by omega)) (by rw [e4 68 (by omega)]) e3 e2) lo, hM1.off hk2 h88 g2 g3, hR⟩
  refine z_icmp_eq 1411 dL_law_1042 (by decide) (fun h1042 => ?_) (fun h1042 => ?_)
  · exact kk _ fin.2
  · exact absurd fin.1 h1042
theorem lc_21 {X : Nat × (Int → Int)} {i : Nat} {m : Mem} {Q : zPost} (hi : i + 7 ≤ X.1) (hL : X.1 ≤ 3584) (hI : lwI m) (kk : ∀ m', lwI m' → ZZ X (0, 0) 12 mL_law G0 1411 [vc 2, vr 0, vr 88, vi (i : Int)] [] m' Q) : ZZ X (0, 0) 12 mL_law G0 1047 [vc 2, vr 0, vr 88, vi (i : Int)] [] m Q := by
  have hI0 := hI
  obtain ⟨nf, fd, np, pr, nw, wd, fr, bk, mo, a, b, hS, hM, hR⟩ := hI
  have hS0 := hS
  obtain ⟨hC, hwc, hw0⟩ := hS0
  have hR0 := hR
  obtain ⟨rF, rP, rFr, rB, rW, o1, o2⟩ := hR0
  refine z_aload_n dL_law_1047 rfl ?_
  refine z_sload_n dL_law_1048 rfl ?_
  refine z_iload_n dL_law_1049 rfl ?_
  refine z_iconst dL_law_1050 (by decide) ?_
  refine z_iadd dL_law_1051 (by omega) ?_
  refine z_sald dL_law_1052 rfl (by omega) (by omega) ?_
  refine z_sload_n dL_law_1053 rfl ?_
  refine z_iload_n dL_law_1054 rfl ?_
  refine z_iconst dL_law_1055 (by decide) ?_
  refine z_iadd dL_law_1056 (by omega) ?_
  refine z_sald dL_law_1057 rfl (by omega) (by omega) ?_
  refine z_sload_n dL_law_1058 rfl ?_
  refine z_iload_n dL_law_1059 rfl ?_
  refine z_iconst dL_law_1060 (by decide) ?_
  refine z_iadd dL_law_1061 (by omega) ?_
  refine z_sald dL_law_1062 rfl (by omega) (by omega) ?_
  refine z_V3i dL_law_1063 ok_X11_said lk_L_105 (by first | rfl | assumption) rfl rfl (Nat.le_of_ble_eq_true rfl) (by decide) (cm_X11_said hC.2.1) (fun z1 m1 q1 => ?_)
  have d1 := tri3 (show np = 20 ∨ np < 20 by have := hC.2.1.1; omega) q1
  have k1 : ∀ x, (88 ≤ x ∧ x < 105) ∨ x = 32 → m1 x = m x := by
    intro x hx
    rcases d1 with ⟨-, -, e⟩ | ⟨-, -, -, e⟩ | ⟨-, -, -, -, e, -⟩
    · rw [e]
    · rw [e]
    · exact e x (by omega)
  have hM1 := hM.hi k1
  refine z_aload_n dL_law_1066 rfl ?_
  refine z_sload_n dL_law_1067 rfl ?_
  refine z_iload_n dL_law_1068 rfl ?_
  refine z_iconst dL_law_1069 (by decide) ?_
  refine z_iadd dL_law_1070 (by omega) ?_
  refine z_sald dL_law_1071 rfl (by omega) (by omega) ?_
  refine z_sload_n dL_law_1072 rfl ?_
  refine z_iload_n dL_law_1073 rfl ?_
  refine z_iconst dL_law_1074 (by decide) ?_
  refine z_iadd dL_law_1075 (by omega) ?_
  refine z_sald dL_law_1076 rfl (by omega) (by omega) ?_
  refine z_sload_n dL_law_1077 rfl ?_
  refine z_iload_n dL_law_1078 rfl ?_
  refine z_iconst dL_law_1079 (by decide) ?_
  refine z_iadd dL_law_1080 (by omega) ?_
  refine z_sald dL_law_1081 rfl (by omega) (by omega) ?_
  refine z_V3i dL_law_1082 ok_X12_said lk_L_108 (by first | rfl | assumption) rfl rfl (Nat.le_of_ble_eq_true rfl) (by decide) (cm_X12_said hM1.2.1) (fun z2 m2 q2 => ?_)
  have fin : z1 = z2 ∧ lwI m2 := by
    rcases d1 with ⟨no, e1, e2⟩ | ⟨ok, h60, e1, e2⟩ | ⟨ok, hlt, e1, f1, e2, e3⟩
    · obtain ⟨g1, g2⟩ := q2.1 no
      exact ⟨e1.trans g1.symm, by rw [g2, e2]; exact hI0⟩
    · obtain ⟨g1, g2⟩ := q2.2.1 ok h60
      exact ⟨e1.trans g1.symm, by rw [g2, e2]; exact hI0⟩
    · obtain ⟨g1, f2, g2⟩ := q2.2.2 ok hlt
      have lo : ∀ x, x < 88 ∧ x ≠ 32 → m2 x = m1 x := fun x hx => g2.1 x (by omega) (by omega)
      refine ⟨e1.trans g1.symm, nf, fd, np + 1, _, nw, wd, fr, bk, mo, a, b, cS.lo (m1 := m1) ⟨⟨hC.1.off fun x _ _ => e2 x (by omega), f1, hC.2.2.1.same fun x _ _ => e2 x (by omega), hC.2.2.2.1.same fun x _ _ => e2 x (by omega), hC.2.2.2.2.1.same fun x _ _ => e2 x (by omega), by rw [e2 0 (by omega)]; exact hC.2.2.2.2.2.1, hC.2.2.2.2.2.2.kp fun x _ _ => e2 x (by omega)⟩, hwc.same (e2 22 (by omega)) (e2 27 (by omega)), hw0.same (e2 36 (by omega))⟩ lo, ⟨hM1.1.off (g2.2 3 (by decide)) (g2.1 91 (by decide) (by decide)), f2, hM1.2.2.1.same (g2.2 13 (by decide)) (g2.1 95 (by decide) (by decide)), hM1.2.2.2.1.same (g2.1 103 (by decide) (by decide)), hM1.2.2.2.2.1.same (g2.1 32 (by decide) (by decide)), (g2.2 4 (by decide)).trans hM1.2.2.2.2.2.1, hM1.2.2.2.2.2.2.1.kp (g2.1 89 (by decide) (by decide)) (g2.1 90 (by decide) (by decide)), hM1.2.2.2.2.2.2.2.kp (g2.1 89 (by decide) (by decide)) (g2.1 90 (by decide) (by decide))⟩, ⟨rF, prR_put rP ok, rFr, rB, rW, o1, o2⟩⟩
  refine z_icmp_eq 1411 dL_law_1085 (by decide) (fun h1085 => ?_) (fun h1085 => ?_)
  · exact kk _ fin.2
  · exact absurd fin.1 h1085
