section Nums
variable {X : Nat × (Int → Int)} {mem : Mem} {nf : Nat} {fd : Nat → Nat → Int}
theorem finM.off {m : Mem} (h : finM mem nf fd) (h1 : m 88 3 = mem 88 3) (h2 : m 91 = mem 91) : finM m nf fd := by
  obtain ⟨q1, q2, q3⟩ := h
  exact ⟨q1, by rw [h1]; exact q2, fun k i a b => by rw [h2]; exact q3 k i a b⟩
theorem finM.nm {m : Mem} (h : finM mem nf fd) (h1 : onNm mem m) : finM m nf fd := h.off (h1.2 3 (by decide)) (h1.1 91 (by decide) (by decide))
theorem cm_X12_finds0 {mk wo : Int} (hf : finM mem nf fd) : CM X (0, 0) 2 mX12_finds0 G0 [vr 88, vi mk, vi wo] mem (pV G0 fun m => numsAt m (gatL fd mk wo nf) ∧ onNm mem m) := by
  have hn := hf.1
  refine CM.of (by decide +kernel) 3 (Nat.le_of_ble_eq_true rfl) ?_
  show ZZ X (0, 0) 2 mX12_finds0 G0 0 [vr 88, vi mk, vi wo, vd, vd, vd] [] mem _
  have loop : ∀ (k0 i : Nat) (m : Mem) (w4 w5 : VV), k0 + i = nf → numsAt m (gatL fd mk wo i) → onNm mem m → (∀ z, w4 ≠ vl z) → (∀ z, w5 ≠ vl z) →
      ZZ X (0, 0) 2 mX12_finds0 G0 7 [vr 88, vi mk, vi wo, vi (i : Int), w4, w5] [] m (pV G0 fun m => numsAt m (gatL fd mk wo nf) ∧ onNm mem m) := by
    intro k0
    induction k0 with
    | zero =>
      intro i m w4 w5 hk hm hon hw4 hw5
      have hii : i = nf := by omega
      subst hii
      have hfm := hf.nm hon
      refine z_iload_n dX12_finds0_7 rfl ?_
      refine z_aload_n dX12_finds0_8 rfl ?_
      refine z_gI 3 dX12_finds0_9 fl_X12_116 (by first | rfl | assumption) rfl rfl ?_
      rw [hfm.2.1]
      refine z_icmp_ge 152 dX12_finds0_12 (by decide) (fun h12 => ?_) (fun h12 => ?_)
      · refine z_vret dX12_finds0_152 rfl ?_
        exact ⟨rfl, rfl, hm, hon⟩
      · omega
    | succ k0 ih0 =>
      intro i m w4 w5 hk hm hon hw4 hw5
      have hfm := hf.nm hon
      have hlen := gatL_len fd mk wo i
      have hif : i < nf := by omega
      have next : ∀ (m2 : Mem) (w4 w5 : VV), numsAt m2 (gatL fd mk wo (i + 1)) → onNm mem m2 → (∀ z, w4 ≠ vl z) → (∀ z, w5 ≠ vl z) → ZZ X (0, 0) 2 mX12_finds0 G0 146 [vr 88, vi mk, vi wo, vi (i : Int), w4, w5] [] m2 (pV G0 fun m => numsAt m (gatL fd mk wo nf) ∧ onNm mem m) := by
        intro m2 w4 w5 h1 h2 h3 h4
        refine z_iinc dX12_finds0_146 rfl (by omega) (by decide) rfl ?_
        dsimp only [List.set]
        refine z_goto 7 dX12_finds0_149 (by decide) ?_
        exact ih0 (i + 1) m2 w4 w5 (by omega) h1 h2 h3 h4
      refine z_kill 4 ?_
      refine z_kill 5 ?_
      dsimp only [List.set]
      by_cases hc : fd 0 i = mk ∧ fd 5 i = 0 ∧ (i : Int) ≠ wo
      · have hg : gatL fd mk wo (i + 1) = insL (fd 1 i) (gatL fd mk wo i) := if_pos hc
        rw [hg] at next
        generalize gatL fd mk wo i = L at hm hlen next
        generalize hx : fd 1 i = x at next
        obtain ⟨hs, -, hrow⟩ := id hm
        have hpl := plc_le x L
        have shift : ∀ (k j0 : Nat) (m1 : Mem), k + plc x L = j0 → j0 ≤ L.length → ¬ L[plc x L]? = some x → onNm m m1 → m1 88 6 = (L.length : Int) → (∀ j : Nat, j < j0 → j < L.length → m1 92 (j : Int) = L.getD j 0) → (∀ j : Nat, j0 < j → j ≤ L.length → m1 92 (j : Int) = L.getD (j - 1) 0) →
            ZZ X (0, 0) 2 mX12_finds0 G0 94 [vr 88, vi mk, vi wo, vi (i : Int), vi ((plc x L : Nat) : Int), vi (j0 : Int)] [] m1 (pV G0 fun m => numsAt m (gatL fd mk wo nf) ∧ onNm mem m) := by
          intro k
          induction k with
          | zero =>
            intro j0 m1 hk1 hi hne hon1 hsz hlo hhi
            have hii : j0 = plc x L := by omega
            subst hii
            refine z_iload dX12_finds0_94 rfl ?_
            refine z_iload dX12_finds0_96 rfl ?_
            refine z_icmp_le 123 dX12_finds0_98 (by decide) (fun h98 => ?_) (fun h98 => ?_)
            · refine z_aload_n dX12_finds0_123 rfl ?_
              refine z_getR (ty := .int) dX12_finds0_124 fl_X12_19 (by first | rfl | assumption) rfl rfl ?_
              refine z_iload dX12_finds0_127 rfl ?_
              refine z_aload_n dX12_finds0_129 rfl ?_
              refine z_iload_n dX12_finds0_130 rfl ?_
              refine z_iconst dX12_finds0_131 (by decide) ?_
              refine z_V2i dX12_finds0_132 ok_X12_of lk_X12_122 (by first | rfl | assumption) rfl rfl (Nat.le_of_ble_eq_true rfl) (by decide) (cm_X12_of (k := 1) (hfm.nm hon1) hif (by decide)) (fun z1 m2 hm2 => ?_)
              obtain ⟨hz, rfl⟩ := hm2
              rw [hz, hx]
              refine z_iast dX12_finds0_135 (by first | rfl | assumption) (by omega) (by omega) ?_
              refine z_aload_n dX12_finds0_136 rfl ?_
              refine z_dup dX12_finds0_137 (by intro z q; cases q) ?_
              refine z_gI 6 dX12_finds0_138 fl_X12_125 (by first | rfl | assumption) rfl rfl ?_
              rw [mset_ne _ (by decide), hsz]
              refine z_iconst dX12_finds0_141 (by decide) ?_
              refine z_iadd dX12_finds0_142 (by omega) ?_
              refine z_pI 6 dX12_finds0_143 fm_X12_125 (by first | rfl | assumption) rfl rfl ?_
              have hins : insL x L = L.take (plc x L) ++ x :: L.drop (plc x L) := if_neg hne
              refine next _ _ _ ⟨?_, ?_, ?_⟩ ((hon.tr hon1).tr ⟨fun a ha hb => by rw [mset_ne _ ha, mset_ne _ hb], fun j hj => by rw [mset_nej _ _ hj, mset_ne _ (by decide)]⟩) (by intro z q; cases q) (by intro z q; cases q)
              · rw [mset_eq, hins, len_ins hpl]; omega
              · rw [hins, len_ins hpl]; omega
              · rw [hins]
                intro j hj
                rw [len_ins hpl] at hj
                rw [getD_ins hpl hj, mset_ne _ (by decide)]
                by_cases c1 : j < plc x L
                · rw [if_pos c1, mset_nej _ _ (by omega)]
                  exact hlo j c1 (by omega)
                · rw [if_neg c1]
                  by_cases c2 : j = plc x L
                  · rw [if_pos c2, c2, mset_eq]
                  · rw [if_neg c2, mset_nej _ _ (by omega)]
                    exact hhi j (by omega) (by omega)
            · omega
          | succ k ih =>
            intro j0 m1 hk1 hi hne hon1 hsz hlo hhi
            have e1 : (j0 : Int) - 1 = ((j0 - 1 : Nat) : Int) := by omega
            refine z_iload dX12_finds0_94 rfl ?_
            refine z_iload dX12_finds0_96 rfl ?_
            refine z_icmp_le 123 dX12_finds0_98 (by decide) (fun h98 => ?_) (fun h98 => ?_)
            · omega
            · refine z_aload_n dX12_finds0_101 rfl ?_
              refine z_getR (ty := .int) dX12_finds0_102 fl_X12_19 (by first | rfl | assumption) rfl rfl ?_
              refine z_iload dX12_finds0_105 rfl ?_
              refine z_aload_n dX12_finds0_107 rfl ?_
              refine z_getR (ty := .int) dX12_finds0_108 fl_X12_19 (by first | rfl | assumption) rfl rfl ?_
              refine z_iload dX12_finds0_111 rfl ?_
              refine z_iconst dX12_finds0_113 (by decide) ?_
              refine z_isub dX12_finds0_114 (by omega) ?_
              rw [e1]
              refine z_iald dX12_finds0_115 (by first | rfl | assumption) (by omega) (by omega) ?_
              rw [hlo (j0 - 1) (by omega) (by omega)]
              refine z_iast dX12_finds0_116 (by first | rfl | assumption) (by omega) (by omega) ?_
              refine z_iinc dX12_finds0_117 rfl (by omega) (by decide) rfl ?_
              dsimp only [List.set]
              refine z_goto 94 dX12_finds0_120 (by decide) ?_
              rw [show (j0 : Int) + -1 = ((j0 - 1 : Nat) : Int) by omega]
              refine ih (j0 - 1) _ (by omega) (by omega) hne (hon1.tr ⟨fun a ha hb => mset_ne _ hb _ _, fun j hj => by rw [mset_ne _ (by decide)]⟩) (by rw [mset_ne _ (by decide)]; exact hsz) (fun j a b => ?_) (fun j a b => ?_)
              · rw [mset_nej _ _ (by omega)]
                exact hlo j (by omega) b
              · by_cases e : j = j0
                · subst e; rw [mset_eq]
                · rw [mset_nej _ _ (by omega)]
                  exact hhi j (by omega) b
        have look : ∀ (k p : Nat), k + p = L.length → (∀ j : Nat, j < p → L.getD j 0 < x) →
            ZZ X (0, 0) 2 mX12_finds0 G0 32 [vr 88, vi mk, vi wo, vi (i : Int), vi (p : Int), vd] [] m (pV G0 fun m => numsAt m (gatL fd mk wo nf) ∧ onNm mem m) := by
          intro k
          induction k with
          | zero =>
            intro p hk1 hlt
            have hp : p = plc x L := plc_uniq hlt (by omega) (fun w => by omega)
            have hne : ¬ L[plc x L]? = some x := by rw [← hp, List.getElem?_eq_none (by omega)]; intro q; cases q
            refine z_iload dX12_finds0_32 rfl ?_
            refine z_aload_n dX12_finds0_34 rfl ?_
            refine z_gI 6 dX12_finds0_35 fl_X12_125 (by first | rfl | assumption) rfl rfl ?_
            rw [hs]
            refine z_icmp_ge 63 dX12_finds0_38 (by decide) (fun h38 => ?_) (fun h38 => ?_)
            · refine z_iload dX12_finds0_63 rfl ?_
              refine z_aload_n dX12_finds0_65 rfl ?_
              refine z_gI 6 dX12_finds0_66 fl_X12_125 (by first | rfl | assumption) rfl rfl ?_
              rw [hs]
              refine z_icmp_eq 88 dX12_finds0_69 (by decide) (fun h69 => ?_) (fun h69 => ?_)
              · refine z_aload_n dX12_finds0_88 rfl ?_
                refine z_gI 6 dX12_finds0_89 fl_X12_125 (by first | rfl | assumption) rfl rfl ?_
                rw [hs]
                refine z_istore dX12_finds0_92 (by decide) rfl ?_
                dsimp only [List.set]
                rw [hp]
                exact shift (L.length - plc x L) L.length m (by omega) (Nat.le_refl _) hne onNm.rf hs (fun j _ b => hrow j b) (fun j a b => by omega)
              · omega
            · omega
          | succ k ih =>
            intro p hk1 hlt
            have hil : p < L.length := by omega
            have fnd : ¬ L.getD p 0 < x → p = plc x L := fun q => plc_uniq hlt (by omega) (fun _ => by omega)
            refine z_iload dX12_finds0_32 rfl ?_
            refine z_aload_n dX12_finds0_34 rfl ?_
            refine z_gI 6 dX12_finds0_35 fl_X12_125 (by first | rfl | assumption) rfl rfl ?_
            rw [hs]
            refine z_icmp_ge 63 dX12_finds0_38 (by decide) (fun h38 => ?_) (fun h38 => ?_)
            · omega
            · refine z_aload_n dX12_finds0_41 rfl ?_
              refine z_getR (ty := .int) dX12_finds0_42 fl_X12_19 (by first | rfl | assumption) rfl rfl ?_
              refine z_iload dX12_finds0_45 rfl ?_
              refine z_iald dX12_finds0_47 (by first | rfl | assumption) (by omega) (by omega) ?_
              rw [hrow p hil]
              refine z_aload_n dX12_finds0_48 rfl ?_
              refine z_iload_n dX12_finds0_49 rfl ?_
              refine z_iconst dX12_finds0_50 (by decide) ?_
              refine z_V2i dX12_finds0_51 ok_X12_of lk_X12_122 (by first | rfl | assumption) rfl rfl (Nat.le_of_ble_eq_true rfl) (by decide) (cm_X12_of (k := 1) hfm hif (by decide)) (fun z1 m2 hm2 => ?_)
              obtain ⟨hz, rfl⟩ := hm2
              rw [hz, hx]
              refine z_icmp_ge 63 dX12_finds0_54 (by decide) (fun h54 => ?_) (fun h54 => ?_)
              · have hp : p = plc x L := fnd (by omega)
                refine z_iload dX12_finds0_63 rfl ?_
                refine z_aload_n dX12_finds0_65 rfl ?_
                refine z_gI 6 dX12_finds0_66 fl_X12_125 (by first | rfl | assumption) rfl rfl ?_
                rw [hs]
                refine z_icmp_eq 88 dX12_finds0_69 (by decide) (fun h69 => ?_) (fun h69 => ?_)
                · omega
                · refine z_aload_n dX12_finds0_72 rfl ?_
                  refine z_getR (ty := .int) dX12_finds0_73 fl_X12_19 (by first | rfl | assumption) rfl rfl ?_
                  refine z_iload dX12_finds0_76 rfl ?_
                  refine z_iald dX12_finds0_78 (by first | rfl | assumption) (by omega) (by omega) ?_
                  rw [hrow p hil]
                  refine z_aload_n dX12_finds0_79 rfl ?_
                  refine z_iload_n dX12_finds0_80 rfl ?_
                  refine z_iconst dX12_finds0_81 (by decide) ?_
                  refine z_V2i dX12_finds0_82 ok_X12_of lk_X12_122 (by first | rfl | assumption) rfl rfl (Nat.le_of_ble_eq_true rfl) (by decide) (cm_X12_of (k := 1) hfm hif (by decide)) (fun z1 m2 hm2 => ?_)
                  obtain ⟨hz2, rfl⟩ := hm2
                  rw [hz2, hx]
                  refine z_icmp_eq 146 dX12_finds0_85 (by decide) (fun h85 => ?_) (fun h85 => ?_)
                  · have hin : insL x L = L := if_pos (by rw [← hp, ← h85, List.getD_eq_getElem?_getD, List.getElem?_eq_getElem hil]; rfl)
                    refine next _ _ _ ?_ hon (by intro z q; cases q) (by intro z q; cases q)
                    rw [hin]
                    exact hm
                  · have hne : ¬ L[plc x L]? = some x := by
                      intro w
                      apply h85
                      rw [← hp] at w
                      rw [List.getD_eq_getElem?_getD, w]
                      rfl
                    refine z_aload_n dX12_finds0_88 rfl ?_
                    refine z_gI 6 dX12_finds0_89 fl_X12_125 (by first | rfl | assumption) rfl rfl ?_
                    rw [hs]
                    refine z_istore dX12_finds0_92 (by decide) rfl ?_
                    dsimp only [List.set]
                    rw [hp]
                    exact shift (L.length - plc x L) L.length _ (by omega) (Nat.le_refl _) hne onNm.rf hs (fun j _ b => hrow j b) (fun j a b => by omega)
              · refine z_iinc dX12_finds0_57 rfl (by omega) (by decide) rfl ?_
                dsimp only [List.set]
                refine z_goto 32 dX12_finds0_60 (by decide) ?_
                exact ih (p + 1) (by omega) (fun j hj => by by_cases e : j = p; rw [e]; omega; exact hlt j (by omega))
        refine z_iload_n dX12_finds0_7 rfl ?_
        refine z_aload_n dX12_finds0_8 rfl ?_
        refine z_gI 3 dX12_finds0_9 fl_X12_116 (by first | rfl | assumption) rfl rfl ?_
        rw [hfm.2.1]
        refine z_icmp_ge 152 dX12_finds0_12 (by decide) (fun h12 => ?_) (fun h12 => ?_)
        · omega
        · refine z_aload_n dX12_finds0_15 rfl ?_
          refine z_iload_n dX12_finds0_16 rfl ?_
          refine z_iload_n dX12_finds0_17 rfl ?_
          refine z_V2i dX12_finds0_18 ok_X12_counts lk_X12_128 (by first | rfl | assumption) rfl rfl (Nat.le_of_ble_eq_true rfl) (by decide) (cm_X12_counts hfm hif) (fun z1 m1 hm1 => ?_)
          obtain ⟨hz1, rfl⟩ := hm1
          refine z_if_eq 146 dX12_finds0_21 (by decide) (fun h21 => ?_) (fun h21 => ?_)
          · omega
          · refine z_iload_n dX12_finds0_24 rfl ?_
            refine z_iload_n dX12_finds0_25 rfl ?_
            refine z_icmp_eq 146 dX12_finds0_26 (by decide) (fun h26 => ?_) (fun h26 => ?_)
            · omega
            · refine z_iconst dX12_finds0_29 (by decide) ?_
              refine z_istore dX12_finds0_30 (by decide) rfl ?_
              dsimp only [List.set]
              exact look L.length 0 (by omega) (fun j hj => by omega)
      · have hg : gatL fd mk wo (i + 1) = gatL fd mk wo i := if_neg hc
        rw [hg] at next
        refine z_iload_n dX12_finds0_7 rfl ?_
        refine z_aload_n dX12_finds0_8 rfl ?_
        refine z_gI 3 dX12_finds0_9 fl_X12_116 (by first | rfl | assumption) rfl rfl ?_
        rw [hfm.2.1]
        refine z_icmp_ge 152 dX12_finds0_12 (by decide) (fun h12 => ?_) (fun h12 => ?_)
        · omega
        · refine z_aload_n dX12_finds0_15 rfl ?_
          refine z_iload_n dX12_finds0_16 rfl ?_
          refine z_iload_n dX12_finds0_17 rfl ?_
          refine z_V2i dX12_finds0_18 ok_X12_counts lk_X12_128 (by first | rfl | assumption) rfl rfl (Nat.le_of_ble_eq_true rfl) (by decide) (cm_X12_counts hfm hif) (fun z1 m1 hm1 => ?_)
          obtain ⟨hz1, rfl⟩ := hm1
          refine z_if_eq 146 dX12_finds0_21 (by decide) (fun h21 => ?_) (fun h21 => ?_)
          · exact next _ _ _ hm hon (by intro z q; cases q) (by intro z q; cases q)
          · refine z_iload_n dX12_finds0_24 rfl ?_
            refine z_iload_n dX12_finds0_25 rfl ?_
            refine z_icmp_eq 146 dX12_finds0_26 (by decide) (fun h26 => ?_) (fun h26 => ?_)
            · exact next _ _ _ hm hon (by intro z q; cases q) (by intro z q; cases q)
            · omega
  refine z_aload_n dX12_finds0_0 rfl ?_
  refine z_iconst dX12_finds0_1 (by decide) ?_
  refine z_pI 6 dX12_finds0_2 fm_X12_125 (by first | rfl | assumption) rfl rfl ?_
  refine z_iconst dX12_finds0_5 (by decide) ?_
  refine z_istore_n dX12_finds0_6 (by decide) rfl ?_
  dsimp only [List.set]
  refine loop nf 0 _ _ _ (by omega) ⟨mset_eq _ _ _ _, by simp [gatL], fun i h => by simp [gatL] at h⟩ ⟨fun a ha hb => mset_ne _ ha _ _, fun j hj => mset_nej _ _ hj _⟩ (by intro z q; cases q) (by intro z q; cases q)
end Nums
