section ModB
variable {X : Nat × (Int → Int)} {mem : Mem}
theorem cm_X12_times {r v : Nat} {f : Int} (hr : r < 6) (hv : regAt mem r v) (hf0 : 0 ≤ f) (hf : f < 1073741824) (hb : (v : Int) * f < zB ^ 66) : CM X (0, 0) 1 mX12_times G0 [vr 88, vi (r : Int), vi f] mem (pV G0 fun m => regAt m r (v * f.toNat) ∧ onR r mem m) := by
  obtain ⟨hd, hnv, n, hn, hw, hz, ht⟩ := hv
  have hvn : ((v * f.toNat : Nat) : Int) = (v : Int) * f := by rw [Int.natCast_mul, Int.toNat_of_nonneg hf0]
  have hnvn : nv (rowM mem r) n = (v : Int) := by rw [← hnv]; exact (nv_pad hn hz).symm
  refine CM.of (by decide +kernel) 5 (Nat.le_of_ble_eq_true rfl) ?_
  show ZZ X (0, 0) 1 mX12_times G0 0 [vr 88, vi (r : Int), vi f, vd, vd, vd, vd, vd] [] mem _
  have loop : ∀ (k i : Nat) (c : Int) (m : Mem), k + i = n → 0 ≤ c → c ≤ f → onR r mem m → m 90 (r : Int) = (n : Int) → dig (rowM m r) i → (∀ j : Nat, i ≤ j → j < 66 → rowM m r (j : Int) = rowM mem r (j : Int)) → nv (rowM m r) i + c * zB ^ i = nv (rowM mem r) i * f →
      ZZ X (0, 0) 1 mX12_times G0 5 [vr 88, vi (r : Int), vi f, vl c, vd, vi (i : Int), vd, vd] [] m (pV G0 fun m => regAt m r (v * f.toNat) ∧ onR r mem m) := by
    intro k
    induction k with
    | zero =>
      intro i c m hk hc0 hc hon hsz hdg hsame hinv
      have hi : i = n := by omega
      subst hi
      rw [hnvn] at hinv
      have hzm : ∀ j : Nat, i ≤ j → j < 66 → rowM m r (j : Int) = 0 := fun j a b => by rw [hsame j a b]; exact hz j a b
      have hdm : dig (rowM m r) 66 := fun j hj => by
        by_cases q : j < i
        · exact hdg j q
        · rw [hzm j (by omega) hj]; omega
      refine z_iload dX12_times_5 rfl ?_
      refine z_aload_n dX12_times_7 rfl ?_
      refine z_getR (ty := .int) dX12_times_8 fl_X12_13 (by first | rfl | assumption) rfl rfl ?_
      refine z_iload_n dX12_times_11 rfl ?_
      refine z_iald dX12_times_12 (by first | rfl | assumption) (by omega) (by omega) ?_
      rw [hsz]
      refine z_icmp_ge 67 dX12_times_13 (by decide) (fun h13 => ?_) (fun h13 => ?_)
      · refine z_lload_n dX12_times_67 rfl ?_
        refine z_lconst (z := 0) dX12_times_68 rfl (by decide) ?_
        refine z_lcmp dX12_times_69 ?_
        refine z_if_le 101 dX12_times_70 (by decide) (fun h70 => ?_) (fun h70 => ?_)
        · rw [lc_le] at h70
          have hc00 : c = 0 := by omega
          refine z_aload_n dX12_times_101 rfl ?_
          refine z_iload_n dX12_times_102 rfl ?_
          refine z_V1v dX12_times_103 ok_X12_trims lk_X12_68 rfl rfl rfl (Nat.le_of_ble_eq_true rfl) (by decide) (cm_X12_trims hr hsz hn) (fun m2 hm2 => ?_)
          refine z_vret dX12_times_106 rfl ?_
          obtain ⟨q1, q2⟩ := trims_reg (v := v * f.toNat) hr hn hdm (by rw [nv_pad hn hzm, hvn, ← hinv, hc00]; omega) hzm hm2
          exact ⟨rfl, rfl, q1, hon.tr q2⟩
        · rw [lc_le] at h70
          have hi66 : i < 66 := by
            by_cases q : i < 66
            · exact q
            · have hi66 : i = 66 := by omega
              have h1 := nv_nonneg hdg
              have h2 : 1 * zB ^ i ≤ c * zB ^ i := Int.mul_le_mul_of_nonneg_right (by omega) (Int.le_of_lt (zB_pos i))
              rw [hi66] at h1 h2 hinv
              omega
          refine z_aload_n dX12_times_73 rfl ?_
          refine z_getR (ty := .int) dX12_times_74 fl_X12_7 (by first | rfl | assumption) rfl rfl ?_
          refine z_bipush dX12_times_77 (by decide) ?_
          refine z_iload_n dX12_times_79 rfl ?_
          refine z_imul dX12_times_80 (by omega) ?_
          refine z_aload_n dX12_times_81 rfl ?_
          refine z_getR (ty := .int) dX12_times_82 fl_X12_13 (by first | rfl | assumption) rfl rfl ?_
          refine z_iload_n dX12_times_85 rfl ?_
          refine z_iald dX12_times_86 (by first | rfl | assumption) (by omega) (by omega) ?_
          rw [hsz]
          refine z_iadd dX12_times_87 (by omega) ?_
          refine z_lload_n dX12_times_88 rfl ?_
          refine z_l2i dX12_times_89 (by omega) ?_
          refine z_iast dX12_times_90 (by first | rfl | assumption) (by omega) (by omega) ?_
          refine z_aload_n dX12_times_91 rfl ?_
          refine z_getR (ty := .int) dX12_times_92 fl_X12_13 (by first | rfl | assumption) rfl rfl ?_
          refine z_iload_n dX12_times_95 rfl ?_
          refine z_dup2 dX12_times_96 (by intro z q; cases q) (by intro z q; cases q) ?_
          refine z_iald dX12_times_97 (by first | rfl | assumption) (by omega) (by omega) ?_
          rw [wideM, hsz]
          refine z_iconst dX12_times_98 (by decide) ?_
          refine z_iadd dX12_times_99 (by omega) ?_
          refine z_iast dX12_times_100 (by first | rfl | assumption) (by omega) (by omega) ?_
          refine z_aload_n dX12_times_101 rfl ?_
          refine z_iload_n dX12_times_102 rfl ?_
          refine z_V1v dX12_times_103 ok_X12_trims lk_X12_68 (by first | rfl | assumption) rfl rfl (Nat.le_of_ble_eq_true rfl) (by decide) (cm_X12_trims (n := i + 1) hr (by rw [mset_eq]; omega) (by omega)) (fun m2 hm2 => ?_)
          refine z_vret dX12_times_106 rfl ?_
          have hzm2 : ∀ j : Nat, i + 1 ≤ j → j < 66 → rowM (mset (mset m 89 (66 * (r : Int) + (i : Int)) c) 90 (r : Int) ((i : Int) + 1)) r (j : Int) = 0 := fun j a b => by rw [rowM_w, rowM_set, updF_ne _ _ (by omega)]; exact hzm j (by omega) b
          obtain ⟨q1, q2⟩ := trims_reg (v := v * f.toNat) hr (show i + 1 ≤ 66 by omega) (by rw [rowM_w, rowM_set]; exact dig_upd hdm hc0 (by omega)) (by rw [nv_pad (show i + 1 ≤ 66 by omega) hzm2, rowM_w, rowM_set, nv_updS, hvn, hinv]) hzm2 hm2
          exact ⟨rfl, rfl, q1, ((hon.tr (onR_l (by omega) (by omega))).tr onR_w).tr q2⟩
      · omega
    | succ k ih =>
      intro i c m hk hc0 hc hon hsz hdg hsame hinv
      have hl := hd i (by omega)
      have hpr0 : 0 ≤ rowM mem r (i : Int) * f := Int.mul_nonneg hl.1 hf0
      have hpr1 : rowM mem r (i : Int) * f ≤ 1073741823 * f := Int.mul_le_mul_of_nonneg_right (by omega) hf0
      refine z_iload dX12_times_5 rfl ?_
      refine z_aload_n dX12_times_7 rfl ?_
      refine z_getR (ty := .int) dX12_times_8 fl_X12_13 (by first | rfl | assumption) rfl rfl ?_
      refine z_iload_n dX12_times_11 rfl ?_
      refine z_iald dX12_times_12 (by first | rfl | assumption) (by omega) (by omega) ?_
      rw [hsz]
      refine z_icmp_ge 67 dX12_times_13 (by decide) (fun h13 => ?_) (fun h13 => ?_)
      · omega
      · refine z_aload_n dX12_times_16 rfl ?_
        refine z_getR (ty := .int) dX12_times_17 fl_X12_7 (by first | rfl | assumption) rfl rfl ?_
        refine z_bipush dX12_times_20 (by decide) ?_
        refine z_iload_n dX12_times_22 rfl ?_
        refine z_imul dX12_times_23 (by omega) ?_
        refine z_iload dX12_times_24 rfl ?_
        refine z_iadd dX12_times_26 (by omega) ?_
        refine z_iald dX12_times_27 (by first | rfl | assumption) (by omega) (by omega) ?_
        rw [show m 89 (66 * (r : Int) + (i : Int)) = rowM mem r (i : Int) from hsame i (Nat.le_refl i) (by omega)]
        refine z_i2l dX12_times_28 ?_
        refine z_iload_n dX12_times_29 rfl ?_
        refine z_i2l dX12_times_30 ?_
        refine z_lmul dX12_times_31 (by omega) ?_
        refine z_lload_n dX12_times_32 rfl ?_
        refine z_ladd dX12_times_33 (by omega) ?_
        refine z_lstore dX12_times_34 (by decide) rfl ?_
        dsimp only [List.set]
        refine z_aload_n dX12_times_36 rfl ?_
        refine z_getR (ty := .int) dX12_times_37 fl_X12_7 (by first | rfl | assumption) rfl rfl ?_
        refine z_bipush dX12_times_40 (by decide) ?_
        refine z_iload_n dX12_times_42 rfl ?_
        refine z_imul dX12_times_43 (by omega) ?_
        refine z_iload dX12_times_44 rfl ?_
        refine z_iadd dX12_times_46 (by omega) ?_
        refine z_lload dX12_times_47 rfl ?_
        refine z_ldc2 (z := 1073741823) dX12_times_49 kc_X12_66 (by decide) ?_
        refine z_land dX12_times_52 ?_
        rw [land30]
        refine z_l2i dX12_times_53 (by omega) ?_
        refine z_iast dX12_times_54 (by first | rfl | assumption) (by omega) (by omega) ?_
        refine z_lload dX12_times_55 rfl ?_
        refine z_bipush dX12_times_57 (by decide) ?_
        refine z_lshr dX12_times_59 ?_
        rw [lshr30 (by omega)]
        refine z_lstore_n dX12_times_60 (by decide) rfl ?_
        dsimp only [List.set]
        refine z_iinc dX12_times_61 rfl (by omega) (by decide) rfl ?_
        dsimp only [List.set]
        refine z_goto 5 dX12_times_64 (by decide) ?_
        refine z_kill 6 ?_
        dsimp only [List.set]
        refine ih (i + 1) _ _ (by omega) (by omega) (by omega) (hon.tr (onR_l (by omega) (by omega))) (by rw [wideM]; exact hsz) (by rw [rowM_set]; exact dig_updS hdg (by omega) (by omega)) (fun j a b => ?_) ?_
        · rw [rowM_set, updF_ne _ _ (by omega)]
          exact hsame j (by omega) b
        · show _ = (nv _ i + rowM mem r (i : Int) * zB ^ i) * f
          rw [rowM_set, nv_updS]
          have hdm := Int.mul_ediv_add_emod (rowM mem r (i : Int) * f + c) 1073741824
          rw [Int.pow_succ]
          generalize (rowM mem r (i : Int) * f + c) / 1073741824 = qq at hdm ⊢
          generalize (rowM mem r (i : Int) * f + c) % 1073741824 = rr at hdm ⊢
          generalize zB ^ i = pp at hinv ⊢
          have hB : zB = 1073741824 := rfl
          rw [hB]
          grind
  refine z_lconst (z := 0) dX12_times_0 rfl (by decide) ?_
  refine z_lstore_n dX12_times_1 (by decide) rfl ?_
  dsimp only [List.set]
  refine z_iconst dX12_times_2 (by decide) ?_
  refine z_istore dX12_times_3 (by decide) rfl ?_
  dsimp only [List.set]
  exact loop n 0 0 mem (by omega) (by omega) hf0 (onR.rf _ _) hw (fun i hi => by omega) (fun j _ _ => rfl) (by simp [nv])
theorem cm_X12_divides {r v : Nat} {f : Int} (hr : r < 6) (hv : regAt mem r v) (hf0 : 0 < f) (hf : f < 2147483648) : CM X (0, 0) 1 mX12_divides G0 [vr 88, vi (r : Int), vi f] mem (pV G0 fun m => regAt m r (v / f.toNat) ∧ onR r mem m) := by
  obtain ⟨hd, hnv, n, hn, hw, hz, ht⟩ := hv
  have hnvn : nv (rowM mem r) n = (v : Int) := by rw [← hnv]; exact (nv_pad hn hz).symm
  refine CM.of (by decide +kernel) 5 (Nat.le_of_ble_eq_true rfl) ?_
  show ZZ X (0, 0) 1 mX12_divides G0 0 [vr 88, vi (r : Int), vi f, vd, vd, vd, vd, vd] [] mem _
  have loop : ∀ (i : Nat) (q : Int) (m : Mem), i ≤ n → 0 ≤ q → q < f → onR r mem m → m 90 (r : Int) = (n : Int) → dig (rowM m r) 66 → (∀ j : Nat, j < i → rowM m r (j : Int) = rowM mem r (j : Int)) → (∀ j : Nat, n ≤ j → j < 66 → rowM m r (j : Int) = 0) → (nv (rowM m r) n - nv (rowM mem r) i) * f + q * zB ^ i + nv (rowM mem r) i = (v : Int) →
      ZZ X (0, 0) 1 mX12_divides G0 12 [vr 88, vi (r : Int), vi f, vl q, vd, vi ((i : Int) - 1), vd, vd] [] m (pV G0 fun m => regAt m r (v / f.toNat) ∧ onR r mem m) := by
    intro i
    induction i with
    | zero =>
      intro q m hi hr0 hr1 hon hsz hdg hsame hzm hinv
      have hq : nv (rowM m r) n = ((v / f.toNat : Nat) : Int) := by
        have e : nv (rowM m r) n * f + q = (v : Int) := by simpa [nv] using hinv
        rw [Int.natCast_ediv, Int.toNat_of_nonneg (by omega), ← e, Int.add_comm, Int.add_mul_ediv_right _ _ (by omega), Int.ediv_eq_zero_of_lt hr0 hr1]
        omega
      refine z_iload dX12_divides_12 rfl ?_
      refine z_if_lt 67 dX12_divides_14 (by decide) (fun h14 => ?_) (fun h14 => ?_)
      · refine z_aload_n dX12_divides_67 rfl ?_
        refine z_iload_n dX12_divides_68 rfl ?_
        refine z_V1v dX12_divides_69 ok_X12_trims lk_X12_68 (by first | rfl | assumption) rfl rfl (Nat.le_of_ble_eq_true rfl) (by decide) (cm_X12_trims hr hsz hn) (fun m2 hm2 => ?_)
        refine z_vret dX12_divides_72 rfl ?_
        obtain ⟨q1, q2⟩ := trims_reg hr hn hdg (by rw [nv_pad hn hzm]; exact hq) hzm hm2
        exact ⟨rfl, rfl, q1, hon.tr q2⟩
      · omega
    | succ i ih =>
      intro q m hi hr0 hr1 hon hsz hdg hsame hzm hinv
      have hl := hd i (by omega)
      have e1 : ((i + 1 : Nat) : Int) - 1 = (i : Int) := by omega
      rw [e1]
      have hb : q * 1073741824 + rowM mem r (i : Int) < f * 1073741824 := by omega
      have hdm := Int.mul_ediv_add_emod (q * 1073741824 + rowM mem r (i : Int)) f
      have hm0 := Int.emod_nonneg (q * 1073741824 + rowM mem r (i : Int)) (show f ≠ 0 by omega)
      have hm1 := Int.emod_lt_of_pos (q * 1073741824 + rowM mem r (i : Int)) hf0
      have hq0 := Int.ediv_nonneg (show 0 ≤ q * 1073741824 + rowM mem r (i : Int) by omega) (show 0 ≤ f by omega)
      have hq1 : (q * 1073741824 + rowM mem r (i : Int)) / f < 1073741824 := Int.ediv_lt_of_lt_mul hf0 (by omega)
      refine z_iload dX12_divides_12 rfl ?_
      refine z_if_lt 67 dX12_divides_14 (by decide) (fun h14 => ?_) (fun h14 => ?_)
      · omega
      · refine z_lload_n dX12_divides_17 rfl ?_
        refine z_bipush dX12_divides_18 (by decide) ?_
        refine z_lshl dX12_divides_20 ?_
        rw [lshl30, w64_id (by omega)]
        refine z_aload_n dX12_divides_21 rfl ?_
        refine z_getR (ty := .int) dX12_divides_22 fl_X12_7 (by first | rfl | assumption) rfl rfl ?_
        refine z_bipush dX12_divides_25 (by decide) ?_
        refine z_iload_n dX12_divides_27 rfl ?_
        refine z_imul dX12_divides_28 (by omega) ?_
        refine z_iload dX12_divides_29 rfl ?_
        refine z_iadd dX12_divides_31 (by omega) ?_
        refine z_iald dX12_divides_32 (by first | rfl | assumption) (by omega) (by omega) ?_
        rw [show m 89 (66 * (r : Int) + (i : Int)) = rowM mem r (i : Int) from hsame i (by omega)]
        refine z_i2l dX12_divides_33 ?_
        refine z_ladd dX12_divides_34 (by omega) ?_
        refine z_lstore dX12_divides_35 (by decide) rfl ?_
        dsimp only [List.set]
        refine z_aload_n dX12_divides_37 rfl ?_
        refine z_getR (ty := .int) dX12_divides_38 fl_X12_7 (by first | rfl | assumption) rfl rfl ?_
        refine z_bipush dX12_divides_41 (by decide) ?_
        refine z_iload_n dX12_divides_43 rfl ?_
        refine z_imul dX12_divides_44 (by omega) ?_
        refine z_iload dX12_divides_45 rfl ?_
        refine z_iadd dX12_divides_47 (by omega) ?_
        refine z_lload dX12_divides_48 rfl ?_
        refine z_iload_n dX12_divides_50 rfl ?_
        refine z_i2l dX12_divides_51 ?_
        refine z_ldiv dX12_divides_52 (by omega) (by omega) ?_
        refine z_l2i dX12_divides_53 (by omega) ?_
        refine z_iast dX12_divides_54 (by first | rfl | assumption) (by omega) (by omega) ?_
        refine z_lload dX12_divides_55 rfl ?_
        refine z_iload_n dX12_divides_57 rfl ?_
        refine z_i2l dX12_divides_58 ?_
        refine z_lremp dX12_divides_59 (by omega) (by omega) ?_
        refine z_lstore_n dX12_divides_60 (by decide) rfl ?_
        dsimp only [List.set]
        refine z_iinc dX12_divides_61 rfl (by omega) (by decide) rfl ?_
        dsimp only [List.set]
        refine z_goto 12 dX12_divides_64 (by decide) ?_
        refine z_kill 6 ?_
        dsimp only [List.set]
        refine ih _ _ (by omega) hm0 hm1 (hon.tr (onR_l (by omega) (by omega))) (by rw [wideM]; exact hsz) (by rw [rowM_set]; exact dig_upd hdg hq0 hq1) (fun j hj => ?_) (fun j a b => ?_) ?_
        · rw [rowM_set, updF_ne _ _ (by omega)]
          exact hsame j (by omega)
        · rw [rowM_set, updF_ne _ _ (by omega)]
          exact hzm j a b
        · rw [rowM_set, nv_upd (by omega), hsame i (by omega)]
          have e2 : nv (rowM mem r) (i + 1) = nv (rowM mem r) i + rowM mem r (i : Int) * zB ^ i := rfl
          rw [e2, Int.pow_succ] at hinv
          generalize (q * 1073741824 + rowM mem r (i : Int)) / f = qq at hdm ⊢
          generalize (q * 1073741824 + rowM mem r (i : Int)) % f = rr at hdm ⊢
          generalize zB ^ i = pp at hinv ⊢
          have hB : zB = 1073741824 := rfl
          rw [hB] at hinv
          grind
  refine z_lconst (z := 0) dX12_divides_0 rfl (by decide) ?_
  refine z_lstore_n dX12_divides_1 (by decide) rfl ?_
  dsimp only [List.set]
  refine z_aload_n dX12_divides_2 rfl ?_
  refine z_getR (ty := .int) dX12_divides_3 fl_X12_13 (by first | rfl | assumption) rfl rfl ?_
  refine z_iload_n dX12_divides_6 rfl ?_
  refine z_iald dX12_divides_7 (by first | rfl | assumption) (by omega) (by omega) ?_
  rw [hw]
  refine z_iconst dX12_divides_8 (by decide) ?_
  refine z_isub dX12_divides_9 (by omega) ?_
  refine z_istore dX12_divides_10 (by decide) rfl ?_
  dsimp only [List.set]
  exact loop n 0 mem (Nat.le_refl n) (by omega) hf0 (onR.rf _ _) hw hd (fun j _ => rfl) hz (by rw [hnvn]; omega)
theorem cm_X12_adds {r s v w : Nat} (hr : r < 6) (hs : s < 6) (hrs : s ≠ r) (hv : regAt mem r v) (hw : regAt mem s w) (hb : ((v + w : Nat) : Int) < zB ^ 65) : CM X (0, 0) 1 mX12_adds G0 [vr 88, vi (r : Int), vi (s : Int)] mem (pV G0 fun m => regAt m r (v + w) ∧ onR r mem m) := by
  obtain ⟨hd, hnv, n, hn, hwd, hz, ht⟩ := hv
  obtain ⟨hd2, hnv2, n2, hn2, hwd2, hz2, ht2⟩ := hw
  have hvn : nv (rowM mem r) n = (v : Int) := by rw [← hnv]; exact (nv_pad hn hz).symm
  have hwn : nv (rowM mem s) n2 = (w : Int) := by rw [← hnv2]; exact (nv_pad hn2 hz2).symm
  have hl1 : n ≤ 65 := nv_top (fun j hj => hd j (by omega)) ht (by rw [hvn]; omega)
  have hl2 : n2 ≤ 65 := nv_top (fun j hj => hd2 j (by omega)) ht2 (by rw [hwn]; omega)
  refine CM.of (by decide +kernel) 4 (Nat.le_of_ble_eq_true rfl) ?_
  show ZZ X (0, 0) 1 mX12_adds G0 0 [vr 88, vi (r : Int), vi (s : Int), vd, vd, vd, vd] [] mem _
  have loop : ∀ (lg : Nat), n ≤ lg → n2 ≤ lg → lg ≤ 65 → ∀ (k i : Nat) (c : Int) (m : Mem), k + i = lg → (c = 0 ∨ c = 1) → onR r mem m → dig (rowM m r) i → (∀ j : Nat, i ≤ j → j < 66 → rowM m r (j : Int) = rowM mem r (j : Int)) → nv (rowM m r) i + c * zB ^ i = nv (rowM mem r) i + nv (rowM mem s) i →
      ZZ X (0, 0) 1 mX12_adds G0 37 [vr 88, vi (r : Int), vi (s : Int), vi c, vi (lg : Int), vi (i : Int), vd] [] m (pV G0 fun m => regAt m r (v + w) ∧ onR r mem m) := by
    intro lg h1 h2 h3 k
    induction k with
    | zero =>
      intro i c m hk hc hon hdg hsame hinv
      have hi : i = lg := by omega
      subst hi
      rw [nv_pad h1 (fun j a b => hz j a (by omega)), nv_pad h2 (fun j a b => hz2 j a (by omega)), hvn, hwn] at hinv
      refine z_iload dX12_adds_37 rfl ?_
      refine z_iload dX12_adds_39 rfl ?_
      refine z_icmp_ge 102 dX12_adds_41 (by decide) (fun h41 => ?_) (fun h41 => ?_)
      · refine z_aload_n dX12_adds_102 rfl ?_
        refine z_getR (ty := .int) dX12_adds_103 fl_X12_7 (by first | rfl | assumption) rfl rfl ?_
        refine z_bipush dX12_adds_106 (by decide) ?_
        refine z_iload_n dX12_adds_108 rfl ?_
        refine z_imul dX12_adds_109 (by omega) ?_
        refine z_iload dX12_adds_110 rfl ?_
        refine z_iadd dX12_adds_112 (by omega) ?_
        refine z_iload_n dX12_adds_113 rfl ?_
        refine z_iast dX12_adds_114 (by first | rfl | assumption) (by omega) (by omega) ?_
        refine z_aload_n dX12_adds_115 rfl ?_
        refine z_getR (ty := .int) dX12_adds_116 fl_X12_13 (by first | rfl | assumption) rfl rfl ?_
        refine z_iload_n dX12_adds_119 rfl ?_
        refine z_iload dX12_adds_120 rfl ?_
        refine z_iload_n dX12_adds_122 rfl ?_
        refine z_iadd dX12_adds_123 (by omega) ?_
        refine z_iast dX12_adds_124 (by first | rfl | assumption) (by omega) (by omega) ?_
        refine z_aload_n dX12_adds_125 rfl ?_
        refine z_iload_n dX12_adds_126 rfl ?_
        refine z_V1v dX12_adds_127 ok_X12_trims lk_X12_68 (by first | rfl | assumption) rfl rfl (Nat.le_of_ble_eq_true rfl) (by decide) (cm_X12_trims (n := (i + c.toNat)) hr (by rw [mset_eq]; omega) (by omega)) (fun m2 hm2 => ?_)
        refine z_vret dX12_adds_130 rfl ?_
        have hrow : rowM (mset (mset m 89 (66 * (r : Int) + (i : Int)) c) 90 (r : Int) ((i : Int) + c)) r = updF (rowM m r) (i : Int) c := by rw [rowM_w, rowM_set]
        have hzz : ∀ j : Nat, i + c.toNat ≤ j → j < 66 → updF (rowM m r) (i : Int) c (j : Int) = 0 := by
          intro j a b
          by_cases e : j = i
          · subst e; rw [updF_eq]; omega
          · rw [updF_ne _ _ (by omega), hsame j (by omega) b]; exact hz j (by omega) b
        have hz1 : ∀ j : Nat, i + 1 ≤ j → j < 66 → updF (rowM m r) (i : Int) c (j : Int) = 0 := by
          intro j a b
          rw [updF_ne _ _ (by omega), hsame j (by omega) b]; exact hz j (by omega) b
        obtain ⟨q1, q2⟩ := trims_reg (v := v + w) (n := i + c.toNat) hr (by omega) (by rw [hrow]; intro j hj; by_cases e : j < i + 1; exact dig_updS hdg (by omega) (by omega) j e; rw [hz1 j (by omega) hj]; omega) (by rw [hrow, nv_pad (show i + 1 ≤ 66 by omega) hz1, nv_updS, hinv]; omega) (by rw [hrow]; exact hzz) hm2
        exact ⟨rfl, rfl, q1, ((hon.tr (onR_l (by omega) (by omega))).tr onR_w).tr q2⟩
      · omega
    | succ k ih =>
      intro i c m hk hc hon hdg hsame hinv
      have hA := hd i (by omega)
      have hC := hd2 i (by omega)
      refine z_iload dX12_adds_37 rfl ?_
      refine z_iload dX12_adds_39 rfl ?_
      refine z_icmp_ge 102 dX12_adds_41 (by decide) (fun h41 => ?_) (fun h41 => ?_)
      · omega
      · refine z_aload_n dX12_adds_44 rfl ?_
        refine z_getR (ty := .int) dX12_adds_45 fl_X12_7 (by first | rfl | assumption) rfl rfl ?_
        refine z_bipush dX12_adds_48 (by decide) ?_
        refine z_iload_n dX12_adds_50 rfl ?_
        refine z_imul dX12_adds_51 (by omega) ?_
        refine z_iload dX12_adds_52 rfl ?_
        refine z_iadd dX12_adds_54 (by omega) ?_
        refine z_iald dX12_adds_55 (by first | rfl | assumption) (by omega) (by omega) ?_
        rw [show m 89 (66 * (r : Int) + (i : Int)) = rowM mem r (i : Int) from hsame i (Nat.le_refl i) (by omega)]
        refine z_aload_n dX12_adds_56 rfl ?_
        refine z_getR (ty := .int) dX12_adds_57 fl_X12_7 (by first | rfl | assumption) rfl rfl ?_
        refine z_bipush dX12_adds_60 (by decide) ?_
        refine z_iload_n dX12_adds_62 rfl ?_
        refine z_imul dX12_adds_63 (by omega) ?_
        refine z_iload dX12_adds_64 rfl ?_
        refine z_iadd dX12_adds_66 (by omega) ?_
        refine z_iald dX12_adds_67 (by first | rfl | assumption) (by omega) (by omega) ?_
        rw [show m 89 (66 * (s : Int) + (i : Int)) = rowM mem s (i : Int) from rowM.off hon hrs (by omega) (by omega)]
        refine z_iadd dX12_adds_68 (by omega) ?_
        refine z_iload_n dX12_adds_69 rfl ?_
        refine z_iadd dX12_adds_70 (by omega) ?_
        refine z_istore dX12_adds_71 (by decide) rfl ?_
        dsimp only [List.set]
        refine z_aload_n dX12_adds_73 rfl ?_
        refine z_getR (ty := .int) dX12_adds_74 fl_X12_7 (by first | rfl | assumption) rfl rfl ?_
        refine z_bipush dX12_adds_77 (by decide) ?_
        refine z_iload_n dX12_adds_79 rfl ?_
        refine z_imul dX12_adds_80 (by omega) ?_
        refine z_iload dX12_adds_81 rfl ?_
        refine z_iadd dX12_adds_83 (by omega) ?_
        refine z_iload dX12_adds_84 rfl ?_
        refine z_ldc (z := 1073741823) dX12_adds_86 kc_X12_72 (by decide) ?_
        refine z_iand dX12_adds_88 ?_
        rw [iand30]
        refine z_iast dX12_adds_89 (by first | rfl | assumption) (by omega) (by omega) ?_
        refine z_iload dX12_adds_90 rfl ?_
        refine z_bipush dX12_adds_92 (by decide) ?_
        refine z_iushr dX12_adds_94 ?_
        rw [iush30 (by omega) (by omega)]
        refine z_istore_n dX12_adds_95 (by decide) rfl ?_
        dsimp only [List.set]
        refine z_iinc dX12_adds_96 rfl (by omega) (by decide) rfl ?_
        dsimp only [List.set]
        refine z_goto 37 dX12_adds_99 (by decide) ?_
        refine z_kill 6 ?_
        dsimp only [List.set]
        refine ih (i + 1) _ _ (by omega) (by omega) (hon.tr (onR_l (by omega) (by omega))) (by rw [rowM_set]; exact dig_updS hdg (by omega) (by omega)) (fun j a b => ?_) ?_
        · rw [rowM_set, updF_ne _ _ (by omega)]
          exact hsame j (by omega) b
        · show _ = (nv _ i + rowM mem r (i : Int) * zB ^ i) + (nv _ i + rowM mem s (i : Int) * zB ^ i)
          rw [rowM_set, nv_updS]
          have hdm := Int.mul_ediv_add_emod (rowM mem r (i : Int) + rowM mem s (i : Int) + c) 1073741824
          rw [Int.pow_succ]
          generalize (rowM mem r (i : Int) + rowM mem s (i : Int) + c) / 1073741824 = qq at hdm ⊢
          generalize (rowM mem r (i : Int) + rowM mem s (i : Int) + c) % 1073741824 = rr at hdm ⊢
          generalize zB ^ i = pp at hinv ⊢
          have hB : zB = 1073741824 := rfl
          rw [hB]
          grind
  refine z_iconst dX12_adds_0 (by decide) ?_
  refine z_istore_n dX12_adds_1 (by decide) rfl ?_
  dsimp only [List.set]
  refine z_aload_n dX12_adds_2 rfl ?_
  refine z_getR (ty := .int) dX12_adds_3 fl_X12_13 (by first | rfl | assumption) rfl rfl ?_
  refine z_iload_n dX12_adds_6 rfl ?_
  refine z_iald dX12_adds_7 (by first | rfl | assumption) (by omega) (by omega) ?_
  rw [hwd]
  refine z_aload_n dX12_adds_8 rfl ?_
  refine z_getR (ty := .int) dX12_adds_9 fl_X12_13 (by first | rfl | assumption) rfl rfl ?_
  refine z_iload_n dX12_adds_12 rfl ?_
  refine z_iald dX12_adds_13 (by first | rfl | assumption) (by omega) (by omega) ?_
  rw [hwd2]
  refine z_icmp_le 26 dX12_adds_14 (by decide) (fun h14 => ?_) (fun h14 => ?_)
  · refine z_aload_n dX12_adds_26 rfl ?_
    refine z_getR (ty := .int) dX12_adds_27 fl_X12_13 (by first | rfl | assumption) rfl rfl ?_
    refine z_iload_n dX12_adds_30 rfl ?_
    refine z_iald dX12_adds_31 (by first | rfl | assumption) (by omega) (by omega) ?_
    rw [hwd2]
    refine z_istore dX12_adds_32 (by decide) rfl ?_
    dsimp only [List.set]
    refine z_iconst dX12_adds_34 (by decide) ?_
    refine z_istore dX12_adds_35 (by decide) rfl ?_
    dsimp only [List.set]
    first | exact loop n (Nat.le_refl n) (by omega) hl1 n 0 0 mem (by omega) (Or.inl rfl) (onR.rf _ _) (fun i hi => by omega) (fun j _ _ => rfl) (by simp [nv]) | exact loop n2 (by omega) (Nat.le_refl n2) hl2 n2 0 0 mem (by omega) (Or.inl rfl) (onR.rf _ _) (fun i hi => by omega) (fun j _ _ => rfl) (by simp [nv])
  · refine z_aload_n dX12_adds_17 rfl ?_
    refine z_getR (ty := .int) dX12_adds_18 fl_X12_13 (by first | rfl | assumption) rfl rfl ?_
    refine z_iload_n dX12_adds_21 rfl ?_
    refine z_iald dX12_adds_22 (by first | rfl | assumption) (by omega) (by omega) ?_
    rw [hwd]
    refine z_goto 32 dX12_adds_23 (by decide) ?_
    refine z_istore dX12_adds_32 (by decide) rfl ?_
    dsimp only [List.set]
    refine z_iconst dX12_adds_34 (by decide) ?_
    refine z_istore dX12_adds_35 (by decide) rfl ?_
    dsimp only [List.set]
    first | exact loop n (Nat.le_refl n) (by omega) hl1 n 0 0 mem (by omega) (Or.inl rfl) (onR.rf _ _) (fun i hi => by omega) (fun j _ _ => rfl) (by simp [nv]) | exact loop n2 (by omega) (Nat.le_refl n2) hl2 n2 0 0 mem (by omega) (Or.inl rfl) (onR.rf _ _) (fun i hi => by omega) (fun j _ _ => rfl) (by simp [nv])
theorem cm_X12_lessens {r s v w : Nat} (hr : r < 6) (hs : s < 6) (hrs : s ≠ r) (hv : regAt mem r v) (hw : regAt mem s w) (hb : w ≤ v) : CM X (0, 0) 1 mX12_lessens G0 [vr 88, vi (r : Int), vi (s : Int)] mem (pV G0 fun m => regAt m r (v - w) ∧ onR r mem m) := by
  obtain ⟨hd, hnv, n, hn, hwd, hz, ht⟩ := hv
  obtain ⟨hd2, hnv2, n2, hn2, hwd2, hz2, ht2⟩ := hw
  have hvn : nv (rowM mem r) n = (v : Int) := by rw [← hnv]; exact (nv_pad hn hz).symm
  have hwn : nv (rowM mem s) n2 = (w : Int) := by rw [← hnv2]; exact (nv_pad hn2 hz2).symm
  have hvlt := nv_lt (f := rowM mem r) (n := n) (fun j hj => hd j (by omega))
  have hnn : n2 ≤ n := nv_top (fun j hj => hd2 j (by omega)) ht2 (by omega)
  refine CM.of (by decide +kernel) 3 (Nat.le_of_ble_eq_true rfl) ?_
  show ZZ X (0, 0) 1 mX12_lessens G0 0 [vr 88, vi (r : Int), vi (s : Int), vd, vd, vd] [] mem _
  have loop : ∀ (k i : Nat) (c : Int) (m : Mem), k + i = n → (c = 0 ∨ c = 1) → onR r mem m → m 90 (r : Int) = (n : Int) → dig (rowM m r) i → (∀ j : Nat, i ≤ j → j < 66 → rowM m r (j : Int) = rowM mem r (j : Int)) → nv (rowM m r) i - c * zB ^ i = nv (rowM mem r) i - nv (rowM mem s) i →
      ZZ X (0, 0) 1 mX12_lessens G0 5 [vr 88, vi (r : Int), vi (s : Int), vi c, vi (i : Int), vd] [] m (pV G0 fun m => regAt m r (v - w) ∧ onR r mem m) := by
    intro k
    induction k with
    | zero =>
      intro i c m hk hc hon hsz hdg hsame hinv
      have hi : i = n := by omega
      subst hi
      rw [nv_pad hnn (fun j a b => hz2 j a (by omega)), hvn, hwn] at hinv
      have hlt := nv_lt hdg
      have hq : nv (rowM m r) i = ((v - w : Nat) : Int) := by
        rcases hc with q | q
        · rw [q] at hinv; omega
        · rw [q] at hinv; omega
      have hzm : ∀ j : Nat, i ≤ j → j < 66 → rowM m r (j : Int) = 0 := fun j a b => by rw [hsame j a b]; exact hz j a b
      refine z_iload dX12_lessens_5 rfl ?_
      refine z_aload_n dX12_lessens_7 rfl ?_
      refine z_getR (ty := .int) dX12_lessens_8 fl_X12_13 (by first | rfl | assumption) rfl rfl ?_
      refine z_iload_n dX12_lessens_11 rfl ?_
      refine z_iald dX12_lessens_12 (by first | rfl | assumption) (by omega) (by omega) ?_
      rw [hsz]
      refine z_icmp_ge 79 dX12_lessens_13 (by decide) (fun h13 => ?_) (fun h13 => ?_)
      · refine z_aload_n dX12_lessens_79 rfl ?_
        refine z_iload_n dX12_lessens_80 rfl ?_
        refine z_V1v dX12_lessens_81 ok_X12_trims lk_X12_68 (by first | rfl | assumption) rfl rfl (Nat.le_of_ble_eq_true rfl) (by decide) (cm_X12_trims hr hsz hn) (fun m2 hm2 => ?_)
        refine z_vret dX12_lessens_84 rfl ?_
        obtain ⟨q1, q2⟩ := trims_reg hr hn (fun j hj => by by_cases e : j < i; exact hdg j e; rw [hzm j (by omega) hj]; omega) (by rw [nv_pad hn hzm]; exact hq) hzm hm2
        exact ⟨rfl, rfl, q1, hon.tr q2⟩
      · omega
    | succ k ih =>
      intro i c m hk hc hon hsz hdg hsame hinv
      have hA := hd i (by omega)
      have hC := hd2 i (by omega)
      have fin : ∀ c' : Int, c' = (if rowM mem r (i : Int) - rowM mem s (i : Int) - c < 0 then 1 else 0) → ZZ X (0, 0) 1 mX12_lessens G0 72 [vr 88, vi (r : Int), vi (s : Int), vi c, vi (i : Int), vi (rowM mem r (i : Int) - rowM mem s (i : Int) - c)] [vi c'] (mset m 89 (66 * (r : Int) + (i : Int)) ((rowM mem r (i : Int) - rowM mem s (i : Int) - c) % 1073741824)) (pV G0 fun m => regAt m r (v - w) ∧ onR r mem m) := by
        intro c' hc'
        refine z_istore_n dX12_lessens_72 (by decide) rfl ?_
        dsimp only [List.set]
        refine z_iinc dX12_lessens_73 rfl (by omega) (by decide) rfl ?_
        dsimp only [List.set]
        refine z_goto 5 dX12_lessens_76 (by decide) ?_
        refine z_kill 5 ?_
        dsimp only [List.set]
        refine ih (i + 1) _ _ (by omega) (by rw [hc']; split <;> simp) (hon.tr (onR_l (by omega) (by omega))) (by rw [wideM]; exact hsz) (by rw [rowM_set]; exact dig_updS hdg (by omega) (by omega)) (fun j a b => ?_) ?_
        · rw [rowM_set, updF_ne _ _ (by omega)]
          exact hsame j (by omega) b
        · show _ = (nv _ i + rowM mem r (i : Int) * zB ^ i) - (nv _ i + rowM mem s (i : Int) * zB ^ i)
          rw [rowM_set, nv_updS, Int.pow_succ]
          have hdm : (rowM mem r (i : Int) - rowM mem s (i : Int) - c) % 1073741824 = (rowM mem r (i : Int) - rowM mem s (i : Int) - c) + c' * 1073741824 := by rw [hc']; split <;> omega
          rw [hdm]
          generalize zB ^ i = pp at hinv ⊢
          have hB : zB = 1073741824 := rfl
          rw [hB]
          grind
      refine z_iload dX12_lessens_5 rfl ?_
      refine z_aload_n dX12_lessens_7 rfl ?_
      refine z_getR (ty := .int) dX12_lessens_8 fl_X12_13 (by first | rfl | assumption) rfl rfl ?_
      refine z_iload_n dX12_lessens_11 rfl ?_
      refine z_iald dX12_lessens_12 (by first | rfl | assumption) (by omega) (by omega) ?_
      rw [hsz]
      refine z_icmp_ge 79 dX12_lessens_13 (by decide) (fun h13 => ?_) (fun h13 => ?_)
      · omega
      · refine z_aload_n dX12_lessens_16 rfl ?_
        refine z_getR (ty := .int) dX12_lessens_17 fl_X12_7 (by first | rfl | assumption) rfl rfl ?_
        refine z_bipush dX12_lessens_20 (by decide) ?_
        refine z_iload_n dX12_lessens_22 rfl ?_
        refine z_imul dX12_lessens_23 (by omega) ?_
        refine z_iload dX12_lessens_24 rfl ?_
        refine z_iadd dX12_lessens_26 (by omega) ?_
        refine z_iald dX12_lessens_27 (by first | rfl | assumption) (by omega) (by omega) ?_
        rw [show m 89 (66 * (r : Int) + (i : Int)) = rowM mem r (i : Int) from hsame i (Nat.le_refl i) (by omega)]
        refine z_aload_n dX12_lessens_28 rfl ?_
        refine z_getR (ty := .int) dX12_lessens_29 fl_X12_7 (by first | rfl | assumption) rfl rfl ?_
        refine z_bipush dX12_lessens_32 (by decide) ?_
        refine z_iload_n dX12_lessens_34 rfl ?_
        refine z_imul dX12_lessens_35 (by omega) ?_
        refine z_iload dX12_lessens_36 rfl ?_
        refine z_iadd dX12_lessens_38 (by omega) ?_
        refine z_iald dX12_lessens_39 (by first | rfl | assumption) (by omega) (by omega) ?_
        rw [show m 89 (66 * (s : Int) + (i : Int)) = rowM mem s (i : Int) from rowM.off hon hrs (by omega) (by omega)]
        refine z_isub dX12_lessens_40 (by omega) ?_
        refine z_iload_n dX12_lessens_41 rfl ?_
        refine z_isub dX12_lessens_42 (by omega) ?_
        refine z_istore dX12_lessens_43 (by decide) rfl ?_
        dsimp only [List.set]
        refine z_aload_n dX12_lessens_45 rfl ?_
        refine z_getR (ty := .int) dX12_lessens_46 fl_X12_7 (by first | rfl | assumption) rfl rfl ?_
        refine z_bipush dX12_lessens_49 (by decide) ?_
        refine z_iload_n dX12_lessens_51 rfl ?_
        refine z_imul dX12_lessens_52 (by omega) ?_
        refine z_iload dX12_lessens_53 rfl ?_
        refine z_iadd dX12_lessens_55 (by omega) ?_
        refine z_iload dX12_lessens_56 rfl ?_
        refine z_ldc (z := 1073741823) dX12_lessens_58 kc_X12_72 (by decide) ?_
        refine z_iand dX12_lessens_60 ?_
        rw [iand30]
        refine z_iast dX12_lessens_61 (by first | rfl | assumption) (by omega) (by omega) ?_
        refine z_iload dX12_lessens_62 rfl ?_
        refine z_if_ge 71 dX12_lessens_64 (by decide) (fun h64 => ?_) (fun h64 => ?_)
        · refine z_iconst dX12_lessens_71 (by decide) ?_
          first | exact fin 0 (by rw [if_neg (by omega)]) | exact fin 1 (by rw [if_pos (by omega)])
        · refine z_iconst dX12_lessens_67 (by decide) ?_
          refine z_goto 72 dX12_lessens_68 (by decide) ?_
          first | exact fin 0 (by rw [if_neg (by omega)]) | exact fin 1 (by rw [if_pos (by omega)])
  refine z_iconst dX12_lessens_0 (by decide) ?_
  refine z_istore_n dX12_lessens_1 (by decide) rfl ?_
  dsimp only [List.set]
  refine z_iconst dX12_lessens_2 (by decide) ?_
  refine z_istore dX12_lessens_3 (by decide) rfl ?_
  dsimp only [List.set]
  exact loop n 0 0 mem (by omega) (Or.inl rfl) (onR.rf _ _) hwd (fun i hi => by omega) (fun j _ _ => rfl) (by simp [nv])
end ModB
